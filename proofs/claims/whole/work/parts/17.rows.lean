/-! Rows and Bytes -/
section MRO
variable {g : mm_G} {d ci N r : Nat} {C : String} {T : u_T} {ty : Nat → FieldType} {h : mm_Hp} {fs : List Value}
theorem m_has {z i : Int32} (l : mm_lk RX9 13 ci 1 C T N ty) (a : mm_at h r (.inr (ci, fs))) (hf : fs[1]? = some (.int z)) : mm_P g d MX9_has 0 [some (.ref r), some (.int i)] [] h (mm_pureI (if 0 ≤ i ∧ i < z then 1 else 0) h) := by
  refine mm_iload_n dX9_has_0 rfl ?_
  refine mm_if_lt 16 dX9_has_1 (by decide) (fun c1 => ?_) (fun c1 => ?_)
  · refine mm_iconst (v := 0) dX9_has_16 (by decide +kernel) ?_
    refine mm_iret rfl rfl dX9_has_17 ?_
    exact ⟨by rw [if_neg (fun q => Int32.not_le.mpr c1 q.1)], rfl⟩
  · refine mm_iload_n dX9_has_4 rfl ?_
    refine mm_aload_n dX9_has_5 rfl ?_
    refine mm_get l dX9_has_6 a hf ?_
    refine mm_icmp_ge 16 dX9_has_9 (by decide) (fun c2 => ?_) (fun c2 => ?_)
    · refine mm_iconst (v := 0) dX9_has_16 (by decide +kernel) ?_
      refine mm_iret rfl rfl dX9_has_17 ?_
      exact ⟨by rw [if_neg (fun q => Int32.not_le.mpr q.2 c2)], rfl⟩
    · refine mm_iconst (v := 1) dX9_has_12 (by decide +kernel) ?_
      refine mm_goto 17 dX9_has_13 (by decide) ?_
      refine mm_iret rfl rfl dX9_has_17 ?_
      exact ⟨by rw [if_pos ⟨Int32.not_lt.mp c1, Int32.not_le.mp c2⟩], rfl⟩
theorem m_isFull {z y : Int32} (l : mm_lk RX9 13 ci 1 C T N ty) (l2 : mm_lk RX9 7 ci 0 C T N ty) (a : mm_at h r (.inr (ci, fs))) (hf : fs[1]? = some (.int z)) (hf0 : fs[0]? = some (.int y)) : mm_P g d MX9_isFull 0 [some (.ref r)] [] h (mm_pureI (if z < y then 0 else 1) h) := by
  refine mm_aload_n dX9_isFull_0 rfl ?_
  refine mm_get l dX9_isFull_1 a hf ?_
  refine mm_aload_n dX9_isFull_4 rfl ?_
  refine mm_get l2 dX9_isFull_5 a hf0 ?_
  refine mm_icmp_lt 15 dX9_isFull_8 (by decide) (fun c2 => ?_) (fun c2 => ?_)
  · refine mm_iconst (v := 0) dX9_isFull_15 (by decide +kernel) ?_
    refine mm_iret rfl rfl dX9_isFull_16 ?_
    exact ⟨by rw [if_pos c2], rfl⟩
  · refine mm_iconst (v := 1) dX9_isFull_11 (by decide +kernel) ?_
    refine mm_goto 16 dX9_isFull_12 (by decide) ?_
    refine mm_iret rfl rfl dX9_isFull_16 ?_
    exact ⟨by rw [if_neg c2], rfl⟩
theorem m_mark {z : Int32} (l : mm_lk RX9 13 ci 1 C T N ty) (l2 : mm_lk RX9 16 ci 2 C T N ty) (hn : (T 2).2.2.2 = false) (ht : ty 2 = .int) (a : mm_at h r (.inr (ci, fs))) (hf : fs[1]? = some (.int z)) (hl : 2 < fs.length) : mm_P g d MX9_mark 0 [some (.ref r)] [] h (fun o h' => o = .inl none ∧ h' = mm_up h r (.inr (ci, fs.set 2 (.int z)))) := by
  refine mm_aload_n dX9_mark_0 rfl ?_
  refine mm_aload_n dX9_mark_1 rfl ?_
  refine mm_get l dX9_mark_2 a hf ?_
  refine mm_put l2 hn dX9_mark_5 a (fun _ e => by rw [e, ht]; rfl) (fun _ e => by rw [e, ht]; rfl) hl ?_
  refine mm_vret rfl dX9_mark_8 ?_
  exact ⟨rfl, rfl⟩
theorem m_takeBack {z : Int32} (l : mm_lk RX9 13 ci 1 C T N ty) (l2 : mm_lk RX9 16 ci 2 C T N ty) (hn : (T 1).2.2.2 = false) (ht : ty 1 = .int) (a : mm_at h r (.inr (ci, fs))) (hf : fs[2]? = some (.int z)) (hl : 1 < fs.length) : mm_P g d MX9_takeBack 0 [some (.ref r)] [] h (fun o h' => o = .inl none ∧ h' = mm_up h r (.inr (ci, fs.set 1 (.int z)))) := by
  refine mm_aload_n dX9_takeBack_0 rfl ?_
  refine mm_aload_n dX9_takeBack_1 rfl ?_
  refine mm_get l2 dX9_takeBack_2 a hf ?_
  refine mm_put l hn dX9_takeBack_5 a (fun _ e => by rw [e, ht]; rfl) (fun _ e => by rw [e, ht]; rfl) hl ?_
  refine mm_vret rfl dX9_takeBack_8 ?_
  exact ⟨rfl, rfl⟩
theorem m_Rows_init {y : Int32} (l2 : mm_lk RX9 7 ci 0 C T N ty) (hn : (T 0).2.2.2 = true) (hw : (T 0).1 = RX9) (ht : ty 0 = .int) (hd : 1 ≤ d) (a : mm_at h r (.inr (ci, fs))) (hl : 0 < fs.length) : mm_P g d MX9_init 0 [some (.ref r), some (.int y)] [] h (fun o h' => o = .inl none ∧ h' = mm_up h r (.inr (ci, fs.set 0 (.int y)))) := by
  refine mm_aload_n dX9_init_0 rfl ?_
  refine mm_objInit (mm_t1 43 rfl rfl) (mm_t1 33 rfl rfl) (mm_t1 34 rfl rfl) hd rfl (by decide) dX9_init_1 ?_
  refine mm_aload_n dX9_init_4 rfl ?_
  refine mm_iload_n dX9_init_5 rfl ?_
  refine mm_putF l2 hn rfl hw dX9_init_6 a (fun _ e => by rw [e, ht]; rfl) (fun _ e => by rw [e, ht]; rfl) hl ?_
  refine mm_vret rfl dX9_init_9 ?_
  exact ⟨rfl, rfl⟩
end MRO
