/-! ===== a byte read unsigned ===== -/
theorem bp_b (x : Int32) : x.toInt8.toInt32 &&& 255 = x &&& 255 := by
  apply Int32.toBitVec_inj.mp
  rw [Int32.toBitVec_and, Int32.toBitVec_and, Int8.toBitVec_toInt32, Int32.toBitVec_toInt8]
  apply BitVec.eq_of_getLsbD_eq
  intro i hi
  rw [BitVec.getLsbD_and, BitVec.getLsbD_and]
  have hm : ∀ i < 32, 8 ≤ i → (255 : Int32).toBitVec.getLsbD i = false := by decide
  rcases Nat.lt_or_ge i 8 with z | z
  · rw [BitVec.getLsbD_signExtend, BitVec.getLsbD_signExtend, if_pos z, if_pos hi]
    simp only [z, hi, decide_true, Bool.true_and]
  · rw [hm i hi z]; simp
theorem mm_Pe {g : mm_G} {d : Nat} {M : mm_Me} {pc : Nat} {ls : List (Option Value)} {st : List Value} {h h' : mm_Hp} {Post : mm_Ou → mm_Hp → Prop} (e : h = h') (k : mm_P g d M pc ls st h' Post) : mm_P g d M pc ls st h Post := e ▸ k
theorem m_copyOf {g : mm_G} {d k cap m : Nat} {h : mm_Hp} {f : Nat → Int32} (hd : 1 ≤ d) (a : mm_at h k (.inl (1, cap, .inl f))) (h1 : cap < m) (hm : m < 2 ^ 29) (hf : ∀ i, i < cap → fits .byte (.int (f i)) = true) : mm_P g d MJ7_copyOf_9075b 0 [some (.ref k), some (.int (nI m)), none] [] h (fun o h' => o = .inl (some (.ref (h.2.1 + 64))) ∧ h' = mm_add h (.inl (1, m, .inl (va_cpy f (fun _ => 0) 0 0 cap))) m) := by
  refine mm_iload_n dJ7_copyOf_9075b_0 rfl ?_
  refine mm_aload_n dJ7_copyOf_9075b_1 rfl ?_
  refine mm_alenN (by decide) dJ7_copyOf_9075b_2 a ?_
  refine mm_icmp_ne 14 dJ7_copyOf_9075b_3 (by decide) (fun c => ?_) (fun c => ?_)
  · refine mm_iload_n dJ7_copyOf_9075b_14 rfl ?_
    refine mm_newab (N := m) (mm_t1 101 rfl rfl) (nI_pos (by omega)) (nI_clamp (by omega)) (by omega) dJ7_copyOf_9075b_15 ?_
    refine mm_astore_n (ls' := [some (.ref k), some (.int (nI m)), some (.ref (h.2.1 + 64))]) dJ7_copyOf_9075b_17 (Nat.le_of_ble_eq_true rfl) rfl ?_
    have a2 := mm_at.add (y := .inl (1, m, .inl fun _ => 0)) (N := m) a
    have b2 := mm_at.new (h := h) (y := .inl (1, m, .inl fun _ => 0)) (N := m)
    refine mm_aload_n dJ7_copyOf_9075b_18 rfl ?_
    refine mm_iconst (v := 0) dJ7_copyOf_9075b_19 (by decide +kernel) ?_
    refine mm_aload_n dJ7_copyOf_9075b_20 rfl ?_
    refine mm_iconst (v := 0) dJ7_copyOf_9075b_21 (by decide +kernel) ?_
    refine mm_aload_n dJ7_copyOf_9075b_22 rfl ?_
    refine mm_alenN (by decide) dJ7_copyOf_9075b_23 a2 ?_
    refine mm_iload_n dJ7_copyOf_9075b_24 rfl ?_
    refine mm_min (mm_t2 203 rfl rfl) (mm_t2 204 rfl rfl) (mm_t1 15 rfl rfl) (mm_t2 205 rfl rfl) hd rfl (Nat.le_of_ble_eq_true rfl) dJ7_copyOf_9075b_25 ?_
    rw [if_neg (nI_nlt (by omega) (by omega))]
    refine mm_copy (mm_t2 206 rfl rfl) (mm_t2 208 rfl rfl) (mm_t2 207 rfl rfl) (mm_t1 16 rfl rfl) (by decide +kernel) hd rfl (Nat.le_of_ble_eq_true rfl) a2 b2 (by decide) (by decide) (nI_pos (by omega)) ?_ ?_ ?_ dJ7_copyOf_9075b_28 ?_
    · rw [nI_clamp (by omega)]
      show 0 + cap ≤ cap
      omega
    · rw [nI_clamp (by omega)]
      show 0 + cap ≤ m
      omega
    · intro i hi
      rw [nI_clamp (by omega)] at hi
      show fits .byte (.int (f (0 + i))) = true
      rw [Nat.zero_add]
      exact hf i hi
    · refine mm_aload_n dJ7_copyOf_9075b_31 rfl ?_
      refine mm_aret rfl (Or.inr ⟨_, rfl⟩) dJ7_copyOf_9075b_32 ?_
      refine ⟨rfl, ?_⟩
      rw [nI_clamp (by omega)]
      show (va_up (va_up h.1 (h.2.1 + 64) _) (h.2.1 + 64) _, h.2.1 + 1, h.2.2 + m) = _
      rw [bx_uu]
      rfl
  · exact absurd ((nI_eq (by omega) (by omega)).mp c) (by omega)
/-- bytes up to a limit: the object at r, its row at k of cap places; s bytes b, mk marked -/
def ByAt (h : mm_Hp) (r most s mk k cap : Nat) (b : Nat → Nat) : Prop := ∃ f : Nat → Int32, mm_at h r (.inr (1, [.int (nI most), .int (nI s), .int (nI mk), .ref k])) ∧ mm_at h k (.inl (1, cap, .inl f)) ∧ (∀ i, i < cap → fits .byte (.int (f i)) = true) ∧ (∀ i, i < s → f i &&& 255 = nI (b i) ∧ b i < 256) ∧ s ≤ most ∧ s ≤ cap ∧ 1 ≤ cap ∧ cap ≤ 2 * most
/-- what adding bytes changes -/
def mm_bg (r : Nat) (h : mm_Hp) (k cap : Nat) (h' : mm_Hp) (k' cap' : Nat) : Prop := (∀ q, q < h.2.1 + 64 → q ≠ r → q ≠ k → h'.1 q = h.1 q) ∧ (k' = k ∨ h.2.1 + 64 ≤ k') ∧ ∃ j, cap' = cap * 2 ^ j ∧ h'.2.1 = h.2.1 + j ∧ h'.2.2 + 2 * cap = h.2.2 + 2 * cap'
theorem mm_bg.rfl {r k cap : Nat} {h : mm_Hp} : mm_bg r h k cap h k cap := ⟨fun _ _ _ _ => Eq.refl _, Or.inl (Eq.refl _), 0, by simp, Eq.refl _, Eq.refl _⟩
theorem mm_bg.trans {r k cap k1 cap1 k2 cap2 : Nat} {h h1 h2 : mm_Hp} (a : mm_bg r h k cap h1 k1 cap1) (b : mm_bg r h1 k1 cap1 h2 k2 cap2) : mm_bg r h k cap h2 k2 cap2 := by
  obtain ⟨a1, a2, j, a3, a4, a5⟩ := a
  obtain ⟨b1, b2, i, b3, b4, b5⟩ := b
  refine ⟨fun q hq n1 n2 => ?_, ?_, j + i, ?_, by omega, by omega⟩
  · rw [b1 q (by omega) n1 (by omega)]
    exact a1 q hq n1 n2
  · omega
  · rw [b3, a3, Nat.pow_add, Nat.mul_assoc]
theorem fb_i8 (x : Int32) : fits .byte (.int x.toInt8.toInt32) = true := pk_fb x
theorem m_By_clear {g : mm_G} {d r most s mk k cap : Nat} {b b' : Nat → Nat} {h : mm_Hp} (B : ByAt h r most s mk k cap b) : mm_P g d MX1_clear 0 [some (.ref r)] [] h (fun o h' => o = .inl none ∧ ByAt h' r most 0 mk k cap b' ∧ (∀ q, q < h.2.1 + 64 → q ≠ r → h'.1 q = h.1 q) ∧ h'.2 = h.2) := by
  obtain ⟨f, a, ak, h3, h4, h5, h6, h7, h8⟩ := B
  have rk : r ≠ k := fun z => by subst z; cases a.inj ak
  refine mm_aload_n dX1_clear_0 rfl ?_
  refine mm_iconst (v := 0) dX1_clear_1 (by decide +kernel) ?_
  refine mm_put1 (fs' := [.int (nI most), .int 0, .int (nI mk), .ref k]) lk_X1_15_X1 rfl dX1_clear_2 a (fun _ e => by rw [e]; rfl) (fun _ e => by rw [e]; rfl) (Nat.le_of_ble_eq_true rfl) rfl (fun h1 eh1 => ?_)
  have a := mm_at.up1 a eh1
  have ak := mm_at.ne1 ak eh1 (by first | assumption | exact Ne.symm (by assumption))
  refine mm_vret rfl dX1_clear_5 ?_
  exact ⟨rfl, ⟨f, a, ak, h3, fun i hi => absurd hi (Nat.not_lt_zero i), Nat.zero_le _, Nat.zero_le _, h7, h8⟩, ⟨fun q q1 q2 => by rw [eh1]; exact if_neg q2, by rw [eh1]⟩⟩
theorem m_By_byteAt {g : mm_G} {d r most s mk k cap : Nat} {b : Nat → Nat} {h : mm_Hp} {i : Int32} (B : ByAt h r most s mk k cap b) (hm : 2 * most < 2 ^ 31) : mm_P g d MX1_byteAt 0 [some (.ref r), some (.int i)] [] h (mm_pureI (if 0 ≤ i ∧ i < nI s then nI (b i.toNatClampNeg) else -1) h) := by
  obtain ⟨f, a, ak, h3, h4, h5, h6, h7, h8⟩ := B
  refine mm_iload_n dX1_byteAt_0 rfl ?_
  refine mm_if_lt 34 dX1_byteAt_1 (by decide) (fun c1 => ?_) (fun c1 => ?_)
  · refine mm_iconst (v := (-1)) dX1_byteAt_34 (by decide +kernel) ?_
    refine mm_iret rfl rfl dX1_byteAt_35 ?_
    exact ⟨by rw [if_neg (fun q => Int32.not_le.mpr c1 q.1)], rfl⟩
  · refine mm_iload_n dX1_byteAt_4 rfl ?_
    refine mm_aload_n dX1_byteAt_5 rfl ?_
    refine mm_get lk_X1_15_X1 dX1_byteAt_6 a rfl ?_
    refine mm_icmp_ge 34 dX1_byteAt_9 (by decide) (fun c2 => ?_) (fun c2 => ?_)
    · refine mm_iconst (v := (-1)) dX1_byteAt_34 (by decide +kernel) ?_
      refine mm_iret rfl rfl dX1_byteAt_35 ?_
      exact ⟨by rw [if_neg (fun q => Int32.not_le.mpr q.2 c2)], rfl⟩
    · obtain ⟨j, hj, rfl, -⟩ := pk_mu (L := s) c1 c2 (by omega)
      refine mm_iload_n dX1_byteAt_12 rfl ?_
      refine mm_aload_n dX1_byteAt_13 rfl ?_
      refine mm_get lk_X1_11_X1 dX1_byteAt_14 a rfl ?_
      refine mm_alenN (by decide) dX1_byteAt_17 ak ?_
      refine mm_icmp_ge 34 dX1_byteAt_18 (by decide) (fun c3 => ?_) (fun c3 => ?_)
      · exact absurd c3 (nI_ge (by omega) (by omega))
      · refine mm_aload_n dX1_byteAt_21 rfl ?_
        refine mm_get lk_X1_11_X1 dX1_byteAt_22 a rfl ?_
        refine mm_iload_n dX1_byteAt_25 rfl ?_
        refine mm_baldN dX1_byteAt_26 ak (by omega) (by omega) ?_
        refine mm_sipush (v := 255) dX1_byteAt_27 (by decide +kernel) ?_
        refine mm_iand dX1_byteAt_30 ?_
        refine mm_goto 35 dX1_byteAt_31 (by decide) ?_
        refine mm_iret rfl rfl dX1_byteAt_35 ?_
        refine ⟨?_, rfl⟩
        rw [(h4 j hj).1, if_pos ⟨nI_pos' (by omega), nI_lt hj (by omega)⟩, nI_clamp (by omega)]
theorem m_By_add {g : mm_G} {d r most s mk k cap v : Nat} {b : Nat → Nat} {h : mm_Hp} {x : Int32} (hd : 2 ≤ d) (B : ByAt h r most s mk k cap b) (hm : 2 * most < 2 ^ 29) (hx : x &&& 255 = nI v) (hv : v < 256) : mm_P g d MX1_add 0 [some (.ref r), some (.int x)] [] h (fun o h' => o = .inl none ∧ ∃ k' cap', ByAt h' r most (if s < most then s + 1 else s) mk k' cap' (va_up b s v) ∧ mm_bg r h k cap h' k' cap') := by
  obtain ⟨f, a, ak, h3, h4, h5, h6, h7, h8⟩ := B
  have rk : r ≠ k := fun z => by subst z; cases a.inj ak
  refine mm_aload_n dX1_add_0 rfl ?_
  refine mm_get lk_X1_15_X1 dX1_add_1 a rfl ?_
  refine mm_aload_n dX1_add_4 rfl ?_
  refine mm_get lk_X1_19_X1 dX1_add_5 a rfl ?_
  refine mm_icmp_lt 12 dX1_add_8 (by decide) (fun c1 => ?_) (fun c1 => ?_)
  · have hs : s < most := (nI_ltI (by omega) (by omega)).mp c1
    -- behind the growth
    have tail : ∀ (h2 : mm_Hp) (k2 cap2 : Nat) (f2 : Nat → Int32), mm_at h2 r (.inr (1, [.int (nI most), .int (nI s), .int (nI mk), .ref k2])) → mm_at h2 k2 (.inl (1, cap2, .inl f2)) → (∀ i, i < cap2 → fits .byte (.int (f2 i)) = true) → (∀ i, i < s → f2 i = f i) → s < cap2 → cap2 ≤ 2 * most → mm_bg r h k cap h2 k2 cap2 →
        mm_P g d MX1_add 42 [some (.ref r), some (.int x)] [] h2 (fun o h' => o = .inl none ∧ ∃ k' cap', ByAt h' r most (if s < most then s + 1 else s) mk k' cap' (va_up b s v) ∧ mm_bg r h k cap h' k' cap') := by
      intro h2 k2 cap2 f2 a ak g3 g4 g6 g8 bg
      have rk2 : r ≠ k2 := fun z => by subst z; cases a.inj ak
      refine mm_aload_n dX1_add_42 rfl ?_
      refine mm_get lk_X1_11_X1 dX1_add_43 a rfl ?_
      refine mm_aload_n dX1_add_46 rfl ?_
      refine mm_get lk_X1_15_X1 dX1_add_47 a rfl ?_
      refine mm_iload_n dX1_add_50 rfl ?_
      refine mm_i2b dX1_add_51 ?_
      refine mm_bastN dX1_add_52 ak g6 (by omega) (fun h3' e3 => ?_)
      have a := mm_at.ne1 a e3 rk2
      have ak := mm_at.up1 ak e3
      refine mm_aload_n dX1_add_53 rfl ?_
      refine mm_dup rfl dX1_add_54 ?_
      refine mm_get lk_X1_15_X1 dX1_add_55 a rfl ?_
      refine mm_iconst (v := 1) dX1_add_58 (by decide +kernel) ?_
      refine mm_iadd dX1_add_59 ?_
      rw [nI_1]
      refine mm_put1 (fs' := [.int (nI most), .int (nI (s + 1)), .int (nI mk), .ref k2]) lk_X1_15_X1 rfl dX1_add_60 a (fun _ e => by rw [e]; rfl) (fun _ e => by rw [e]; rfl) (Nat.le_of_ble_eq_true rfl) rfl (fun h4' e4 => ?_)
      have a := mm_at.up1 a e4
      have ak := mm_at.ne1 ak e4 (Ne.symm rk2)
      refine mm_vret rfl dX1_add_63 ?_
      refine ⟨rfl, k2, cap2, ⟨_, by rw [if_pos hs]; exact a, ak, fun i hi => ?_, fun i hi => ?_, by rw [if_pos hs]; omega, by rw [if_pos hs]; omega, by omega, g8⟩, ?_⟩
      · by_cases e : i = s
        · subst e; rw [pk_us]; exact fb_i8 _
        · rw [pk_un e]; exact g3 i hi
      · rw [if_pos hs] at hi
        by_cases e : i = s
        · subst e
          rw [pk_us, va_up, if_pos rfl]
          refine ⟨?_, hv⟩
          have q : ∀ y : Int32, y.toInt8.toInt32.toInt8.toInt32 = y.toInt8.toInt32 := fun y => (vp_nar_byte y.toInt8.toInt32).symm.trans (pk_vb y)
          rw [q, bp_b, hx]
        · rw [pk_un e, va_up, if_neg e, g4 i (by omega)]
          exact h4 i (by omega)
      · obtain ⟨b1, b2, j, b3, b4, b5⟩ := bg
        refine ⟨fun q hq n1 n2 => ?_, b2, j, b3, by rw [e4, e3]; exact b4, by rw [e4, e3]; exact b5⟩
        rw [e4]
        show va_up h3'.1 r _ q = _
        rw [va_up, if_neg n1, e3]
        show va_up h2.1 k2 _ q = _
        rw [va_up, if_neg (by omega)]
        exact b1 q hq n1 n2
    refine mm_aload_n dX1_add_12 rfl ?_
    refine mm_get lk_X1_15_X1 dX1_add_13 a rfl ?_
    refine mm_aload_n dX1_add_16 rfl ?_
    refine mm_get lk_X1_11_X1 dX1_add_17 a rfl ?_
    refine mm_alenN (by decide) dX1_add_20 ak ?_
    refine mm_icmp_lt 42 dX1_add_21 (by decide) (fun c2 => ?_) (fun c2 => ?_)
    · have hc : s < cap := (nI_ltI (by omega) (by omega)).mp c2
      exact tail h k cap f a ak h3 (fun _ _ => rfl) hc h8 mm_bg.rfl
    · have hc : ¬ s < cap := fun z => c2 (nI_lt z (by omega))
      refine mm_aload_n dX1_add_24 rfl ?_
      refine mm_aload_n dX1_add_25 rfl ?_
      refine mm_get lk_X1_11_X1 dX1_add_26 a rfl ?_
      refine mm_iconst (v := 2) dX1_add_29 (by decide +kernel) ?_
      refine mm_aload_n dX1_add_30 rfl ?_
      refine mm_get lk_X1_11_X1 dX1_add_31 a rfl ?_
      refine mm_alenN (by decide) dX1_add_34 ak ?_
      refine mm_imul dX1_add_35 ?_
      rw [show (2 : Int32) * nI cap = nI (2 * cap) from pk_mul 2 cap]
      refine mm_callS (d' := 1) (as := [.ref k, .int (nI (2 * cap))]) (st := [.ref r]) (by omega) cm_J7_copyOf_9075b (mm_t2 193 rfl rfl) (mm_t2 194 rfl rfl) dX1_add_36 rfl (Nat.le_of_ble_eq_true rfl) (Nat.le_of_ble_eq_true rfl) rfl rfl (m_copyOf (Nat.le_refl 1) ak (by omega) (by omega) h3) (fun o h1 q => ?_)
      obtain ⟨rfl, e1⟩ := q
      have a := mm_at.add1 a e1
      have ak2 := mm_at.new1 e1
      have k2 : h.2.1 + 64 ≠ r := fun z => by rw [z] at ak2; cases a.inj ak2
      show mm_P g d MX1_add (36 + 3) _ [.ref (h.2.1 + 64), .ref r] h1 _
      refine mm_put1 (fs' := [.int (nI most), .int (nI s), .int (nI mk), .ref (h.2.1 + 64)]) lk_X1_11_X1 rfl dX1_add_39 a (fun _ e => by rw [e]; rfl) (fun _ e => by rw [e]; rfl) (Nat.le_of_ble_eq_true rfl) rfl (fun h2 e2 => ?_)
      have a := mm_at.up1 a e2
      have ak2 := mm_at.ne1 ak2 e2 k2
      refine tail h2 _ (2 * cap) _ a ak2 (fun i hi => ?_) (fun i hi => ?_) (by omega) (by omega) ?_
      · by_cases e : i < cap
        · rw [pk_cpy_in (by omega) (by omega)]
          exact h3 _ (by omega)
        · rw [pk_cpy_out (by omega)]
          rfl
      · rw [pk_cpy_in (by omega) (by omega)]
        show f (0 + (i - 0)) = f i
        rw [Nat.zero_add, Nat.sub_zero]
      · refine ⟨fun q hq n1 n2 => ?_, Or.inr (Nat.le_refl _), 1, by omega, by rw [e2, e1], by rw [e2, e1]; show h.2.2 + 2 * cap + 2 * cap = _; omega⟩
        rw [e2]
        show va_up h1.1 r _ q = _
        rw [va_up, if_neg n1, e1]
        show va_up h.1 (h.2.1 + 64) _ q = _
        rw [va_up, if_neg (by omega)]
  · have hs : ¬ s < most := fun z => c1 (nI_lt z (by omega))
    refine mm_vret rfl dX1_add_11 ?_
    refine ⟨rfl, k, cap, ⟨f, by rw [if_neg hs]; exact a, ak, h3, fun i hi => ?_, by rw [if_neg hs]; exact h5, by rw [if_neg hs]; exact h6, h7, h8⟩, mm_bg.rfl⟩
    rw [if_neg hs] at hi
    rw [va_up, if_neg (by omega)]
    exact h4 i hi
