section MST
variable {g : mm_G} {d i : Nat} {h : mm_Hp}
theorem m_St_coder (h1 : 1 ≤ i) (h3 : i ≤ 3) : mm_P g d MJ0_coder_7d493 0 [some (.ref i)] [] h (mm_pureI 0 h) := by
  refine mm_gcs rfl (mm_t3 193 rfl rfl) dJ0_coder_7d493_0 ?_
  refine mm_if_eq 13 dJ0_coder_7d493_3 (by decide) (fun c => absurd c (by decide)) (fun _ => ?_)
  refine mm_aload_n dJ0_coder_7d493_6 rfl ?_
  refine mm_gcod h1 h3 rfl (mm_t7 113 rfl rfl) dJ0_coder_7d493_7 ?_
  refine mm_goto 14 dJ0_coder_7d493_10 (by decide) ?_
  refine mm_iret rfl rfl dJ0_coder_7d493_14 ?_
  exact ⟨rfl, rfl⟩
theorem m_St_isLatin1 (h1 : 1 ≤ i) (h3 : i ≤ 3) : mm_P g d MJ0_isLatin1_aae02 0 [some (.ref i)] [] h (mm_pureI 1 h) := by
  refine mm_gcs rfl (mm_t3 193 rfl rfl) dJ0_isLatin1_aae02_0 ?_
  refine mm_if_eq 17 dJ0_isLatin1_aae02_3 (by decide) (fun c => absurd c (by decide)) (fun _ => ?_)
  refine mm_aload_n dJ0_isLatin1_aae02_6 rfl ?_
  refine mm_gcod h1 h3 rfl (mm_t7 113 rfl rfl) dJ0_isLatin1_aae02_7 ?_
  refine mm_if_ne 17 dJ0_isLatin1_aae02_10 (by decide) (fun c => absurd rfl c) (fun _ => ?_)
  refine mm_iconst (v := 1) dJ0_isLatin1_aae02_13 (by decide +kernel) ?_
  refine mm_goto 18 dJ0_isLatin1_aae02_14 (by decide) ?_
  refine mm_iret rfl rfl dJ0_isLatin1_aae02_18 ?_
  exact ⟨rfl, rfl⟩
theorem m_St_length (hd : 1 ≤ d) (h1 : 1 ≤ i) (h3 : i ≤ 3) : mm_P g d MJ0_length_8abf5 0 [some (.ref i)] [] h (mm_pureI (nI (mm_sb i).length) h) := by
  refine mm_aload_n dJ0_length_8abf5_0 rfl ?_
  refine mm_gval h1 h3 rfl (mm_t7 114 rfl rfl) dJ0_length_8abf5_1 ?_
  refine mm_glen h1 h3 dJ0_length_8abf5_4 ?_
  refine mm_aload_n dJ0_length_8abf5_5 rfl ?_
  refine mm_callF (d' := d - 1) (as := []) (st := [.int (Int32.ofNat (mm_sb i).length)]) h1 h3 (by omega) cm_J0_coder_7d493 (mm_t3 199 rfl rfl) (mm_t3 200 rfl rfl) (mm_t3 201 rfl rfl) dJ0_length_8abf5_6 rfl (Nat.le_of_ble_eq_true rfl) (Nat.le_of_ble_eq_true rfl) rfl rfl (m_St_coder h1 h3) (fun o u q => mm_thenI q ?_)
  refine mm_ishr dJ0_length_8abf5_9 ?_
  refine mm_iret rfl rfl dJ0_length_8abf5_10 ?_
  have hl : (mm_sb i).length < 2 ^ 31 := by
    match i, h1, h3 with
    | 1, _, _ => decide
    | 2, _, _ => decide
    | 3, _, _ => decide
  exact ⟨by rw [show Int32.ofNat (mm_sb i).length >>> ((0 : Int32) &&& 31) = nI (mm_sb i).length from sc_shr0 hl], rfl⟩
theorem m_St_pcheck {j n : Nat} (hj : j < n) (hn : n < 2 ^ 31) : mm_P g d MJ3_checkIndex_8e157 0 [some (.int (nI j)), some (.int (nI n)), some (.float 0)] [] h (mm_pureI (nI j) h) := by
  refine mm_iload_n dJ3_checkIndex_8e157_0 rfl ?_
  refine mm_if_lt 9 dJ3_checkIndex_8e157_1 (by decide) (fun c => absurd c (nI_pos (by omega))) (fun _ => ?_)
  refine mm_iload_n dJ3_checkIndex_8e157_4 rfl ?_
  refine mm_iload_n dJ3_checkIndex_8e157_5 rfl ?_
  refine mm_icmp_lt 16 dJ3_checkIndex_8e157_6 (by decide) (fun _ => ?_) (fun c => absurd (nI_lt hj hn) c)
  refine mm_iload_n dJ3_checkIndex_8e157_16 rfl ?_
  refine mm_iret rfl rfl dJ3_checkIndex_8e157_17 ?_
  exact ⟨rfl, rfl⟩
theorem m_St_check {j n : Nat} (hd : 1 ≤ d) (hj : j < n) (hn : n < 2 ^ 31) : mm_P g d MJ0_checkIndex_df160 0 [some (.int (nI j)), some (.int (nI n))] [] h (fun o h' => o = .inl none ∧ h' = h) := by
  refine mm_iload_n dJ0_checkIndex_df160_0 rfl ?_
  refine mm_iload_n dJ0_checkIndex_df160_1 rfl ?_
  refine mm_gsio rfl (mm_t3 232 rfl rfl) dJ0_checkIndex_df160_2 ?_
  refine mm_callS (d' := d - 1) (as := [.int (nI j), .int (nI n), .float 0]) (st := []) (by omega) cm_J3_checkIndex_8e157 (mm_t5 111 rfl rfl) (mm_t5 112 rfl rfl) dJ0_checkIndex_df160_5 rfl (Nat.le_of_ble_eq_true rfl) (Nat.le_of_ble_eq_true rfl) rfl rfl (m_St_pcheck hj hn) (fun o u q => mm_thenI q ?_)
  refine mm_pop rfl dJ0_checkIndex_df160_8 ?_
  refine mm_vret rfl dJ0_checkIndex_df160_9 ?_
  exact ⟨rfl, rfl⟩
/-- the sign at a place of a text -/
def chOf (i j : Nat) : Int32 := (mm_sb i).getD j 0
theorem ch_all : ∀ i, 1 ≤ i → i ≤ 3 → ∀ j, j < (mm_sb i).length → ((chOf i j &&& 255).toUInt32 % 65536).toInt32 = chOf i j ∧ narrow .char (.int (chOf i j)) = .int (chOf i j) ∧ (mm_sb i).length < 2 ^ 31 := by
  intro i h1 h3
  match i, h1, h3 with
  | 1, _, _ => decide +kernel
  | 2, _, _ => decide +kernel
  | 3, _, _ => decide +kernel
theorem m_St_l1charAt {j : Nat} (hd : 2 ≤ d) (h1 : 1 ≤ i) (h3 : i ≤ 3) (hj : j < (mm_sb i).length) : mm_P g d MJ1_charAt_3b067 0 [some (.ref (i + 8)), some (.int (nI j))] [] h (mm_pureI (chOf i j) h) := by
  obtain ⟨e1, e2, e3⟩ := ch_all i h1 h3 j hj
  refine mm_iload_n dJ1_charAt_3b067_0 rfl ?_
  refine mm_aload_n dJ1_charAt_3b067_1 rfl ?_
  refine mm_glen h1 h3 dJ1_charAt_3b067_2 ?_
  refine mm_callS (d' := d - 1) (as := [.int (nI j), .int (nI (mm_sb i).length)]) (st := []) (by omega) cm_J0_checkIndex_df160 (mm_t5 108 rfl rfl) (mm_t5 109 rfl rfl) dJ1_charAt_3b067_3 rfl (Nat.le_of_ble_eq_true rfl) (Nat.le_of_ble_eq_true rfl) rfl rfl (m_St_check (by omega) hj e3) (fun o u q => ?_)
  obtain ⟨rfl, q2⟩ := q
  rw [q2]
  show mm_P g d MJ1_charAt_3b067 (3 + 3) _ [] h _
  refine mm_aload_n dJ1_charAt_3b067_6 rfl ?_
  refine mm_iload_n dJ1_charAt_3b067_7 rfl ?_
  refine mm_gbal h1 h3 (vp_in_nI hj e3) dJ1_charAt_3b067_8 ?_
  rw [nI_clamp (by omega)]
  refine mm_sipush (v := 255) dJ1_charAt_3b067_9 (by decide +kernel) ?_
  refine mm_iand dJ1_charAt_3b067_12 ?_
  refine mm_i2c dJ1_charAt_3b067_13 ?_
  have e4 : (((mm_sb i).getD j 0 &&& 255).toUInt32 % 65536).toInt32 = chOf i j := e1
  rw [e4]
  refine mm_iret rfl e2 dJ1_charAt_3b067_14 ?_
  exact ⟨rfl, rfl⟩
theorem m_St_charAt {j : Nat} (hd : 3 ≤ d) (h1 : 1 ≤ i) (h3 : i ≤ 3) (hj : j < (mm_sb i).length) : mm_P g d MJ0_charAt_5068e 0 [some (.ref i), some (.int (nI j))] [] h (mm_pureI (chOf i j) h) := by
  obtain ⟨e1, e2, e3⟩ := ch_all i h1 h3 j hj
  refine mm_aload_n dJ0_charAt_5068e_0 rfl ?_
  refine mm_callF (d' := d - 1) (as := []) (st := []) h1 h3 (by omega) cm_J0_isLatin1_aae02 (mm_t3 189 rfl rfl) (mm_t3 190 rfl rfl) (mm_t3 191 rfl rfl) dJ0_charAt_5068e_1 rfl (Nat.le_of_ble_eq_true rfl) (Nat.le_of_ble_eq_true rfl) rfl rfl (m_St_isLatin1 h1 h3) (fun o u q => mm_thenI q ?_)
  refine mm_if_eq 16 dJ0_charAt_5068e_4 (by decide) (fun c => absurd c (by decide)) (fun _ => ?_)
  refine mm_aload_n dJ0_charAt_5068e_7 rfl ?_
  refine mm_gval h1 h3 rfl (mm_t7 114 rfl rfl) dJ0_charAt_5068e_8 ?_
  refine mm_iload_n dJ0_charAt_5068e_11 rfl ?_
  refine mm_callS (d' := d - 1) (as := [.ref (i + 8), .int (nI j)]) (st := []) (by omega) cm_J1_charAt_3b067 (mm_t5 105 rfl rfl) (mm_t5 106 rfl rfl) dJ0_charAt_5068e_12 rfl (Nat.le_of_ble_eq_true rfl) (Nat.le_of_ble_eq_true rfl) rfl rfl (m_St_l1charAt (by omega) h1 h3 hj) (fun o u q => mm_thenI q ?_)
  refine mm_iret rfl e2 dJ0_charAt_5068e_15 ?_
  exact ⟨rfl, rfl⟩
end MST
