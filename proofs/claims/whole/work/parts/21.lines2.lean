def ebOf (kd si fi : Nat → Int32) (s : Int32) : Nat → Int32
  | 0 => -1
  | j + 1 => if si j = s then (if kd j = 5 then ebOf kd si fi s j else fi j) else -1
theorem m_Li_eb_loop {g : mm_G} {d n mk : Nat} {h : mm_Hp} {kd si pg pl fi an : Nat → Int32} {i : Nat} (L : LiAt h n mk kd si pg pl fi an) (hi : i < 200) : ∀ j : Nat, j ≤ i → mm_P g d MX4_entryBefore 4 [some (.ref 69), some (.int (nI i)), some (.int (nI j - 1))] [] h (mm_pureI (ebOf kd si fi (si i) j) h) := by
  obtain ⟨a69, a70, a71, a72, a73, a74, a75⟩ := L
  intro j
  induction j with
  | zero =>
    intro hj
    refine mm_iload_n dX4_entryBefore_4 rfl ?_
    refine mm_if_lt 46 dX4_entryBefore_5 (by decide) (fun c1 => ?_) (fun c1 => ?_)
    · refine mm_iconst (v := (-1)) dX4_entryBefore_46 (by decide +kernel) ?_
      refine mm_iret rfl rfl dX4_entryBefore_47 ?_
      exact ⟨rfl, rfl⟩
    · exact absurd (by decide) c1
  | succ j ih =>
    intro hj
    rw [show nI (j + 1) - 1 = nI j from nI_pred j]
    refine mm_iload_n dX4_entryBefore_4 rfl ?_
    refine mm_if_lt 46 dX4_entryBefore_5 (by decide) (fun c1 => ?_) (fun c1 => ?_)
    · have c1 : j < 0 := (nI_ltI (a := j) (b := 0) (by omega) (by omega)).mp c1
      exact absurd c1 (by omega)
    · have c1 : ¬ j < 0 := fun z => c1 ((nI_ltI (a := j) (b := 0) (by omega) (by omega)).mpr z)
      refine mm_aload_n dX4_entryBefore_8 rfl ?_
      refine mm_get lk_X4_15_X4 dX4_entryBefore_9 a69 rfl ?_
      refine mm_iload_n dX4_entryBefore_12 rfl ?_
      refine mm_ialdN (i := j) dX4_entryBefore_13 a71 (by omega) (by decide) ?_
      refine mm_aload_n dX4_entryBefore_14 rfl ?_
      refine mm_get lk_X4_15_X4 dX4_entryBefore_15 a69 rfl ?_
      refine mm_iload_n dX4_entryBefore_18 rfl ?_
      refine mm_ialdN (i := i) dX4_entryBefore_19 a71 (by omega) (by decide) ?_
      refine mm_icmp_ne 46 dX4_entryBefore_20 (by decide) (fun c2 => ?_) (fun c2 => ?_)
      · refine mm_iconst (v := (-1)) dX4_entryBefore_46 (by decide +kernel) ?_
        refine mm_iret rfl rfl dX4_entryBefore_47 ?_
        exact ⟨by rw [ebOf, if_neg c2], rfl⟩
      · refine mm_aload_n dX4_entryBefore_23 rfl ?_
        refine mm_get lk_X4_9_X4 dX4_entryBefore_24 a69 rfl ?_
        refine mm_iload_n dX4_entryBefore_27 rfl ?_
        refine mm_ialdN (i := j) dX4_entryBefore_28 a70 (by omega) (by decide) ?_
        refine mm_iconst (v := 5) dX4_entryBefore_29 (by decide +kernel) ?_
        refine mm_icmp_eq 40 dX4_entryBefore_30 (by decide) (fun c3 => ?_) (fun c3 => ?_)
        · refine mm_iinc (v := (nI j + (-1))) (ls' := [some (.ref 69), some (.int (nI i)), some (.int (nI j + (-1)))]) dX4_entryBefore_40 rfl rfl rfl ?_
          refine mm_goto 4 dX4_entryBefore_43 (by decide) ?_
          rw [show nI j + (-1) = nI j - 1 from (Int32.sub_eq_add_neg _ _).symm, ebOf, if_pos c2, if_pos c3]
          exact ih (by omega)
        · refine mm_aload_n dX4_entryBefore_33 rfl ?_
          refine mm_get lk_X4_24_X4 dX4_entryBefore_34 a69 rfl ?_
          refine mm_iload_n dX4_entryBefore_37 rfl ?_
          refine mm_ialdN (i := j) dX4_entryBefore_38 a74 (by omega) (by decide) ?_
          refine mm_iret rfl rfl dX4_entryBefore_39 ?_
          exact ⟨by rw [ebOf, if_pos c2, if_neg c3], rfl⟩
theorem m_Li_entryBefore {g : mm_G} {d n mk : Nat} {h : mm_Hp} {kd si pg pl fi an : Nat → Int32} {i : Nat} (L : LiAt h n mk kd si pg pl fi an) (hi : i < 200) : mm_P g d MX4_entryBefore 0 [some (.ref 69), some (.int (nI i)), none] [] h (mm_pureI (ebOf kd si fi (si i) i) h) := by
  refine mm_iload_n dX4_entryBefore_0 rfl ?_
  refine mm_iconst (v := 1) dX4_entryBefore_1 (by decide +kernel) ?_
  refine mm_isub dX4_entryBefore_2 ?_
  refine mm_istore_n (ls' := [some (.ref 69), some (.int (nI i)), some (.int (nI i - 1))]) dX4_entryBefore_3 (Nat.le_of_ble_eq_true rfl) rfl ?_
  exact m_Li_eb_loop L hi i (Nat.le_refl i)
def feV (kd : Nat → Int32) (i : Nat) (eb : Int32) : Int32 := if kd i = 5 then -1 else if kd i = 4 then eb else nI i
/-- the answers' row behind a new line: the question m has this answer, or none has -/
def anV (kd an : Nat → Int32) (i m : Nat) : Nat → Int32 := if ¬ kd i = 5 ∧ ¬ kd i = 4 ∧ kd m = 0 ∧ ¬ kd i = 0 then upd an m (nI i) else an
theorem m_Li_setEntry0 {g : mm_G} {d n mk : Nat} {h : mm_Hp} {kd si pg pl fi an : Nat → Int32} {i : Nat} (hd : 1 ≤ d) (L : LiAt h n mk kd si pg pl fi an) (hi : i < 200) (e : ebOf kd si fi (si i) i = -1) : mm_P g d MX4_setEntry 0 [some (.ref 69), some (.int (nI i)), none] [] h (fun o h' => o = .inl none ∧ LiAt h' n mk kd si pg pl (upd fi i (feV kd i (-1))) an ∧ mm_fr 69 75 h h') := by
  refine mm_aload_n dX4_setEntry_0 rfl ?_
  refine mm_iload_n dX4_setEntry_1 rfl ?_
  refine mm_callV (d' := d - 1) (as := [.int (nI i)]) (st := []) (by omega) cm_X4_entryBefore (mm_t4 59 rfl rfl) (mm_t4 61 rfl rfl) (mm_s2 0 rfl rfl) (T := TX4) (N := 9) rfl dX4_setEntry_2 L.1 rfl (Nat.le_of_ble_eq_true rfl) (Nat.le_of_ble_eq_true rfl) rfl rfl (m_Li_entryBefore L hi) (fun o u1 q => mm_thenI q ?_)
  obtain ⟨a69, a70, a71, a72, a73, a74, a75⟩ := L
  rw [e]
  refine mm_istore_n (ls' := [some (.ref 69), some (.int (nI i)), some (.int (-1))]) dX4_setEntry_5 (Nat.le_of_ble_eq_true rfl) rfl ?_
  refine mm_aload_n dX4_setEntry_6 rfl ?_
  refine mm_get lk_X4_9_X4 dX4_setEntry_7 a69 rfl ?_
  refine mm_iload_n dX4_setEntry_10 rfl ?_
  refine mm_ialdN (i := i) dX4_setEntry_11 a70 (by omega) (by decide) ?_
  refine mm_iconst (v := 5) dX4_setEntry_12 (by decide +kernel) ?_
  refine mm_icmp_ne 26 dX4_setEntry_13 (by decide) (fun c2 => ?_) (fun c2 => ?_)
  · refine mm_aload_n dX4_setEntry_26 rfl ?_
    refine mm_get lk_X4_9_X4 dX4_setEntry_27 a69 rfl ?_
    refine mm_iload_n dX4_setEntry_30 rfl ?_
    refine mm_ialdN (i := i) dX4_setEntry_31 a70 (by omega) (by decide) ?_
    refine mm_iconst (v := 4) dX4_setEntry_32 (by decide +kernel) ?_
    refine mm_icmp_ne 46 dX4_setEntry_33 (by decide) (fun c3 => ?_) (fun c3 => ?_)
    · refine mm_aload_n dX4_setEntry_46 rfl ?_
      refine mm_get lk_X4_24_X4 dX4_setEntry_47 a69 rfl ?_
      refine mm_iload_n dX4_setEntry_50 rfl ?_
      refine mm_iload_n dX4_setEntry_51 rfl ?_
      refine mm_iastN (i := i) dX4_setEntry_52 a74 (by omega) (by decide) (fun h4 eh4 => ?_)
      have a69 := mm_at.ne1 a69 eh4 (by decide)
      have a70 := mm_at.ne1 a70 eh4 (by decide)
      have a71 := mm_at.ne1 a71 eh4 (by decide)
      have a72 := mm_at.ne1 a72 eh4 (by decide)
      have a73 := mm_at.ne1 a73 eh4 (by decide)
      have a74 := mm_at.up1 a74 eh4
      have a75 := mm_at.ne1 a75 eh4 (by decide)
      refine mm_iload_n dX4_setEntry_53 rfl ?_
      refine mm_iconst (v := (-1)) dX4_setEntry_54 (by decide +kernel) ?_
      refine mm_icmp_eq 83 dX4_setEntry_55 (by decide) (fun _ => ?_) (fun c => absurd (by decide) c)
      refine mm_vret rfl dX4_setEntry_83 ?_
      have e1 : feV kd i (-1) = (nI i) := by simp [feV, c2, c3]
      exact ⟨rfl, by rw [e1]; exact ⟨a69, a70, a71, a72, a73, a74, a75⟩, (mm_fr.up mm_fr.rfl eh4 (by decide) (by decide))⟩
    · refine mm_aload_n dX4_setEntry_36 rfl ?_
      refine mm_get lk_X4_24_X4 dX4_setEntry_37 a69 rfl ?_
      refine mm_iload_n dX4_setEntry_40 rfl ?_
      refine mm_iload_n dX4_setEntry_41 rfl ?_
      refine mm_iastN (i := i) dX4_setEntry_42 a74 (by omega) (by decide) (fun h5 eh5 => ?_)
      have a69 := mm_at.ne1 a69 eh5 (by decide)
      have a70 := mm_at.ne1 a70 eh5 (by decide)
      have a71 := mm_at.ne1 a71 eh5 (by decide)
      have a72 := mm_at.ne1 a72 eh5 (by decide)
      have a73 := mm_at.ne1 a73 eh5 (by decide)
      have a74 := mm_at.up1 a74 eh5
      have a75 := mm_at.ne1 a75 eh5 (by decide)
      refine mm_goto 83 dX4_setEntry_43 (by decide) ?_
      refine mm_vret rfl dX4_setEntry_83 ?_
      have e1 : feV kd i (-1) = (-1) := by simp [feV, c2, c3]
      exact ⟨rfl, by rw [e1]; exact ⟨a69, a70, a71, a72, a73, a74, a75⟩, (mm_fr.up mm_fr.rfl eh5 (by decide) (by decide))⟩
  · refine mm_aload_n dX4_setEntry_16 rfl ?_
    refine mm_get lk_X4_24_X4 dX4_setEntry_17 a69 rfl ?_
    refine mm_iload_n dX4_setEntry_20 rfl ?_
    refine mm_iconst (v := (-1)) dX4_setEntry_21 (by decide +kernel) ?_
    refine mm_iastN (i := i) dX4_setEntry_22 a74 (by omega) (by decide) (fun h6 eh6 => ?_)
    have a69 := mm_at.ne1 a69 eh6 (by decide)
    have a70 := mm_at.ne1 a70 eh6 (by decide)
    have a71 := mm_at.ne1 a71 eh6 (by decide)
    have a72 := mm_at.ne1 a72 eh6 (by decide)
    have a73 := mm_at.ne1 a73 eh6 (by decide)
    have a74 := mm_at.up1 a74 eh6
    have a75 := mm_at.ne1 a75 eh6 (by decide)
    refine mm_goto 83 dX4_setEntry_23 (by decide) ?_
    refine mm_vret rfl dX4_setEntry_83 ?_
    have e1 : feV kd i (-1) = (-1) := by simp [feV, c2]
    exact ⟨rfl, by rw [e1]; exact ⟨a69, a70, a71, a72, a73, a74, a75⟩, (mm_fr.up mm_fr.rfl eh6 (by decide) (by decide))⟩
theorem m_Li_setEntry1 {g : mm_G} {d n mk : Nat} {h : mm_Hp} {kd si pg pl fi an : Nat → Int32} {i m : Nat} (hd : 1 ≤ d) (L : LiAt h n mk kd si pg pl fi an) (hi : i < 200) (hm : m < 200) (e : ebOf kd si fi (si i) i = nI m) : mm_P g d MX4_setEntry 0 [some (.ref 69), some (.int (nI i)), none] [] h (fun o h' => o = .inl none ∧ LiAt h' n mk kd si pg pl (upd fi i (feV kd i (nI m))) (anV kd an i m) ∧ mm_fr 69 75 h h') := by
  refine mm_aload_n dX4_setEntry_0 rfl ?_
  refine mm_iload_n dX4_setEntry_1 rfl ?_
  refine mm_callV (d' := d - 1) (as := [.int (nI i)]) (st := []) (by omega) cm_X4_entryBefore (mm_t4 59 rfl rfl) (mm_t4 61 rfl rfl) (mm_s2 0 rfl rfl) (T := TX4) (N := 9) rfl dX4_setEntry_2 L.1 rfl (Nat.le_of_ble_eq_true rfl) (Nat.le_of_ble_eq_true rfl) rfl rfl (m_Li_entryBefore L hi) (fun o u1 q => mm_thenI q ?_)
  obtain ⟨a69, a70, a71, a72, a73, a74, a75⟩ := L
  rw [e]
  refine mm_istore_n (ls' := [some (.ref 69), some (.int (nI i)), some (.int (nI m))]) dX4_setEntry_5 (Nat.le_of_ble_eq_true rfl) rfl ?_
  refine mm_aload_n dX4_setEntry_6 rfl ?_
  refine mm_get lk_X4_9_X4 dX4_setEntry_7 a69 rfl ?_
  refine mm_iload_n dX4_setEntry_10 rfl ?_
  refine mm_ialdN (i := i) dX4_setEntry_11 a70 (by omega) (by decide) ?_
  refine mm_iconst (v := 5) dX4_setEntry_12 (by decide +kernel) ?_
  refine mm_icmp_ne 26 dX4_setEntry_13 (by decide) (fun c2 => ?_) (fun c2 => ?_)
  · refine mm_aload_n dX4_setEntry_26 rfl ?_
    refine mm_get lk_X4_9_X4 dX4_setEntry_27 a69 rfl ?_
    refine mm_iload_n dX4_setEntry_30 rfl ?_
    refine mm_ialdN (i := i) dX4_setEntry_31 a70 (by omega) (by decide) ?_
    refine mm_iconst (v := 4) dX4_setEntry_32 (by decide +kernel) ?_
    refine mm_icmp_ne 46 dX4_setEntry_33 (by decide) (fun c3 => ?_) (fun c3 => ?_)
    · refine mm_aload_n dX4_setEntry_46 rfl ?_
      refine mm_get lk_X4_24_X4 dX4_setEntry_47 a69 rfl ?_
      refine mm_iload_n dX4_setEntry_50 rfl ?_
      refine mm_iload_n dX4_setEntry_51 rfl ?_
      refine mm_iastN (i := i) dX4_setEntry_52 a74 (by omega) (by decide) (fun h4 eh4 => ?_)
      have a69 := mm_at.ne1 a69 eh4 (by decide)
      have a70 := mm_at.ne1 a70 eh4 (by decide)
      have a71 := mm_at.ne1 a71 eh4 (by decide)
      have a72 := mm_at.ne1 a72 eh4 (by decide)
      have a73 := mm_at.ne1 a73 eh4 (by decide)
      have a74 := mm_at.up1 a74 eh4
      have a75 := mm_at.ne1 a75 eh4 (by decide)
      refine mm_iload_n dX4_setEntry_53 rfl ?_
      refine mm_iconst (v := (-1)) dX4_setEntry_54 (by decide +kernel) ?_
      refine mm_icmp_eq 83 dX4_setEntry_55 (by decide) (fun c5 => ?_) (fun c5 => ?_)
      · exact absurd c5 (fun z => absurd (show (nI m).toInt = -1 by rw [z]; decide) (by rw [nI_toInt (by omega)]; omega))
      · refine mm_aload_n dX4_setEntry_58 rfl ?_
        refine mm_get lk_X4_9_X4 dX4_setEntry_59 a69 rfl ?_
        refine mm_iload_n dX4_setEntry_62 rfl ?_
        refine mm_ialdN (i := m) dX4_setEntry_63 a70 (by omega) (by decide) ?_
        refine mm_if_ne 83 dX4_setEntry_64 (by decide) (fun c6 => ?_) (fun c6 => ?_)
        · refine mm_vret rfl dX4_setEntry_83 ?_
          have e1 : feV kd i (nI m) = (nI i) := by simp [feV, c2, c3, c5, c6]
          have e2 : anV kd an i m = an := by simp [anV, c2, c3, c5, c6]
          exact ⟨rfl, by rw [e1, e2]; exact ⟨a69, a70, a71, a72, a73, a74, a75⟩, (mm_fr.up mm_fr.rfl eh4 (by decide) (by decide))⟩
        · refine mm_aload_n dX4_setEntry_67 rfl ?_
          refine mm_get lk_X4_9_X4 dX4_setEntry_68 a69 rfl ?_
          refine mm_iload_n dX4_setEntry_71 rfl ?_
          refine mm_ialdN (i := i) dX4_setEntry_72 a70 (by omega) (by decide) ?_
          refine mm_if_eq 83 dX4_setEntry_73 (by decide) (fun c7 => ?_) (fun c7 => ?_)
          · refine mm_vret rfl dX4_setEntry_83 ?_
            have e1 : feV kd i (nI m) = (nI i) := by simp [feV, c2, c3, c5, c6, c7]
            have e2 : anV kd an i m = an := by simp [anV, c2, c3, c5, c6, c7]
            exact ⟨rfl, by rw [e1, e2]; exact ⟨a69, a70, a71, a72, a73, a74, a75⟩, (mm_fr.up mm_fr.rfl eh4 (by decide) (by decide))⟩
          · refine mm_aload_n dX4_setEntry_76 rfl ?_
            refine mm_get lk_X4_27_X4 dX4_setEntry_77 a69 rfl ?_
            refine mm_iload_n dX4_setEntry_80 rfl ?_
            refine mm_iload_n dX4_setEntry_81 rfl ?_
            refine mm_iastN (i := m) dX4_setEntry_82 a75 (by omega) (by decide) (fun h8 eh8 => ?_)
            have a69 := mm_at.ne1 a69 eh8 (by decide)
            have a70 := mm_at.ne1 a70 eh8 (by decide)
            have a71 := mm_at.ne1 a71 eh8 (by decide)
            have a72 := mm_at.ne1 a72 eh8 (by decide)
            have a73 := mm_at.ne1 a73 eh8 (by decide)
            have a74 := mm_at.ne1 a74 eh8 (by decide)
            have a75 := mm_at.up1 a75 eh8
            refine mm_vret rfl dX4_setEntry_83 ?_
            have e1 : feV kd i (nI m) = (nI i) := by simp [feV, c2, c3, c5, c6, c7]
            have e2 : anV kd an i m = (upd an m (nI i)) := by simp [anV, c2, c3, c5, c6, c7]
            exact ⟨rfl, by rw [e1, e2]; exact ⟨a69, a70, a71, a72, a73, a74, a75⟩, (mm_fr.up (mm_fr.up mm_fr.rfl eh4 (by decide) (by decide)) eh8 (by decide) (by decide))⟩
    · refine mm_aload_n dX4_setEntry_36 rfl ?_
      refine mm_get lk_X4_24_X4 dX4_setEntry_37 a69 rfl ?_
      refine mm_iload_n dX4_setEntry_40 rfl ?_
      refine mm_iload_n dX4_setEntry_41 rfl ?_
      refine mm_iastN (i := i) dX4_setEntry_42 a74 (by omega) (by decide) (fun h9 eh9 => ?_)
      have a69 := mm_at.ne1 a69 eh9 (by decide)
      have a70 := mm_at.ne1 a70 eh9 (by decide)
      have a71 := mm_at.ne1 a71 eh9 (by decide)
      have a72 := mm_at.ne1 a72 eh9 (by decide)
      have a73 := mm_at.ne1 a73 eh9 (by decide)
      have a74 := mm_at.up1 a74 eh9
      have a75 := mm_at.ne1 a75 eh9 (by decide)
      refine mm_goto 83 dX4_setEntry_43 (by decide) ?_
      refine mm_vret rfl dX4_setEntry_83 ?_
      have e1 : feV kd i (nI m) = (nI m) := by simp [feV, c2, c3]
      have e2 : anV kd an i m = an := by simp [anV, c2, c3]
      exact ⟨rfl, by rw [e1, e2]; exact ⟨a69, a70, a71, a72, a73, a74, a75⟩, (mm_fr.up mm_fr.rfl eh9 (by decide) (by decide))⟩
  · refine mm_aload_n dX4_setEntry_16 rfl ?_
    refine mm_get lk_X4_24_X4 dX4_setEntry_17 a69 rfl ?_
    refine mm_iload_n dX4_setEntry_20 rfl ?_
    refine mm_iconst (v := (-1)) dX4_setEntry_21 (by decide +kernel) ?_
    refine mm_iastN (i := i) dX4_setEntry_22 a74 (by omega) (by decide) (fun h10 eh10 => ?_)
    have a69 := mm_at.ne1 a69 eh10 (by decide)
    have a70 := mm_at.ne1 a70 eh10 (by decide)
    have a71 := mm_at.ne1 a71 eh10 (by decide)
    have a72 := mm_at.ne1 a72 eh10 (by decide)
    have a73 := mm_at.ne1 a73 eh10 (by decide)
    have a74 := mm_at.up1 a74 eh10
    have a75 := mm_at.ne1 a75 eh10 (by decide)
    refine mm_goto 83 dX4_setEntry_23 (by decide) ?_
    refine mm_vret rfl dX4_setEntry_83 ?_
    have e1 : feV kd i (nI m) = (-1) := by simp [feV, c2]
    have e2 : anV kd an i m = an := by simp [anV, c2]
    exact ⟨rfl, by rw [e1, e2]; exact ⟨a69, a70, a71, a72, a73, a74, a75⟩, (mm_fr.up mm_fr.rfl eh10 (by decide) (by decide))⟩
