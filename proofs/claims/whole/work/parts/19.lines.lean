/-! Lines: the object at 69, its rows at 70 to 75 -/
def LiAt (h : mm_Hp) (n mk : Nat) (kd si pg pl fi an : Nat → Int32) : Prop := mm_at h 69 (.inr (4, [.int 200, .int (nI n), .int (nI mk), .ref 70, .ref 71, .ref 72, .ref 73, .ref 74, .ref 75])) ∧ mm_at h 70 (.inl (0, 200, .inl kd)) ∧ mm_at h 71 (.inl (0, 200, .inl si)) ∧ mm_at h 72 (.inl (0, 200, .inl pg)) ∧ mm_at h 73 (.inl (0, 200, .inl pl)) ∧ mm_at h 74 (.inl (0, 200, .inl fi)) ∧ mm_at h 75 (.inl (0, 200, .inl an))
theorem m_Li_canGoOn {g : mm_G} {d n mk : Nat} {h : mm_Hp} {kd si pg pl fi an : Nat → Int32} {s : Int32} (L : LiAt h n mk kd si pg pl fi an) (hn : n ≤ 200) : mm_P g d MX4_canGoOn 0 [some (.ref 69), some (.int s)] [] h (mm_pureI (if 0 < n ∧ si (n - 1) = s ∧ ¬ kd (n - 1) = 5 then 1 else 0) h) := by
  obtain ⟨a69, a70, a71, a72, a73, a74, a75⟩ := L
  refine mm_aload_n dX4_canGoOn_0 rfl ?_
  refine mm_get lk_X4_30_X4 dX4_canGoOn_1 a69 rfl ?_
  refine mm_if_le 41 dX4_canGoOn_4 (by decide) (fun c1 => ?_) (fun c1 => ?_)
  · have c1 : n ≤ 0 := (nI_leI (a := n) (b := 0) (by omega) (by omega)).mp c1
    refine mm_iconst (v := 0) dX4_canGoOn_41 (by decide +kernel) ?_
    refine mm_iret rfl rfl dX4_canGoOn_42 ?_
    exact ⟨by simp [c1] <;> (intros; omega), rfl⟩
  · have c1 : ¬ n ≤ 0 := fun z => c1 ((nI_leI (a := n) (b := 0) (by omega) (by omega)).mpr z)
    refine mm_aload_n dX4_canGoOn_7 rfl ?_
    refine mm_get lk_X4_15_X4 dX4_canGoOn_8 a69 rfl ?_
    refine mm_aload_n dX4_canGoOn_11 rfl ?_
    refine mm_get lk_X4_30_X4 dX4_canGoOn_12 a69 rfl ?_
    refine mm_iconst (v := 1) dX4_canGoOn_15 (by decide +kernel) ?_
    refine mm_isub dX4_canGoOn_16 ?_
    rw [show nI n - 1 = nI (n - 1) from pk_sub (a := n) (b := 1) (by omega)]
    refine mm_ialdN (i := (n - 1)) dX4_canGoOn_17 a71 (by omega) (by decide) ?_
    refine mm_iload_n dX4_canGoOn_18 rfl ?_
    refine mm_icmp_ne 41 dX4_canGoOn_19 (by decide) (fun c2 => ?_) (fun c2 => ?_)
    · refine mm_iconst (v := 0) dX4_canGoOn_41 (by decide +kernel) ?_
      refine mm_iret rfl rfl dX4_canGoOn_42 ?_
      exact ⟨by simp [c1, c2] <;> (intros; omega), rfl⟩
    · refine mm_aload_n dX4_canGoOn_22 rfl ?_
      refine mm_get lk_X4_9_X4 dX4_canGoOn_23 a69 rfl ?_
      refine mm_aload_n dX4_canGoOn_26 rfl ?_
      refine mm_get lk_X4_30_X4 dX4_canGoOn_27 a69 rfl ?_
      refine mm_iconst (v := 1) dX4_canGoOn_30 (by decide +kernel) ?_
      refine mm_isub dX4_canGoOn_31 ?_
      rw [show nI n - 1 = nI (n - 1) from pk_sub (a := n) (b := 1) (by omega)]
      refine mm_ialdN (i := (n - 1)) dX4_canGoOn_32 a70 (by omega) (by decide) ?_
      refine mm_iconst (v := 5) dX4_canGoOn_33 (by decide +kernel) ?_
      refine mm_icmp_eq 41 dX4_canGoOn_34 (by decide) (fun c3 => ?_) (fun c3 => ?_)
      · refine mm_iconst (v := 0) dX4_canGoOn_41 (by decide +kernel) ?_
        refine mm_iret rfl rfl dX4_canGoOn_42 ?_
        exact ⟨by simp [c1, c2, c3] <;> (intros; omega), rfl⟩
      · refine mm_iconst (v := 1) dX4_canGoOn_37 (by decide +kernel) ?_
        refine mm_goto 42 dX4_canGoOn_38 (by decide) ?_
        refine mm_iret rfl rfl dX4_canGoOn_42 ?_
        exact ⟨by simp [c1, c2, c3] <;> (intros; omega), rfl⟩
def saOf (pg pl : Nat → Int32) (p q : Int32) : Nat → Nat → Int32
  | 0, _ => -1
  | k + 1, i => if pg i = p ∧ pl i = q then nI i else saOf pg pl p q k (i + 1)
theorem m_Li_standingAt_loop {g : mm_G} {d n mk : Nat} {h : mm_Hp} {kd si pg pl fi an : Nat → Int32} {p q : Int32} (L : LiAt h n mk kd si pg pl fi an) (hn : n ≤ 200) : ∀ (k i : Nat), i + k = n → mm_P g d MX4_standingAt 2 [some (.ref 69), some (.int p), some (.int q), some (.int (nI i))] [] h (mm_pureI (saOf pg pl p q k i) h) := by
  obtain ⟨a69, a70, a71, a72, a73, a74, a75⟩ := L
  intro k
  induction k with
  | zero =>
    intro i hi
    refine mm_iload_n dX4_standingAt_2 rfl ?_
    refine mm_aload_n dX4_standingAt_3 rfl ?_
    refine mm_get lk_X4_30_X4 dX4_standingAt_4 a69 rfl ?_
    refine mm_icmp_ge 38 dX4_standingAt_7 (by decide) (fun c1 => ?_) (fun c1 => ?_)
    · have c1 : n ≤ i := (nI_leI (a := n) (b := i) (by omega) (by omega)).mp c1
      refine mm_iconst (v := (-1)) dX4_standingAt_38 (by decide +kernel) ?_
      refine mm_iret rfl rfl dX4_standingAt_39 ?_
      exact ⟨rfl, rfl⟩
    · have c1 : ¬ n ≤ i := fun z => c1 ((nI_leI (a := n) (b := i) (by omega) (by omega)).mpr z)
      exact absurd (show n ≤ i by omega) c1
  | succ k ih =>
    intro i hi
    refine mm_iload_n dX4_standingAt_2 rfl ?_
    refine mm_aload_n dX4_standingAt_3 rfl ?_
    refine mm_get lk_X4_30_X4 dX4_standingAt_4 a69 rfl ?_
    refine mm_icmp_ge 38 dX4_standingAt_7 (by decide) (fun c1 => ?_) (fun c1 => ?_)
    · have c1 : n ≤ i := (nI_leI (a := n) (b := i) (by omega) (by omega)).mp c1
      exact absurd c1 (by omega)
    · have c1 : ¬ n ≤ i := fun z => c1 ((nI_leI (a := n) (b := i) (by omega) (by omega)).mpr z)
      refine mm_aload_n dX4_standingAt_10 rfl ?_
      refine mm_get lk_X4_18_X4 dX4_standingAt_11 a69 rfl ?_
      refine mm_iload_n dX4_standingAt_14 rfl ?_
      refine mm_ialdN (i := i) dX4_standingAt_15 a72 (by omega) (by decide) ?_
      refine mm_iload_n dX4_standingAt_16 rfl ?_
      refine mm_icmp_ne 32 dX4_standingAt_17 (by decide) (fun c2 => ?_) (fun c2 => ?_)
      · refine mm_iinc (v := nI (i + 1)) (ls' := [some (.ref 69), some (.int p), some (.int q), some (.int (nI (i + 1)))]) dX4_standingAt_32 rfl (nI_1 _) rfl ?_
        refine mm_goto 2 dX4_standingAt_35 (by decide) ?_
        have q := ih (i + 1) (by omega)
        rw [saOf, if_neg (fun z => c2 z.1)]
        exact q
      · refine mm_aload_n dX4_standingAt_20 rfl ?_
        refine mm_get lk_X4_21_X4 dX4_standingAt_21 a69 rfl ?_
        refine mm_iload_n dX4_standingAt_24 rfl ?_
        refine mm_ialdN (i := i) dX4_standingAt_25 a73 (by omega) (by decide) ?_
        refine mm_iload_n dX4_standingAt_26 rfl ?_
        refine mm_icmp_ne 32 dX4_standingAt_27 (by decide) (fun c3 => ?_) (fun c3 => ?_)
        · refine mm_iinc (v := nI (i + 1)) (ls' := [some (.ref 69), some (.int p), some (.int q), some (.int (nI (i + 1)))]) dX4_standingAt_32 rfl (nI_1 _) rfl ?_
          refine mm_goto 2 dX4_standingAt_35 (by decide) ?_
          have q := ih (i + 1) (by omega)
          rw [saOf, if_neg (fun z => c3 z.2)]
          exact q
        · refine mm_iload_n dX4_standingAt_30 rfl ?_
          refine mm_iret rfl rfl dX4_standingAt_31 ?_
          refine ⟨?_, rfl⟩
          rw [saOf, if_pos ⟨c2, c3⟩]
theorem m_Li_standingAt {g : mm_G} {d n mk : Nat} {h : mm_Hp} {kd si pg pl fi an : Nat → Int32} {p q : Int32} (L : LiAt h n mk kd si pg pl fi an) (hn : n ≤ 200) : mm_P g d MX4_standingAt 0 [some (.ref 69), some (.int p), some (.int q), none] [] h (mm_pureI (saOf pg pl p q n 0) h) := by
  refine mm_iconst (v := 0) dX4_standingAt_0 (by decide +kernel) ?_
  refine mm_istore_n (ls' := [some (.ref 69), some (.int p), some (.int q), some (.int 0)]) dX4_standingAt_1 (Nat.le_of_ble_eq_true rfl) rfl ?_
  exact m_Li_standingAt_loop L hn n 0 (by omega)
theorem m_Li_answerTo1 {g : mm_G} {d n mk : Nat} {h : mm_Hp} {kd si pg pl fi an : Nat → Int32} {i m : Nat} (hd : 1 ≤ d) (L : LiAt h n mk kd si pg pl fi an) (hn : n ≤ 200) (hi : i < 200) (hm : m < n) (e : fi i = nI m) : mm_P g d MX4_answerTo 0 [some (.ref 69), some (.int (nI i)), none] [] h (mm_pureI (an m) h) := by
  obtain ⟨a69, a70, a71, a72, a73, a74, a75⟩ := L
  refine mm_aload_n dX4_answerTo_0 rfl ?_
  refine mm_get lk_X4_24_X4 dX4_answerTo_1 a69 rfl ?_
  refine mm_iload_n dX4_answerTo_4 rfl ?_
  refine mm_ialdN (i := i) dX4_answerTo_5 a74 (by omega) (by decide) ?_
  rw [e]
  refine mm_istore_n (ls' := [some (.ref 69), some (.int (nI i)), some (.int (nI m))]) dX4_answerTo_6 (Nat.le_of_ble_eq_true rfl) rfl ?_
  refine mm_aload_n dX4_answerTo_7 rfl ?_
  refine mm_iload_n dX4_answerTo_8 rfl ?_
  refine mm_callU (d' := d - 1) (x := ⟨"TestimonyBook$Lines", "has", "(I)Z"⟩) (owner := "TestimonyBook$Rows") (as := [.int (nI m)]) (st := []) (by omega) cm_X9_has rfl (mm_t3 14 rfl rfl) (mm_t3 15 rfl rfl) (mm_t3 18 rfl rfl) (mm_t3 17 rfl rfl) (T := TX4) (N := 9) rfl dX4_answerTo_9 a69 rfl (Nat.le_of_ble_eq_true rfl) (Nat.le_of_ble_eq_true rfl) rfl rfl (m_has lk_X9_13_X4 a69 rfl) (fun E u1 q => by cases q.1) (fun v u1 q => ?_)
  obtain ⟨q1, q2⟩ := q
  cases q1
  rw [q2]
  show mm_P g d MX4_answerTo (9 + 3) _ [.int (if 0 ≤ nI m ∧ nI m < nI n then 1 else 0)] h _
  rw [if_pos ⟨nI_pos' (by omega), nI_lt (by omega) (by omega)⟩]
  refine mm_if_eq 24 dX4_answerTo_12 (by decide) (fun c => absurd c (by decide)) (fun _ => ?_)
  refine mm_aload_n dX4_answerTo_15 rfl ?_
  refine mm_get lk_X4_27_X4 dX4_answerTo_16 a69 rfl ?_
  refine mm_iload_n dX4_answerTo_19 rfl ?_
  refine mm_ialdN (i := m) dX4_answerTo_20 a75 (by omega) (by decide) ?_
  refine mm_goto 25 dX4_answerTo_21 (by decide) ?_
  refine mm_iret rfl rfl dX4_answerTo_25 ?_
  exact ⟨rfl, rfl⟩
theorem m_Li_answerTo0 {g : mm_G} {d n mk : Nat} {h : mm_Hp} {kd si pg pl fi an : Nat → Int32} {i : Nat} (hd : 1 ≤ d) (L : LiAt h n mk kd si pg pl fi an) (hn : n ≤ 200) (hi : i < 200) (e : fi i = -1) : mm_P g d MX4_answerTo 0 [some (.ref 69), some (.int (nI i)), none] [] h (mm_pureI (-1) h) := by
  obtain ⟨a69, a70, a71, a72, a73, a74, a75⟩ := L
  refine mm_aload_n dX4_answerTo_0 rfl ?_
  refine mm_get lk_X4_24_X4 dX4_answerTo_1 a69 rfl ?_
  refine mm_iload_n dX4_answerTo_4 rfl ?_
  refine mm_ialdN (i := i) dX4_answerTo_5 a74 (by omega) (by decide) ?_
  rw [e]
  refine mm_istore_n (ls' := [some (.ref 69), some (.int (nI i)), some (.int (-1))]) dX4_answerTo_6 (Nat.le_of_ble_eq_true rfl) rfl ?_
  refine mm_aload_n dX4_answerTo_7 rfl ?_
  refine mm_iload_n dX4_answerTo_8 rfl ?_
  refine mm_callU (d' := d - 1) (x := ⟨"TestimonyBook$Lines", "has", "(I)Z"⟩) (owner := "TestimonyBook$Rows") (as := [.int (-1)]) (st := []) (by omega) cm_X9_has rfl (mm_t3 14 rfl rfl) (mm_t3 15 rfl rfl) (mm_t3 18 rfl rfl) (mm_t3 17 rfl rfl) (T := TX4) (N := 9) rfl dX4_answerTo_9 a69 rfl (Nat.le_of_ble_eq_true rfl) (Nat.le_of_ble_eq_true rfl) rfl rfl (m_has lk_X9_13_X4 a69 rfl) (fun E u1 q => by cases q.1) (fun v u1 q => ?_)
  obtain ⟨q1, q2⟩ := q
  cases q1
  rw [q2]
  show mm_P g d MX4_answerTo (9 + 3) _ [.int (if 0 ≤ (-1) ∧ (-1) < nI n then 1 else 0)] h _
  rw [if_neg (fun z => absurd z.1 (by decide))]
  refine mm_if_eq 24 dX4_answerTo_12 (by decide) (fun _ => ?_) (fun c => absurd (by decide) c)
  refine mm_iconst (v := (-1)) dX4_answerTo_24 (by decide +kernel) ?_
  refine mm_iret rfl rfl dX4_answerTo_25 ?_
  exact ⟨rfl, rfl⟩
theorem m_Li_kindOfEntry1 {g : mm_G} {d n mk : Nat} {h : mm_Hp} {kd si pg pl fi an : Nat → Int32} {i m : Nat} (hd : 1 ≤ d) (L : LiAt h n mk kd si pg pl fi an) (hn : n ≤ 200) (hi : i < 200) (hm : m < n) (e : fi i = nI m) : mm_P g d MX4_kindOfEntry 0 [some (.ref 69), some (.int (nI i)), none] [] h (mm_pureI (kd m) h) := by
  obtain ⟨a69, a70, a71, a72, a73, a74, a75⟩ := L
  refine mm_aload_n dX4_kindOfEntry_0 rfl ?_
  refine mm_get lk_X4_24_X4 dX4_kindOfEntry_1 a69 rfl ?_
  refine mm_iload_n dX4_kindOfEntry_4 rfl ?_
  refine mm_ialdN (i := i) dX4_kindOfEntry_5 a74 (by omega) (by decide) ?_
  rw [e]
  refine mm_istore_n (ls' := [some (.ref 69), some (.int (nI i)), some (.int (nI m))]) dX4_kindOfEntry_6 (Nat.le_of_ble_eq_true rfl) rfl ?_
  refine mm_aload_n dX4_kindOfEntry_7 rfl ?_
  refine mm_iload_n dX4_kindOfEntry_8 rfl ?_
  refine mm_callU (d' := d - 1) (x := ⟨"TestimonyBook$Lines", "has", "(I)Z"⟩) (owner := "TestimonyBook$Rows") (as := [.int (nI m)]) (st := []) (by omega) cm_X9_has rfl (mm_t3 14 rfl rfl) (mm_t3 15 rfl rfl) (mm_t3 18 rfl rfl) (mm_t3 17 rfl rfl) (T := TX4) (N := 9) rfl dX4_kindOfEntry_9 a69 rfl (Nat.le_of_ble_eq_true rfl) (Nat.le_of_ble_eq_true rfl) rfl rfl (m_has lk_X9_13_X4 a69 rfl) (fun E u1 q => by cases q.1) (fun v u1 q => ?_)
  obtain ⟨q1, q2⟩ := q
  cases q1
  rw [q2]
  show mm_P g d MX4_kindOfEntry (9 + 3) _ [.int (if 0 ≤ nI m ∧ nI m < nI n then 1 else 0)] h _
  rw [if_pos ⟨nI_pos' (by omega), nI_lt (by omega) (by omega)⟩]
  refine mm_if_eq 24 dX4_kindOfEntry_12 (by decide) (fun c => absurd c (by decide)) (fun _ => ?_)
  refine mm_aload_n dX4_kindOfEntry_15 rfl ?_
  refine mm_get lk_X4_9_X4 dX4_kindOfEntry_16 a69 rfl ?_
  refine mm_iload_n dX4_kindOfEntry_19 rfl ?_
  refine mm_ialdN (i := m) dX4_kindOfEntry_20 a70 (by omega) (by decide) ?_
  refine mm_goto 25 dX4_kindOfEntry_21 (by decide) ?_
  refine mm_iret rfl rfl dX4_kindOfEntry_25 ?_
  exact ⟨rfl, rfl⟩
theorem m_Li_kindOfEntry0 {g : mm_G} {d n mk : Nat} {h : mm_Hp} {kd si pg pl fi an : Nat → Int32} {i : Nat} (hd : 1 ≤ d) (L : LiAt h n mk kd si pg pl fi an) (hn : n ≤ 200) (hi : i < 200) (e : fi i = -1) : mm_P g d MX4_kindOfEntry 0 [some (.ref 69), some (.int (nI i)), none] [] h (mm_pureI (5) h) := by
  obtain ⟨a69, a70, a71, a72, a73, a74, a75⟩ := L
  refine mm_aload_n dX4_kindOfEntry_0 rfl ?_
  refine mm_get lk_X4_24_X4 dX4_kindOfEntry_1 a69 rfl ?_
  refine mm_iload_n dX4_kindOfEntry_4 rfl ?_
  refine mm_ialdN (i := i) dX4_kindOfEntry_5 a74 (by omega) (by decide) ?_
  rw [e]
  refine mm_istore_n (ls' := [some (.ref 69), some (.int (nI i)), some (.int (-1))]) dX4_kindOfEntry_6 (Nat.le_of_ble_eq_true rfl) rfl ?_
  refine mm_aload_n dX4_kindOfEntry_7 rfl ?_
  refine mm_iload_n dX4_kindOfEntry_8 rfl ?_
  refine mm_callU (d' := d - 1) (x := ⟨"TestimonyBook$Lines", "has", "(I)Z"⟩) (owner := "TestimonyBook$Rows") (as := [.int (-1)]) (st := []) (by omega) cm_X9_has rfl (mm_t3 14 rfl rfl) (mm_t3 15 rfl rfl) (mm_t3 18 rfl rfl) (mm_t3 17 rfl rfl) (T := TX4) (N := 9) rfl dX4_kindOfEntry_9 a69 rfl (Nat.le_of_ble_eq_true rfl) (Nat.le_of_ble_eq_true rfl) rfl rfl (m_has lk_X9_13_X4 a69 rfl) (fun E u1 q => by cases q.1) (fun v u1 q => ?_)
  obtain ⟨q1, q2⟩ := q
  cases q1
  rw [q2]
  show mm_P g d MX4_kindOfEntry (9 + 3) _ [.int (if 0 ≤ (-1) ∧ (-1) < nI n then 1 else 0)] h _
  rw [if_neg (fun z => absurd z.1 (by decide))]
  refine mm_if_eq 24 dX4_kindOfEntry_12 (by decide) (fun _ => ?_) (fun c => absurd (by decide) c)
  refine mm_iconst (v := 5) dX4_kindOfEntry_24 (by decide +kernel) ?_
  refine mm_iret rfl rfl dX4_kindOfEntry_25 ?_
  exact ⟨rfl, rfl⟩
def pgV (si pg pl : Nat → Int32) (i : Nat) : Int32 := if i = 0 then 1 else if ¬ si (i - 1) = si i ∨ pl (i - 1) = 10 then pg (i - 1) + 1 else pg (i - 1)
def plV (si pl : Nat → Int32) (i : Nat) : Int32 := if i = 0 then 1 else if ¬ si (i - 1) = si i ∨ pl (i - 1) = 10 then 1 else pl (i - 1) + 1
theorem m_Li_setPage {g : mm_G} {d n mk : Nat} {h : mm_Hp} {kd si pg pl fi an : Nat → Int32} {i : Nat} (L : LiAt h n mk kd si pg pl fi an) (hi : i < 200) : mm_P g d MX4_setPage 0 [some (.ref 69), some (.int (nI i))] [] h (fun o h' => o = .inl none ∧ LiAt h' n mk kd si (upd pg i (pgV si pg pl i)) (upd pl i (plV si pl i)) fi an ∧ mm_fr 69 75 h h') := by
  obtain ⟨a69, a70, a71, a72, a73, a74, a75⟩ := L
  refine mm_iload_n dX4_setPage_0 rfl ?_
  refine mm_if_ne 21 dX4_setPage_1 (by decide) (fun c1 => ?_) (fun c1 => ?_)
  · have c1 : ¬ i = 0 := fun z => c1 ((nI_eq (a := i) (b := 0) (by omega) (by omega)).mpr z)
    refine mm_aload_n dX4_setPage_21 rfl ?_
    refine mm_get lk_X4_15_X4 dX4_setPage_22 a69 rfl ?_
    refine mm_iload_n dX4_setPage_25 rfl ?_
    refine mm_iconst (v := 1) dX4_setPage_26 (by decide +kernel) ?_
    refine mm_isub dX4_setPage_27 ?_
    rw [show nI i - 1 = nI (i - 1) from pk_sub (a := i) (b := 1) (by omega)]
    refine mm_ialdN (i := (i - 1)) dX4_setPage_28 a71 (by omega) (by decide) ?_
    refine mm_aload_n dX4_setPage_29 rfl ?_
    refine mm_get lk_X4_15_X4 dX4_setPage_30 a69 rfl ?_
    refine mm_iload_n dX4_setPage_33 rfl ?_
    refine mm_ialdN (i := i) dX4_setPage_34 a71 (by omega) (by decide) ?_
    refine mm_icmp_ne 51 dX4_setPage_35 (by decide) (fun c2 => ?_) (fun c2 => ?_)
    · refine mm_aload_n dX4_setPage_51 rfl ?_
      refine mm_get lk_X4_18_X4 dX4_setPage_52 a69 rfl ?_
      refine mm_iload_n dX4_setPage_55 rfl ?_
      refine mm_aload_n dX4_setPage_56 rfl ?_
      refine mm_get lk_X4_18_X4 dX4_setPage_57 a69 rfl ?_
      refine mm_iload_n dX4_setPage_60 rfl ?_
      refine mm_iconst (v := 1) dX4_setPage_61 (by decide +kernel) ?_
      refine mm_isub dX4_setPage_62 ?_
      rw [show nI i - 1 = nI (i - 1) from pk_sub (a := i) (b := 1) (by omega)]
      refine mm_ialdN (i := (i - 1)) dX4_setPage_63 a72 (by omega) (by decide) ?_
      refine mm_iconst (v := 1) dX4_setPage_64 (by decide +kernel) ?_
      refine mm_iadd dX4_setPage_65 ?_
      refine mm_iastN (i := i) dX4_setPage_66 a72 (by omega) (by decide) (fun h3 eh3 => ?_)
      have a69 := mm_at.ne1 a69 eh3 (by decide)
      have a70 := mm_at.ne1 a70 eh3 (by decide)
      have a71 := mm_at.ne1 a71 eh3 (by decide)
      have a72 := mm_at.up1 a72 eh3
      have a73 := mm_at.ne1 a73 eh3 (by decide)
      have a74 := mm_at.ne1 a74 eh3 (by decide)
      have a75 := mm_at.ne1 a75 eh3 (by decide)
      refine mm_aload_n dX4_setPage_67 rfl ?_
      refine mm_get lk_X4_21_X4 dX4_setPage_68 a69 rfl ?_
      refine mm_iload_n dX4_setPage_71 rfl ?_
      refine mm_iconst (v := 1) dX4_setPage_72 (by decide +kernel) ?_
      refine mm_iastN (i := i) dX4_setPage_73 a73 (by omega) (by decide) (fun h4 eh4 => ?_)
      have a69 := mm_at.ne1 a69 eh4 (by decide)
      have a70 := mm_at.ne1 a70 eh4 (by decide)
      have a71 := mm_at.ne1 a71 eh4 (by decide)
      have a72 := mm_at.ne1 a72 eh4 (by decide)
      have a73 := mm_at.up1 a73 eh4
      have a74 := mm_at.ne1 a74 eh4 (by decide)
      have a75 := mm_at.ne1 a75 eh4 (by decide)
      refine mm_goto 107 dX4_setPage_74 (by decide) ?_
      refine mm_vret rfl dX4_setPage_107 ?_
      have e1 : pgV si pg pl i = ((pg (i - 1)) + 1) := by simp [pgV, c1, c2]
      have e2 : plV si pl i = 1 := by simp [plV, c1, c2]
      exact ⟨rfl, by rw [e1, e2]; exact ⟨a69, a70, a71, a72, a73, a74, a75⟩, (mm_fr.up (mm_fr.up mm_fr.rfl eh3 (by decide) (by decide)) eh4 (by decide) (by decide))⟩
    · refine mm_aload_n dX4_setPage_38 rfl ?_
      refine mm_get lk_X4_21_X4 dX4_setPage_39 a69 rfl ?_
      refine mm_iload_n dX4_setPage_42 rfl ?_
      refine mm_iconst (v := 1) dX4_setPage_43 (by decide +kernel) ?_
      refine mm_isub dX4_setPage_44 ?_
      rw [show nI i - 1 = nI (i - 1) from pk_sub (a := i) (b := 1) (by omega)]
      refine mm_ialdN (i := (i - 1)) dX4_setPage_45 a73 (by omega) (by decide) ?_
      refine mm_bipush (v := 10) dX4_setPage_46 (by decide +kernel) ?_
      refine mm_icmp_ne 77 dX4_setPage_48 (by decide) (fun c5 => ?_) (fun c5 => ?_)
      · refine mm_aload_n dX4_setPage_77 rfl ?_
        refine mm_get lk_X4_18_X4 dX4_setPage_78 a69 rfl ?_
        refine mm_iload_n dX4_setPage_81 rfl ?_
        refine mm_aload_n dX4_setPage_82 rfl ?_
        refine mm_get lk_X4_18_X4 dX4_setPage_83 a69 rfl ?_
        refine mm_iload_n dX4_setPage_86 rfl ?_
        refine mm_iconst (v := 1) dX4_setPage_87 (by decide +kernel) ?_
        refine mm_isub dX4_setPage_88 ?_
        rw [show nI i - 1 = nI (i - 1) from pk_sub (a := i) (b := 1) (by omega)]
        refine mm_ialdN (i := (i - 1)) dX4_setPage_89 a72 (by omega) (by decide) ?_
        refine mm_iastN (i := i) dX4_setPage_90 a72 (by omega) (by decide) (fun h6 eh6 => ?_)
        have a69 := mm_at.ne1 a69 eh6 (by decide)
        have a70 := mm_at.ne1 a70 eh6 (by decide)
        have a71 := mm_at.ne1 a71 eh6 (by decide)
        have a72 := mm_at.up1 a72 eh6
        have a73 := mm_at.ne1 a73 eh6 (by decide)
        have a74 := mm_at.ne1 a74 eh6 (by decide)
        have a75 := mm_at.ne1 a75 eh6 (by decide)
        refine mm_aload_n dX4_setPage_91 rfl ?_
        refine mm_get lk_X4_21_X4 dX4_setPage_92 a69 rfl ?_
        refine mm_iload_n dX4_setPage_95 rfl ?_
        refine mm_aload_n dX4_setPage_96 rfl ?_
        refine mm_get lk_X4_21_X4 dX4_setPage_97 a69 rfl ?_
        refine mm_iload_n dX4_setPage_100 rfl ?_
        refine mm_iconst (v := 1) dX4_setPage_101 (by decide +kernel) ?_
        refine mm_isub dX4_setPage_102 ?_
        rw [show nI i - 1 = nI (i - 1) from pk_sub (a := i) (b := 1) (by omega)]
        refine mm_ialdN (i := (i - 1)) dX4_setPage_103 a73 (by omega) (by decide) ?_
        refine mm_iconst (v := 1) dX4_setPage_104 (by decide +kernel) ?_
        refine mm_iadd dX4_setPage_105 ?_
        refine mm_iastN (i := i) dX4_setPage_106 a73 (by omega) (by decide) (fun h7 eh7 => ?_)
        have a69 := mm_at.ne1 a69 eh7 (by decide)
        have a70 := mm_at.ne1 a70 eh7 (by decide)
        have a71 := mm_at.ne1 a71 eh7 (by decide)
        have a72 := mm_at.ne1 a72 eh7 (by decide)
        have a73 := mm_at.up1 a73 eh7
        have a74 := mm_at.ne1 a74 eh7 (by decide)
        have a75 := mm_at.ne1 a75 eh7 (by decide)
        refine mm_vret rfl dX4_setPage_107 ?_
        have e1 : pgV si pg pl i = (pg (i - 1)) := by simp [pgV, c1, c2, c5]
        have e2 : plV si pl i = ((pl (i - 1)) + 1) := by simp [plV, c1, c2, c5]
        exact ⟨rfl, by rw [e1, e2]; exact ⟨a69, a70, a71, a72, a73, a74, a75⟩, (mm_fr.up (mm_fr.up mm_fr.rfl eh6 (by decide) (by decide)) eh7 (by decide) (by decide))⟩
      · refine mm_aload_n dX4_setPage_51 rfl ?_
        refine mm_get lk_X4_18_X4 dX4_setPage_52 a69 rfl ?_
        refine mm_iload_n dX4_setPage_55 rfl ?_
        refine mm_aload_n dX4_setPage_56 rfl ?_
        refine mm_get lk_X4_18_X4 dX4_setPage_57 a69 rfl ?_
        refine mm_iload_n dX4_setPage_60 rfl ?_
        refine mm_iconst (v := 1) dX4_setPage_61 (by decide +kernel) ?_
        refine mm_isub dX4_setPage_62 ?_
        rw [show nI i - 1 = nI (i - 1) from pk_sub (a := i) (b := 1) (by omega)]
        refine mm_ialdN (i := (i - 1)) dX4_setPage_63 a72 (by omega) (by decide) ?_
        refine mm_iconst (v := 1) dX4_setPage_64 (by decide +kernel) ?_
        refine mm_iadd dX4_setPage_65 ?_
        refine mm_iastN (i := i) dX4_setPage_66 a72 (by omega) (by decide) (fun h8 eh8 => ?_)
        have a69 := mm_at.ne1 a69 eh8 (by decide)
        have a70 := mm_at.ne1 a70 eh8 (by decide)
        have a71 := mm_at.ne1 a71 eh8 (by decide)
        have a72 := mm_at.up1 a72 eh8
        have a73 := mm_at.ne1 a73 eh8 (by decide)
        have a74 := mm_at.ne1 a74 eh8 (by decide)
        have a75 := mm_at.ne1 a75 eh8 (by decide)
        refine mm_aload_n dX4_setPage_67 rfl ?_
        refine mm_get lk_X4_21_X4 dX4_setPage_68 a69 rfl ?_
        refine mm_iload_n dX4_setPage_71 rfl ?_
        refine mm_iconst (v := 1) dX4_setPage_72 (by decide +kernel) ?_
        refine mm_iastN (i := i) dX4_setPage_73 a73 (by omega) (by decide) (fun h9 eh9 => ?_)
        have a69 := mm_at.ne1 a69 eh9 (by decide)
        have a70 := mm_at.ne1 a70 eh9 (by decide)
        have a71 := mm_at.ne1 a71 eh9 (by decide)
        have a72 := mm_at.ne1 a72 eh9 (by decide)
        have a73 := mm_at.up1 a73 eh9
        have a74 := mm_at.ne1 a74 eh9 (by decide)
        have a75 := mm_at.ne1 a75 eh9 (by decide)
        refine mm_goto 107 dX4_setPage_74 (by decide) ?_
        refine mm_vret rfl dX4_setPage_107 ?_
        have e1 : pgV si pg pl i = ((pg (i - 1)) + 1) := by simp [pgV, c1, c2, c5]
        have e2 : plV si pl i = 1 := by simp [plV, c1, c2, c5]
        exact ⟨rfl, by rw [e1, e2]; exact ⟨a69, a70, a71, a72, a73, a74, a75⟩, (mm_fr.up (mm_fr.up mm_fr.rfl eh8 (by decide) (by decide)) eh9 (by decide) (by decide))⟩
  · have c1 : i = 0 := (nI_eq (a := i) (b := 0) (by omega) (by omega)).mp c1
    refine mm_aload_n dX4_setPage_4 rfl ?_
    refine mm_get lk_X4_18_X4 dX4_setPage_5 a69 rfl ?_
    refine mm_iload_n dX4_setPage_8 rfl ?_
    refine mm_iconst (v := 1) dX4_setPage_9 (by decide +kernel) ?_
    refine mm_iastN (i := i) dX4_setPage_10 a72 (by omega) (by decide) (fun h10 eh10 => ?_)
    have a69 := mm_at.ne1 a69 eh10 (by decide)
    have a70 := mm_at.ne1 a70 eh10 (by decide)
    have a71 := mm_at.ne1 a71 eh10 (by decide)
    have a72 := mm_at.up1 a72 eh10
    have a73 := mm_at.ne1 a73 eh10 (by decide)
    have a74 := mm_at.ne1 a74 eh10 (by decide)
    have a75 := mm_at.ne1 a75 eh10 (by decide)
    refine mm_aload_n dX4_setPage_11 rfl ?_
    refine mm_get lk_X4_21_X4 dX4_setPage_12 a69 rfl ?_
    refine mm_iload_n dX4_setPage_15 rfl ?_
    refine mm_iconst (v := 1) dX4_setPage_16 (by decide +kernel) ?_
    refine mm_iastN (i := i) dX4_setPage_17 a73 (by omega) (by decide) (fun h11 eh11 => ?_)
    have a69 := mm_at.ne1 a69 eh11 (by decide)
    have a70 := mm_at.ne1 a70 eh11 (by decide)
    have a71 := mm_at.ne1 a71 eh11 (by decide)
    have a72 := mm_at.ne1 a72 eh11 (by decide)
    have a73 := mm_at.up1 a73 eh11
    have a74 := mm_at.ne1 a74 eh11 (by decide)
    have a75 := mm_at.ne1 a75 eh11 (by decide)
    refine mm_goto 107 dX4_setPage_18 (by decide) ?_
    refine mm_vret rfl dX4_setPage_107 ?_
    have e1 : pgV si pg pl i = 1 := by simp [pgV, c1]
    have e2 : plV si pl i = 1 := by simp [plV, c1]
    exact ⟨rfl, by rw [e1, e2]; exact ⟨a69, a70, a71, a72, a73, a74, a75⟩, (mm_fr.up (mm_fr.up mm_fr.rfl eh10 (by decide) (by decide)) eh11 (by decide) (by decide))⟩
