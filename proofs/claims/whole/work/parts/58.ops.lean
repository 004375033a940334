/-! mention, days, order, lift, status, told -/
section PM
variable {C D : CS} {k x y v : Int32} {N : Nat}
theorem nI01 {y : Int32} : (¬ y < 0 ∧ y ≤ 1) ↔ (y = 0 ∨ y = 1) := by
  constructor
  · intro ⟨h1, h2⟩
    obtain ⟨j, j1, rfl⟩ := nI_of h1
    have := (nI_leI (b := 1) j1 (by decide)).mp h2
    have : j = 0 ∨ j = 1 := by omega
    rcases this with rfl | rfl
    · left; rfl
    · right; rfl
  · rintro (rfl | rfl) <;> decide
theorem op_mention {cI : Int32} (R : Inv C D) : Both 1 cI (Kept C D) (f_X11_mention x y C) (f_X12_mention x y D) := by
  obtain ⟨nL, nR, nF, nM, nN, nX, nO, nD, t, o, s, w, fp, cid, Q⟩ := id R
  refine Both.sees R ?_
  have Q2 := Q.cg (C1 := C) (D1 := sI D 11300 0) EqC.rfl EqD.code
  obtain ⟨m1, m2, m3, m4, m5⟩ := Q2.2.2.2.2.2.1
  have S : Sees C D C (sI D 11300 0) := ⟨EqC.rfl, EqD.code⟩
  unfold f_X11_mention f_X11_mention_J20 f_X11_mention_J24 f_X12_mention
  rw [bd_eq, m2, m3, c_dem0, c_dem1, bnx_l, bnx_r, d_fail, bnd_some]
  by_cases cx : hasT (nI nM) x = 0
  · rw [if_pos cx]
    refine both_N (C1 := C) (b := 0) rfl ?_ rfl ⟨EqC.rfl, E01⟩
    by_cases c1 : x < 0
    · rw [if_pos c1]
    · rw [if_neg c1, if_pos (Int32.not_lt.mp (fun z => hasT_x cx ⟨Int32.not_lt.mp c1, z⟩))]
  · rw [if_neg cx]
    obtain ⟨i, i1, rfl⟩ := has_ex (by omega) cx
    obtain ⟨a1, a2⟩ := m5 i i1
    rw [if_neg (nI_pos (by omega)), if_neg (nI_ge i1 (by omega)), inb_nI (by omega) (by decide), nI_clamp (by omega), a1, a2, if_pos rfl, if_pos rfl, if_pos rfl, if_pos rfl]
    by_cases cy : y = 0 ∨ y = 1
    · obtain ⟨y1, y2⟩ := nI01.mpr cy
      rw [if_neg y1, if_pos y2]
      by_cases c0 : y = 0
      · rw [if_pos c0, if_pos c0, if_pos c0]
        exact both_0 rfl rfl rfl S
      · rw [if_neg c0, if_pos (cy.resolve_left c0), if_neg c0, if_neg c0]
        exact both_0 rfl rfl rfl S
    · have c0 : ¬ y = 0 := fun z => cy (Or.inl z)
      have c1 : ¬ y = 1 := fun z => cy (Or.inr z)
      rw [if_neg c0, if_neg c1]
      refine both_N (C1 := C) (b := 0) rfl ?_ rfl ⟨EqC.rfl, E01⟩
      by_cases y1 : y < 0
      · rw [if_pos y1]
      · rw [if_neg y1, if_neg (fun z => cy (nI01.mp ⟨y1, z⟩))]
theorem op_status {cI : Int32} (R : Inv C D) (hN : 20000 < N) : Both 1 cI (Kept C D) (f_X11_status N x k y C) (f_X12_status N x k y D) := by
  obtain ⟨nL, nR, nF, nM, nN, nX, nO, nD, t, o, s, w, fp, cid, Q⟩ := id R
  refine Both.sees R ?_
  have Q2 := Q.cg (C1 := C) (D1 := sI D 11300 0) EqC.rfl EqD.code
  have hL := Q.1.1
  have S : Sees C D C (sI D 11300 0) := ⟨EqC.rfl, EqD.code⟩
  obtain ⟨s1, s2⟩ := Q2.2.2.2.1.strike (N := N) (l := x) (k := k) (by omega)
  obtain ⟨l1, l2⟩ := Q2.2.2.2.1.level (N := N) (l := x) (k := k) (by omega)
  unfold f_X11_status f_X11_status_J20 f_X11_status_J24 f_X12_status
  rw [bd_eq, Q2.1.2.1, d_isLine Q2.1.2.2.1, c_dem0, c_dem1, bnx_l, bnx_r, d_fail, s1, s2, l1, l2, bnd_some, bnd_some, bnd_some, bnd_some, bnd_some, bnd_some]
  by_cases cx : hasT (nI nL) x = 0
  · rw [if_pos cx, if_pos cx]
    exact both_N (C1 := C) rfl rfl rfl ⟨EqC.rfl, E01⟩
  · rw [if_neg cx, if_neg cx]
    by_cases cy : y = 0 ∨ y = 1
    · obtain ⟨y1, y2⟩ := nI01.mpr cy
      rw [if_neg y1, if_pos y2]
      by_cases c0 : y = 0
      · subst c0
        rw [if_pos rfl, if_neg (show ¬ (0 : Int32) = 1 by decide), if_neg (show ¬ (0 : Int32) = 1 by decide)]
        cases sk (sI D 11300 0) nO x k
        · rw [if_pos (b2_0.mpr rfl), if_pos (b2_0.mpr rfl)]
          exact both_0 rfl rfl rfl S
        · rw [if_neg (show ¬ b2 true = 0 by decide), if_neg (show ¬ b2 true = 0 by decide)]
          exact both_0 rfl rfl rfl S
      · have c1 := cy.resolve_left c0
        rw [if_neg c0, if_pos c1, if_pos c1, if_pos c1]
        exact both_0 rfl rfl rfl S
    · have c0 : ¬ y = 0 := fun z => cy (Or.inl z)
      have c1 : ¬ y = 1 := fun z => cy (Or.inr z)
      rw [if_neg c0, if_neg c1]
      refine both_N (C1 := C) (b := 0) rfl ?_ rfl ⟨EqC.rfl, E01⟩
      by_cases y1 : y < 0
      · rw [if_pos y1]
      · rw [if_neg y1, if_neg (fun z => cy (nI01.mp ⟨y1, z⟩))]
theorem op_told {cI : Int32} (R : Inv C D) : Both 1 cI (Kept C D) (f_X11_told x C) (f_X12_told x D) := by
  obtain ⟨nL, nR, nF, nM, nN, nX, nO, nD, t, o, s, w, fp, cid, Q⟩ := id R
  refine Both.sees R ?_
  have Q2 := Q.cg (C1 := C) (D1 := sI D 11300 0) EqC.rfl EqD.code
  obtain ⟨m1, m2, m3, m4⟩ := Q2.2.2.2.2.2.2.2.2.2.1
  have S : Sees C D C (sI D 11300 0) := ⟨EqC.rfl, EqD.code⟩
  unfold f_X11_told f_X12_told
  rw [bd_eq, m3, d_bytes m2 m1, d_fail, bnd_some, bnd_some]
  by_cases cx : hasT (nI (min o 3000)) x = 0
  · rw [cx, c_dem0, bnx_l]
    refine both_N (C1 := C) (b := 0) rfl ?_ rfl ⟨EqC.rfl, E01⟩
    by_cases c1 : x < 0
    · rw [if_pos c1]
    · rw [if_neg c1, if_neg (fun z => hasT_x cx ⟨Int32.not_lt.mp c1, z⟩)]
  · obtain ⟨i, i1, rfl⟩ := has_ex (by omega) cx
    have e1 : hasT (nI (min o 3000)) (nI i) = 1 := by rw [hasT_nI (by omega) (by omega), if_pos i1]
    rw [e1, c_dem1, bnx_r, if_neg (nI_pos (by omega)), if_pos (nI_lt i1 (by omega)), inb_nI (by omega) (by decide), if_pos rfl, nI_clamp (by omega)]
    refine both_0 rfl (congrArg some (Prod.ext ?_ rfl)) rfl S
    show gA (sI D 11300 0) 115 i = bat 67 (nI i) C
    unfold bat
    rw [m3, if_pos ⟨nI_pos' (by omega), nI_lt i1 (by omega)⟩, nI_clamp (by omega)]
    exact (m4 i i1).symm
theorem lgc {a b : Int64} : lg_cmp a b ≤ 0 ↔ ¬ b < a := by
  unfold lg_cmp
  by_cases c1 : a > b
  · rw [if_pos c1]
    exact ⟨fun z => absurd z (by decide), fun z => absurd c1 z⟩
  · rw [if_neg c1]
    by_cases c2 : a = b
    · rw [if_pos c2]
      exact ⟨fun _ => c1, fun _ => by decide⟩
    · rw [if_neg c2]
      exact ⟨fun _ => c1, fun _ => by decide⟩
theorem day_le {w j : Nat} (hw : w ≤ 100000) (hj : j < 2 ^ 31) : (lg_cmp (Int32.toInt64 (nI w) + Int32.toInt64 (nI j)) 100000 ≤ 0) ↔ w + j ≤ 100000 := by
  rw [lgc, Int64.lt_iff_toInt_lt]
  have e : (Int32.toInt64 (nI w) + Int32.toInt64 (nI j)).toInt = (w : Int) + j := by
    rw [Int64.toInt_add, Int32.toInt_toInt64, Int32.toInt_toInt64, nI_toInt (by omega), nI_toInt hj, Int.bmod_def]
    split <;> omega
  rw [e, show (100000 : Int64).toInt = 100000 by decide]
  omega
theorem op_days {cN : Int32} (R : Inv C D) : Both cN 1 (Kept C D) (f_X11_days x C) (f_X12_days x D) := by
  obtain ⟨nL, nR, nF, nM, nN, nX, nO, nD, t, o, s, w, fp, cid, Q⟩ := id R
  have Q2 := Q.cg (C1 := C) (D1 := sI D 11300 0) EqC.rfl EqD.code
  obtain ⟨q1, q2, q3, q4, q5, q6, q7, q8, q9, q10, ⟨m1, m2, m3, m4, m5, m6, m7, m8⟩, q12⟩ := Q2
  unfold f_X11_days f_X12_days
  simp only [bd_eq]
  rw [m5, m6, d_fail, bnd_some]
  by_cases c1 : x < 0
  · rw [if_pos c1, if_pos c1]
    exact both_I (C1 := C) rfl rfl rfl ⟨R.cg EqC.rfl E01, rfl⟩
  · obtain ⟨j, j1, rfl⟩ := nI_of c1
    rw [if_neg c1, if_neg c1]
    have e1 : (100000 : Int32) - nI w = nI (100000 - w) := pk_sub (a := 100000) m2
    rw [e1, nI_add]
    by_cases c2 : w + j ≤ 100000
    · rw [if_pos ((nI_leI j1 (by omega)).mpr (by omega)), if_pos ((day_le m2 j1).mpr c2)]
      refine both_0 rfl rfl rfl ⟨⟨nL, nR, nF, nM, nN, nX, nO, nD, t, o, s, w + j, fp, cid, q1, q2, q3, q4, q5, q6, q7, q8, q9, q10, ⟨m1, c2, m3, m4, rfl, rfl, m7, m8⟩, q12⟩, rfl⟩
    · rw [if_neg (fun z => c2 (by have := (nI_leI j1 (by omega)).mp z; omega)), if_neg (fun z => c2 ((day_le m2 j1).mp z))]
      exact both_I (C1 := C) rfl rfl rfl ⟨R.cg EqC.rfl E01, rfl⟩
/-- lines a to b -/
theorem c_dLines {n : Nat} (h : gI C 6901 = nI n) : f_X11_demandLines x y C = if hasT (nI n) x = 0 ∨ hasT (nI n) y = 0 ∨ y < x then some (.inl eN, sE C) else some (.inr (), C) := by
  unfold f_X11_demandLines
  rw [h, c_dem0, c_dem1, bnx_l, bnx_r]
  by_cases c1 : hasT (nI n) x = 0
  · rw [if_pos c1, if_pos (Or.inl c1)]
  · rw [if_neg c1]
    by_cases c2 : hasT (nI n) y = 0
    · rw [if_pos c2, if_pos (Or.inr (Or.inl c2))]
    · rw [if_neg c2]
      by_cases c3 : y < x
      · rw [if_pos c3, if_pos (Or.inr (Or.inr c3))]
      · rw [if_neg c3, if_neg (by rintro (z | z | z); exact c1 z; exact c2 z; exact c3 z)]
def lv (x : Int32) : Bool := !decide (x < 0) && !decide (3 < x)
theorem c_level3 : f_X11_isLevel x C = some (b2 (lv x)) := by
  unfold f_X11_isLevel lv b2
  by_cases c1 : x < 0 <;> by_cases c2 : 3 < x <;> simp [c1, c2]
def odC (C : CS) (n : Nat) (a b l w : Int32) : CS := sI (sA (sA (sA (sA (sA C 99 n a) 100 n b) 101 n l) 102 n w) 103 n (-1)) 9801 (nI (n + 1))
def odD (D : CS) (n : Nat) (a b l w : Int32) : CS := sI (sA (sA (sA (sA (sA D 136 n a) 137 n b) 138 n l) 139 n w) 140 n (-1)) 11334 (nI (n + 1))
theorem RO.add {n : Nat} {a b l w : Int32} (R : RO C D n) (h : n < 60) : RO (odC C n a b l w) (odD D n a b l w) (n + 1) := by
  obtain ⟨r1, r2, r3, r4, r5⟩ := R
  refine ⟨by omega, rfl, rfl, r4, fun i hi => ?_⟩
  show upd (gA C 99) n a i = upd (gA D 136) n a i ∧ upd (gA C 100) n b i = upd (gA D 137) n b i ∧ upd (gA C 101) n l i = upd (gA D 138) n l i ∧ upd (gA C 102) n w i = upd (gA D 139) n w i ∧ upd (gA C 103) n (-1) i = upd (gA D 140) n (-1) i
  by_cases e : i = n
  · subst e
    simp only [upd_eq, and_self]
  · simp only [upd_ne e]
    exact r5 i (by omega)
theorem RO.lift {n i : Nat} {w : Int32} (R : RO C D n) (h : i < n) : RO (sA C 103 i w) (sA D 140 i w) n := by
  obtain ⟨r1, r2, r3, r4, r5⟩ := R
  refine ⟨r1, r2, r3, r4, fun j hj => ?_⟩
  obtain ⟨a1, a2, a3, a4, a5⟩ := r5 j hj
  refine ⟨a1, a2, a3, a4, ?_⟩
  show upd (gA C 103) i w j = upd (gA D 140) i w j
  by_cases e : j = i
  · subst e
    rw [upd_eq, upd_eq]
  · rw [upd_ne e, upd_ne e]
    exact a5
theorem op_order {cI : Int32} (R : Inv C D) : Both 1 cI (Kept C D) (f_X11_order x y v C) (f_X12_order x y v D) := by
  obtain ⟨nL, nR, nF, nM, nN, nX, nO, nD, t, o, s, w, fp, cid, Q⟩ := id R
  have Q2 := Q.cg (C1 := C) (D1 := sI D 11300 0) EqC.rfl EqD.code
  have R2 := R.cg (C1 := C) (D1 := sI D 11300 0) EqC.rfl EqD.code
  obtain ⟨q1, q2, q3, q4, q5, q6, q7, q8, q9, q10, q11, q12⟩ := Q2
  obtain ⟨o1, o2, o3, o4, o5⟩ := id q4
  have hL := q1.1
  unfold f_X11_order f_X12_order
  rw [bd_eq, c_dLines q1.2.1, d_isLine q1.2.2.1, d_isLine q1.2.2.1, d_fail, bnd_some, bnd_some, bnd_some]
  by_cases c1 : hasT (nI nL) x = 0
  · rw [if_pos (Or.inl c1), bnx_l, if_pos c1]
    exact both_N (C1 := C) rfl rfl rfl ⟨R.cg EqC.rfl E01, rfl⟩
  by_cases c2 : hasT (nI nL) y = 0
  · rw [if_pos (Or.inr (Or.inl c2)), bnx_l, if_neg c1, if_pos c2]
    exact both_N (C1 := C) rfl rfl rfl ⟨R.cg EqC.rfl E01, rfl⟩
  by_cases c3 : y < x
  · rw [if_pos (Or.inr (Or.inr c3)), bnx_l, if_neg c1, if_neg c2, if_neg (Int32.not_le.mpr c3)]
    exact both_N (C1 := C) rfl rfl rfl ⟨R.cg EqC.rfl E01, rfl⟩
  rw [if_neg (by rintro (z | z | z); exact c1 z; exact c2 z; exact c3 z), bnx_r, if_neg c1, if_neg c2, if_pos (Int32.not_lt.mp c3), o2, o4, o3, show (60 : Int32) = nI 60 from rfl, fullT_nI (by omega) (by decide), c_level3, bnd_some]
  by_cases c4 : nO < 60
  · have n60 : ¬ nI nO = nI 60 := fun z => by have := (nI_eq (by omega) (by decide)).mp z; omega
    have ii : inb (nI nO) 60 = true := inb_nI c4 (by decide)
    have ik : (nI nO).toNatClampNeg = nO := nI_clamp (by omega)
    rw [if_pos c4, if_pos rfl, if_neg n60]
    cases cl : lv v
    · rw [if_pos (b2_0.mpr rfl)]
      refine both_0 rfl ?_ rfl ⟨R2, rfl⟩
      unfold lv at cl
      by_cases v1 : v < 0
      · rw [if_pos v1]
      · have v2 : 3 < v := by simpa [v1] using cl
        rw [if_neg v1, if_neg (Int32.not_le.mpr v2)]
    · have v1 : ¬ v < 0 := by intro z; simp [lv, z] at cl
      have v2 : ¬ 3 < v := by intro z; simp [lv, z] at cl
      rw [if_neg (show ¬ b2 true = 0 by decide), if_neg v1, if_pos (Int32.not_lt.mp v2)]
      have ec : f_X7_add x y v (gI C 6412) C = some (nI nO, odC C nO x y v (gI C 6412)) := by
        unfold f_X7_add
        rw [o2, o4, show (60 : Int32) = nI 60 from rfl, if_pos (nI_lt c4 (by decide)), ii, if_pos rfl]
        simp only [bd_eq, gI_sA, gI_eq, o2, ii, ik, nI_1, nI_pred, if_true]
        rfl
      rw [ec, bnd_some]
      have h1 : gI (sI D 11300 0) 11305 = gI C 6412 := q11.2.2.2.2.2.1.trans q11.2.2.2.2.1.symm
      refine both_0 (D1 := odD (sI D 11300 0) nO x y v (gI C 6412)) rfl ?_ rfl ⟨⟨nL, nR, nF, nM, nN, nX, nO + 1, nD, t, o, s, w, fp, cid, q1, q2, q3, q4.add c4, q5, q6, q7, q8, q9, q10, q11, q12⟩, rfl⟩
      rw [ii, if_pos rfl]
      simp only [bd_eq, gI_sA, gI_eq, o3, h1, ii, ik, nI_1, nI_pred, if_true]
      rfl
  · have : nO = 60 := by omega
    subst this
    rw [if_neg c4, if_neg (show ¬ (1 : Int32) = 0 by decide), if_pos rfl]
    exact both_0 rfl rfl rfl ⟨R2, rfl⟩
/-- lift: the class's boolean is the model's -/
theorem op_lift {cI : Int32} (R : Inv C D) : Both 1 cI (Kept C D) (f_X11_lift x C) (f_X12_lift x D) := by
  obtain ⟨nL, nR, nF, nM, nN, nX, nO, nD, t, o, s, w, fp, cid, Q⟩ := id R
  have Q2 := Q.cg (C1 := C) (D1 := sI D 11300 0) EqC.rfl EqD.code
  have R2 := R.cg (C1 := C) (D1 := sI D 11300 0) EqC.rfl EqD.code
  obtain ⟨q1, q2, q3, q4, q5, q6, q7, q8, q9, q10, q11, q12⟩ := Q2
  obtain ⟨o1, o2, o3, o4, o5⟩ := id q4
  unfold f_X11_lift f_X12_lift
  rw [bd_eq, o2, o3, d_fail, bnd_some]
  by_cases cx : hasT (nI nO) x = 0
  · rw [cx, c_dem0, bnx_l]
    refine both_N (C1 := C) (b := 0) rfl ?_ rfl ⟨R.cg EqC.rfl E01, rfl⟩
    by_cases c1 : x < 0
    · rw [if_pos c1]
    · rw [if_neg c1, if_neg (fun z => hasT_x cx ⟨Int32.not_lt.mp c1, z⟩)]
  · obtain ⟨i, i1, rfl⟩ := has_ex (by omega) cx
    have e1 : hasT (nI nO) (nI i) = 1 := by rw [hasT_nI (by omega) (by omega), if_pos i1]
    have ii : inb (nI i) 60 = true := inb_nI (by omega) (by decide)
    have ik : (nI i).toNatClampNeg = i := nI_clamp (by omega)
    have e5 := (o5 i i1).2.2.2.2
    have h1 : gI (sI D 11300 0) 11305 = gI C 6412 := q11.2.2.2.2.2.1.trans q11.2.2.2.2.1.symm
    rw [e1, c_dem1, bnx_r, if_neg (nI_pos (by omega)), if_pos (nI_lt i1 (by omega)), f_X7_liftOn, ii, ik, if_pos rfl, if_pos rfl, if_pos rfl, if_pos rfl, bd_eq, bd_eq, h1]
    by_cases c1 : gA (sI D 11300 0) 140 i = -1
    · rw [if_pos c1, if_pos (e5.trans c1), bnd_some]
      refine both_0 (C1 := sA C 103 i (gI C 6412)) (if_pos (show (1 : Int32) &&& 1 = 1 by decide)) rfl rfl ⟨⟨nL, nR, nF, nM, nN, nX, nO, nD, t, o, s, w, fp, cid, q1, q2, q3, q4.lift i1, q5, q6, q7, q8, q9, q10, q11, q12⟩, rfl⟩
    · rw [if_neg c1, if_neg (fun z => c1 (e5.symm.trans z)), bnd_some]
      exact both_0 (C1 := C) (if_pos (show (0 : Int32) &&& 1 = 0 by decide)) rfl rfl ⟨R2, rfl⟩
end PM
