/-! sitting -/
section POS2
variable {C D : CS} {x : Int32} {N en nL nR nF nM nN nX nO nD t o s w ts : Nat} {fp : Int32} {cid : Nat → Nat}
theorem d_sit0 (h1 : 1 ≤ en) (h : en ≤ t) (ht : t ≤ 3000) (h3 : gI D 11303 = nI t) (hs : gI D 11306 = nI s) (h8 : s < 8) (e1 : gI D 11308 = nI nL) (e2 : gI D 11320 = nI nF) (e3 : gI D 11321 = nI nM) (e4 : gI D 11322 = nI nX) (e5 : gI D 11323 = nI nN) : f_X12_sitting N (nI en) D = bnd (f_X12_sitting_L89 N (nI nL) (nI nF) (nI nM) (nI nX) (nI nN) N (dB (sI D 11300 0) en)) fun q => f_X12_sitting_J134 N (nI nL) (nI nF) (nI nM) (nI nX) (nI nN) q := by
  have u3 : gI (sI D 11300 0) 11303 = nI t := h3
  have u6 : gI (sI (sI (sI D 11300 0) 11303 0) 11307 (-1)) 11306 = nI s := hs
  have v1 : gI (dB (sI D 11300 0) en) 11308 = nI nL := e1
  have v2 : gI (dB (sI D 11300 0) en) 11320 = nI nF := e2
  have v3 : gI (dB (sI D 11300 0) en) 11321 = nI nM := e3
  have v4 : gI (dB (sI D 11300 0) en) 11322 = nI nX := e4
  have v5 : gI (dB (sI D 11300 0) en) 11323 = nI nN := e5
  have c1 : ¬ nI en < 1 := nI_nlt (a := en) (b := 1) h1 (by omega)
  have c8 : ¬ nI s = 8 := fun z => by have := (nI_eq (b := 8) (by omega) (by decide)).mp z; omega
  unfold f_X12_sitting
  rw [bd_eq, if_neg c1, u3, if_pos (nI_le h (by omega)), bd_eq, bd_eq, u6, if_neg c8, bd_eq, bd_eq, bd_eq]
  show bnd (f_X12_sitting_L89 N (gI (dB (sI D 11300 0) en) 11308) (gI (dB (sI D 11300 0) en) 11320) (gI (dB (sI D 11300 0) en) 11321) (gI (dB (sI D 11300 0) en) 11322) (gI (dB (sI D 11300 0) en) 11323) N (dB (sI D 11300 0) en)) (fun q => f_X12_sitting_J134 N (gI (dB (sI D 11300 0) en) 11308) (gI (dB (sI D 11300 0) en) 11320) (gI (dB (sI D 11300 0) en) 11321) (gI (dB (sI D 11300 0) en) 11322) (gI (dB (sI D 11300 0) en) 11323) q) = _
  rw [v1, v2, v3, v4, v5]
theorem c_sit0 (h1 : 1 ≤ en) (h : en ≤ t) (ht : t ≤ 3000) (h3 : gI C 6501 = nI t) (hs : gI C 6411 = nI s) (h8 : s < 8) : f_X11_sitting N (nI en) C = bnd (f_X10_takeSitting_L10 N (nI en) (nI s) N 1 0 (cB C en)) fun q8 => bnd (bnd (f_X10_finish q8.1 q8.2) fun q10 => some (q10.1, q10.2)) fun q4 => bnd (f_X11_endReading (gI q4.2 11012) q4.2) fun q6 => if q4.1 = 0 then some (.inr ((gI (sI q6 6411 ((gI q6 6411) + 1)) 6901) - (gI C 6901)), sI q6 6411 ((gI q6 6411) + 1)) else some (.inr ((-1) - q4.1), q6) := by
  unfold f_X11_sitting f_X11_demandOnTape
  rw [if_neg (show ¬ nI en < 1 from nI_nlt (a := en) (b := 1) h1 (by omega)), h3, if_pos (nI_le h (by omega)), bnx_r, hs, if_pos (show nI s < 8 from nI_lt (b := 8) h8 (by decide))]
  unfold f_X10_takeSitting
  rw [c_begin h3 ht h, bnd_some]
  cases f_X10_takeSitting_L10 N (nI en) (nI s) N 1 0 (cB C en) with
  | none => rfl
  | some q => rfl
theorem op_sit8 {cN cI : Int32} (R : Inv C D) : ∀ {r : Int32} {C1 D1 : CS}, C1 = sI (sI C 6413 (-1)) 6501 0 → D1 = sI (sI (sI D 11300 0) 11303 0) 11307 (-1) → Both cN cI (Kept C D) (some (.inr r, C1)) (some (r, D1)) := by
  intro r C1 D1 h1 h2
  subst h1 h2
  obtain ⟨nL, nR, nF, nM, nN, nX, nO, nD, t, o, s, w, fp, cid, Q⟩ := R
  obtain ⟨q1, q2, q3, q4, q5, q6, q7, q8, q9, q10, ⟨m1, m2, m3, m4, m5, m6, m7, m8⟩, q12⟩ := Q
  have F1 : Fm [6413, 6501] [] [] C (sI (sI C 6413 (-1)) 6501 0) := (Fm.I rfl).trans (Fm.I rfl)
  have F2 : Fm [11300, 11303, 11307] [] [] D (sI (sI (sI D 11300 0) 11303 0) 11307 (-1)) := ((Fm.I rfl).trans (Fm.I rfl)).trans (Fm.I rfl)
  exact both_0 rfl rfl rfl ⟨⟨nL, nR, nF, nM, nN, nX, nO, nD, 0, o, s, w, -1, cid, q1.fm F1 F2 rfl rfl, q2.fm F1 F2 rfl rfl, q3.fm F1 F2 rfl rfl, q4.fm F1 F2 rfl rfl, q5.fm F1 F2 rfl rfl, q6.fm F1 F2 rfl rfl, q7.fm F1 F2 rfl rfl, q8.fm F1 F2 rfl rfl, ⟨by omega, rfl, rfl, fun i hi => by omega⟩, q10.fm F1 F2 rfl rfl, ⟨m1, m2, m3, m4, m5, m6, rfl, rfl⟩, q12.fm F2 rfl⟩, rfl⟩
theorem op_sitting {cN : Int32} (R : Inv C D) (hN : 20000 < N) : Both cN 1 (Kept C D) (f_X11_sitting N x C) (f_X12_sitting N x D) := by
  obtain ⟨nL, nR, nF, nM, nN, nX, nO, nD, t, o, s, w, fp, cid, Q⟩ := id R
  have Q2 := Q.cg (C1 := C) (D1 := sI D 11300 0) EqC.rfl EqD.code
  have Q3 := Q2
  obtain ⟨q1, q2, q3, q4, q5, q6, q7, q8, q9, q10, ⟨m1, m2, m3, m4, m5, m6, m7, m8⟩, q12⟩ := Q2
  obtain ⟨t1, t2, t3, t4⟩ := id q9
  by_cases c1 : x < 1
  · refine both_I (C1 := C) (D1 := sI (sI D 11300 0) 11300 1) (b := 0) ?_ ?_ rfl ⟨R.cg EqC.rfl E01, rfl⟩
    · unfold f_X11_sitting f_X11_demandOnTape
      rw [if_pos c1, bnx_l]
    · unfold f_X12_sitting
      rw [bd_eq, if_pos c1, d_fail, bnd_some]
  by_cases c2 : x ≤ nI t
  · obtain ⟨en, j1, rfl⟩ := nI_of (x := x) (fun z => c1 (Int32.lt_trans z (by decide)))
    have h1 : 1 ≤ en := by
      rcases Nat.eq_zero_or_pos en with z | z
      · rw [z] at c1; exact absurd (show nI 0 < 1 by decide) c1
      · exact z
    have h2 : en ≤ t := (nI_leI j1 (by omega)).mp c2
    by_cases c8 : s < 8
    · obtain ⟨ts, T⟩ := id q5
      have SQ0 := sq_begin (en := en) q1 q2 q3 T q6 q7 q9 m4 (by omega) q12 h2
      rw [c_sit0 h1 h2 t1 t2 m3 c8, d_sit0 (D := D) h1 h2 t1 t3 m4 c8 q1.2.2.1 q3.2.2.1 q6.2.2.1 q7.2.2.2.2.1 q7.2.2.2.1]
      have W := sitL (C0 := cB C en) (D0 := dB (sI D 11300 0) en) (nR := nR) (nF0 := nF) (nM0 := nM) (nN0 := nN) (ts0 := ts) (a := nI nF) (b := nI nM) (cc := nI nX) (d := nI nN) hN (en + 1) 0 0 N N nL nF nM nN nX ts cid none (cB C en) (dB (sI D 11300 0) en) (by omega) (Nat.le_refl _) (by omega) (by omega) SQ0 (Nat.le_refl _) (Nat.le_refl _) (Nat.le_refl _) (Nat.le_refl _) LC.rfl LD.rfl Fm.rfl Fm.rfl
      rw [show nI 0 = 0 from rfl] at W
      have F0 := cB_fm (C := C) (en := en)
      have G0 := dB_fm (D := sI D 11300 0) (en := en)
      rcases W with ⟨C1, D1, p, n, E, cid', nF', nM', nN', nX', ts', w1, w2, w3, w4, w5, w6, w7, w8, w9, w10⟩ | ⟨C1, D1, ts', w1, w2, w3, w4, w5, w6, w7, w8, w9, w10, w11⟩
      · rw [w1, w2, bnd_some, bnd_some]
        have FC : wC C C1 := (F0.sub (by decide)).trans (w9.sub (by decide))
        have FD : wD (sI D 11300 0) D1 := (G0.sub (by decide)).trans (w10.sub (by decide))
        have l119 : ∀ i, i < nL → gA D1 119 i = gA (sI D 11300 0) 119 i := fun i hi => w8.1 119 (by decide) i hi
        obtain ⟨D2, y1, y2, y4, y3⟩ := sit_ok (N := N) (nF0 := nF) (nD := nD) (nO := nO) (o := o) (w := w) w3 (q4.fm FC FD rfl rfl) (q8.fm FC FD rfl rfl) w4 (q10.fm FC FD rfl rfl) c8 m2 ((FC.1 6411 rfl).trans m3) ((FC.1 6412 rfl).trans m5) ((FD.1 11305 rfl).trans m6) (w10.1 11307 rfl) (w10.1 11303 rfl) (FD.1 11300 rfl) ⟨fun z => by unfold pgv; rw [if_pos z], fun z => by unfold pgv; rw [if_neg z, l119 _ (by omega)]⟩ (fun i hi => by rw [w8.1 117 (by decide) i hi]; exact q12.2.1 i hi) hN (nI nF) (nI nM) (nI nX) (nI nN)
        obtain ⟨Po, S, -⟩ := id w3
        rw [y1]
        have e1 : f_X10_finish 1 C1 = some (0, C1) := by
          unfold f_X10_finish
          rw [if_neg (by decide), Po.2.2.2.2.2.1]
        have e2 : f_X11_endReading (gI C1 11012) C1 = some (sI (sI C1 6413 (-1)) 6501 0) := by
          unfold f_X11_endReading
          rw [bd_eq, bd_eq, Po.2.2.2.2.2.2.2.1]
        have e3 : gI (sI (sI C1 6413 (-1)) 6501 0) 6411 + 1 = nI (s + 1) := by
          show gI C1 6411 + 1 = _
          rw [FC.1 6411 rfl, m3, nI_1]
        rw [e1, bnd_some, bnd_some, e2, bnd_some, if_pos rfl, e3]
        refine both_0 (r := nI n - nI nL) ?_ rfl y2 ⟨⟨n, nR, nF', nM', nN', nX', nO, nD, 0, o, s + 1, w, -1, cid', y3⟩, kp FC.2.2.2 (y4.trans (FD.2.2.1 146 rfl))⟩
        rw [show gI (sI (sI (sI C1 6413 (-1)) 6501 0) 6411 (nI (s + 1))) 6901 = gI C1 6901 from rfl, S.2.2.1, q1.2.1]
      · rw [w1, w2, bnd_some, bnd_some]
        have FC : wC C C1 := (F0.sub (by decide)).trans (w10.sub (by decide))
        have FD : wD (sI D 11300 0) D1 := (G0.sub (by decide)).trans (w11.sub (by decide))
        obtain ⟨k, q, p1, p2, p3, p4, p5⟩ := w3
        obtain ⟨C2, e1, e2⟩ := c_finish0 (nR := nR) (ts := ts) ((w10.1 6902 rfl).trans q1.2.1) ((w10.1 7602 rfl).trans q2.2.2.1) ((w10.1 7702 rfl).trans T.2.1) ((w10.1 8402 rfl).trans q3.2.1) ((w10.1 9102 rfl).trans q6.2.1) ((w10.1 9402 rfl).trans q7.2.2.1) w6 w4 w5 p2 p4
        rw [d_back p3 p1 p5, e1, bnd_some, bnd_some, e2, bnd_some, if_neg p1]
        refine both_0 (r := -1 - k) rfl rfl (FD.1 11300 rfl) ⟨⟨nL, nR, nF, nM, nN, nX, nO, nD, 0, o, s, w, q, cid, sit_back (C1 := bkC C1 nL nR ts nF nM nN q) (D1 := bkD D1 nL nF nM nX nN q) Q3 T w7 w8 w9 (bkC_fm FC) (bkD_fm FD) rfl rfl rfl rfl rfl rfl rfl rfl rfl rfl rfl rfl rfl rfl (w11.1 11303 rfl)⟩, kp FC.2.2.2 (FD.2.2.1 146 rfl)⟩
    · have s8 : s = 8 := by omega
      subst s8
      have ec : f_X11_sitting N (nI en) C = some (.inr (-9), sI (sI C 6413 (-1)) 6501 0) := by
        unfold f_X11_sitting f_X11_demandOnTape f_X11_endReading
        rw [if_neg (show ¬ nI en < 1 from nI_nlt (a := en) (b := 1) h1 (by omega)), t2, if_pos (nI_le h2 (by omega)), bnx_r, m3, if_neg (show ¬ nI 8 < 8 by decide)]
        rfl
      have ed : f_X12_sitting N (nI en) D = some (-9, sI (sI (sI D 11300 0) 11303 0) 11307 (-1)) := by
        have u6 : gI (sI (sI (sI D 11300 0) 11303 0) 11307 (-1)) 11306 = nI 8 := m4
        unfold f_X12_sitting
        rw [bd_eq, if_neg (show ¬ nI en < 1 from nI_nlt (a := en) (b := 1) h1 (by omega)), t3, if_pos (nI_le h2 (by omega)), bd_eq, bd_eq, u6, if_pos (show nI 8 = 8 from rfl)]
      rw [ec, ed]
      exact op_sit8 R rfl rfl
  · refine both_I (C1 := C) (D1 := sI (sI D 11300 0) 11300 1) (b := 0) ?_ ?_ rfl ⟨R.cg EqC.rfl E01, rfl⟩
    · unfold f_X11_sitting f_X11_demandOnTape
      rw [if_neg c1, t2, if_neg c2, bnx_l]
    · unfold f_X12_sitting
      rw [bd_eq, if_neg c1, t3, if_neg c2, d_fail, bnd_some]
end POS2
