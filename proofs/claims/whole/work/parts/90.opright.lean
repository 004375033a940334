/-! right -/
def cR (C : CS) (en : Nat) : CS := sI (cB C en) 11008 (-2)
def dR (D : CS) (en l nR : Nat) : CS := sI (sI (sI (dB D en) 11348 0) 11351 (nI l)) 11352 (nI (200 + nR))
abbrev vC : CS → CS → Prop := Fm [11006, 11007, 11008, 11009, 11011, 11012, 6902, 7602, 7702, 8402, 9102, 9402, 8401, 9101] [85, 86, 87, 88, 89, 90, 92, 93] []
abbrev vD : CS → CS → Prop := Fm [11303, 11307, 11347, 11346, 11348, 11349, 11350, 11351, 11352, 11320, 11321] [126, 127, 128, 129, 130, 131, 132] []
section PRT
variable {C D C4 D4 : CS} {x y : Int32} {N en l nL nR nF nM nN nX nO nD t o s w ts nF' nM' : Nat} {fp : Int32} {cid : Nat → Nat}
theorem cR_fm : vC C (cR C en) := (cB_fm.sub (by decide)).trans (Fm.I rfl)
theorem dR_fm : vD D (dR D en l nR) := (((dB_fm.sub (by decide)).trans (Fm.I rfl)).trans (Fm.I rfl)).trans (Fm.I rfl)
theorem d_right0 (hl : l < nL) (hL : nL ≤ 200) (h1 : 1 ≤ en) (h : en ≤ t) (ht : t ≤ 3000) (h3 : gI D 11303 = nI t) (e8 : gI D 11308 = nI nL) (k5 : gA D 116 l ≠ 5) (e9 : gI D 11319 = nI nR) (hR : nR < 100) (e2 : gI D 11320 = nI nF) (e3 : gI D 11321 = nI nM) : f_X12_right N (nI l) (nI en) D = bnd (f_X12_readRest N (nI 58) (-2) (dR (sI D 11300 0) en l nR)) fun q => if gI q 11349 = 0 then (if gI q 11347 ≤ gI q 11346 then f_X12_right_J153 N (nI l) (nI en) (nI nF) (nI nM) q else bnd (f_X12_wrong 1 (gI q 11346) q) fun q69 => f_X12_right_J153 N (nI l) (nI en) (nI nF) (nI nM) q69) else f_X12_right_J153 N (nI l) (nI en) (nI nF) (nI nM) q := by
  have u3 : gI (sI D 11300 0) 11303 = nI t := h3
  have u8 : gI (sI D 11300 0) 11308 = nI nL := e8
  have u5 : gA (sI (sI (sI D 11300 0) 11303 0) 11307 (-1)) 116 l ≠ 5 := k5
  have u9 : gI (sI (sI (sI D 11300 0) 11303 0) 11307 (-1)) 11319 = nI nR := e9
  have v2 : gI (dR (sI D 11300 0) en l nR) 11320 = nI nF := e2
  have v3 : gI (dR (sI D 11300 0) en l nR) 11321 = nI nM := e3
  have c1 : ¬ nI en < 1 := nI_nlt (a := en) (b := 1) h1 (by omega)
  have c9 : ¬ nI nR = 100 := fun z => by have := (nI_eq (b := 100) (by omega) (by decide)).mp z; omega
  unfold f_X12_right
  rw [bd_eq, d_isLine u8, bnd_some, hasT_nI (by omega) (by omega), if_pos hl, if_neg (show ¬ (1 : Int32) = 0 by decide), if_neg c1, u3, if_pos (nI_le h (by omega)), bd_eq, bd_eq, inb_nI (by omega) (by decide), if_pos rfl, nI_clamp (by omega), if_neg u5, u9, if_neg c9]
  simp only [bd_eq]
  rw [show gI (sI (sI (sI (sI (sI (sI (sI (sI D 11300 0) 11303 0) 11307 (-1)) 11347 (nI en)) 11346 0) 11349 0) 11348 0) 11351 (nI l)) 11319 = gI D 11319 from rfl, e9, show (200 : Int32) + nI nR = nI (200 + nR) by rw [show (200 : Int32) = nI 200 from rfl, nI_add]]
  show bnd (f_X12_readRest N (nI 58) (-2) (dR (sI D 11300 0) en l nR)) (fun q => if gI q 11349 = 0 then (if gI q 11347 ≤ gI q 11346 then f_X12_right_J153 N (nI l) (nI en) (gI (dR (sI D 11300 0) en l nR) 11320) (gI (dR (sI D 11300 0) en l nR) 11321) q else bnd (f_X12_wrong 1 (gI q 11346) q) fun q69 => f_X12_right_J153 N (nI l) (nI en) (gI (dR (sI D 11300 0) en l nR) 11320) (gI (dR (sI D 11300 0) en l nR) 11321) q69) else f_X12_right_J153 N (nI l) (nI en) (gI (dR (sI D 11300 0) en l nR) 11320) (gI (dR (sI D 11300 0) en l nR) 11321) q) = _
  rw [v2, v3]
def eRd (q10 : Int32 × CS) : Option ((String ⊕ Int32) × CS) := bnd (f_X11_endReading (gI q10.2 11012) q10.2) fun q12 => some (.inr q10.1, q12)
theorem c_right0 (hl : l < nL) (hL : nL ≤ 200) (h1 : 1 ≤ en) (h : en ≤ t) (ht : t ≤ 3000) (h3 : gI C 6501 = nI t) (e1 : gI C 6901 = nI nL) (e2 : gI C 7601 = nI (nL + nR)) (hR : nR < 100) (k5 : gA C 70 l ≠ 5) (ew : gI C 6412 = nI w) : f_X11_right N (nI l) (nI en) C = bnd (f_X10_takeRest N (nI l) (cR C en)) fun q5 => if q5.1 = 0 then bnd (f_X10_takeRight_J46 N (nI l) (nI w) q5.2) eRd else if gI q5.2 11006 ≤ gI q5.2 11007 then bnd (f_X10_takeRight_J42 N (nI l) (nI w) q5.2) eRd else bnd (f_X10_takeRight_J46 N (nI l) (nI w) (sI (sI q5.2 11011 1) 11012 (gI q5.2 11007))) eRd := by
  unfold f_X11_right f_X11_demandOnTape
  rw [e1, hasT_nI (by omega) (by omega), if_pos hl, c_dem1, bnx_r, if_neg (show ¬ nI en < 1 from nI_nlt (a := en) (b := 1) h1 (by omega)), h3, if_pos (nI_le h (by omega)), bnx_r, inb_nI (by omega) (by decide), if_pos rfl, nI_clamp (by omega), if_neg k5, e2, e1, pk_sub (by omega), Nat.add_sub_cancel_left, if_pos (show nI nR < 100 from nI_lt (b := 100) hR (by decide)), ew]
  unfold f_X10_takeRight
  rw [c_begin h3 ht h, bnd_some, bd_eq]
  show bnd (bnd (f_X10_takeRest N (nI l) (cR C en)) _) eRd = _
  cases f_X10_takeRest N (nI l) (cR C en) with
  | none => rfl
  | some q =>
    rw [bnd_some, bnd_some]
    split
    · rfl
    · split
      · rfl
      · rw [c_ref, bnd_some, if_pos rfl]
theorem right_bad (Q : InvN C D nL nR nF nM nN nX nO nD t o s w fp cid) (T : RTt C D nL nR cid ts) (B : DB C4 D4 nF nM (cR C en) (dR D en l nR)) (F : PF C4 D4) (fc : rC (cR C en) C4) (fd : rD (dR D en l nR) D4) (h0 : gI D 11300 = 0) : Both 1 2 (Kept C D) (bnd (f_X10_takeRight_J46 N (nI l) (nI w) C4) eRd) (f_X12_right_J153 N (nI l) (nI en) (nI nF) (nI nM) D4) := by
  obtain ⟨k, q, p1, p2, p3, p4, p5⟩ := F
  have FC : vC C C4 := cR_fm.trans (fc.sub (by decide))
  have FD : vD D D4 := dR_fm.trans (fd.sub (by decide))
  obtain ⟨q1, q2, q3, q4, q5, q6, q7, q8, q9, q10, ⟨m1, m2, m3, m4, m5, m6, m7, m8⟩, q12⟩ := id Q
  have tb := T.1
  have r1 := q2.1
  have r2 := q2.2.1
  obtain ⟨C2, e1, e2⟩ := c_finish0 (C1 := C4) (nR := nR) (ts := ts) (ts1 := ts) ((fc.1 6902 rfl).trans q1.2.1) ((fc.1 7602 rfl).trans q2.2.2.1) ((fc.1 7702 rfl).trans T.2.1) ((fc.1 8402 rfl).trans q3.2.1) ((fc.1 9102 rfl).trans q6.2.1) ((fc.1 9402 rfl).trans q7.2.2.1) ((FC.1 7701 rfl).trans T.2.1) (Nat.le_refl _) (by omega) p2 p4
  have ec : bnd (f_X10_takeRight_J46 N (nI l) (nI w) C4) eRd = some (.inr k, bkC C4 nL nR ts nF nM nN q) := by
    unfold f_X10_takeRight_J46 eRd
    rw [e1, bnd_some, bnd_some, e2, bnd_some]
  have ed : f_X12_right_J153 N (nI l) (nI en) (nI nF) (nI nM) D4 = some (k, sI (sI (sI D4 11320 (nI nF)) 11321 (nI nM)) 11307 q) := by
    unfold f_X12_right_J153
    rw [if_neg (by rw [p3]; exact p1), bd_eq, bd_eq, bd_eq, show gI (sI (sI D4 11320 (nI nF)) 11321 (nI nM)) 11350 = gI D4 11350 from rfl, p5, show gI (sI (sI (sI D4 11320 (nI nF)) 11321 (nI nM)) 11307 q) 11349 = gI D4 11349 from rfl, p3]
  rw [ec, ed]
  have WC : wC C (bkC C4 nL nR ts nF nM nN q) := bkC_fm (FC.sub (by decide))
  have WD : wD D (sI (sI (sI D4 11320 (nI nF)) 11321 (nI nM)) 11307 q) := (((FD.sub (by decide)).trans (Fm.I rfl)).trans (Fm.I rfl)).trans (Fm.I rfl)
  have lc : LC C C4 nL (nL + nR) nF ts nN := ⟨Same.fm FC rfl, Same.fm FC rfl, Same.fm FC rfl, fun r hr i hi => by
    have z := B.1 i hi
    simp only [List.mem_cons, List.not_mem_nil, or_false] at hr
    rcases hr with rfl | rfl | rfl | rfl | rfl | rfl
    · exact z.1
    · exact z.2.1
    · exact z.2.2.1
    · exact z.2.2.2.1
    · exact z.2.2.2.2.1
    · exact z.2.2.2.2.2.1, nbC.fm FC rfl⟩
  have ld : LD D D4 nL nF nN := ⟨Same.fm FD rfl, Same.fm FD rfl, Same.fm FD rfl, fun r hr i hi => by
    have z := (B.1 i hi).2.2.2.2.2.2
    simp only [List.mem_cons, List.not_mem_nil, or_false] at hr
    rcases hr with rfl | rfl | rfl | rfl | rfl
    · exact z.1
    · exact z.2.1
    · exact z.2.2.1
    · exact z.2.2.2.1
    · exact z.2.2.2.2, nbD.fm FD rfl⟩
  exact both_0 (r := k) rfl rfl ((FD.1 11300 rfl).trans h0) ⟨⟨nL, nR, nF, nM, nN, nX, nO, nD, 0, o, s, w, q, cid, sit_back (C1 := bkC C4 nL nR ts nF nM nN q) (D1 := sI (sI (sI D4 11320 (nI nF)) 11321 (nI nM)) 11307 q) Q T B.2 lc ld WC WD rfl rfl rfl rfl rfl rfl rfl rfl ((FD.1 11308 rfl).trans q1.2.2.1) rfl rfl ((FD.1 11322 rfl).trans q7.2.2.2.2.1) ((FD.1 11323 rfl).trans q7.2.2.2.1) rfl (fd.1 11303 rfl)⟩, kp WC.2.2.2 (WD.2.2.1 146 rfl)⟩
theorem right_ok (Q : InvN C D nL nR nF nM nN nX nO nD t o s w fp cid) (T : RTt C D nL nR cid ts) (hl : l < nL) (hR : nR < 100) (k5 : gA D 116 l ≠ 5) (P : PP C4 D4 en en 58 58) (B : DQ C4 D4 nF nM nF' nM' (cR C en) (dR D en l nR) l (200 + nR) (nL + nR)) (fc : rC (cR C en) C4) (fd : rD (dR D en l nR) D4) (h0 : gI D 11300 = 0) (hN : 20000 < N) : Both 1 2 (Kept C D) (bnd (f_X10_takeRight_J42 N (nI l) (nI w) C4) eRd) (f_X12_right_J153 N (nI l) (nI en) (nI nF) (nI nM) D4) := by
  have FC : vC C C4 := cR_fm.trans (fc.sub (by decide))
  have FD : vD D D4 := dR_fm.trans (fd.sub (by decide))
  obtain ⟨q1, q2, q3, q4, q5, q6, q7, q8, q9, q10, ⟨m1, m2, m3, m4, m5, m6, m7, m8⟩, q12⟩ := id Q
  obtain ⟨a0, a1, a2, a3, a4, a5, a6, a7, a8, a9, a10, a11, a12, a13, a14⟩ := id P
  have tb := T.1
  have r1 := q2.1
  have r2 := q2.2.1
  obtain ⟨b1, b2, b3, b4, b5, b6, b7, b8, b9, b10, b11, b12, b13, b14, b15, b16⟩ := B
  -- the class
  obtain ⟨C5, x1, x2, x3, x4, x5, x6, x7, x8, x9, x10, x11⟩ := c_addR (N := N) (l := l) (r := nL + nR) (t := ts) (q := en) (wv := nI w) a0 b13 ((FC.1 7600 rfl).trans q2.2.2.2.1) ((FC.1 7701 rfl).trans T.2.1) (by omega) (by omega) (Nat.le_refl _) (by omega) hN
  have e11 : gI C5 11011 = 0 := (x2.1 11011 rfl).trans a7
  have e12 : gI C5 11012 = -1 := (x2.1 11012 rfl).trans a9
  have ec : bnd (f_X10_takeRight_J42 N (nI l) (nI w) C4) eRd = some (.inr 0, sI (sI C5 6413 (-1)) 6501 0) := by
    unfold f_X10_takeRight_J42 eRd f_X10_finish f_X11_endReading
    rw [a1, x1, bnd_some, if_neg (show ¬ (1 : Int32) = 0 by decide), bnd_some, bnd_some, e11, e12]
    rfl
  -- the model
  obtain ⟨D5, y1, y2, y3, y4, y5⟩ := d_L187 (D := D4) (N := N) (l := l) (x2 := nI en) b12 (by omega) (by omega) (by omega) hN
  obtain ⟨D6, z1, z2, z3, z4⟩ := d_L229 (N := N) (x1 := nI l) (m := 200 + nR) (en := en) (by omega) a10 en 0 N D5 (by omega) (by omega) ((y2.1 11352 rfl).trans b12)
  have g52 : gI D6 11352 = nI (200 + nR) := (z2.1 11352 rfl).trans ((y2.1 11352 rfl).trans b12)
  have g05 : gI D6 11305 = nI w := (z2.1 11305 rfl).trans ((y2.1 11305 rfl).trans ((FD.1 11305 rfl).trans m6))
  have g19 : gI D6 11319 = nI nR := (z2.1 11319 rfl).trans ((y2.1 11319 rfl).trans ((FD.1 11319 rfl).trans q2.2.2.2.2.1))
  have g21 : gA D6 121 = gA D 121 := (z2.2.1 121 rfl).trans ((y2.2.1 121 rfl).trans (FD.2.1 121 rfl))
  have g22 : gA D6 122 = gA D 122 := (z2.2.1 122 rfl).trans ((y2.2.1 122 rfl).trans (FD.2.1 122 rfl))
  have g23 : gA D6 123 = gA D 123 := (z2.2.1 123 rfl).trans ((y2.2.1 123 rfl).trans (FD.2.1 123 rfl))
  have g24 : gA D6 124 = gA D 124 := (z2.2.1 124 rfl).trans ((y2.2.1 124 rfl).trans (FD.2.1 124 rfl))
  have ii : inb (nI (200 + nR)) 300 = true := inb_nI (by omega) (by decide)
  have ik : (nI (200 + nR)).toNatClampNeg = 200 + nR := nI_clamp (by omega)
  have jl : inb (nI l) 200 = true := inb_nI (by omega) (by decide)
  have jk : (nI l).toNatClampNeg = l := nI_clamp (by omega)
  have e2 : nI en + 2 = nI (en + 2) := by rw [show (2 : Int32) = nI 2 from rfl, nI_add]
  obtain ⟨D8, ed, G8, h19, h21, h22, h23, h24, h25⟩ : ∃ D8, f_X12_right_J153 N (nI l) (nI en) (nI nF) (nI nM) D4 = some (0, D8) ∧ Fm [11319] [121, 122, 123, 124] [] D6 D8 ∧ gI D8 11319 = nI (nR + 1) ∧ gA D8 121 = upd (gA D 121) l (gA D 121 l + 1) ∧ gA D8 122 = upd (gA D 122) (200 + nR) (nI l) ∧ gA D8 123 = upd (gA D 123) (200 + nR) (nI w) ∧ gA D8 124 = upd (gA D 124) (200 + nR) (nI (en + 2)) ∧ gA D8 125 = gA D6 125 := by
    unfold f_X12_right_J153
    rw [if_pos a8, y1, bnd_some, show (0 : Int32) = nI 0 from rfl, z1, bnd_some, g52, ii, if_pos rfl]
    simp only [bd_eq, gI_sA, g52, ii, ik, jl, jk, g05, if_true, e2]
    refine ⟨_, rfl, ((((Fm.A rfl).trans (Fm.A rfl)).trans (Fm.A rfl)).trans (Fm.I rfl)).trans (Fm.A rfl), ?_, ?_, ?_, ?_, ?_, rfl⟩
    · show gI D6 11319 + 1 = _
      rw [g19, nI_1]
    · show upd (gA D6 121) l (gA D6 121 l + 1) = _
      rw [g21]
    · show upd (gA D6 122) (200 + nR) (nI l) = _
      rw [g22]
    · show upd (gA D6 123) (200 + nR) (nI w) = _
      rw [g23]
    · show upd (gA D6 124) (200 + nR) (nI (en + 2)) = _
      rw [g24]
  rw [ec, ed]
  have UC : Fm [7601, 7701, 6413, 6501] [78, 79, 80, 81, 82, 83] [] C4 (sI (sI C5 6413 (-1)) 6501 0) := ((x2.sub (by decide)).trans (Fm.I rfl)).trans (Fm.I rfl)
  have UD : Fm [11319] [121, 122, 123, 124, 125] [] D4 D8 := ((y2.sub (by decide)).trans (z2.sub (by decide))).trans (G8.sub (by decide))
  have WC : Fm [11006, 11007, 11008, 11009, 11011, 11012, 6902, 7602, 7702, 8402, 9102, 9402, 8401, 9101, 7601, 7701, 6413, 6501] [85, 86, 87, 88, 89, 90, 92, 93, 78, 79, 80, 81, 82, 83] [] C (sI (sI C5 6413 (-1)) 6501 0) := (FC.sub (by decide)).trans (UC.sub (by decide))
  have WD : Fm [11303, 11307, 11347, 11346, 11348, 11349, 11350, 11351, 11352, 11320, 11321, 11319] [126, 127, 128, 129, 130, 131, 132, 121, 122, 123, 124, 125] [] D D8 := (FD.sub (by decide)).trans (UD.sub (by decide))
  have rowC : ∀ g, g < nF → ∀ r ∈ [85, 86, 87, 88, 89, 90], gA (sI (sI C5 6413 (-1)) 6501 0) r g = gA C r g := fun g hg r hr => by
    have z := b14 g hg
    rw [(UC.ag (li := []) (la := [85, 86, 87, 88, 89, 90]) (lb := []) rfl).2.1 r hr]
    simp only [List.mem_cons, List.not_mem_nil, or_false] at hr
    rcases hr with rfl | rfl | rfl | rfl | rfl | rfl
    · exact z.1
    · exact z.2.1
    · exact z.2.2.1
    · exact z.2.2.2.1
    · exact z.2.2.2.2.1
    · exact z.2.2.2.2.2.1
  have rowD : ∀ g, g < nF → ∀ r ∈ [126, 127, 128, 129, 130], gA D8 r g = gA D r g := fun g hg r hr => by
    have z := (b14 g hg).2.2.2.2.2.2
    rw [(UD.ag (li := []) (la := [126, 127, 128, 129, 130]) (lb := []) rfl).2.1 r hr]
    simp only [List.mem_cons, List.not_mem_nil, or_false] at hr
    rcases hr with rfl | rfl | rfl | rfl | rfl
    · exact z.1
    · exact z.2.1
    · exact z.2.2.1
    · exact z.2.2.2.1
    · exact z.2.2.2.2
  have g16 : gA D8 116 = gA D 116 := WD.2.1 116 rfl
  have o25 : ∀ v, v < 60 * (200 + nR) → gA D8 125 v = gA D 125 v := fun v hv => by
    rw [h25, z4 v (by omega), y5 v (by omega), FD.2.1 125 rfl]
  have R2 : RR (sI (sI C5 6413 (-1)) 6501 0) D8 nL (nR + 1) (cidR cid nL nR) := q2.addR (C1 := sI (sI C5 6413 (-1)) 6501 0) hR hl x3 ((WC.1 7600 rfl).trans q2.2.2.2.1) (x5.trans (by rw [FC.2.1 79 rfl])) (x6.trans (by rw [FC.2.1 79 rfl, FC.2.1 80 rfl])) (x7.trans (by rw [FC.2.1 81 rfl])) h19 h21 h22 h23
  have R5 : RTt (sI (sI C5 6413 (-1)) 6501 0) D8 nL (nR + 1) (cidR cid nL nR) (ts + en) := T.addR (C1 := sI (sI C5 6413 (-1)) 6501 0) q2 hR hl a10 x4 (x8.trans (by rw [FC.2.1 82 rfl])) (x9.trans (by rw [FC.2.1 83 rfl])) (fun v hv => (x11 v hv).trans (by rw [FC.2.1 78 rfl])) g16 h22 h24 o25 (by rw [h25, z4 _ (by omega), y3, FD.2.1 125 rfl]) (by rw [h25, z4 _ (by omega), y4, FD.2.1 125 rfl]) (fun u hu => by
    obtain ⟨b, c1, c2, c3⟩ := a0.2.2 u hu
    refine ⟨b, c1, (x10 u hu).trans c2, ?_⟩
    rw [h25, z3 u (by omega) hu, y2.2.1 114 rfl]
    exact c3)
  have R3 : RF (sI (sI C5 6413 (-1)) 6501 0) D8 nF' nL (nR + 1) (cidR cid nL nR) := ⟨b3, (UC.1 8401 rfl).trans b5, (UD.1 11320 rfl).trans b6, (UC.1 8400 rfl).trans b7, fun g hg => by
    by_cases c : g < nF
    · exact (show FOk C D nL nR cid g from q3.2.2.2.2 g c).addR r1 g16 h22 (rowC g c) (rowD g c)
    · exact (b15 g (by omega) hg).addR hl (by rw [g16]; exact k5) (by rw [FD.2.1 122 rfl]; exact h22) (fun r hr => by rw [(UC.ag (li := []) (la := [85, 86, 87, 88, 89, 90]) (lb := []) rfl).2.1 r hr]) (fun r hr => by rw [(UD.ag (li := []) (la := [126, 127, 128, 129, 130]) (lb := []) rfl).2.1 r hr])⟩
  have R6 : RM (sI (sI C5 6413 (-1)) 6501 0) D8 nM' := ⟨b4, (UC.1 9101 rfl).trans b8, (UD.1 11321 rfl).trans b9, (UC.1 9100 rfl).trans b10, fun i hi => by
    rw [UC.2.1 92 rfl, UC.2.1 93 rfl, UD.2.1 131 rfl, UD.2.1 132 rfl]
    exact b16 i hi⟩
  exact both_0 (r := 0) rfl rfl ((WD.1 11300 rfl).trans h0) ⟨⟨nL, nR + 1, nF', nM', nN, nX, nO, nD, 0, o, s, w, -1, cidR cid nL nR, q1.fm WC WD rfl rfl, R2, R3, q4.fm WC WD rfl rfl, ⟨ts + en, R5⟩, R6, q7.fm WC WD rfl rfl, (q8.le b1).fm WC WD rfl rfl, ⟨by omega, rfl, (UD.1 11303 rfl).trans (fd.1 11303 rfl), fun i hi => by omega⟩, q10.fm WC WD rfl rfl, ⟨m1, m2, (WC.1 6411 rfl).trans m3, (WD.1 11306 rfl).trans m4, (WC.1 6412 rfl).trans m5, (WD.1 11305 rfl).trans m6, rfl, (UD.1 11307 rfl).trans (fd.1 11307 rfl)⟩, q12.fm WD rfl⟩, kp WC.2.2.2 (WD.2.2.1 146 rfl)⟩
theorem op_right (R : Inv C D) (hN : 20000 < N) : Both 1 2 (Kept C D) (f_X11_right N x y C) (f_X12_right N x y D) := by
  obtain ⟨nL, nR, nF, nM, nN, nX, nO, nD, t, o, s, w, fp, cid, Q⟩ := id R
  have Q2 := Q.cg (C1 := C) (D1 := sI D 11300 0) EqC.rfl EqD.code
  have Q3 := Q2
  obtain ⟨q1, q2, q3, q4, q5, q6, q7, q8, q9, q10, ⟨m1, m2, m3, m4, m5, m6, m7, m8⟩, q12⟩ := Q2
  obtain ⟨t1, t2, t3, t4⟩ := id q9
  have hL := q1.1
  by_cases cx : hasT (nI nL) x = 0
  · unfold f_X11_right f_X12_right
    rw [q1.2.1, bd_eq, d_isLine q1.2.2.1, bnd_some, d_fail, bnd_some, cx, c_dem0, bnx_l, if_pos rfl]
    exact both_N (C1 := C) rfl rfl rfl ⟨R.cg EqC.rfl E01, rfl⟩
  obtain ⟨l, hl, rfl⟩ := has_ex (by omega) cx
  have e1 : hasT (nI nL) (nI l) = 1 := by rw [hasT_nI (by omega) (by omega), if_pos hl]
  by_cases c1 : y < 1
  · unfold f_X11_right f_X12_right f_X11_demandOnTape
    rw [q1.2.1, bd_eq, d_isLine q1.2.2.1, bnd_some, e1, c_dem1, bnx_r, if_pos c1, bnx_l, if_neg (show ¬ (1 : Int32) = 0 by decide), if_pos c1, d_fail, bnd_some]
    exact both_I (C1 := C) rfl rfl rfl ⟨R.cg EqC.rfl E02, rfl⟩
  by_cases c2 : y ≤ nI t
  · obtain ⟨en, j1, rfl⟩ := nI_of (x := y) (fun z => c1 (Int32.lt_trans z (by decide)))
    have h1 : 1 ≤ en := by
      rcases Nat.eq_zero_or_pos en with z | z
      · rw [z] at c1; exact absurd (show nI 0 < 1 by decide) c1
      · exact z
    have h2 : en ≤ t := (nI_leI j1 (by omega)).mp c2
    have e70 : gA C 70 l = gA (sI D 11300 0) 116 l := (q1.2.2.2.2.1 l hl).1
    by_cases c9 : gA (sI D 11300 0) 116 l = 5 ∨ nR = 100
    · have ec : f_X11_right N (nI l) (nI en) C = some (.inr (-9), sI (sI C 6413 (-1)) 6501 0) := by
        unfold f_X11_right f_X11_demandOnTape f_X11_endReading
        rw [q1.2.1, e1, c_dem1, bnx_r, if_neg c1, t2, if_pos c2, bnx_r, inb_nI (by omega) (by decide), if_pos rfl, nI_clamp (by omega), e70, q2.2.2.1, q1.2.1, pk_sub (by omega), Nat.add_sub_cancel_left]
        by_cases c5 : gA (sI D 11300 0) 116 l = 5
        · rw [if_pos c5]
          rfl
        · rw [if_neg c5]
          rcases c9 with c9 | c9
          · exact absurd c9 c5
          · rw [c9, if_neg (show ¬ nI 100 < 100 by decide)]
            rfl
      have ed : f_X12_right N (nI l) (nI en) D = some (-9, sI (sI (sI D 11300 0) 11303 0) 11307 (-1)) := by
        have u9 : gI (sI (sI (sI D 11300 0) 11303 0) 11307 (-1)) 11319 = nI nR := q2.2.2.2.2.1
        unfold f_X12_right
        rw [bd_eq, d_isLine q1.2.2.1, bnd_some, e1, if_neg (show ¬ (1 : Int32) = 0 by decide), if_neg c1, t3, if_pos c2, bd_eq, bd_eq, inb_nI (by omega) (by decide), if_pos rfl, nI_clamp (by omega), show gA (sI (sI (sI D 11300 0) 11303 0) 11307 (-1)) 116 l = gA (sI D 11300 0) 116 l from rfl, u9]
        by_cases c5 : gA (sI D 11300 0) 116 l = 5
        · rw [if_pos c5]
        · rw [if_neg c5]
          rcases c9 with c9 | c9
          · exact absurd c9 c5
          · rw [c9, if_pos (show nI 100 = 100 from rfl)]
      rw [ec, ed]
      exact op_sit8 R rfl rfl
    · have k5 : gA (sI D 11300 0) 116 l ≠ 5 := fun z => c9 (Or.inl z)
      have hR : nR < 100 := by
        have := q2.2.1
        rcases Nat.lt_or_ge nR 100 with z | z
        · exact z
        · exact absurd (Or.inr (by omega)) c9
      obtain ⟨ts, T⟩ := id q5
      rw [c_right0 hl hL h1 h2 t1 t2 q1.2.1 q2.2.2.1 hR (by rw [e70]; exact k5) m5, d_right0 (D := D) (nF := nF) (nM := nM) hl hL h1 h2 t1 t3 q1.2.2.1 k5 q2.2.2.2.2.1 hR q3.2.2.1 q6.2.2.1]
      have P0 : PP (cR C en) (dR (sI D 11300 0) en l nR) en 0 58 58 := ⟨⟨by omega, ⟨t, h2, t1, t2⟩, fun i hi => t4 i (by omega)⟩, rfl, rfl, rfl, rfl, (show (-2 : Int32) = nI 58 - 60 by decide), rfl, rfl, rfl, rfl, by omega, by omega, by omega, by omega, by omega⟩
      have DQ0 : DQ (cR C en) (dR (sI D 11300 0) en l nR) nF nM nF nM (cR C en) (dR (sI D 11300 0) en l nR) l (200 + nR) (nL + nR) := ⟨Nat.le_refl _, Nat.le_refl _, q3.1, q6.1, q3.2.1, q3.2.2.1, q3.2.2.2.1, q6.2.1, q6.2.2.1, q6.2.2.2.1, rfl, rfl, q2.2.2.1, fun _ _ => ⟨rfl, rfl, rfl, rfl, rfl, rfl, rfl, rfl, rfl, rfl, rfl⟩, fun g h1 h2 => by omega, q6.2.2.2.2⟩
      have K0 : RN (cR C en) (dR (sI D 11300 0) en l nR) nN nX := q7.fm cR_fm dR_fm rfl rfl
      rcases rdRest (N := N) (lim := 58) (mo := 58) (rf := -2) (by decide) hN (by omega) (Nat.zero_le _) P0 DQ0 K0 with ⟨C4, D4, p1, nF', nM', r1, r2, r3, r4, r5, r6, r7, r8, r9, r10⟩ | ⟨C4, D4, r1, r2, r3, r4, r5, r6⟩
      · rw [r1, r2, bnd_some, bnd_some, if_neg (show ¬ (1 : Int32) = 0 by decide), if_pos (show gI D4 11349 = 0 from r3.2.2.2.2.2.2.2.2.1)]
        have hlt := r3.lt
        have v1 : gI C4 11006 = nI en := r3.2.1
        have v2 : gI D4 11347 = nI en := r3.2.2.1
        have v3 : gI C4 11007 = nI p1 := r3.2.2.2.1
        have v4 : gI D4 11346 = nI p1 := r3.2.2.2.2.1
        by_cases ce : en ≤ p1
        · have : p1 = en := by omega
          subst this
          have z := nI_le (Nat.le_refl p1) (show p1 < 2 ^ 31 by omega)
          rw [if_pos (show gI C4 11006 ≤ gI C4 11007 by rw [v1, v3]; exact z), if_pos (show gI D4 11347 ≤ gI D4 11346 by rw [v2, v4]; exact z)]
          exact right_ok (D := sI D 11300 0) Q3 T hl hR k5 r3 r6 r7 r8 rfl hN
        · have z : ¬ nI en ≤ nI p1 := nI_ge (by omega) (by omega)
          rw [if_neg (show ¬ gI C4 11006 ≤ gI C4 11007 by rw [v1, v3]; exact z), if_neg (show ¬ gI D4 11347 ≤ gI D4 11346 by rw [v2, v4]; exact z), d_wr (show gI D4 11349 = 0 from r3.2.2.2.2.2.2.2.2.1), bnd_some, v3, v4]
          exact right_bad (D := sI D 11300 0) Q3 T (r6.db.pp pc_ref pd_wr) (pf_mk (by decide)) (r7.trans (Fm.pr pc_ref)) (r8.trans (Fm.prD pd_wr)) rfl
      · rw [r1, r2, bnd_some, bnd_some, if_pos rfl, if_neg r3.bad]
        exact right_bad (D := sI D 11300 0) Q3 T r4 r3 r5 r6 rfl
  · unfold f_X11_right f_X12_right f_X11_demandOnTape
    rw [q1.2.1, bd_eq, d_isLine q1.2.2.1, bnd_some, e1, c_dem1, bnx_r, if_neg c1, t2, if_neg c2, bnx_l, if_neg (show ¬ (1 : Int32) = 0 by decide), if_neg c1, t3, if_neg c2, d_fail, bnd_some]
    exact both_I (C1 := C) rfl rfl rfl ⟨R.cg EqC.rfl E02, rfl⟩
end PRT
