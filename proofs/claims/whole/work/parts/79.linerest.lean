/-! a line with a rest -/
section PLR
variable {C D C3 Dm : CS} {en p f n nR nF nM nN nX ts si k N : Nat} {cid : Nat → Nat} {E : Option Nat} {pv : Int32}
theorem an75_lo {a kd : Nat → Int32} {v kk : Int32} {i : Nat} (hE : ∀ e, E = some e → f ≤ e) (hf : f ≤ n) (hi : i < f) : an75 (upd a n v) kd n kk E i = a i := by
  cases E with
  | none => exact upd_ne (by omega)
  | some e =>
    have := hE e rfl
    unfold an75
    simp only []
    split
    · rw [upd_ne (by omega), upd_ne (by omega)]
    · exact upd_ne (by omega)
theorem lowC {kk : Int32} (S : SL C D f n (nI si) E pv) (F3 : Fm [11007, 11008, 6901] [70, 71, 72, 73, 74, 75] [] C C3) (c70 : gA C3 70 = upd (gA C 70) n kk) (c71 : gA C3 71 = upd (gA C 71) n (nI si)) (c72 : gA C3 72 = upd (gA C 72) n (pv + nI ((n - f) / 10))) (c73 : gA C3 73 = upd (gA C 73) n (nI (1 + (n - f) % 10))) (c74 : gA C3 74 = upd (gA C 74) n (fsV kk n E)) (c75 : gA C3 75 = an75 (upd (gA C 75) n (-1)) (gA C 70) n kk E) : Same [70, 71, 72, 73, 74, 75, 79] (· < f) C C3 := by
  intro r hr i hi
  have hi : i < f := hi
  have fn := S.2.1
  have L := S.2.2.2.2.2.2.2.2.2.2.1
  simp only [List.mem_cons, List.not_mem_nil, or_false] at hr
  rcases hr with rfl | rfl | rfl | rfl | rfl | rfl | rfl
  · rw [c70, upd_ne (by omega)]
  · rw [c71, upd_ne (by omega)]
  · rw [c72, upd_ne (by omega)]
  · rw [c73, upd_ne (by omega)]
  · rw [c74, upd_ne (by omega)]
  · rw [c75, an75_lo (fun e he => by subst he; exact L.1) fn hi]
  · rw [(F3.ag (li := []) (la := [79]) (lb := []) rfl).2.1 79 (by decide)]
theorem lineRest (Q : SQ C D en p f n nR nF nM nN nX ts cid si E pv) (hN : 20000 < N) (hn : n < 200) (hk : k ≤ 5) (k5 : k ≠ 5) (h4 : k = 4 → f < n ∧ gA D 116 (n - 1) ≠ 5)
    (P : PP C3 Dm en (p + 2) (p + 60) 60) (hpe : p + 2 ≤ en) (hb : sgn Dm en p = chOf 1 k) (h32 : sgn Dm en (p + 1) = 32) (hb10 : sgn Dm en p ≠ 10)
    (F3 : Fm [11007, 11008, 6901] [70, 71, 72, 73, 74, 75] [] C C3) (Fd : Fm [11346, 11348, 11351, 11352] [] [] D Dm) (h51 : gI Dm 11351 = nI n) (h52 : gI Dm 11352 = nI n)
    (c01 : gI C3 6901 = nI (n + 1)) (c70 : gA C3 70 = upd (gA C 70) n (nI k)) (c71 : gA C3 71 = upd (gA C 71) n (nI si)) (c72 : gA C3 72 = upd (gA C 72) n (pv + nI ((n - f) / 10))) (c73 : gA C3 73 = upd (gA C 73) n (nI (1 + (n - f) % 10))) (c74 : gA C3 74 = upd (gA C 74) n (fsV (nI k) n E)) (c75 : gA C3 75 = an75 (upd (gA C 75) n (-1)) (gA C 70) n (nI k) E) :
    LineR C D en p f n nR nF nM nN ts si pv (bnd (f_X10_takeRest N (nI n) C3) fun q12 => if q12.1 = 0 then (some (0, q12.2)) else (f_X10_takeLine_J83 N (nI n) (nI (p + 2)) q12.2)) (bnd (bnd (f_X12_readRest N (nI 60) (nI p) Dm) fun q24 => f_X12_readLine_J223 N (nI k) q24) fun q => if gI q 11349 = 0 then f_X12_keepLine N (nI p) q else some q) := by
  obtain ⟨-, S, R, T, RFa, RMa, K, NXa, hsi⟩ := Q
  have s3 := F3.ag (li := [8401, 8400, 9101, 9100, 7601, 7600, 7701, 6900]) (la := [78, 79, 80, 81, 82, 83, 85, 86, 87, 88, 89, 90, 92, 93]) (lb := []) rfl
  have sd := Fd.ag (li := [11320, 11321, 11308, 11306, 11319]) (la := [114, 116, 117, 118, 119, 120, 121, 122, 123, 124, 125, 126, 127, 128, 129, 130, 131, 132]) (lb := []) rfl
  have DQ0 : DQ C3 Dm nF nM nF nM C3 Dm n n (n + nR) := by
    refine ⟨Nat.le_refl _, Nat.le_refl _, RFa.1, RMa.1, (s3.1 8401 (by decide)).trans RFa.2.1, (sd.1 11320 (by decide)).trans RFa.2.2.1, (s3.1 8400 (by decide)).trans RFa.2.2.2.1, (s3.1 9101 (by decide)).trans RMa.2.1, (sd.1 11321 (by decide)).trans RMa.2.2.1, (s3.1 9100 (by decide)).trans RMa.2.2.2.1, h51, h52, (s3.1 7601 (by decide)).trans R.2.2.1, fun _ _ => ⟨rfl, rfl, rfl, rfl, rfl, rfl, rfl, rfl, rfl, rfl, rfl⟩, fun g h1 h2 => by omega, fun i hi => ?_⟩
    unfold MEq
    rw [s3.2.1 92 (by decide), s3.2.1 93 (by decide), sd.2.1 131 (by decide), sd.2.1 132 (by decide)]
    exact RMa.2.2.2.2 i hi
  have K3 : RN C3 Dm nN nX := K.fm F3 Fd rfl rfl
  have hrf : nI p = nI (p + 60) - 60 := by rw [show (60 : Int32) = nI 60 from rfl, pk_sub (by omega), Nat.add_sub_cancel]
  rcases rdRest (N := N) hrf hN (by omega) hpe P DQ0 K3 with ⟨C4, D4, p1, nF', nM', r1, r2, r3, r4, r5, r6, r7, r8, r9, r10⟩ | ⟨C4, D4, r1, r2, r3, r4, r5, r6⟩
  · have sg : ∀ i, sgn D4 en i = sgn Dm en i := sgn_r (en := en) r8
    have t4 := r7.ag (li := [6901, 6900, 7601, 7600, 7701]) (la := [70, 71, 72, 73, 74, 75, 78, 79, 80, 81, 82, 83]) (lb := []) rfl
    have u4 := r8.ag (li := [11308, 11306, 11319]) (la := [116, 117, 118, 119, 120, 121, 122, 123, 124, 125]) (lb := []) rfl
    have aC : Ag [7601, 7600, 7701] [78, 79, 80, 81, 82, 83] [] C C4 := ((F3.sub (fi := [11007, 11008, 6901, 11009, 11011, 11012, 8401, 9101]) (fa := [70, 71, 72, 73, 74, 75, 85, 86, 87, 88, 89, 90, 92, 93]) (fb := []) (by decide)).trans (r7.sub (by decide))).ag rfl
    have aD : Ag [11308, 11306, 11319] [116, 117, 118, 119, 120, 121, 122, 123, 124, 125] [] D D4 := ((Fd.sub (fi := [11346, 11348, 11351, 11352, 11349, 11350, 11320, 11321]) (fa := [126, 127, 128, 129, 130, 131, 132]) (fb := []) (by decide)).trans (r8.sub (by decide))).ag rfl
    obtain ⟨C6, D6, p', ts', E', w1, w2, w3, w4, w5, w6, w7, w8, w9, w10, w11, w12, w13, w14⟩ := lineEnd (N := N) S R T hN hn hk h4 r3 r5 r4 r10 (fun i h1 h2 => by
        by_cases c : i < p + 2
        · by_cases c0 : i = p
          · rw [c0, sg]; exact hb10
          · rw [show i = p + 1 by omega, sg, h32]; decide
        · rw [sg]; exact r9 i (by omega) h2) (by rw [sg]; exact hb) (by rw [sg]; exact h32) ((t4.1 6901 (by decide)).trans c01) (((t4.1 6900 (by decide)).trans (s3.1 6900 (by decide))).trans S.2.2.2.2.1) ((t4.2.1 70 (by decide)).trans c70) ((t4.2.1 71 (by decide)).trans c71) ((t4.2.1 72 (by decide)).trans c72) ((t4.2.1 73 (by decide)).trans c73) ((t4.2.1 74 (by decide)).trans c74) ((t4.2.1 75 (by decide)).trans c75) aC aD hsi
    have v6 := w9.ag (li := [8401, 8400, 9101, 9100]) (la := [85, 86, 87, 88, 89, 90, 92, 93]) (lb := []) rfl
    have x6 := w10.ag (li := [11320, 11321, 11306]) (la := [126, 127, 128, 129, 130, 131, 132]) (lb := []) rfl
    obtain ⟨q1, q2, q3, q4, q5, q6, q7, q8, q9, q10, q11, q12, q13, q14, q15, q16⟩ := r6
    have FCa : lC C C6 := ((F3.sub (by decide)).trans (r7.sub (by decide))).trans (w9.sub (by decide))
    have FDa : lD D D6 := ((Fd.sub (by decide)).trans (r8.sub (by decide))).trans (w10.sub (by decide))
    have rowC : ∀ g, g < nF → ∀ r ∈ [85, 86, 87, 88, 89, 90], gA C6 r g = gA C r g := fun g hg r hr => by
      have z := q14 g hg
      rw [v6.2.1 r (by simp only [List.mem_cons, List.not_mem_nil, or_false] at hr ⊢; omega), ← s3.2.1 r (by simp only [List.mem_cons, List.not_mem_nil, or_false] at hr ⊢; omega)]
      simp only [List.mem_cons, List.not_mem_nil, or_false] at hr
      rcases hr with rfl | rfl | rfl | rfl | rfl | rfl
      · exact z.1
      · exact z.2.1
      · exact z.2.2.1
      · exact z.2.2.2.1
      · exact z.2.2.2.2.1
      · exact z.2.2.2.2.2.1
    have rowD : ∀ g, g < nF → ∀ r ∈ [126, 127, 128, 129, 130], gA D6 r g = gA D r g := fun g hg r hr => by
      have z := (q14 g hg).2.2.2.2.2.2
      rw [x6.2.1 r (by simp only [List.mem_cons, List.not_mem_nil, or_false] at hr ⊢; omega), ← sd.2.1 r (by simp only [List.mem_cons, List.not_mem_nil, or_false] at hr ⊢; omega)]
      simp only [List.mem_cons, List.not_mem_nil, or_false] at hr
      rcases hr with rfl | rfl | rfl | rfl | rfl
      · exact z.1
      · exact z.2.1
      · exact z.2.2.1
      · exact z.2.2.2.1
      · exact z.2.2.2.2
    have kk : nI k ≠ 5 := fun z => k5 ((nI_eq (b := 5) (by omega) (by decide)).mp z)
    have nb1 : nbC nN C C6 := ((nbC.fm F3 rfl).trans (nbC.fm r7 rfl)).trans (nbC.fm w9 rfl)
    have nb2 : nbD nN D D6 := ((nbD.fm Fd rfl).trans (nbD.fm r8 rfl)).trans (nbD.fm w10 rfl)
    rw [r1, r2, bnd_some, bnd_some, if_neg (show ¬ (1 : Int32) = 0 by decide), w2]
    left
    refine ⟨C6, D6, p', E', cidL cid n nR, nF', nM', nN, nX, ts', w1, rfl, w3, ⟨w4, w5, w6, w7, ⟨q3, (v6.1 8401 (by decide)).trans q5, (x6.1 11320 (by decide)).trans q6, (v6.1 8400 (by decide)).trans q7, fun g hg => ?_⟩, ⟨q4, (v6.1 9101 (by decide)).trans q8, (x6.1 11321 (by decide)).trans q9, (v6.1 9100 (by decide)).trans q10, fun i hi => ?_⟩, (K3.fm r7 r8 rfl rfl).fm w9 w10 rfl rfl, ⟨by have := NXa.1; omega, fun j hj => ?_⟩, ?_⟩, q1, q2, Nat.le_refl _, w8, ⟨w13.1, w13.2.1, w13.2.2, fun r hr i hi => rowC i hi r hr, nb1⟩, ⟨w14.1, w14.2.1, w14.2.2, fun r hr i hi => rowD i hi r hr, nb2⟩, FCa, FDa, hn⟩
    · by_cases c : g < nF
      · exact (show FOk C D n nR cid g from RFa.2.2.2.2 g c).addL hn w11 w12 (rowC g c) (rowD g c)
      · exact (q15 g (by omega) hg).addL kk (by rw [aD.2.1 116 (by decide)]; exact w11) (by rw [aD.2.1 122 (by decide)]; exact w12) (fun r hr => by rw [v6.2.1 r (by simp only [List.mem_cons, List.not_mem_nil, or_false] at hr ⊢; omega)]) (fun r hr => by rw [x6.2.1 r (by simp only [List.mem_cons, List.not_mem_nil, or_false] at hr ⊢; omega)])
    · rw [v6.2.1 92 (by decide), v6.2.1 93 (by decide), x6.2.1 131 (by decide), x6.2.1 132 (by decide)]
      exact q16 i hi
    · obtain ⟨⟨j', j1, j2⟩, j3⟩ := NXa.2 j hj
      rw [(nb2 j hj).1, (nb2 j hj).2.2]
      exact ⟨⟨j', by omega, j2⟩, j3⟩
    · exact ((x6.1 11306 (by decide)).trans (aD.1 11306 (by decide))).trans hsi
  · have t4 := r5.ag (li := [7701]) (la := [70, 71, 72, 73, 74, 75, 78, 79, 80, 81, 82, 83]) (lb := []) rfl
    have J : f_X12_readLine_J223 N (nI k) D4 = some D4 := by
      unfold f_X12_readLine_J223
      rw [if_neg r3.bad]
    rw [r1, r2, bnd_some, bnd_some, if_pos rfl, J, bnd_some, if_neg r3.bad]
    right
    have fn := S.2.1
    refine ⟨C4, D4, rfl, rfl, r3, ((t4.1 7701 (by decide)).trans (s3.1 7701 (by decide))).trans T.2.1, r4.2, ⟨(lowC S F3 c70 c71 c72 c73 c74 c75).trans (Same.fm r5 rfl), (Same.fm F3 rfl).trans (Same.fm r5 rfl), (Same.fm F3 rfl).trans (Same.fm r5 rfl), fun r hr i hi => ?_, (nbC.fm F3 rfl).trans (nbC.fm r5 rfl)⟩, ⟨(Same.fm Fd rfl).trans (Same.fm r6 rfl), (Same.fm Fd rfl).trans (Same.fm r6 rfl), (Same.fm Fd rfl).trans (Same.fm r6 rfl), fun r hr i hi => ?_, (nbD.fm Fd rfl).trans (nbD.fm r6 rfl)⟩, (F3.sub (by decide)).trans (r5.sub (by decide)), (Fd.sub (by decide)).trans (r6.sub (by decide))⟩
    · have z := r4.1 i hi
      rw [← s3.2.1 r (by simp only [List.mem_cons, List.not_mem_nil, or_false] at hr ⊢; omega)]
      simp only [List.mem_cons, List.not_mem_nil, or_false] at hr
      rcases hr with rfl | rfl | rfl | rfl | rfl | rfl
      · exact z.1
      · exact z.2.1
      · exact z.2.2.1
      · exact z.2.2.2.1
      · exact z.2.2.2.2.1
      · exact z.2.2.2.2.2.1
    · have z := (r4.1 i hi).2.2.2.2.2.2
      rw [← sd.2.1 r (by simp only [List.mem_cons, List.not_mem_nil, or_false] at hr ⊢; omega)]
      simp only [List.mem_cons, List.not_mem_nil, or_false] at hr
      rcases hr with rfl | rfl | rfl | rfl | rfl
      · exact z.1
      · exact z.2.1
      · exact z.2.2.1
      · exact z.2.2.2.1
      · exact z.2.2.2.2
end PLR
