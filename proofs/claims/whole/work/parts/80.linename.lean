/-! a line that names -/
section PLN
variable {C D C3 Dm : CS} {en p f n nR nF nM nN nX ts si N : Nat} {cid : Nat → Nat} {E : Option Nat} {pv : Int32}
theorem lineName (Q : SQ C D en p f n nR nF nM nN nX ts cid si E pv) (hN : 20000 < N) (hn : n < 200)
    (P : PP C3 Dm en (p + 2) (p + 60) 60) (hb : sgn Dm en p = chOf 1 5) (h32 : sgn Dm en (p + 1) = 32) (hb10 : sgn Dm en p ≠ 10)
    (F3 : Fm [11007, 11008, 6901] [70, 71, 72, 73, 74, 75] [] C C3) (Fd : Fm [11346, 11348, 11351, 11352] [] [] D Dm) (h51 : gI Dm 11351 = nI n)
    (c01 : gI C3 6901 = nI (n + 1)) (c70 : gA C3 70 = upd (gA C 70) n (nI 5)) (c71 : gA C3 71 = upd (gA C 71) n (nI si)) (c72 : gA C3 72 = upd (gA C 72) n (pv + nI ((n - f) / 10))) (c73 : gA C3 73 = upd (gA C 73) n (nI (1 + (n - f) % 10))) (c74 : gA C3 74 = upd (gA C 74) n (fsV (nI 5) n E)) (c75 : gA C3 75 = an75 (upd (gA C 75) n (-1)) (gA C 70) n (nI 5) E) :
    LineR C D en p f n nR nF nM nN ts si pv (bnd (f_X10_takeNaming N (nI n) C3) fun q12 => if q12.1 = 0 then (some (0, q12.2)) else (f_X10_takeLine_J83 N (nI n) (nI (p + 2)) q12.2)) (bnd (bnd (f_X12_readExhibit N Dm) fun q24 => f_X12_readLine_J223 N (nI 5) q24) fun q => if gI q 11349 = 0 then f_X12_keepLine N (nI p) q else some q) := by
  obtain ⟨-, S, R, T, RFa, RMa, K, NXa, hsi⟩ := Q
  have s3 := F3.ag (li := [8401, 8400, 9101, 9100, 7601, 7600, 7701, 6900]) (la := [78, 79, 80, 81, 82, 83, 85, 86, 87, 88, 89, 90, 92, 93]) (lb := []) rfl
  have sd := Fd.ag (li := [11320, 11321, 11308, 11306, 11319]) (la := [114, 116, 117, 118, 119, 120, 121, 122, 123, 124, 125, 126, 127, 128, 129, 130, 131, 132, 134]) (lb := []) rfl
  have K3 : RN C3 Dm nN nX := K.fm F3 Fd rfl rfl
  have nn := NXa.1
  have hl : ∀ j, j < nN → gA Dm 134 j ≤ nI n := fun j hj => by
    obtain ⟨⟨j', j1, j2⟩, -⟩ := NXa.2 j hj
    rw [sd.2.1 134 (by decide), j2]
    exact nI_le (by omega) (by omega)
  rcases rdNaming (N := N) P K3 (by omega) hl h51 (by omega) hN with ⟨C4, D4, p1, nX', r1, r2, r3, r4, r5, r6, r61, r62, r63, r64, r7, r8, r9, r10⟩ | ⟨C4, D4, r1, r2, r3, r41, r42, r5, r6⟩
  · have sg : ∀ i, sgn D4 en i = sgn Dm en i := fun i => sgn_n r8 i
    have t4 := r7.ag (li := [6901, 6900, 7601, 7600, 7701]) (la := [70, 71, 72, 73, 74, 75, 78, 79, 80, 81, 82, 83]) (lb := []) rfl
    have aC : Ag [7601, 7600, 7701] [78, 79, 80, 81, 82, 83] [] C C4 := ((F3.sub (fi := [11007, 11008, 6901, 11009, 11011, 11012, 9401]) (fa := [70, 71, 72, 73, 74, 75, 95, 96]) (fb := [97]) (by decide)).trans (r7.sub (by decide))).ag rfl
    have aD : Ag [11308, 11306, 11319] [116, 117, 118, 119, 120, 121, 122, 123, 124, 125] [] D D4 := ((Fd.sub (fi := [11346, 11348, 11351, 11352, 11349, 11350, 11322, 11323]) (fa := [133, 134]) (fb := [135]) (by decide)).trans (r8.sub (by decide))).ag rfl
    obtain ⟨C6, D6, p', ts', E', w1, w2, w3, w4, w5, w6, w7, w8, w9, w10, w11, w12, w13, w14⟩ := lineEnd (N := N) (k := 5) S R T hN hn (by omega) (fun z => by omega) r3 r5 r4 r10 (fun i h1 h2 => by
        by_cases c : i < p + 2
        · by_cases c0 : i = p
          · rw [c0, sg]; exact hb10
          · rw [show i = p + 1 by omega, sg, h32]; decide
        · rw [sg]; exact r9 i (by omega) h2) (by rw [sg]; exact hb) (by rw [sg]; exact h32) ((t4.1 6901 (by decide)).trans c01) (((t4.1 6900 (by decide)).trans (s3.1 6900 (by decide))).trans S.2.2.2.2.1) ((t4.2.1 70 (by decide)).trans c70) ((t4.2.1 71 (by decide)).trans c71) ((t4.2.1 72 (by decide)).trans c72) ((t4.2.1 73 (by decide)).trans c73) ((t4.2.1 74 (by decide)).trans c74) ((t4.2.1 75 (by decide)).trans c75) aC aD hsi
    have FCa : lC C C6 := ((F3.sub (by decide)).trans (r7.sub (by decide))).trans (w9.sub (by decide))
    have FDa : lD D D6 := ((Fd.sub (by decide)).trans (r8.sub (by decide))).trans (w10.sub (by decide))
    have v6 : Ag [8401, 8400, 9101, 9100] [85, 86, 87, 88, 89, 90, 92, 93] [] C C6 := (((F3.sub (fi := [11007, 11008, 6901, 11009, 11011, 11012, 9401, 7601, 7701]) (fa := [70, 71, 72, 73, 74, 75, 95, 96, 78, 79, 80, 81, 82, 83]) (fb := [97]) (by decide)).trans (r7.sub (by decide))).trans (w9.sub (by decide))).ag rfl
    have x6 : Ag [11320, 11321, 11306] [126, 127, 128, 129, 130, 131, 132] [] D D6 := (((Fd.sub (fi := [11346, 11348, 11351, 11352, 11349, 11350, 11322, 11323, 11308]) (fa := [133, 134, 116, 117, 118, 121, 122, 123, 124, 125]) (fb := [135]) (by decide)).trans (r8.sub (by decide))).trans (w10.sub (by decide))).ag rfl
    have rowC : ∀ g, ∀ r ∈ [85, 86, 87, 88, 89, 90], gA C6 r g = gA C r g := fun g r hr => by
      rw [v6.2.1 r (by simp only [List.mem_cons, List.not_mem_nil, or_false] at hr ⊢; omega)]
    have rowD : ∀ g, ∀ r ∈ [126, 127, 128, 129, 130], gA D6 r g = gA D r g := fun g r hr => by
      rw [x6.2.1 r (by simp only [List.mem_cons, List.not_mem_nil, or_false] at hr ⊢; omega)]
    have nb1 : nbC nN C C6 := ((nbC.fm F3 rfl).trans r63).trans (nbC.fm w9 rfl)
    have nb2 : nbD nN D D6 := ((nbD.fm Fd rfl).trans r64).trans (nbD.fm w10 rfl)
    have nb3 : nbD (nN + 1) D4 D6 := nbD.fm w10 rfl
    rw [r1, r2, bnd_some, bnd_some, if_neg (show ¬ (1 : Int32) = 0 by decide), w2]
    left
    refine ⟨C6, D6, p', E', cidL cid n nR, nF, nM, nN + 1, nX', ts', w1, rfl, w3, ⟨w4, w5, w6, w7, ⟨RFa.1, (v6.1 8401 (by decide)).trans RFa.2.1, (x6.1 11320 (by decide)).trans RFa.2.2.1, (v6.1 8400 (by decide)).trans RFa.2.2.2.1, fun g hg => ?_⟩, ⟨RMa.1, (v6.1 9101 (by decide)).trans RMa.2.1, (x6.1 11321 (by decide)).trans RMa.2.2.1, (v6.1 9100 (by decide)).trans RMa.2.2.2.1, fun i hi => ?_⟩, r6.fm w9 w10 rfl rfl, ⟨by omega, fun j hj => ?_⟩, ?_⟩, Nat.le_refl _, Nat.le_refl _, by omega, w8, ⟨w13.1, w13.2.1, w13.2.2, fun r hr i _ => rowC i r hr, nb1⟩, ⟨w14.1, w14.2.1, w14.2.2, fun r hr i _ => rowD i r hr, nb2⟩, FCa, FDa, hn⟩
    · exact (show FOk C D n nR cid g from RFa.2.2.2.2 g hg).addL hn w11 w12 (rowC g) (rowD g)
    · rw [v6.2.1 92 (by decide), v6.2.1 93 (by decide), x6.2.1 131 (by decide), x6.2.1 132 (by decide)]
      exact RMa.2.2.2.2 i hi
    · by_cases c : j = nN
      · subst c
        rw [(nb3 j (by omega)).1, (nb3 j (by omega)).2.2]
        exact ⟨⟨n, by omega, r61⟩, r62⟩
      · obtain ⟨⟨j', j1, j2⟩, j3⟩ := NXa.2 j (by omega)
        rw [(nb2 j (by omega)).1, (nb2 j (by omega)).2.2]
        exact ⟨⟨j', by omega, j2⟩, j3⟩
    · exact (x6.1 11306 (by decide)).trans hsi
  · have t4 := r5.ag (li := [7701]) (la := [92, 93]) (lb := []) rfl
    have u4 := r6.ag (li := []) (la := [131, 132]) (lb := []) rfl
    have J : f_X12_readLine_J223 N (nI 5) D4 = some D4 := by
      unfold f_X12_readLine_J223
      rw [if_neg r3.bad]
    rw [r1, r2, bnd_some, bnd_some, if_pos rfl, J, bnd_some, if_neg r3.bad]
    right
    refine ⟨C4, D4, rfl, rfl, r3, ((t4.1 7701 (by decide)).trans (s3.1 7701 (by decide))).trans T.2.1, fun i hi => ?_, ⟨(lowC S F3 c70 c71 c72 c73 c74 c75).trans (Same.fm r5 rfl), (Same.fm F3 rfl).trans (Same.fm r5 rfl), (Same.fm F3 rfl).trans (Same.fm r5 rfl), (Same.fm F3 rfl).trans (Same.fm r5 rfl), (nbC.fm F3 rfl).trans r41⟩, ⟨(Same.fm Fd rfl).trans (Same.fm r6 rfl), (Same.fm Fd rfl).trans (Same.fm r6 rfl), (Same.fm Fd rfl).trans (Same.fm r6 rfl), (Same.fm Fd rfl).trans (Same.fm r6 rfl), (nbD.fm Fd rfl).trans r42⟩, (F3.sub (by decide)).trans (r5.sub (by decide)), (Fd.sub (by decide)).trans (r6.sub (by decide))⟩
    unfold MEq
    rw [t4.2.1 92 (by decide), t4.2.1 93 (by decide), u4.2.1 131 (by decide), u4.2.1 132 (by decide), s3.2.1 92 (by decide), s3.2.1 93 (by decide), sd.2.1 131 (by decide), sd.2.1 132 (by decide)]
    exact RMa.2.2.2.2 i hi
end PLN
