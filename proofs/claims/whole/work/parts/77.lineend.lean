/-! the end of a line: both have read its rest -/
section PLE
variable {C D C4 D4 : CS} {en p p1 f n nR ts si k b N : Nat} {cid : Nat → Nat} {E : Option Nat} {pv : Int32}
theorem lineEnd (S : SL C D f n (nI si) E pv) (R : RR C D n nR cid) (T : RTt C D n nR cid ts) (hN : 20000 < N) (hn : n < 200) (hk : k ≤ 5) (h4 : k = 4 → f < n ∧ gA D 116 (n - 1) ≠ 5)
    (P : PP C4 D4 en p1 (p + 60) 60) (hend : sgn D4 en p1 = -1 ∨ sgn D4 en p1 = 10) (h2 : p + 2 ≤ p1) (hpe : p1 ≤ en) (hno : ∀ i, p ≤ i → i < p1 → sgn D4 en i ≠ 10) (hb : sgn D4 en p = chOf 1 k) (h32 : sgn D4 en (p + 1) = 32)
    (c01 : gI C4 6901 = nI (n + 1)) (c00 : gI C4 6900 = 200) (c70 : gA C4 70 = upd (gA C 70) n (nI k)) (c71 : gA C4 71 = upd (gA C 71) n (nI si)) (c72 : gA C4 72 = upd (gA C 72) n (pv + nI ((n - f) / 10))) (c73 : gA C4 73 = upd (gA C 73) n (nI (1 + (n - f) % 10))) (c74 : gA C4 74 = upd (gA C 74) n (fsV (nI k) n E)) (c75 : gA C4 75 = an75 (upd (gA C 75) n (-1)) (gA C 70) n (nI k) E)
    (aC : Ag [7601, 7600, 7701] [78, 79, 80, 81, 82, 83] [] C C4) (aD : Ag [11308, 11306, 11319] [116, 117, 118, 119, 120, 121, 122, 123, 124, 125] [] D D4) (hsi : gI D 11306 = nI si) :
    ∃ C6 D6 p' ts' E', f_X10_takeLine_J83 N (nI n) (nI (p + 2)) C4 = some (1, C6) ∧ (bnd (f_X12_readLine_J223 N (nI k) D4) fun q => if gI q 11349 = 0 then f_X12_keepLine N (nI p) q else some q) = some D6 ∧ p < p' ∧ Pos C6 D6 en p' ∧ SL C6 D6 f (n + 1) (nI si) E' pv ∧ RR C6 D6 (n + 1) nR (cidL cid n nR) ∧ RTt C6 D6 (n + 1) nR (cidL cid n nR) ts' ∧ ts ≤ ts' ∧ Fm [7601, 7701, 11007] [78, 79, 80, 81, 82, 83] [] C4 C6 ∧ Fm [11308, 11346] [116, 117, 118, 121, 122, 123, 124, 125] [] D4 D6 ∧ gA D6 116 = upd (gA D 116) n (nI k) ∧ gA D6 122 = upd (gA D 122) n (nI n) ∧ (Same [70, 71, 72, 73, 74, 75, 79] (· < f) C C6 ∧ Same [80, 81, 82, 83] (· < n + nR) C C6 ∧ Same [78] (· < ts) C C6) ∧ Same [116, 117, 118, 119, 120, 121] (· < f) D D6 ∧ Same [122, 123, 124] (fun i => i < f ∨ 200 ≤ i) D D6 ∧ Same [125] (fun v => v < 60 * f ∨ 12000 ≤ v) D D6 := by
  have he := P.1.1
  have hl := P.lt
  obtain ⟨a0, a1, a2, a3, a4, a5, a6, a7, a8, a9, a10, a11, a12, a13, a14⟩ := id P
  have rn := R.2.1
  have tb := T.1
  -- the class's rest
  obtain ⟨C5, x1, x2, x3, x4, x5, x6, x7, x8, x9, x10, x11⟩ := c_radd (N := N) (l := n) (r := n + nR) (t := ts) (fr := p + 2) (q := p1) a0 ((aC.1 7601 (by decide)).trans R.2.2.1) ((aC.1 7600 (by decide)).trans R.2.2.2.1) ((aC.1 7701 (by decide)).trans T.2.1) (by omega) hn h2 hpe (by omega) hN
  have ag5 := x2.ag (li := [11006, 11007, 11011, 11012, 6901, 6900, 7600, 6501]) (la := [66, 70, 71, 72, 73, 74, 75]) (lb := []) rfl
  have e5 : gI C5 11006 = nI en := (ag5.1 11006 (by decide)).trans a1
  have f5 : gI C5 11007 = nI p1 := (ag5.1 11007 (by decide)).trans a3
  -- the model's line
  have v4 : k = 4 → 0 < n ∧ gA D4 118 (n - 1) = eV E := fun z => by
    obtain ⟨e, e1, e2⟩ := S.four (h4 z).1 (h4 z).2
    have := (h4 z).1
    exact ⟨by omega, by rw [aD.2.1 118 (by decide), e1]; exact e2⟩
  obtain ⟨D5, y1, y2, y3, y4, y5, y6, y7, y8⟩ := d_j223 (N := N) (n := n) (E := E) hk a8 ((aD.1 11308 (by decide)).trans S.2.2.2.1) hn ((aD.1 11306 (by decide)).trans hsi) v4 a2 a4 he hl.1
  have agd := y2.ag (li := [11347, 11349, 11319, 11306]) (la := [114, 119, 120, 122, 123, 124, 125]) (lb := []) rfl
  have g114 : gA D5 114 = gA D4 114 := agd.2.1 114 (by decide)
  have in1 : ∀ i, i < p1 → sgn D4 en i = gA D4 114 i := fun i hi => if_pos (by omega)
  have hD : gI D5 11346 = nI p1 ∨ (gI D5 11346 = nI (p1 + 1) ∧ p1 < 3000 ∧ gA D5 114 p1 = 10) := by
    by_cases c : sgn D4 en p1 = 10
    · right
      rw [if_pos c] at y4
      have q := sgn_in c (by decide)
      refine ⟨y4, by omega, ?_⟩
      rw [g114, ← c]
      exact (if_pos (by omega)).symm
    · left
      rw [if_neg c] at y4
      exact y4
  have h60 : p1 ≤ p + 60 := a10
  obtain ⟨D6, z1, z2, z3, z4, z5, z6, z7⟩ := d_keep (N := N) (l := n) (p0 := p) (p1 := p1) (en := en) hn y3 hpe he (by omega) h60 hD (fun i i1 i2 => by rw [g114, ← in1 i i2]; exact hno i i1 i2) hN
  have agk := z2.ag (li := [11308, 11346, 11347, 11349, 11319]) (la := [114, 116, 117, 118, 119, 120, 121]) (lb := []) rfl
  have d49 : gI D5 11349 = 0 := (agd.1 11349 (by decide)).trans a8
  -- where both stand
  obtain ⟨C6, p', w1, w2, w3, w4, w5⟩ : ∃ C6 p', f_X10_takeLine_J83 N (nI n) (nI (p + 2)) C4 = some (1, C6) ∧ Fm [11007] [] [] C5 C6 ∧ gI C6 11007 = nI p' ∧ gI D6 11346 = nI p' ∧ (p1 ≤ p' ∧ p' ≤ en) := by
    unfold f_X10_takeLine_J83
    rw [a3, x1, bnd_some, e5, f5, agk.1 11346 (by decide), y4]
    by_cases c : sgn D4 en p1 = 10
    · have q := sgn_in c (by decide)
      rw [if_neg (nI_ge (by omega) (by omega)), if_pos c, bd_eq, nI_1]
      exact ⟨_, p1 + 1, rfl, Fm.I rfl, rfl, rfl, by omega, by omega⟩
    · have q : sgn D4 en p1 = -1 := by
        rcases hend with q | q
        · exact q
        · exact absurd q c
      have ge : en ≤ p1 := by
        by_cases c2 : p1 < en
        · unfold sgn at q
          rw [if_pos c2] at q
          obtain ⟨b', b1, -, b3⟩ := a0.2.2 p1 c2
          rw [b3] at q
          exact absurd q (nI_m1 (by omega))
        · omega
      rw [if_pos (nI_le ge (by omega)), if_neg c]
      exact ⟨C5, p1, rfl, Fm.rfl, f5, rfl, Nat.le_refl _, hpe⟩
  have ag6 := w2.ag (li := [11006, 11011, 11012, 6901, 6900, 7601, 7600, 7701, 6501]) (la := [66, 70, 71, 72, 73, 74, 75, 78, 79, 80, 81, 82, 83]) (lb := []) rfl
  have FC : Fm [7601, 7701, 11007] [78, 79, 80, 81, 82, 83] [] C4 C6 := (x2.sub (by decide)).trans (w2.sub (by decide))
  have FD : Fm [11308, 11346] [116, 117, 118, 121, 122, 123, 124, 125] [] D4 D6 := (y2.sub (by decide)).trans (z2.sub (by decide))
  have k6 : ∀ r ∈ [70, 71, 72, 73, 74, 75], gA C6 r = gA C4 r := fun r hr => (ag6.2.1 r (by simp only [List.mem_cons, List.not_mem_nil, or_false] at hr ⊢; omega)).trans (ag5.2.1 r (by simp only [List.mem_cons, List.not_mem_nil, or_false] at hr ⊢; omega))
  have m16 : gA D6 116 = upd (gA D 116) n (nI k) := by rw [agk.2.1 116 (by decide), y5, aD.2.1 116 (by decide)]
  have m17 : gA D6 117 = upd (gA D 117) n (nI si) := by rw [agk.2.1 117 (by decide), y6, aD.2.1 117 (by decide)]
  have m18 : gA D6 118 = upd (gA D 118) n (fsV (nI k) n E) := by rw [agk.2.1 118 (by decide), y7, aD.2.1 118 (by decide)]
  have m22 : gA D6 122 = upd (gA D 122) n (nI n) := by rw [z3, agd.2.1 122 (by decide), aD.2.1 122 (by decide)]
  have m25 : ∀ v, gA D5 125 v = gA D 125 v := fun v => by rw [agd.2.1 125 (by decide), aD.2.1 125 (by decide)]
  have SA := S.add (C1 := C6) (D1 := D6) hn ⟨k, hk, rfl⟩ (fun z => h4 ((nI_eq (b := 4) (by omega) (by decide)).mp z)) (((ag6.1 6901 (by decide)).trans (ag5.1 6901 (by decide))).trans c01) (((ag6.1 6900 (by decide)).trans (ag5.1 6900 (by decide))).trans c00) ((k6 70 (by decide)).trans c70) ((k6 71 (by decide)).trans c71) ((k6 72 (by decide)).trans c72) ((k6 73 (by decide)).trans c73) ((k6 74 (by decide)).trans c74) ((k6 75 (by decide)).trans c75) ((agk.1 11308 (by decide)).trans y3) m16 m17 m18 (by rw [agk.2.1 119 (by decide), agd.2.1 119 (by decide), aD.2.1 119 (by decide)]) (by rw [agk.2.1 120 (by decide), agd.2.1 120 (by decide), aD.2.1 120 (by decide)])
  refine ⟨C6, D6, p', ts + (p1 - (p + 2)), _, w1, ?_, by omega, ⟨a0.fm FC FD rfl rfl, (ag6.1 11006 (by decide)).trans e5, ((agk.1 11347 (by decide)).trans (agd.1 11347 (by decide))).trans a2, w3, w4, ((ag6.1 11011 (by decide)).trans (ag5.1 11011 (by decide))).trans a7, (agk.1 11349 (by decide)).trans d49, ((ag6.1 11012 (by decide)).trans (ag5.1 11012 (by decide))).trans a9, w5.2⟩, SA.1, R.addL hn ?_ ?_ ?_ ?_ ?_ ?_ ?_ m22 ?_, T.addL (k := k) R hn (by omega) hk ?_ ?_ ?_ ?_ m16 m22 ?_ ?_ ?_ ?_ ?_, by omega, FC, FD, m16, m22, ⟨fun r hr i hi => ?_, fun r hr i hi => ?_, fun r hr i hi => ?_⟩, fun r hr i hi => ?_, fun r hr i hi => ?_, fun r hr v hv => ?_⟩
  · rw [y1, bnd_some, if_pos d49]
    exact z1
  · exact (ag6.1 7601 (by decide)).trans x3
  · rw [ag6.1 7600 (by decide), ag5.1 7600 (by decide), aC.1 7600 (by decide)]
    exact R.2.2.2.1
  · rw [ag6.2.1 79 (by decide), x5, aC.2.1 79 (by decide)]
  · rw [ag6.2.1 80 (by decide), x6, aC.2.1 80 (by decide)]
  · intro i hi
    rw [ag6.2.1 81 (by decide), x7, upd_ne (by omega), aC.2.1 81 (by decide)]
  · rw [agk.1 11319 (by decide), agd.1 11319 (by decide), aD.1 11319 (by decide)]
    exact R.2.2.2.2.1
  · rw [agk.2.1 121 (by decide), y8, aD.2.1 121 (by decide)]
  · intro j
    rw [z4, upd_ne (by omega), agd.2.1 123 (by decide), aD.2.1 123 (by decide)]
  · exact (ag6.1 7701 (by decide)).trans x4
  · rw [ag6.2.1 82 (by decide), x8, aC.2.1 82 (by decide)]
  · rw [ag6.2.1 83 (by decide), x9, aC.2.1 83 (by decide)]
  · intro v hv
    rw [ag6.2.1 78 (by decide), x11 v hv, aC.2.1 78 (by decide)]
  · rw [z5, agd.2.1 124 (by decide), aD.2.1 124 (by decide), show p1 - p = p1 - (p + 2) + 2 by omega]
  · intro v hv
    rw [z7 v (by omega), m25]
  · have := z6 0 (by omega)
    refine this.trans ?_
    rw [g114]
    exact (in1 p (by omega)).symm.trans hb
  · refine (z6 1 (by omega)).trans ?_
    rw [g114]
    exact (in1 (p + 1) (by omega)).symm.trans h32
  · intro t ht
    obtain ⟨b', b1, b2, b3⟩ := a0.2.2 (p + 2 + t) (by omega)
    refine ⟨b', b1, ?_, ?_⟩
    · rw [ag6.2.1 78 (by decide), x10 t ht]
      exact b2
    · have := z6 (2 + t) (by omega)
      rw [show 60 * n + (2 + t) = 60 * n + 2 + t by omega, show p + (2 + t) = p + 2 + t by omega, g114, b3] at this
      exact this
  · have fn := S.2.1
    have hi : i < f := hi
    by_cases c : r = 79
    · subst c
      rw [ag6.2.1 79 (by decide), x5, aC.2.1 79 (by decide), upd_ne (by omega)]
    · exact SA.2 i hi r (by simp only [List.mem_cons, List.not_mem_nil, or_false] at hr ⊢; omega)
  · have hi : i < n + nR := hi
    simp only [List.mem_cons, List.not_mem_nil, or_false] at hr
    rcases hr with rfl | rfl | rfl | rfl
    · rw [ag6.2.1 80 (by decide), x6, aC.2.1 80 (by decide), upd_ne (by omega)]
    · rw [ag6.2.1 81 (by decide), x7, aC.2.1 81 (by decide), upd_ne (by omega)]
    · rw [ag6.2.1 82 (by decide), x8, aC.2.1 82 (by decide), upd_ne (by omega)]
    · rw [ag6.2.1 83 (by decide), x9, aC.2.1 83 (by decide), upd_ne (by omega)]
  · have hi : i < ts := hi
    simp only [List.mem_cons, List.not_mem_nil, or_false] at hr
    subst hr
    rw [ag6.2.1 78 (by decide), x11 i hi, aC.2.1 78 (by decide)]
  · have fn := S.2.1
    have hi : i < f := hi
    simp only [List.mem_cons, List.not_mem_nil, or_false] at hr
    rcases hr with rfl | rfl | rfl | rfl | rfl | rfl
    · rw [m16, upd_ne (by omega)]
    · rw [m17, upd_ne (by omega)]
    · rw [m18, upd_ne (by omega)]
    · rw [agk.2.1 119 (by decide), agd.2.1 119 (by decide), aD.2.1 119 (by decide)]
    · rw [agk.2.1 120 (by decide), agd.2.1 120 (by decide), aD.2.1 120 (by decide)]
    · rw [agk.2.1 121 (by decide), y8, aD.2.1 121 (by decide), upd_ne (by omega)]
  · have fn := S.2.1
    have ne : i ≠ n := by rcases hi with q | q <;> omega
    simp only [List.mem_cons, List.not_mem_nil, or_false] at hr
    rcases hr with rfl | rfl | rfl
    · rw [m22, upd_ne ne]
    · rw [z4, upd_ne ne, agd.2.1 123 (by decide), aD.2.1 123 (by decide)]
    · rw [z5, upd_ne ne, agd.2.1 124 (by decide), aD.2.1 124 (by decide)]
  · have fn := S.2.1
    simp only [List.mem_cons, List.not_mem_nil, or_false] at hr
    subst hr
    rw [z7 v (by rcases hv with q | q <;> omega), m25]
end PLE
