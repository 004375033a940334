/-! reading: a fact, a mention -/
section PZ
variable {C D C1 D1 : CS} {nF0 nM0 nF nM nL nR l m rid en p lim mo N nN nX : Nat} {Cb Db : CS} {rf : Int32}
/-- both went on, or both found the same fault -/
def Went (C D : CS) (nF0 nM0 : Nat) (Cb Db : CS) (l m rid en p lim mo : Nat) (x : Option (Int32 × CS)) (y : Option CS) : Prop :=
  (∃ C1 D1 p1 nF nM, x = some (1, C1) ∧ y = some D1 ∧ PP C1 D1 en p1 lim mo ∧ p < p1 ∧ DQ C1 D1 nF0 nM0 nF nM Cb Db l m rid ∧ rC C C1 ∧ rD D D1 ∧ (∀ i, p ≤ i → i < p1 → sgn D en i ≠ 10) ∧ p1 ≤ en) ∨
  ∃ C1 D1, x = some (0, C1) ∧ y = some D1 ∧ PF C1 D1 ∧ DB C1 D1 nF0 nM0 Cb Db ∧ rC C C1 ∧ rD D D1
theorem sgn_in {x : Int32} (h : sgn D en p = x) (hx : x ≠ -1) : p + 1 ≤ en := by
  unfold sgn at h
  by_cases c : p < en
  · omega
  · rw [if_neg c] at h; exact absurd h.symm hx
theorem sgn_r (k : rD D D1) (i : Nat) : sgn D1 en i = sgn D en i := sgn_cg ((k.ag (li := []) (la := [114]) (lb := []) rfl).2.1 114 (by decide))
theorem d_J129B {a b c d e : Int32} (h : gI D 11349 ≠ 0) : f_X12_readFact_J129 N a b c d e rf D = some D := by
  unfold f_X12_readFact_J129
  rw [d_needB h, bnd_some, if_neg h]
theorem d_J104B {a b c d e : Int32} (h : gI D 11349 ≠ 0) : f_X12_readFact_J104 N a b c d e D = some D := by
  unfold f_X12_readFact_J104
  rw [d_needB h, bnd_some, if_neg h, d_J129B h]
theorem rdFact (P : PP C D en p lim mo) (Q : DQ C D nF0 nM0 nF nM Cb Db l m rid) (hrf : rf = nI lim - 60) (hx : sgn D en p ≠ 10) (hN : 20000 < N) : Went C D nF0 nM0 Cb Db l m rid en p lim mo (f_X10_takeFact N (nI l) C) (f_X12_readFact N (nI mo) rf D) := by
  have hl := P.lt
  obtain ⟨h0, h1, h2, h3, h4, h5, h6, h7, h8, h9, h10, h11, h12, h13, h14⟩ := id P
  have q5 := Q.2.2.2.2.1
  have q6 := Q.2.2.2.2.2.1
  have q7 := Q.2.2.2.2.2.2.1
  have q3 := Q.2.2.1
  unfold f_X10_takeFact f_X12_readFact
  rw [h4, h6, pk_sub (by omega), q6, h3]
  by_cases h : p < lim
  · obtain ⟨s1, s2, s3⟩ := P.stepY h
    have F1 : pC C (sI C 11007 (nI (p + 1))) := Fm.I rfl
    have F2 : pD D (sI D 11346 (nI (p + 1))) := Fm.I rfl
    have Q1 := Q.pp F1 F2
    rw [s1, bnd_some, if_neg (show ¬ (1 : Int32) = 0 by decide), if_pos (nI_lt (show p - (lim - mo) < mo by omega) (by omega))]
    have g1 : gI (sI C 11007 (nI (p + 1))) 8401 = nI nF := q5
    have g2 : gI (sI C 11007 (nI (p + 1))) 8400 = 150 := q7
    have g3 : gI (sI C 11007 (nI (p + 1))) 7601 = nI rid := Q.2.2.2.2.2.2.2.2.2.2.2.2.1
    have g4 : gI (sI C 11007 (nI (p + 1))) 11008 = nI lim - 60 := h5
    rw [g1, g2, show (150 : Int32) = nI 150 from rfl, fullT_nI (by omega) (by decide)]
    by_cases hf : nF < 150
    · have nf : ¬ nI nF = nI 150 := fun z => by have := (nI_eq (by omega) (by decide)).mp z; omega
      rw [if_pos hf, if_pos rfl, if_neg nf, g3, g4, dist hl.1 h14 (by omega), c_fadd g1 g2 hf, bnd_some]
      have eJ : f_X12_readFact_J49 N (nI mo) rf (nI p) D = f_X12_readFact_J66 N (nI mo) rf (nI p) (sI D 11346 (nI (p + 1))) := by
        unfold f_X12_readFact_J49
        rw [h8, if_pos rfl, bd_eq, h4, nI_1]
      rw [eJ]
      unfold f_X12_readFact_J66
      have b0 : gI (sI D 11346 (nI (p + 1))) 11349 = 0 := h8
      rw [b0, if_pos rfl]
      have H := Q1.begin (q := nI (p + 60 - lim)) hf
      have fa : Fm [8401] [85, 86, 87] [] (sI C 11007 (nI (p + 1))) (faC (sI C 11007 (nI (p + 1))) nF (nI l) (nI rid) (nI (p + 60 - lim))) := (((Fm.A rfl).trans (Fm.A rfl)).trans (Fm.A rfl)).trans (Fm.I rfl)
      have P1 := s3.fm fa (Fm.rfl (ei := []) (ea := []) (eb := [])) rfl rfl
      have R1 : rC C (faC (sI C 11007 (nI (p + 1))) nF (nI l) (nI rid) (nI (p + 60 - lim))) := (Fm.pr F1).trans (fa.sub (by decide))
      have R2 : rD D (sI D 11346 (nI (p + 1))) := Fm.prD F2
      rcases P1.num (N := N) hN with ⟨C2, D2, p2, v2, a1, a2, a3, a4, a5, a6, a7, a10⟩ | ⟨C2, D2, v2, a1, a2, a3, a4, a5⟩
      · rw [a1, a2, bnd_some, bnd_some, if_neg (show ¬ (1 : Int32) = 0 by decide)]
        have H2 := H.pp a6 a7
        rcases a3.exp (x := 64) with ⟨C3, D3, b1, b2, b3, b4, b5, bx⟩ | ⟨C3, D3, b1, b2, b3, b4, b5⟩
        · rw [b1, b2, bnd_some, bnd_some, if_neg (show ¬ (1 : Int32) = 0 by decide)]
          have b8 : gI D3 11349 = 0 := b3.2.2.2.2.2.2.2.2.1
          rw [b8, if_pos rfl]
          have H3 := H2.pp b4 b5
          rcases b3.num (N := N) hN with ⟨C4, D4, p4, v4, c1, c2, c3, c4, c5, c6, c7, c10⟩ | ⟨C4, D4, v4, c1, c2, c3, c4, c5⟩
          · rw [c1, c2, bnd_some, bnd_some, if_neg (show ¬ (1 : Int32) = 0 by decide)]
            have H4 := H3.pp c6 c7
            unfold f_X12_readFact_J104
            rcases c3.exp (x := 61) with ⟨C5, D5, d1, d2, d3, d4, d5, dx⟩ | ⟨C5, D5, d1, d2, d3, d4, d5⟩
            · rw [d1, d2, bnd_some, bnd_some, if_neg (show ¬ (1 : Int32) = 0 by decide)]
              have d8 : gI D5 11349 = 0 := d3.2.2.2.2.2.2.2.2.1
              rw [d8, if_pos rfl]
              have H5 := H4.pp d4 d5
              rcases d3.num (N := N) hN with ⟨C6, D6, p6, v6, e1, e2, e3, e4, e5, e6, e7, e10⟩ | ⟨C6, D6, v6, e1, e2, e3, e4, e5⟩
              · have H6 := H5.pp e6 e7
                rw [e1, e2, bnd_some, bnd_some, if_neg (show ¬ (1 : Int32) = 0 by decide), c_fset H6.2.2.2.2.1 hf, bnd_some]
                obtain ⟨H7, n1, n2, n3⟩ := H6.num (a := gI C2 11009) (b := gI C4 11009) (c := gI C6 11009)
                have fn : Fm [] [88, 89, 90] [] C6 (faN C6 nF (gI C2 11009) (gI C4 11009) (gI C6 11009)) := ((Fm.A rfl).trans (Fm.A rfl)).trans (Fm.A rfl)
                have P7 := e3.fm fn (Fm.rfl (ei := []) (ea := []) (eb := [])) rfl rfl
                have R7 : rC C (faN C6 nF (gI C2 11009) (gI C4 11009) (gI C6 11009)) := (((((R1.trans (Fm.pr a6)).trans (Fm.pr b4)).trans (Fm.pr c6)).trans (Fm.pr d4)).trans (Fm.pr e6)).trans (fn.sub (by decide))
                have R8 : rD D D6 := ((((R2.trans (Fm.prD a7)).trans (Fm.prD b5)).trans (Fm.prD c7)).trans (Fm.prD d5)).trans (Fm.prD e7)
                unfold f_X12_readFact_J129
                rcases P7.exp (x := 125) with ⟨C8, D8, g1, g2, g3, g4, g5, gx⟩ | ⟨C8, D8, g1, g2, g3, g4, g5⟩
                · have i8 : gI D8 11349 = 0 := g3.2.2.2.2.2.2.2.2.1
                  have H8 := H7.pp g4 g5
                  have ag := g4.ag (li := []) (la := [88, 89, 90]) (lb := []) rfl
                  have ii : inb (nI nF) 150 = true := inb_nI hf (by decide)
                  have ik : (nI nF).toNatClampNeg = nF := nI_clamp (by omega)
                  have z1 : gI D8 11320 = nI nF := H8.2.2.2.2.2.1
                  have z2 : gI D8 11352 = nI m := H8.2.2.2.2.2.2.2.2.2.2.2.1
                  rw [g1, g2, bnd_some, bnd_some, i8, if_pos rfl, z1, ii, if_pos rfl]
                  left
                  refine ⟨C8, faD D8 nF (nI m) (gI C2 11009) (gI C4 11009) (gI C6 11009) (nI (p + 60 - lim)), p6 + 1, nF + 1, nM, if_pos (show (1 : Int32) &&& 1 = 1 by decide), ?_, ?_, by omega, H8.end (by rw [ag.2.1 88 (by decide)]; exact n1) (by rw [ag.2.1 89 (by decide)]; exact n2) (by rw [ag.2.1 90 (by decide)]; exact n3), R7.trans (Fm.pr g4), (R8.trans (Fm.prD g5)).trans ?_, fun i i1 i2 => ?_, sgn_in gx (by decide)⟩
                  · have w1 : nI p - rf = nI (p + 60 - lim) := by rw [hrf]; exact dist hl.1 h14 (by omega)
                    simp only [bd_eq, gI_sA, z1, z2, ii, ik, nI_1, if_true, a5, c5, e5, w1]
                    rfl
                  · exact g3.fm (Fm.rfl (ei := []) (ea := []) (eb := [])) (show Fm [11320] [126, 127, 128, 129, 130] [] D8 (faD D8 nF (nI m) (gI C2 11009) (gI C4 11009) (gI C6 11009) (nI (p + 60 - lim))) from (((((Fm.A rfl).trans (Fm.A rfl)).trans (Fm.A rfl)).trans (Fm.A rfl)).trans (Fm.A rfl)).trans (Fm.I rfl)) rfl rfl
                  · exact (((((Fm.A rfl).trans (Fm.A rfl)).trans (Fm.A rfl)).trans (Fm.A rfl)).trans (Fm.A rfl)).trans (Fm.I rfl)
                  · have t2 := sgn_r (en := en) (R2.trans (Fm.prD a7))
                    have t3 := sgn_r (en := en) ((R2.trans (Fm.prD a7)).trans (Fm.prD b5))
                    have t4 := sgn_r (en := en) (((R2.trans (Fm.prD a7)).trans (Fm.prD b5)).trans (Fm.prD c7))
                    have t5 := sgn_r (en := en) ((((R2.trans (Fm.prD a7)).trans (Fm.prD b5)).trans (Fm.prD c7)).trans (Fm.prD d5))
                    have t6 := sgn_r (en := en) R8
                    by_cases z0 : i = p
                    · rw [z0]; exact hx
                    by_cases z2 : i < p2
                    · exact a10 i (by omega) z2
                    by_cases z3 : i = p2
                    · rw [z3, ← t2, bx]; decide
                    by_cases z4 : i < p4
                    · rw [← t3]; exact c10 i (by omega) z4
                    by_cases z5 : i = p4
                    · rw [z5, ← t4, dx]; decide
                    by_cases z6 : i < p6
                    · rw [← t5]; exact e10 i (by omega) z6
                    · rw [show i = p6 by omega, ← t6, gx]; decide
                · rw [g1, g2, bnd_some, bnd_some, if_neg g3.bad]
                  right
                  exact ⟨C8, D8, if_pos (show (0 : Int32) &&& 1 = 0 by decide), rfl, g3, (H7.pp g4 g5).db, R7.trans (Fm.pr g4), R8.trans (Fm.prD g5)⟩
              · rw [e1, e2, bnd_some, bnd_some, if_pos rfl, d_J129B e3.bad]
                right
                exact ⟨C6, D6, rfl, rfl, e3, (H5.pp e4 e5).db, ((((R1.trans (Fm.pr a6)).trans (Fm.pr b4)).trans (Fm.pr c6)).trans (Fm.pr d4)).trans (Fm.pr e4), ((((R2.trans (Fm.prD a7)).trans (Fm.prD b5)).trans (Fm.prD c7)).trans (Fm.prD d5)).trans (Fm.prD e5)⟩
            · rw [d1, d2, bnd_some, bnd_some, if_pos rfl, if_neg d3.bad, d_J129B d3.bad]
              right
              exact ⟨C5, D5, rfl, rfl, d3, (H4.pp d4 d5).db, (((R1.trans (Fm.pr a6)).trans (Fm.pr b4)).trans (Fm.pr c6)).trans (Fm.pr d4), (((R2.trans (Fm.prD a7)).trans (Fm.prD b5)).trans (Fm.prD c7)).trans (Fm.prD d5)⟩
          · rw [c1, c2, bnd_some, bnd_some, if_pos rfl, d_J104B c3.bad]
            right
            exact ⟨C4, D4, rfl, rfl, c3, (H3.pp c4 c5).db, ((R1.trans (Fm.pr a6)).trans (Fm.pr b4)).trans (Fm.pr c4), ((R2.trans (Fm.prD a7)).trans (Fm.prD b5)).trans (Fm.prD c5)⟩
        · rw [b1, b2, bnd_some, bnd_some, if_pos rfl, if_neg b3.bad, d_J104B b3.bad]
          right
          exact ⟨C3, D3, rfl, rfl, b3, (H2.pp b4 b5).db, (R1.trans (Fm.pr a6)).trans (Fm.pr b4), (R2.trans (Fm.prD a7)).trans (Fm.prD b5)⟩
      · rw [a1, a2, bnd_some, bnd_some, if_pos rfl, d_needB a3.bad, bnd_some, if_neg a3.bad, d_J104B a3.bad]
        right
        exact ⟨C2, D2, rfl, rfl, a3, (H.pp a4 a5).db, R1.trans (Fm.pr a4), R2.trans (Fm.prD a5)⟩
    · have e150 : nF = 150 := by omega
      subst e150
      rw [if_neg (show ¬ 150 < 150 by decide), if_neg (show ¬ (1 : Int32) = 0 by decide), if_pos rfl, c_ref, bnd_some, d_wr h8, bnd_some]
      right
      have b : gI (sI (sI D 11349 5) 11350 (nI p)) 11349 ≠ 0 := show (5 : Int32) ≠ 0 by decide
      refine ⟨_, _, if_pos (show (0 : Int32) &&& 1 = 0 by decide), ?_, pf_mk (k := 5) (q := nI p) (by decide), (Q.db.pp F1 Fm.rfl).pp pc_ref pd_wr, (Fm.pr F1).trans (Fm.pr pc_ref), Fm.prD pd_wr⟩
      unfold f_X12_readFact_J49 f_X12_readFact_J66
      rw [if_neg b, if_neg b]
  · obtain ⟨s1, s2⟩ := P.stepN h
    rw [s1, bnd_some, if_pos rfl, if_neg (nI_nlt (show mo ≤ p - (lim - mo) by omega) (by omega)), d_wr h8, bnd_some]
    right
    have b : gI (sI (sI D 11349 2) 11350 (nI p)) 11349 ≠ 0 := show (2 : Int32) ≠ 0 by decide
    refine ⟨_, _, rfl, ?_, pf_mk (k := 2) (q := nI p) (by decide), Q.db.pp pc_ref pd_wr, Fm.pr pc_ref, Fm.prD pd_wr⟩
    unfold f_X12_readFact_J49 f_X12_readFact_J66
    rw [if_neg b, if_neg b]
def meC (C : CS) (n : Nat) (a b : Int32) : CS := sI (sA (sA C 92 n a) 93 n b) 9101 (nI (n + 1))
def meD (D : CS) (n : Nat) (a b : Int32) : CS := sI (sA (sA D 131 n a) 132 n b) 11321 (nI (n + 1))
theorem c_madd {a b : Int32} (h : gI C 9101 = nI nM) (h0 : gI C 9100 = 100) (hn : nM < 100) : f_X5_add a b C = some (meC C nM a b) := by
  unfold f_X5_add
  have ii : inb (nI nM) 100 = true := inb_nI hn (by decide)
  have ik : (nI nM).toNatClampNeg = nM := nI_clamp (by omega)
  rw [h, h0, if_pos (show nI nM < 100 from nI_lt (b := 100) hn (by decide)), ii, if_pos rfl]
  simp only [bd_eq, gI_sA, h, ii, ik, nI_1, if_true]
  rfl
theorem DB.mC {a b : Int32} {n : Nat} (Q : DB C D nF0 nM0 Cb Db) (h : nM0 ≤ n) : DB (meC C n a b) D nF0 nM0 Cb Db := by
  refine ⟨Q.1, fun i hi => ?_⟩
  have := Q.2 i hi
  show upd (gA C 92) n a i = gA D 131 i ∧ upd (gA C 93) n b i = gA D 132 i
  rw [upd_ne (by omega), upd_ne (by omega)]
  exact this
theorem DQ.men {a b : Int32} (Q : DQ C D nF0 nM0 nF nM Cb Db l m rid) (h : nM < 100) (ha : gA C 92 nM = a) (hb : gA C 93 nM = b) (hC : gI C1 9101 = nI (nM + 1)) (hf : Fm [9101] [] [] C C1) : DQ C1 (meD D nM a b) nF0 nM0 nF (nM + 1) Cb Db l m rid := by
  have g := hf.ag (li := [8401, 8400, 9100, 7601]) (la := [85, 86, 87, 88, 89, 90, 92, 93]) (lb := []) rfl
  obtain ⟨q1, q2, q3, q4, q5, q6, q7, q8, q9, q10, q11, q12, q13, q14, q15, q16⟩ := Q
  refine ⟨q1, by omega, q3, by omega, (g.1 8401 (by decide)).trans q5, q6, (g.1 8400 (by decide)).trans q7, hC, rfl, (g.1 9100 (by decide)).trans q10, q11, q12, (g.1 7601 (by decide)).trans q13, fun f hf => ?_, fun f h1 h2 => ?_, fun i hi => ?_⟩
  · refine (q14 f hf).cg (fun r hr => ?_) (fun r hr => by simp only [List.mem_cons, List.not_mem_nil, or_false] at hr; rcases hr with rfl | rfl | rfl | rfl | rfl <;> rfl)
    rw [g.2.1 r (by simp only [List.mem_cons, List.not_mem_nil, or_false] at hr ⊢; omega)]
  · have z := q15 f h1 h2
    unfold FEq at z ⊢
    rw [g.2.1 85 (by decide), g.2.1 86 (by decide), g.2.1 87 (by decide), g.2.1 88 (by decide), g.2.1 89 (by decide), g.2.1 90 (by decide)]
    exact z
  · unfold MEq
    rw [g.2.1 92 (by decide), g.2.1 93 (by decide)]
    show gA C 92 i = upd (gA D 131) nM a i ∧ gA C 93 i = upd (gA D 132) nM b i
    by_cases e : i = nM
    · subst e
      rw [upd_eq, upd_eq]
      exact ⟨ha, hb⟩
    · rw [upd_ne e, upd_ne e]
      exact q16 i (by omega)
theorem d_J106B {a b : Int32} (h : gI D 11349 ≠ 0) : f_X12_readMention_J106 N a b D = some D := by
  unfold f_X12_readMention_J106
  rw [d_needB h, bnd_some, if_neg h]
theorem rdMention (P : PP C D en p lim mo) (Q : DQ C D nF0 nM0 nF nM Cb Db l m rid) (K : RN C D nN nX) (hx : sgn D en p ≠ 10) (hN : 20000 < N) : Went C D nF0 nM0 Cb Db l m rid en p lim mo (f_X10_takeMention N (nI l) C) (f_X12_readMention N (nI mo) D) := by
  have hl := P.lt
  obtain ⟨h0, h1, h2, h3, h4, h5, h6, h7, h8, h9, h10, h11, h12, h13, h14⟩ := id P
  have q4 := Q.2.2.2.1
  have q8 := Q.2.2.2.2.2.2.2.1
  have q9 := Q.2.2.2.2.2.2.2.2.1
  have q10 := Q.2.2.2.2.2.2.2.2.2.1
  unfold f_X10_takeMention f_X12_readMention
  rw [h4, h6, pk_sub (by omega), q9, h3]
  by_cases h : p < lim
  · obtain ⟨s1, s2, s3⟩ := P.stepY h
    have F1 : pC C (sI C 11007 (nI (p + 1))) := Fm.I rfl
    have F2 : pD D (sI D 11346 (nI (p + 1))) := Fm.I rfl
    have Q1 := Q.pp F1 F2
    rw [s1, bnd_some, if_neg (show ¬ (1 : Int32) = 0 by decide), if_pos (nI_lt (show p - (lim - mo) < mo by omega) (by omega))]
    have g1 : gI (sI C 11007 (nI (p + 1))) 9101 = nI nM := q8
    have g2 : gI (sI C 11007 (nI (p + 1))) 9100 = 100 := q10
    rw [g1, g2, show (100 : Int32) = nI 100 from rfl, fullT_nI (by omega) (by decide)]
    by_cases hf : nM < 100
    · have nf : ¬ nI nM = nI 100 := fun z => by have := (nI_eq (by omega) (by decide)).mp z; omega
      rw [if_pos hf, if_pos rfl, if_neg nf]
      have eJ : f_X12_readMention_J43 N (nI mo) D = f_X12_readMention_J60 N (nI mo) (sI D 11346 (nI (p + 1))) := by
        unfold f_X12_readMention_J43
        rw [h8, if_pos rfl, bd_eq, h4, nI_1]
      rw [eJ]
      unfold f_X12_readMention_J60
      have b0 : gI (sI D 11346 (nI (p + 1))) 11349 = 0 := h8
      rw [b0, if_pos rfl]
      have R1 : rC C (sI C 11007 (nI (p + 1))) := Fm.pr F1
      have R2 : rD D (sI D 11346 (nI (p + 1))) := Fm.prD F2
      rcases s3.nam (N := N) hN with ⟨C2, D2, p2, w, a1, a2, a3, a4, a4', a5, a6, a7, a8, a9, a10⟩ | ⟨C2, D2, a1, a2, a3, a4, a5⟩
      · rw [a1, a2, bnd_some, bnd_some, if_neg (show ¬ (1 : Int32) = 0 by decide)]
        have b8 : gI D2 11349 = 0 := a3.2.2.2.2.2.2.2.2.1
        have Q2 := Q1.pp a8 a9
        have K2 := K.fm (F1.trans a8) (F2.trans a9) rfl rfl
        have e51 : gI D2 11351 = nI l := Q2.2.2.2.2.2.2.2.2.2.2.1
        obtain ⟨r, k1, k2, k3, k4⟩ := K2.holder (N := N) (w := w) (l := nI l) (low_ne a7) (by omega)
        rw [b8, if_pos rfl, a5, a6, e51, k1, k2, bnd_some, bnd_some]
        by_cases rn : r = -1
        · rw [if_pos rn, if_pos rn, nI_1, c_ref, bnd_some, d_wr b8, bnd_some]
          right
          have b : gI (sI (sI D2 11349 4) 11350 (nI (p + 1))) 11349 ≠ 0 := show (4 : Int32) ≠ 0 by decide
          exact ⟨_, _, if_pos (show (0 : Int32) &&& 1 = 0 by decide), d_J106B b, pf_mk (by decide), Q2.db.pp pc_ref pd_wr, (R1.trans (Fm.pr a8)).trans (Fm.pr pc_ref), (R2.trans (Fm.prD a9)).trans (Fm.prD pd_wr)⟩
        · have m8 : gI C2 9101 = nI nM := Q2.2.2.2.2.2.2.2.1
          have m10 : gI C2 9100 = 100 := Q2.2.2.2.2.2.2.2.2.2.1
          rw [if_neg rn, if_neg rn, c_madd m8 m10 hf, bnd_some]
          have fm : Fm [9101] [92, 93] [] C2 (meC C2 nM (nI l) r) := ((Fm.A rfl).trans (Fm.A rfl)).trans (Fm.I rfl)
          have P3 := a3.fm fm (Fm.rfl (ei := []) (ea := []) (eb := [])) rfl rfl
          unfold f_X12_readMention_J106
          rcases P3.exp (x := 62) with ⟨C4, D4, c1, c2, c3, c4, c5, cx⟩ | ⟨C4, D4, c1, c2, c3, c4, c5⟩
          · have i8 : gI D4 11349 = 0 := c3.2.2.2.2.2.2.2.2.1
            have ii : inb (nI nM) 100 = true := inb_nI hf (by decide)
            have ik : (nI nM).toNatClampNeg = nM := nI_clamp (by omega)
            have gd := c5.ag (li := [11321, 11351]) (la := []) (lb := []) rfl
            have z1 : gI D4 11321 = nI nM := (gd.1 11321 (by decide)).trans Q2.2.2.2.2.2.2.2.2.1
            have z2 : gI D4 11351 = nI l := (gd.1 11351 (by decide)).trans e51
            rw [c1, c2, bnd_some, bnd_some, i8, if_pos rfl, z1, ii, if_pos rfl]
            left
            -- the state with the new mention on both sides
            have gc := c4.ag (li := [9101]) (la := [92, 93]) (lb := []) rfl
            have Q4 : DQ (sI C4 9101 (nI nM)) D4 nF0 nM0 nF nM Cb Db l m rid := by
              have fc : Fm [11007, 11009, 11011, 11012, 9101] [92, 93] [] C2 (sI C4 9101 (nI nM)) := (((fm.sub (by decide)).trans (c4.sub (by decide))).trans (Fm.I rfl))
              have g := fc.ag (li := [8401, 8400, 9100, 7601]) (la := [85, 86, 87, 88, 89, 90]) (lb := []) rfl
              have b := c5.ag (li := [11320, 11321, 11351, 11352]) (la := [116, 122, 126, 127, 128, 129, 130, 131, 132]) (lb := []) rfl
              obtain ⟨q1, q2, q3, q4, q5, q6, q7, q8, q9, q10, q11, q12, q13, q14, q15, q16⟩ := Q2
              refine ⟨q1, q2, q3, q4, (g.1 8401 (by decide)).trans q5, (b.1 11320 (by decide)).trans q6, (g.1 8400 (by decide)).trans q7, rfl, (b.1 11321 (by decide)).trans q9, (g.1 9100 (by decide)).trans q10, (b.1 11351 (by decide)).trans q11, (b.1 11352 (by decide)).trans q12, (g.1 7601 (by decide)).trans q13, fun f hf => ?_, fun f h1 h2 => ?_, fun i hi => ?_⟩
              · refine (q14 f hf).cg (fun r hr => by rw [g.2.1 r hr]) (fun r hr => by rw [b.2.1 r (by simp only [List.mem_cons, List.not_mem_nil, or_false] at hr ⊢; omega)])
              · have z := q15 f h1 h2
                unfold FEq at z ⊢
                rw [g.2.1 85 (by decide), g.2.1 86 (by decide), g.2.1 87 (by decide), g.2.1 88 (by decide), g.2.1 89 (by decide), g.2.1 90 (by decide), b.2.1 126 (by decide), b.2.1 127 (by decide), b.2.1 128 (by decide), b.2.1 129 (by decide), b.2.1 130 (by decide)]
                exact z
              · have z := q16 i hi
                unfold MEq at z ⊢
                rw [show gA (sI C4 9101 (nI nM)) 92 = gA C4 92 from rfl, show gA (sI C4 9101 (nI nM)) 93 = gA C4 93 from rfl, gc.2.1 92 (by decide), gc.2.1 93 (by decide), b.2.1 131 (by decide), b.2.1 132 (by decide)]
                show upd (gA C2 92) nM (nI l) i = _ ∧ upd (gA C2 93) nM r i = _
                rw [upd_ne (by omega), upd_ne (by omega)]
                exact z
            refine ⟨C4, meD D4 nM (nI l) r, p2 + 1, nF, nM + 1, if_pos (show (1 : Int32) &&& 1 = 1 by decide), ?_, ?_, by omega, Q4.men hf ?_ ?_ ?_ ?_, ((R1.trans (Fm.pr a8)).trans (fm.sub (by decide))).trans (Fm.pr c4), ((R2.trans (Fm.prD a9)).trans (Fm.prD c5)).trans (((Fm.A rfl).trans (Fm.A rfl)).trans (Fm.I rfl)), fun i i1 i2 => ?_, sgn_in cx (by decide)⟩
            · simp only [bd_eq, gI_sA, z1, z2, ii, ik, nI_1, if_true]
              rfl
            · exact c3.fm (Fm.rfl (ei := []) (ea := []) (eb := [])) (show Fm [11321] [131, 132] [] D4 (meD D4 nM (nI l) r) from ((Fm.A rfl).trans (Fm.A rfl)).trans (Fm.I rfl)) rfl rfl
            · show gA C4 92 nM = nI l
              rw [gc.2.1 92 (by decide)]
              show upd (gA C2 92) nM (nI l) nM = _; exact upd_eq
            · show gA C4 93 nM = r
              rw [gc.2.1 93 (by decide)]
              show upd (gA C2 93) nM r nM = _; exact upd_eq
            · rw [gc.1 9101 (by decide)]
              rfl
            · refine ⟨fun k hk => ?_, fun _ _ => rfl, fun _ _ => rfl, rfl⟩
              rw [gI_sI, if_neg]
              intro e
              rw [e] at hk
              cases hk
            · have t2 := sgn_r (en := en) (R2.trans (Fm.prD a9))
              by_cases z0 : i = p
              · rw [z0]; exact hx
              by_cases z2 : i < p2
              · exact (a10 i (by omega) z2).1
              · rw [show i = p2 by omega, ← t2, cx]; decide
          · rw [c1, c2, bnd_some, bnd_some, if_neg c3.bad]
            right
            exact ⟨C4, D4, if_pos (show (0 : Int32) &&& 1 = 0 by decide), rfl, c3, (Q2.db.mC (by have := Q2.2.1; omega)).pp c4 c5, ((R1.trans (Fm.pr a8)).trans (fm.sub (by decide))).trans (Fm.pr c4), (R2.trans (Fm.prD a9)).trans (Fm.prD c5)⟩
      · rw [a1, a2, bnd_some, bnd_some, if_pos rfl, if_neg a3.bad]
        right
        exact ⟨C2, D2, rfl, rfl, a3, (Q1.pp a4 a5).db, R1.trans (Fm.pr a4), R2.trans (Fm.prD a5)⟩
    · have e100 : nM = 100 := by omega
      subst e100
      rw [if_neg (show ¬ 100 < 100 by decide), if_neg (show ¬ (1 : Int32) = 0 by decide), if_pos rfl, c_ref, bnd_some, d_wr h8, bnd_some]
      right
      have b : gI (sI (sI D 11349 5) 11350 (nI p)) 11349 ≠ 0 := show (5 : Int32) ≠ 0 by decide
      refine ⟨_, _, if_pos (show (0 : Int32) &&& 1 = 0 by decide), ?_, pf_mk (k := 5) (q := nI p) (by decide), (Q.db.pp F1 Fm.rfl).pp pc_ref pd_wr, (Fm.pr F1).trans (Fm.pr pc_ref), Fm.prD pd_wr⟩
      unfold f_X12_readMention_J43 f_X12_readMention_J60
      rw [if_neg b, if_neg b]
  · obtain ⟨s1, s2⟩ := P.stepN h
    rw [s1, bnd_some, if_pos rfl, if_neg (nI_nlt (show mo ≤ p - (lim - mo) by omega) (by omega)), d_wr h8, bnd_some]
    right
    have b : gI (sI (sI D 11349 2) 11350 (nI p)) 11349 ≠ 0 := show (2 : Int32) ≠ 0 by decide
    refine ⟨_, _, rfl, ?_, pf_mk (k := 2) (q := nI p) (by decide), Q.db.pp pc_ref pd_wr, Fm.pr pc_ref, Fm.prD pd_wr⟩
    unfold f_X12_readMention_J43 f_X12_readMention_J60
    rw [if_neg b, if_neg b]
end PZ
