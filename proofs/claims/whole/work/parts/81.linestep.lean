/-! a line -/
section PLT
variable {C D : CS} {en p f n nR nF nM nN nX ts si N : Nat} {cid : Nat → Nat} {E : Option Nat} {pv : Int32}
theorem lineStep (Q : SQ C D en p f n nR nF nM nN nX ts cid si E pv) (hpe : p < en) (hN : 20000 < N) : LineR C D en p f n nR nF nM nN ts si pv (f_X10_takeLine N (nI si) C) (bnd (f_X12_readLine N (nI f) D) fun q => if gI q 11349 = 0 then f_X12_keepLine N (nI p) q else some q) := by
  have Q' := Q
  obtain ⟨Po, S, R, T, RFa, RMa, K, NXa, hsi⟩ := Q
  have P := Po.pp
  have hl := P.lt
  have Fa : Fm [11007, 11008, 6901] [70, 71, 72, 73, 74, 75] [] C (sI C 11008 (gI C 11007)) := Fm.I rfl
  have Fb : Fm [11346, 11348, 11351, 11352] [] [] D (d3 D) := (Fm.I rfl).trans (Fm.I rfl)
  have S1 : SL (sI C 11008 (gI C 11007)) (d3 D) f n (nI si) E pv := S.fm (show Fm [11008] [] [] C (sI C 11008 (gI C 11007)) from Fm.I rfl) Fb rfl rfl
  obtain ⟨b, b1, b2, b3⟩ := P.1.2.2 p hpe
  have hs : sgn (d3 D) en p = nI b := (if_pos hpe).trans b3
  have kc := kd_ch b b1
  unfold f_X10_takeLine
  rw [bd_eq, c_sign P, bnd_some, hs, kc.1, if_pos rfl, kc.2]
  rcases head (N := N) P S1 b1 hs with ⟨k, k1, k2, k3, k4, k5, k6, k7, k8⟩ | ⟨C1, D1, k1, k2, k3, k4, k5⟩
  · rw [k5, k6, bnd_some, if_neg (show ¬ (1 : Int32) = 0 by decide), k2]
    have F2 : Fm [11007, 11008, 6901] [70, 71, 72, 73, 74, 75] [] C (sI (sI C 11008 (gI C 11007)) 11007 (nI (p + 2))) := Fa.trans (Fm.I rfl)
    have S2 : SL (sI (sI C 11008 (gI C 11007)) 11007 (nI (p + 2))) (d3 D) f n (nI si) E pv := S.fm (show Fm [11008, 11007] [] [] C (sI (sI C 11008 (gI C 11007)) 11007 (nI (p + 2))) from (Fm.I rfl).trans (Fm.I rfl)) Fb rfl rfl
    have pg := S2.page
    obtain ⟨t1, t2, t3, t4, t5, ta, tb, tc, td, te, tf, -⟩ := id S2
    obtain ⟨C3, x1, x2, x3, x4, x5, x6, x7, x8, x9⟩ := c_ladd (N := N) (k := nI k) (s := nI si) (E := E) (f := f) t3 t5 k8 t2 (fun j h1 h2 => ((ta j h2).2.1).trans (td j h1 h2)) (fun j h1 z => te j h1 (((ta j (by omega)).2.1).symm.trans z)) (tf.cg (fun j hj => (ta j hj).1) (fun j hj => (ta j hj).2.2.1)) (by omega) pg.1 pg.2.1 pg.2.2
    have g69 : gI (sI (sI C 11008 (gI C 11007)) 11007 (nI (p + 2))) 6901 = nI n := t3
    have g07 : gI (sI (sI C 11008 (gI C 11007)) 11007 (nI (p + 2))) 11007 = nI (p + 2) := rfl
    rw [x1, bnd_some, g69, g07]
    -- the model
    obtain ⟨-, -, s3⟩ := P.stepY (show p < p + 60 by omega)
    obtain ⟨-, -, s4⟩ := s3.stepY (show p + 1 < p + 60 by omega)
    rw [sI_sI, sI_sI] at s4
    have d8 : gI (sI (d3 D) 11346 (nI (p + 1))) 11349 = 0 := s3.2.2.2.2.2.2.2.2.1
    have d46 : gI (sI (d3 D) 11346 (nI (p + 1))) 11346 = nI (p + 1) := rfl
    have d08 : gI (sI (d3 D) 11346 (nI (p + 2))) 11308 = nI n := t4
    have d48 : gI (sI (sI (d3 D) 11346 (nI (p + 2))) 11352 (nI n)) 11348 = nI p := Po.2.2.2.2.1
    have Fd : Fm [11346, 11348, 11351, 11352] [] [] D (sI (sI (d3 D) 11346 (nI (p + 2))) 11352 (nI n)) := (Fb.trans (Fm.I rfl)).trans (Fm.I rfl)
    have Pm : PP C3 (sI (sI (d3 D) 11346 (nI (p + 2))) 11352 (nI n)) en (p + 2) (p + 60) 60 := s4.fm x2 (Fm.I (ei := [11352]) (ea := []) (eb := []) rfl) rfl rfl
    have F3 := F2.trans (x2.sub (by decide))
    have h51 : gI (sI (sI (d3 D) 11346 (nI (p + 2))) 11352 (nI n)) 11351 = nI n := t4
    have sgp : sgn (sI (sI (d3 D) 11346 (nI (p + 2))) 11352 (nI n)) en p = chOf 1 k := (show sgn (d3 D) en p = _ from hs).trans k3
    have sg10 : sgn (sI (sI (d3 D) 11346 (nI (p + 2))) 11352 (nI n)) en p ≠ 10 := by
      intro z
      have z : nI b = 10 := (show sgn (d3 D) en p = _ from hs).symm.trans z
      have : b = 10 := (nI_eq (b := 10) (by omega) (by decide)).mp z
      subst this
      have : kdOf 10 = -1 := by decide
      rw [this] at k2
      exact nI_m1 (by omega) k2.symm
    have hpe2 : p + 2 ≤ en := sgn_in k7 (by decide)
    have h4' : k = 4 → f < n ∧ gA D 116 (n - 1) ≠ 5 := fun z => k4 z
    unfold f_X12_readLine_J175
    rw [d8, if_pos rfl, bd_eq, d46, nI_1, sI_sI, bd_eq, d08, d48]
    by_cases c5 : k = 5
    · subst c5
      rw [if_pos (show nI 5 = 5 from rfl), if_pos (show nI 5 = 5 from rfl)]
      exact lineName Q' hN k8 Pm sgp k7 sg10 F3 Fd h51 x3 x4 x5 x6 x7 x8 x9
    · have n5 : ¬ nI k = 5 := fun z => c5 ((nI_eq (b := 5) (by omega) (by decide)).mp z)
      rw [if_neg n5, if_neg n5]
      exact lineRest Q' hN k8 k1 c5 h4' Pm hpe2 sgp k7 sg10 F3 Fd h51 rfl x3 x4 x5 x6 x7 x8 x9
  · rw [k1, k2, bnd_some, bnd_some, if_pos rfl, if_neg k3.bad]
    right
    have FC : Fm [11007, 11008, 11009, 11011, 11012] [] [] C C1 := ((Fm.I rfl).trans (k4.sub (by decide)))
    have FD : Fm [11346, 11348, 11349, 11350, 11351] [] [] D D1 := ((Fm.I rfl).trans (Fm.I rfl)).trans (k5.sub (by decide))
    have a := FC.ag (li := [7701]) (la := [92, 93]) (lb := []) rfl
    have d := FD.ag (li := []) (la := [131, 132]) (lb := []) rfl
    refine ⟨C1, D1, rfl, rfl, k3, (a.1 7701 (by decide)).trans T.2.1, fun i hi => ?_, ⟨Same.fm FC rfl, Same.fm FC rfl, Same.fm FC rfl, Same.fm FC rfl, nbC.fm FC rfl⟩, ⟨Same.fm FD rfl, Same.fm FD rfl, Same.fm FD rfl, Same.fm FD rfl, nbD.fm FD rfl⟩, FC.sub (by decide), FD.sub (by decide)⟩
    unfold MEq
    rw [a.2.1 92 (by decide), a.2.1 93 (by decide), d.2.1 131 (by decide), d.2.1 132 (by decide)]
    exact RMa.2.2.2.2 i hi
end PLT
