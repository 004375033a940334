/-! sitting -/
section POS
variable {C D : CS} {x : Int32} {N : Nat}
/-- a sitting that goes well -/
theorem sit_ok {C1 D1 : CS} {en p nL n nR nF nM nN nX ts nF0 nD nO o s w : Nat} {cid : Nat → Nat} {E : Option Nat} {pv : Int32} (Q : SQ C1 D1 en p nL n nR nF nM nN nX ts cid s E pv) (R4 : RO C1 D1 nO) (R8 : RD C1 D1 nD nF0) (hF : nF0 ≤ nF) (R10 : ROt C1 D1 o) (hs : s < 8) (hw : w ≤ 100000) (m1 : gI C1 6411 = nI s) (m2 : gI C1 6412 = nI w) (m3 : gI D1 11305 = nI w) (m4 : gI D1 11307 = -1) (m5 : gI D1 11303 = 0) (m6 : gI D1 11300 = 0) (hpv : (nL = 0 → pv = 1) ∧ (nL ≠ 0 → pv = gA D1 119 (nL - 1) + 1)) (RXo : ∀ i, i < nL → ∃ t, t < s ∧ gA D1 117 i = nI t) (hN : 20000 < N) (a b c d : Int32) :
    ∃ D2, f_X12_sitting_J134 N (nI nL) a b c d D1 = some (nI n - nI nL, D2) ∧ gI D2 11300 = 0 ∧ gB D2 146 = gB D1 146 ∧ InvN (sI (sI (sI C1 6413 (-1)) 6501 0) 6411 (nI (s + 1))) D2 n nR nF nM nN nX nO nD 0 o (s + 1) w (-1) cid := by
  obtain ⟨Po, S, R2, R5, R3, R6, R7, X, hsi⟩ := Q
  have h8 : gI D1 11308 = nI n := S.2.2.2.1
  have hn := S.1
  have fn := S.2.1
  have d8 : gI D1 11349 = 0 := Po.2.2.2.2.2.2.1
  obtain ⟨D2, y1, y2, y3, y4⟩ := d_pages (N := N) (f := nL) (pv := pv) hn (n - nL) nL N D1 (by omega) (Nat.le_refl _) (by omega) h8
  have ag := y2.ag (li := [11308, 11306, 11305, 11307, 11303, 11300]) (la := [116, 117, 118, 134]) (lb := [135]) rfl
  have e6 : gI D2 11306 = nI s := (ag.1 11306 (by decide)).trans hsi
  have e8 : gI D2 11308 = nI n := (ag.1 11308 (by decide)).trans h8
  have F1 : Fm [6413, 6501, 6411] [] [] C1 (sI (sI (sI C1 6413 (-1)) 6501 0) 6411 (nI (s + 1))) := ((Fm.I rfl).trans (Fm.I rfl)).trans (Fm.I rfl)
  have F2 : Fm [11306] [119, 120] [] D1 (sI D2 11306 (nI (s + 1))) := (y2.sub (by decide)).trans (Fm.I rfl)
  refine ⟨sI D2 11306 (nI (s + 1)), ?_, (ag.1 11300 (by decide)).trans m6, F2.2.2.1 146 rfl, ?_, R2.fm F1 F2 rfl rfl, R3.fm F1 F2 rfl rfl, R4.fm F1 F2 rfl rfl, (show RT C1 D1 n nR cid from ⟨ts, R5⟩).fm F1 F2 rfl rfl, R6.fm F1 F2 rfl rfl, R7.fm F1 F2 rfl rfl, (R8.le hF).fm F1 F2 rfl rfl, ⟨by omega, rfl, (ag.1 11303 (by decide)).trans m5, fun i hi => by omega⟩, R10.fm F1 F2 rfl rfl, ⟨by omega, hw, rfl, rfl, m2, (ag.1 11305 (by decide)).trans m3, rfl, (ag.1 11307 (by decide)).trans m4⟩, ⟨X.1, fun i hi => ?_, fun k hk => ?_⟩⟩
  · unfold f_X12_sitting_J134
    have e8' : gI (sI D2 11306 (nI (s + 1))) 11308 = nI n := e8
    rw [d8, if_pos rfl]
    by_cases c0 : nL = 0
    · rw [hpv.1 c0] at y1
      rw [if_pos (show nI nL = 0 by rw [c0]; rfl), y1, bnd_some, e6, nI_1, bd_eq, e8']
    · rw [if_neg (nI_ne0 (by omega) (by omega)), show nI nL - 1 = nI (nL - 1) from pk_sub (b := 1) (by omega), inb_nI (by omega) (by decide), if_pos rfl, nI_clamp (by omega), ← hpv.2 c0, y1, bnd_some, e6, nI_1, bd_eq, e8']
  · refine (S.done (D1 := D2) e8 (ag.2.1 116 (by decide)) (ag.2.1 117 (by decide)) (ag.2.1 118 (by decide)) (fun i hi => ?_)).fm F1 (Fm.I (ei := [11306]) (ea := []) (eb := []) rfl) rfl rfl
    by_cases c : i < nL
    · rw [if_pos c, if_pos c]; exact y4 i c
    · rw [if_neg c, if_neg c]; exact y3 i (by omega) hi
  · show ∃ t, t < s + 1 ∧ gA D2 117 i = nI t
    rw [ag.2.1 117 (by decide)]
    by_cases c : i < nL
    · obtain ⟨t, t1, t2⟩ := RXo i c
      exact ⟨t, by omega, t2⟩
    · exact ⟨s, by omega, S.2.2.2.2.2.2.2.2.1 i (by omega) hi⟩
  · show (∃ j, j < n ∧ gA D2 134 k = nI j) ∧ Int64.toInt32 (nby (gB D2 135 k) 0) ≠ 0
    rw [ag.2.1 134 (by decide), ag.2.2 135 (by decide)]
    exact X.2 k hk
end POS
