/-! a sitting that goes wrong: everything back -/
def bkC (C1 : CS) (nL nR ts nF nM nN : Nat) (q : Int32) : CS := sI (sI (sI (sI (sI (sI (sI (sI C1 6901 (nI nL)) 7601 (nI (nL + nR))) 7701 (nI ts)) 8401 (nI nF)) 9101 (nI nM)) 9401 (nI nN)) 6413 q) 6501 0
def bkD (D1 : CS) (nL nF nM nX nN : Nat) (q : Int32) : CS := sI (sI (sI (sI (sI (sI D1 11308 (nI nL)) 11320 (nI nF)) 11321 (nI nM)) 11322 (nI nX)) 11323 (nI nN)) 11307 q
abbrev wC : CS → CS → Prop := Fm [11006, 11007, 11008, 11009, 11011, 11012, 6902, 7602, 7702, 8402, 9102, 9402, 6901, 7601, 7701, 8401, 9101, 9401, 6413, 6501] [70, 71, 72, 73, 74, 75, 78, 79, 80, 81, 82, 83, 85, 86, 87, 88, 89, 90, 92, 93, 95, 96] [97]
abbrev wD : CS → CS → Prop := Fm [11303, 11307, 11347, 11346, 11348, 11349, 11350, 11351, 11352, 11308, 11320, 11321, 11322, 11323] [116, 117, 118, 121, 122, 123, 124, 125, 126, 127, 128, 129, 130, 131, 132, 133, 134] [135]
section PBK
variable {C D C1 D1 : CS} {en nL nR nF nM nN nX nO nD t o s w ts N : Nat} {fp q k : Int32} {cid : Nat → Nat}
theorem RX.lo (R : RX D nL nN s) (b : Same [116, 117, 118, 119, 120, 121] (· < nL) D D1) (b2 : nbD nN D D1) : RX D1 nL nN s := by
  obtain ⟨x1, x2, x3⟩ := R
  refine ⟨x1, fun i hi => ?_, fun k hk => ?_⟩
  · rw [b 117 (by decide) i hi]; exact x2 i hi
  · rw [(b2 k hk).1, (b2 k hk).2.2]; exact x3 k hk
theorem sit_back (Q : InvN C D nL nR nF nM nN nX nO nD t o s w fp cid) (T : RTt C D nL nR cid ts) (me : ∀ i, i < nM → MEq C1 D1 i) (lc : LC C C1 nL (nL + nR) nF ts nN) (ld : LD D D1 nL nF nN) (FC : wC C C1) (FD : wD D D1) (c1 : gI C1 6901 = nI nL) (c2 : gI C1 7601 = nI (nL + nR)) (c3 : gI C1 7701 = nI ts) (c4 : gI C1 8401 = nI nF) (c5 : gI C1 9101 = nI nM) (c6 : gI C1 9401 = nI nN) (c7 : gI C1 6413 = q) (c8 : gI C1 6501 = 0) (d1 : gI D1 11308 = nI nL) (d2 : gI D1 11320 = nI nF) (d3' : gI D1 11321 = nI nM) (d4 : gI D1 11322 = nI nX) (d5 : gI D1 11323 = nI nN) (d6 : gI D1 11307 = q) (h3 : gI D1 11303 = 0) : InvN C1 D1 nL nR nF nM nN nX nO nD 0 o s w q cid := by
  obtain ⟨q1, q2, q3, q4, q5, q6, q7, q8, q9, q10, ⟨m1, m2, m3, m4, m5, m6, m7, m8⟩, q12⟩ := Q
  obtain ⟨a1, a2, a3, a4, a5⟩ := lc
  obtain ⟨b1, b2, b3, b4, b5⟩ := ld
  have hL := q1.1
  refine ⟨q1.lo c1 (FC.1 6900 rfl) d1 a1 b1, q2.lo c2 (FC.1 7600 rfl) (FD.1 11319 rfl) a1 a2 b1 b2, q3.lo hL c4 (FC.1 8400 rfl) d2 a4 b4 b1 b2, q4.fm FC FD rfl rfl, ⟨ts, T.lo q2 c3 a2 a3 b1 b2 b3⟩, ⟨q6.1, c5, d3', (FC.1 9100 rfl).trans q6.2.2.2.1, me⟩, q7.lo c6 (FC.1 9400 rfl) d5 d4 a5 b5, q8.fm FC FD rfl rfl, ⟨by omega, c8, h3, fun i hi => by omega⟩, q10.fm FC FD rfl rfl, ⟨m1, m2, (FC.1 6411 rfl).trans m3, (FD.1 11306 rfl).trans m4, (FC.1 6412 rfl).trans m5, (FD.1 11305 rfl).trans m6, c7, d6⟩, q12.lo b1 b5⟩
theorem bkC_fm (fc : wC C C1) : wC C (bkC C1 nL nR ts nF nM nN q) := ((((((((fc.trans (Fm.I rfl)).trans (Fm.I rfl)).trans (Fm.I rfl)).trans (Fm.I rfl)).trans (Fm.I rfl)).trans (Fm.I rfl)).trans (Fm.I rfl)).trans (Fm.I rfl))
theorem bkD_fm (fd : wD D D1) : wD D (bkD D1 nL nF nM nX nN q) := ((((((fd.trans (Fm.I rfl)).trans (Fm.I rfl)).trans (Fm.I rfl)).trans (Fm.I rfl)).trans (Fm.I rfl)).trans (Fm.I rfl))
theorem c_finish0 {ts1 : Nat} (e1 : gI C1 6902 = nI nL) (e2 : gI C1 7602 = nI (nL + nR)) (e3 : gI C1 7702 = nI ts) (e4 : gI C1 8402 = nI nF) (e5 : gI C1 9102 = nI nM) (e6 : gI C1 9402 = nI nN) (e7 : gI C1 7701 = nI ts1) (h1 : ts ≤ ts1) (h2 : ts1 ≤ 17400) (e8 : gI C1 11011 = k) (e9 : gI C1 11012 = q) : ∃ C2, f_X10_finish 0 C1 = some (k, C2) ∧ f_X11_endReading (gI C2 11012) C2 = some (bkC C1 nL nR ts nF nM nN q) := by
  refine ⟨sI (sI (sI (sI (sI (sI C1 6901 (nI nL)) 7601 (nI (nL + nR))) 7701 (nI ts)) 8401 (nI nF)) 9101 (nI nM)) 9401 (nI nN), ?_, ?_⟩
  · have g : gI C1 7702 ≤ gI C1 7701 ∧ 0 ≤ gI C1 7702 := by
      rw [e3, e7]
      exact ⟨nI_le h1 (by omega), Int32.not_lt.mp (nI_pos (by omega))⟩
    unfold f_X10_finish
    rw [if_pos rfl]
    show (if gI C1 7702 ≤ gI C1 7701 ∧ 0 ≤ gI C1 7702 then some (gI C1 11011, sI (sI (sI (sI (sI (sI C1 6901 (gI C1 6902)) 7601 (gI C1 7602)) 7701 (gI C1 7702)) 8401 (gI C1 8402)) 9101 (gI C1 9102)) 9401 (gI C1 9402)) else none) = _
    rw [if_pos g, e1, e2, e3, e4, e5, e6, e8]
  · unfold f_X11_endReading
    rw [bd_eq, bd_eq, show gI (sI (sI (sI (sI (sI (sI C1 6901 (nI nL)) 7601 (nI (nL + nR))) 7701 (nI ts)) 8401 (nI nF)) 9101 (nI nM)) 9401 (nI nN)) 11012 = gI C1 11012 from rfl, e9]
    rfl
theorem d_back (hk : gI D1 11349 = k) (h0 : k ≠ 0) (hq : gI D1 11350 = q) : f_X12_sitting_J134 N (nI nL) (nI nF) (nI nM) (nI nX) (nI nN) D1 = some (-1 - k, bkD D1 nL nF nM nX nN q) := by
  unfold f_X12_sitting_J134
  rw [if_neg (by rw [hk]; exact h0)]
  simp only [bd_eq]
  rw [show gI (sI (sI (sI (sI (sI D1 11308 (nI nL)) 11320 (nI nF)) 11321 (nI nM)) 11322 (nI nX)) 11323 (nI nN)) 11350 = gI D1 11350 from rfl, hq]
  show some ((-1) - gI D1 11349, _) = _
  rw [hk]
  rfl
end PBK
