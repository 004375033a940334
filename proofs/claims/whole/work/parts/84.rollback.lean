/-! rolling back: relations at the old sizes -/
section PRB
variable {C D C1 D1 : CS} {n nR nF nM nN nX ts s : Nat} {cid : Nat → Nat}
theorem RLn.lo (R : RLn C D n) (h1 : gI C1 6901 = nI n) (h0 : gI C1 6900 = gI C 6900) (h8 : gI D1 11308 = nI n) (a : Same [70, 71, 72, 73, 74, 75, 79] (· < n) C C1) (b : Same [116, 117, 118, 119, 120, 121] (· < n) D D1) : RLn C1 D1 n := by
  obtain ⟨r1, r2, r3, r4, r5, r6, r7⟩ := R
  have u6 : ∀ j, j < n → gA D1 116 j = gA D 116 j := fun j hj => b 116 (by decide) j hj
  have u7 : ∀ j, j < n → gA D1 117 j = gA D 117 j := fun j hj => b 117 (by decide) j hj
  have u8 : ∀ j, j < n → gA D1 118 j = gA D 118 j := fun j hj => b 118 (by decide) j hj
  refine ⟨r1, h1, h8, h0.trans r4, fun i hi => ?_, fun i hi => ?_, fun e he h => ?_⟩
  · rw [a 70 (by decide) i hi, a 71 (by decide) i hi, a 72 (by decide) i hi, a 73 (by decide) i hi, a 74 (by decide) i hi, u6 i hi, u7 i hi, u8 i hi, b 119 (by decide) i hi, b 120 (by decide) i hi]
    exact r5 i hi
  · rw [u6 i hi, u7 i hi, u8 i hi]
    rcases r6 i hi with q | ⟨q1, e, q2, q3, q4, q5, q6, q7⟩
    · exact Or.inl q
    · refine Or.inr ⟨q1, e, q2, q3, ?_, ?_, ?_, ?_⟩
      · rw [u8 e (by omega)]; exact q4
      · rw [u7 e (by omega)]; exact q5
      · rw [u6 e (by omega)]; exact q6
      · rw [u6 e (by omega)]; exact q7
  · rw [u8 e he] at h
    rw [a 75 (by decide) e he, r7 e he h]
    unfold ansE
    rw [u6 e he, u7 e he, ansF_cg (fun j h1 h2 => ⟨u6 j (by omega), u7 j (by omega)⟩)]
theorem RN.lo (R : RN C D nN nX) (h1 : gI C1 9401 = nI nN) (h0 : gI C1 9400 = gI C 9400) (h3 : gI D1 11323 = nI nN) (h2 : gI D1 11322 = nI nX) (a : nbC nN C C1) (b : nbD nN D D1) : RN C1 D1 nN nX := by
  obtain ⟨r1, r2, r3, r4, r5, r0, r6, r7, r8, r9, r10⟩ := R
  refine ⟨r1, r2, h1, h3, h2, h0.trans r0, fun i hi => ?_, r7.cg (fun j hj => ⟨(b j hj).2.1.symm, (b j hj).2.2.symm⟩), fun k hk => ?_, ?_, fun j k h1 h2 => ?_⟩
  · rw [(a i hi).1, (a i hi).2.1, (a i hi).2.2, (b i hi).1, (b i hi).2.1, (b i hi).2.2]
    exact r6 i hi
  · rw [(b k hk).2.1]; exact r8 k hk
  · rcases r9 with q | ⟨k, k1, k2⟩
    · exact Or.inl q
    · exact Or.inr ⟨k, k1, by rw [(b k k1).2.1]; exact k2⟩
  · rw [(b j (by omega)).1, (b k h2).1]; exact r10 j k h1 h2
end PRB
section PRC
variable {C D C1 D1 : CS} {n nR nF ts : Nat} {cid : Nat → Nat}
theorem RR.lo (R : RR C D n nR cid) (h1 : gI C1 7601 = nI (n + nR)) (h0 : gI C1 7600 = gI C 7600) (h9 : gI D1 11319 = gI D 11319) (a : Same [70, 71, 72, 73, 74, 75, 79] (· < n) C C1) (a2 : Same [80, 81, 82, 83] (· < n + nR) C C1) (b : Same [116, 117, 118, 119, 120, 121] (· < n) D D1) (b2 : Same [122, 123, 124] (fun i => i < n ∨ 200 ≤ i) D D1) : RR C1 D1 n nR cid := by
  obtain ⟨r1, r2, r3, r4, r5, r6, r7, r8, r9⟩ := R
  have L : ∀ j, gA D 122 (200 + j) = gA D1 122 (200 + j) := fun j => (b2 122 (by decide) (200 + j) (Or.inr (by omega))).symm
  refine ⟨r1, r2, h1, h0.trans r4, h9.trans r5, r6, r7, fun i hi => ?_, fun j hj => ?_⟩
  · obtain ⟨q1, q2, q3, q4⟩ := r8 i hi
    rw [lastR_cg (L' := gA D1 122) (fun j _ => L j)] at q3
    rw [cntR_cg (L' := gA D1 122) (fun j _ => L j)] at q4
    have ci := r6 i (Or.inl hi)
    exact ⟨by rw [b2 122 (by decide) i (Or.inl hi)]; exact q1, by rw [a2 80 (by decide) _ ci]; exact q2, by rw [a 79 (by decide) i hi]; exact q3, by rw [b 121 (by decide) i hi]; exact q4⟩
  · obtain ⟨l, l1, l2, l3, l4⟩ := r9 j hj
    rw [lastR_cg (L' := gA D1 122) (fun j _ => L j)] at l3
    have cj := r6 (200 + j) (Or.inr (by omega))
    exact ⟨l, l1, by rw [← L]; exact l2, by rw [a2 80 (by decide) _ cj]; exact l3, by rw [a2 81 (by decide) _ cj, b2 123 (by decide) (200 + j) (Or.inr (by omega))]; exact l4⟩
end PRC
section PRD
variable {C D C1 D1 : CS} {n nR nF ts : Nat} {cid : Nat → Nat}
theorem RF.lo (R : RF C D nF n nR cid) (hn : n ≤ 200) (h1 : gI C1 8401 = nI nF) (h0 : gI C1 8400 = gI C 8400) (h2 : gI D1 11320 = nI nF) (a : Same [85, 86, 87, 88, 89, 90] (· < nF) C C1) (b : Same [126, 127, 128, 129, 130] (· < nF) D D1) (b1 : Same [116, 117, 118, 119, 120, 121] (· < n) D D1) (b2 : Same [122, 123, 124] (fun i => i < n ∨ 200 ≤ i) D D1) : RF C1 D1 nF n nR cid := by
  obtain ⟨r1, r2, r3, r4, r5⟩ := R
  refine ⟨r1, h1, h2, h0.trans r4, fun g hg => ?_⟩
  rw [a 85 (by decide) g hg, a 86 (by decide) g hg, a 87 (by decide) g hg, a 88 (by decide) g hg, a 89 (by decide) g hg, a 90 (by decide) g hg, b 126 (by decide) g hg, b 127 (by decide) g hg, b 128 (by decide) g hg, b 129 (by decide) g hg, b 130 (by decide) g hg]
  obtain ⟨⟨m, l, q1, q2, q3, q4, q5, q6, q7⟩, q8⟩ := r5 g hg
  refine ⟨⟨m, l, q1, q2, q3, q4, ?_, q6, by rw [b1 116 (by decide) l q2]; exact q7⟩, q8⟩
  rw [b2 122 (by decide) m (by unfold vid at q1; omega)]
  exact q5
theorem RTt.lo (T : RTt C D n nR cid ts) (R : RR C D n nR cid) (h1 : gI C1 7701 = nI ts) (a2 : Same [80, 81, 82, 83] (· < n + nR) C C1) (a3 : Same [78] (· < ts) C C1) (b : Same [116, 117, 118, 119, 120, 121] (· < n) D D1) (b2 : Same [122, 123, 124] (fun i => i < n ∨ 200 ≤ i) D D1) (b3 : Same [125] (fun v => v < 60 * n ∨ 12000 ≤ v) D D1) : RTt C1 D1 n nR cid ts := by
  obtain ⟨t1, t2, t3⟩ := T
  refine ⟨t1, h1, fun m hm => ?_⟩
  obtain ⟨ln, fr, l, k, q1, q2, q3, q4, q5, q6, q7, q8, q9, q10, q11, q12⟩ := t3 m hm
  have cm := R.2.2.2.2.2.1 m hm
  have vm : m < n ∨ 200 ≤ m := by unfold vid at hm; omega
  have o25 : ∀ i, i < 60 → gA D1 125 (60 * m + i) = gA D 125 (60 * m + i) := fun i hi => b3 125 (by decide) _ (by omega)
  refine ⟨ln, fr, l, k, q1, q2, by rw [b2 124 (by decide) m vm]; exact q3, by rw [a2 83 (by decide) _ cm]; exact q4, by rw [a2 82 (by decide) _ cm]; exact q5, fun t ht => ?_, by rw [b2 122 (by decide) m vm]; exact q7, q8, q9, by rw [b 116 (by decide) l q8]; exact q10, (o25 0 (by omega)).trans q11, (o25 1 (by omega)).trans q12⟩
  obtain ⟨c, c1, c2, c3⟩ := q6 t ht
  refine ⟨c, c1, by rw [a3 78 (by decide) _ (by omega)]; exact c2, ?_⟩
  rw [show 60 * m + 2 + t = 60 * m + (2 + t) by omega, o25 (2 + t) (by omega), ← show 60 * m + 2 + t = 60 * m + (2 + t) by omega]
  exact c3
end PRD
