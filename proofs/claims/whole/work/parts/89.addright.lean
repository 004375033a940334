/-! a line put right: a rest more, on both sides -/
section PRI
variable {C D C1 D1 : CS} {en l N nL nR ts m : Nat} {cid : Nat → Nat}
theorem c_addR {r t q : Nat} {wv : Int32} (T : Tx C D en) (h : gI C 7601 = nI r) (h0 : gI C 7600 = 300) (ht : gI C 7701 = nI t) (hr : r < 300) (hl : l < 200) (hq : q ≤ en) (h58 : t + q ≤ 17400) (hN : 20000 < N) : ∃ C1, f_X8_addRight N (nI l) wv 0 (nI q) C = some C1 ∧ Fm [7601, 7701] [78, 79, 80, 81, 82, 83] [] C C1 ∧ gI C1 7601 = nI (r + 1) ∧ gI C1 7701 = nI (t + q) ∧ gA C1 79 = upd (gA C 79) l (nI r) ∧ gA C1 80 = upd (gA C 80) r (gA C 79 l) ∧ gA C1 81 = upd (gA C 81) r wv ∧ gA C1 82 = upd (gA C 82) r (nI t) ∧ gA C1 83 = upd (gA C 83) r (nI q) ∧ (∀ u, u < q → gA C1 78 (t + u) = gA C 66 u) ∧ ∀ v, v < t → gA C1 78 v = gA C 78 v := by
  have he := T.1
  have ii : inb (nI r) 300 = true := inb_nI hr (by decide)
  have ik : (nI r).toNatClampNeg = r := nI_clamp (by omega)
  unfold f_X8_addRight f_X8_add
  rw [inb_nI hl (by decide), if_pos rfl, nI_clamp (show l < 2 ^ 31 by omega), h, h0, if_pos (show nI r < 300 from nI_lt (b := 300) hr (by decide)), ii, if_pos rfl]
  simp only [bd_eq, gI_sA, h, ht, ii, ik, if_true]
  rw [show (0 : Int32) = nI 0 from rfl, pk_sub (Nat.zero_le q), Nat.sub_zero]
  have F : Fm [7601, 7701] [78, 79, 80, 81, 82, 83] [] C (sA (sA (sA (sA C 80 r (gA C 79 l)) 81 r wv) 82 r (nI t)) 83 r (nI q)) := (((Fm.A rfl).trans (Fm.A rfl)).trans (Fm.A rfl)).trans (Fm.A rfl)
  obtain ⟨C1, q1, q2, q3, q4, q5⟩ := c_copyL (D := D) (N := N) (x1 := nI l) hq q 0 t N _ (by omega) (by omega) (T.fm F (Fm.rfl (ei := []) (ea := []) (eb := [])) rfl rfl) ht h58
  have ag := q2.ag (li := [7601]) (la := [79, 80, 81, 82, 83]) (lb := []) rfl
  have g1 : gI C1 7601 = nI r := (ag.1 7601 (by decide)).trans h
  rw [q1, bnd_some, g1, nI_1, bnd_some]
  refine ⟨_, rfl, ((F.trans (q2.sub (by decide))).trans (Fm.A rfl)).trans (Fm.I rfl), rfl, q3, ?_, ag.2.1 80 (by decide), ag.2.1 81 (by decide), ag.2.1 82 (by decide), ag.2.1 83 (by decide), fun u hu => (q4 u hu).trans (by rw [Nat.zero_add]; rfl), q5⟩
  show upd (gA C1 79) l (nI r) = _
  rw [ag.2.1 79 (by decide)]
  rfl
theorem d_L187 {x2 : Int32} (hm : gI D 11352 = nI m) (m3 : m < 300) (hl : l < 200) (hlm : l < m) (hN : 20000 < N) : ∃ D1, f_X12_right_L187 N (nI l) x2 N 0 D = some D1 ∧ Fm [] [125] [] D D1 ∧ gA D1 125 (60 * m) = gA D 125 (60 * l) ∧ gA D1 125 (60 * m + 1) = gA D 125 (60 * l + 1) ∧ ∀ v, (v < 60 * m ∨ 60 * m + 2 ≤ v) → gA D1 125 v = gA D 125 v := by
  obtain ⟨z, rfl, hz⟩ := sc (show 2 < N by omega)
  obtain ⟨z, rfl, hz⟩ := sc (show 1 < z by omega)
  obtain ⟨z, rfl, hz⟩ := sc (show 0 < z by omega)
  have ix : ∀ (a i : Nat), (60 : Int32) * nI a + nI i = nI (60 * a + i) := fun a i => by rw [show (60 : Int32) = nI 60 from rfl, nI_mul, nI_add]
  have st : ∀ (i w : Nat) (X : CS), gI X 11352 = nI m → i < 2 → f_X12_right_L187 (z + 1 + 1 + 1) (nI l) x2 (w + 1) (nI i) X = f_X12_right_L187 (z + 1 + 1 + 1) (nI l) x2 w (nI (i + 1)) (sA X 125 (60 * m + i) (gA X 125 (60 * l + i))) := by
    intro i w X hX hi
    rw [f_X12_right_L187, if_neg (show ¬ 2 ≤ nI i from nI_ge (b := 2) hi (by decide)), hX, ix, ix, inb_nI (show 60 * l + i < 18000 by omega) (by decide), if_pos rfl, inb_nI (show 60 * m + i < 18000 by omega) (by decide), if_pos rfl, nI_clamp (show 60 * m + i < 2 ^ 31 by omega), nI_clamp (show 60 * l + i < 2 ^ 31 by omega), bd_eq, nI_1]
  rw [show (0 : Int32) = nI 0 from rfl, st 0 _ D hm (by omega), show nI (0 + 1) = nI 1 from rfl, st 1 (z + 1) (sA D 125 (60 * m + 0) (gA D 125 (60 * l + 0))) hm (by omega), f_X12_right_L187, if_pos (show (2 : Int32) ≤ nI (1 + 1) by decide)]
  refine ⟨_, rfl, (Fm.A rfl).trans (Fm.A rfl), ?_, ?_, fun v hv => ?_⟩
  · show upd (upd (gA D 125) (60 * m + 0) (gA D 125 (60 * l + 0))) (60 * m + 1) _ (60 * m) = _
    rw [upd_ne (by omega)]
    exact upd_eq
  · show upd (upd (gA D 125) (60 * m + 0) (gA D 125 (60 * l + 0))) (60 * m + 1) (upd (gA D 125) (60 * m + 0) (gA D 125 (60 * l + 0)) (60 * l + 1)) (60 * m + 1) = _
    rw [upd_eq, upd_ne (by omega)]
  · show upd (upd (gA D 125) (60 * m + 0) (gA D 125 (60 * l + 0))) (60 * m + 1) _ v = _
    rw [upd_ne (by omega), upd_ne (by omega)]
theorem d_L229 {x1 : Int32} (m3 : m < 300) (he : en ≤ 58) : ∀ (j i z : Nat) (D : CS), i + j = en → j < z → gI D 11352 = nI m → ∃ D1, f_X12_right_L229 N x1 (nI en) z (nI i) D = some D1 ∧ Fm [] [125] [] D D1 ∧ (∀ u, i ≤ u → u < en → gA D1 125 (60 * m + 2 + u) = gA D 114 u) ∧ ∀ v, (v < 60 * m + 2 + i ∨ 60 * m + 2 + en ≤ v) → gA D1 125 v = gA D 125 v := by
  intro j
  induction j with
  | zero =>
    intro i z D hi hz hm
    obtain ⟨z, rfl, -⟩ := sc hz
    rw [f_X12_right_L229, if_pos (nI_le (by omega) (by omega))]
    exact ⟨D, rfl, Fm.rfl, fun u h1 h2 => by omega, fun v _ => rfl⟩
  | succ j ih =>
    intro i z D hi hz hm
    obtain ⟨z, rfl, hz⟩ := sc hz
    have ix : (60 : Int32) * nI m + 2 + nI i = nI (60 * m + 2 + i) := by rw [show (60 : Int32) = nI 60 from rfl, show (2 : Int32) = nI 2 from rfl, nI_mul, nI_add, nI_add]
    rw [f_X12_right_L229, if_neg (nI_ge (by omega) (by omega)), hm, ix, inb_nI (by omega) (by decide), if_pos rfl, inb_nI (by omega) (by decide), if_pos rfl, nI_clamp (by omega), nI_clamp (by omega), bd_eq, nI_1]
    obtain ⟨D1, q1, q2, q3, q4⟩ := ih (i + 1) z (sA D 125 (60 * m + 2 + i) (gA D 114 i)) (by omega) (by omega) hm
    refine ⟨D1, q1, (Fm.A rfl).trans q2, fun u h1 h2 => ?_, fun v hv => ?_⟩
    · by_cases e : u = i
      · subst e
        refine (q4 _ (by omega)).trans ?_
        show upd (gA D 125) (60 * m + 2 + u) (gA D 114 u) (60 * m + 2 + u) = _
        exact upd_eq
      · exact q3 u (by omega) h2
    · refine (q4 v (by omega)).trans ?_
      show upd (gA D 125) (60 * m + 2 + i) (gA D 114 i) v = _
      exact upd_ne (by omega)
end PRI
def cidR (cid : Nat → Nat) (nL nR : Nat) : Nat → Nat := fun m => if m = 200 + nR then nL + nR else cid m
section PRJ
variable {C D C1 D1 : CS} {en l N nL nR ts ln : Nat} {cid : Nat → Nat} {wv : Int32}
theorem cidR_eq : cidR cid nL nR (200 + nR) = nL + nR := if_pos rfl
theorem cidR_ne {m : Nat} (h : m ≠ 200 + nR) : cidR cid nL nR m = cid m := if_neg h
theorem vidR_old {m : Nat} (h : vid nL (nR + 1) m) (hm : m ≠ 200 + nR) : vid nL nR m := by
  unfold vid at h ⊢; omega
theorem vidR_ne {m : Nat} (hn : nL ≤ 200) (h : vid nL nR m) : m ≠ 200 + nR := by
  unfold vid at h; omega
theorem vidR_up {m : Nat} (h : vid nL nR m) : vid nL (nR + 1) m := by
  unfold vid at h ⊢; omega
theorem RR.addR (R : RR C D nL nR cid) (hR : nR < 100) (hl : l < nL) (c1 : gI C1 7601 = nI (nL + nR + 1)) (c0 : gI C1 7600 = 300) (c79 : gA C1 79 = upd (gA C 79) l (nI (nL + nR))) (c80 : gA C1 80 = upd (gA C 80) (nL + nR) (gA C 79 l)) (c81 : gA C1 81 = upd (gA C 81) (nL + nR) wv) (d19 : gI D1 11319 = nI (nR + 1)) (d21 : gA D1 121 = upd (gA D 121) l (gA D 121 l + 1)) (d22 : gA D1 122 = upd (gA D 122) (200 + nR) (nI l)) (d23 : gA D1 123 = upd (gA D 123) (200 + nR) wv) : RR C1 D1 nL (nR + 1) (cidR cid nL nR) := by
  obtain ⟨r1, r2, r3, r4, r5, r6, r7, r8, r9⟩ := R
  have L2 : ∀ j, j < nR → gA D 122 (200 + j) = gA D1 122 (200 + j) := fun j hj => by rw [d22, upd_ne (by omega)]
  have Ln : gA D1 122 (200 + nR) = nI l := by rw [d22, upd_eq]
  refine ⟨r1, by omega, c1, c0, d19, fun m hm => ?_, fun m q hm hq e => ?_, fun i hi => ?_, fun j hj => ?_⟩
  · by_cases c : m = 200 + nR
    · rw [c, cidR_eq]; omega
    · rw [cidR_ne c]
      have := r6 m (vidR_old hm c)
      omega
  · by_cases c : m = 200 + nR <;> by_cases c' : q = 200 + nR
    · omega
    · rw [c, cidR_eq, cidR_ne c'] at e
      have := r6 q (vidR_old hq c')
      omega
    · rw [c', cidR_eq, cidR_ne c] at e
      have := r6 m (vidR_old hm c)
      omega
    · rw [cidR_ne c, cidR_ne c'] at e
      exact r7 m q (vidR_old hm c) (vidR_old hq c') e
  · obtain ⟨a1, a2, a3, a4⟩ := r8 i hi
    have ci := r6 i (Or.inl hi)
    have lv : vid nL nR (lastR (gA D 122) i nR) := lastR_vid hi (Nat.le_refl _)
    have e1 := lastR_cg (l := i) (L' := gA D1 122) L2
    have e2 := cntR_cg (l := i) (L' := gA D1 122) L2
    refine ⟨by rw [d22, upd_ne (by omega)]; exact a1, by rw [cidR_ne (by omega), c80, upd_ne (by omega)]; exact a2, ?_, ?_⟩
    · rw [lastR, Ln]
      by_cases c : l = i
      · rw [if_pos (by rw [c]), cidR_eq, c79, c, upd_eq]
      · rw [if_neg (fun z => c ((nI_eq (by omega) (by omega)).mp z)), ← e1, cidR_ne (vidR_ne r1 lv), c79, upd_ne (fun z => c z.symm)]
        exact a3
    · rw [cntR, Ln]
      by_cases c : l = i
      · rw [if_pos (by rw [c]), d21, ← c, upd_eq, c, a4, nI_1, e2]
      · rw [if_neg (fun z => c ((nI_eq (by omega) (by omega)).mp z)), ← e2, d21, upd_ne (fun z => c z.symm)]
        exact a4
  · by_cases c : j = nR
    · subst c
      have lv : vid nL j (lastR (gA D 122) l j) := lastR_vid hl (Nat.le_refl _)
      refine ⟨l, hl, Ln, ?_, ?_⟩
      · rw [cidR_eq, c80, upd_eq, ← lastR_cg (l := l) (L' := gA D1 122) L2, cidR_ne (vidR_ne r1 lv)]
        exact (r8 l hl).2.2.1
      · rw [cidR_eq, c81, upd_eq, d23, upd_eq]
    · obtain ⟨l', l1, l2, l3, l4⟩ := r9 j (by omega)
      have cj := r6 (200 + j) (Or.inr (by omega))
      have lv : vid nL nR (lastR (gA D 122) l' j) := lastR_vid l1 (by omega)
      rw [lastR_cg (L' := gA D1 122) (fun i hi => L2 i (by omega))] at l3 lv
      refine ⟨l', l1, by rw [← L2 j (by omega)]; exact l2, ?_, ?_⟩
      · rw [cidR_ne (by omega), c80, upd_ne (by omega), cidR_ne (vidR_ne r1 lv)]
        exact l3
      · rw [cidR_ne (by omega), c81, upd_ne (by omega), d23, upd_ne (by omega)]
        exact l4
theorem RTt.addR (R : RTt C D nL nR cid ts) (R2 : RR C D nL nR cid) (hR : nR < 100) (hlL : l < nL) (hl : ln ≤ 58) (c01 : gI C1 7701 = nI (ts + ln)) (c82 : gA C1 82 = upd (gA C 82) (nL + nR) (nI ts)) (c83 : gA C1 83 = upd (gA C 83) (nL + nR) (nI ln)) (c78 : ∀ v, v < ts → gA C1 78 v = gA C 78 v) (d16 : gA D1 116 = gA D 116) (d22 : gA D1 122 = upd (gA D 122) (200 + nR) (nI l)) (d24 : gA D1 124 = upd (gA D 124) (200 + nR) (nI (ln + 2))) (d25 : ∀ v, v < 60 * (200 + nR) → gA D1 125 v = gA D 125 v) (e0 : gA D1 125 (60 * (200 + nR)) = gA D 125 (60 * l)) (e1 : gA D1 125 (60 * (200 + nR) + 1) = gA D 125 (60 * l + 1)) (eb : ∀ t, t < ln → ∃ b, b < 256 ∧ gA C1 78 (ts + t) = nI b ∧ gA D1 125 (60 * (200 + nR) + 2 + t) = nI b) : RTt C1 D1 nL (nR + 1) (cidR cid nL nR) (ts + ln) := by
  obtain ⟨t1, t2, t3⟩ := R
  have r1 := R2.1
  refine ⟨by omega, c01, fun m hm => ?_⟩
  by_cases c : m = 200 + nR
  · subst c
    obtain ⟨ln', fr, l', k', a1, a2, a3, a4, a5, a6, a7, a8, a9, a10, a11, a12⟩ := t3 l (Or.inl hlL)
    have el : l' = l := (nI_eq (by omega) (by omega)).mp (a7.symm.trans (R2.2.2.2.2.2.2.2.1 l hlL).1)
    subst el
    exact ⟨ln, ts, l', k', hl, Nat.le_refl _, by rw [d24, upd_eq], by rw [cidR_eq, c83, upd_eq], by rw [cidR_eq, c82, upd_eq], eb, by rw [d22, upd_eq], hlL, a9, by rw [d16]; exact a10, e0.trans a11, e1.trans a12⟩
  · have vm := vidR_old hm c
    have cm := R2.2.2.2.2.2.1 m vm
    have lm : m < 200 + nR := by unfold vid at vm; omega
    obtain ⟨ln', fr, l', k', a1, a2, a3, a4, a5, a6, a7, a8, a9, a10, a11, a12⟩ := t3 m vm
    have o25 : ∀ i, i < 60 → gA D1 125 (60 * m + i) = gA D 125 (60 * m + i) := fun i hi => d25 _ (by omega)
    refine ⟨ln', fr, l', k', a1, by omega, by rw [d24, upd_ne c]; exact a3, by rw [cidR_ne c, c83, upd_ne (by omega)]; exact a4, by rw [cidR_ne c, c82, upd_ne (by omega)]; exact a5, fun t ht => ?_, by rw [d22, upd_ne c]; exact a7, a8, a9, by rw [d16]; exact a10, ?_, ?_⟩
    · obtain ⟨b, b1, b2, b3⟩ := a6 t ht
      refine ⟨b, b1, by rw [c78 _ (by omega)]; exact b2, ?_⟩
      rw [show 60 * m + 2 + t = 60 * m + (2 + t) by omega, o25 (2 + t) (by omega), ← show 60 * m + 2 + t = 60 * m + (2 + t) by omega]
      exact b3
    · have := o25 0 (by omega)
      exact this.trans a11
    · exact (o25 1 (by omega)).trans a12
theorem FOk.addR {f : Nat} (h : FOk C D nL nR cid f) (hn : nL ≤ 200) (d16 : gA D1 116 = gA D 116) (d22 : gA D1 122 = upd (gA D 122) (200 + nR) (nI l)) (a : ∀ r ∈ [85, 86, 87, 88, 89, 90], gA C1 r f = gA C r f) (b : ∀ r ∈ [126, 127, 128, 129, 130], gA D1 r f = gA D r f) : FOk C1 D1 nL (nR + 1) (cidR cid nL nR) f := by
  obtain ⟨⟨m, l', h1, h2, h3, h4, h5, h6, h7⟩, h8⟩ := h
  have hm := vidR_ne hn h1
  unfold FOk
  rw [a 85 (by decide), a 86 (by decide), a 87 (by decide), a 88 (by decide), a 89 (by decide), a 90 (by decide), b 126 (by decide), b 127 (by decide), b 128 (by decide), b 129 (by decide), b 130 (by decide)]
  exact ⟨⟨m, l', vidR_up h1, h2, h3, by rw [cidR_ne hm]; exact h4, by rw [d22, upd_ne hm]; exact h5, h6, by rw [d16]; exact h7⟩, h8⟩
theorem FEq.addR {f : Nat} (h : FEq C D l (200 + nR) (nL + nR) f) (hl : l < nL) (h5 : gA D1 116 l ≠ 5) (d22 : gA D1 122 = upd (gA D 122) (200 + nR) (nI l)) (a : ∀ r ∈ [85, 86, 87, 88, 89, 90], gA C1 r f = gA C r f) (b : ∀ r ∈ [126, 127, 128, 129, 130], gA D1 r f = gA D r f) : FOk C1 D1 nL (nR + 1) (cidR cid nL nR) f := by
  obtain ⟨h1, h2, h3, h4⟩ := h
  unfold FOk
  rw [a 85 (by decide), a 86 (by decide), a 87 (by decide), a 88 (by decide), a 89 (by decide), a 90 (by decide), b 126 (by decide), b 127 (by decide), b 128 (by decide), b 129 (by decide), b 130 (by decide)]
  exact ⟨⟨200 + nR, l, Or.inr (by omega), hl, h1, by rw [cidR_eq]; exact h2, by rw [d22, upd_eq], h3, h5⟩, h4⟩
end PRJ
