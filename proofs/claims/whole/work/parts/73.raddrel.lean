/-! a line's rest, added: the relations -/
def cidL (cid : Nat → Nat) (nL nR : Nat) : Nat → Nat := fun m => if m = nL then nL + nR else cid m
def RTt (C D : CS) (nL nR : Nat) (cid : Nat → Nat) (ts : Nat) : Prop := ts ≤ 58 * (nL + nR) ∧ gI C 7701 = nI ts ∧ ∀ m, vid nL nR m → ∃ ln fr l k, ln ≤ 58 ∧ fr + ln ≤ ts ∧ gA D 124 m = nI (ln + 2) ∧ gA C 83 (cid m) = nI ln ∧ gA C 82 (cid m) = nI fr ∧ (∀ t, t < ln → ∃ b, b < 256 ∧ gA C 78 (fr + t) = nI b ∧ gA D 125 (60 * m + 2 + t) = nI b) ∧ gA D 122 m = nI l ∧ l < nL ∧ k ≤ 5 ∧ gA D 116 l = nI k ∧ gA D 125 (60 * m) = chOf 1 k ∧ gA D 125 (60 * m + 1) = 32
/-- an earlier fact -/
def FOk (C D : CS) (nL nR : Nat) (cid : Nat → Nat) (f : Nat) : Prop := (∃ m l, vid nL nR m ∧ l < nL ∧ gA D 126 f = nI m ∧ gA C 86 f = nI (cid m) ∧ gA D 122 m = nI l ∧ gA C 85 f = nI l ∧ gA D 116 l ≠ 5) ∧ gA C 87 f = gA D 130 f ∧ gA C 88 f = gA D 127 f ∧ gA C 89 f = gA D 128 f ∧ gA C 90 f = gA D 129 f
section PJ
variable {C D C1 D1 : CS} {N nL nR ts ln k : Nat} {cid : Nat → Nat}
theorem cidL_eq : cidL cid nL nR nL = nL + nR := if_pos rfl
theorem cidL_ne {m : Nat} (h : m ≠ nL) : cidL cid nL nR m = cid m := if_neg h
theorem vid_old {m : Nat} (hn : nL < 200) (h : vid (nL + 1) nR m) (hm : m ≠ nL) : vid nL nR m := by
  unfold vid at h ⊢; omega
theorem vid_ne {m : Nat} (hn : nL < 200) (h : vid nL nR m) : m ≠ nL := by
  unfold vid at h; omega
theorem vid_up {m : Nat} (h : vid nL nR m) : vid (nL + 1) nR m := by
  unfold vid at h ⊢; omega
theorem RR.addL (R : RR C D nL nR cid) (hn : nL < 200) (c1 : gI C1 7601 = nI (nL + nR + 1)) (c0 : gI C1 7600 = 300) (c79 : gA C1 79 = upd (gA C 79) nL (nI (nL + nR))) (c80 : gA C1 80 = upd (gA C 80) (nL + nR) (-1)) (c81 : ∀ i, i < nL + nR → gA C1 81 i = gA C 81 i) (d19 : gI D1 11319 = nI nR) (d21 : gA D1 121 = upd (gA D 121) nL 0) (d22 : gA D1 122 = upd (gA D 122) nL (nI nL)) (d23 : ∀ j, gA D1 123 (200 + j) = gA D 123 (200 + j)) : RR C1 D1 (nL + 1) nR (cidL cid nL nR) := by
  obtain ⟨r1, r2, r3, r4, r5, r6, r7, r8, r9⟩ := R
  have L2 : ∀ j, gA D 122 (200 + j) = gA D1 122 (200 + j) := fun j => by rw [d22, upd_ne (by omega)]
  have no : ∀ j, j < nR → gA D1 122 (200 + j) ≠ nI nL := fun j hj z => by
    obtain ⟨l, l1, l2, -⟩ := r9 j hj
    rw [← L2, l2] at z
    have := (nI_eq (by omega) (by omega)).mp z
    omega
  refine ⟨by omega, r2, by rw [c1, show nL + 1 + nR = nL + nR + 1 by omega], c0, d19, fun m hm => ?_, fun m q hm hq e => ?_, fun i hi => ?_, fun j hj => ?_⟩
  · by_cases c : m = nL
    · rw [c, cidL_eq]; omega
    · rw [cidL_ne c]
      have := r6 m (vid_old hn hm c)
      omega
  · by_cases c : m = nL <;> by_cases c' : q = nL
    · omega
    · rw [c, cidL_eq, cidL_ne c'] at e
      have := r6 q (vid_old hn hq c')
      omega
    · rw [c', cidL_eq, cidL_ne c] at e
      have := r6 m (vid_old hn hm c)
      omega
    · rw [cidL_ne c, cidL_ne c'] at e
      exact r7 m q (vid_old hn hm c) (vid_old hn hq c') e
  · by_cases c : i = nL
    · subst c
      rw [d22, upd_eq, cidL_eq, c80, upd_eq, c79, upd_eq, d21, upd_eq, ← d22]
      refine ⟨rfl, rfl, ?_, ?_⟩
      · rcases lastR_cs (L := gA D1 122) (l := i) nR with ⟨h, -⟩ | ⟨j, j1, j2, j3, -⟩
        · rw [h, cidL_eq]
        · exact absurd j3 (no j j1)
      · rw [cntR_skip (a := 0) nR (by omega) (fun t _ h2 => no t h2)]
        rfl
    · obtain ⟨a1, a2, a3, a4⟩ := r8 i (by omega)
      have ci := r6 i (Or.inl (by omega))
      have lv : vid nL nR (lastR (gA D 122) i nR) := lastR_vid (by omega) (Nat.le_refl _)
      rw [lastR_cg (L' := gA D1 122) (fun j _ => L2 j)] at a3 lv
      rw [cntR_cg (L' := gA D1 122) (fun j _ => L2 j)] at a4
      rw [cidL_ne c, c80, upd_ne (by omega), c79, upd_ne c, d21, upd_ne c, cidL_ne (vid_ne hn lv)]
      refine ⟨?_, a2, a3, a4⟩
      rw [d22, upd_ne c]
      exact a1
  · obtain ⟨l, l1, l2, l3, l4⟩ := r9 j hj
    have cj := r6 (200 + j) (Or.inr (by omega))
    have lv : vid nL nR (lastR (gA D 122) l j) := lastR_vid l1 (by omega)
    rw [lastR_cg (L' := gA D1 122) (fun j _ => L2 j)] at l3 lv
    refine ⟨l, by omega, by rw [← L2]; exact l2, ?_, ?_⟩
    · rw [cidL_ne (by omega), c80, upd_ne (by omega), cidL_ne (vid_ne hn lv)]
      exact l3
    · rw [cidL_ne (by omega), c81 _ (by omega), d23]
      exact l4
theorem RTt.addL (R : RTt C D nL nR cid ts) (R2 : RR C D nL nR cid) (hn : nL < 200) (hl : ln ≤ 58) (hk : k ≤ 5) (c01 : gI C1 7701 = nI (ts + ln)) (c82 : gA C1 82 = upd (gA C 82) (nL + nR) (nI ts)) (c83 : gA C1 83 = upd (gA C 83) (nL + nR) (nI ln)) (c78 : ∀ v, v < ts → gA C1 78 v = gA C 78 v) (d16 : gA D1 116 = upd (gA D 116) nL (nI k)) (d22 : gA D1 122 = upd (gA D 122) nL (nI nL)) (d24 : gA D1 124 = upd (gA D 124) nL (nI (ln + 2))) (d25 : ∀ v, (v < 60 * nL ∨ 60 * nL + (ln + 2) ≤ v) → gA D1 125 v = gA D 125 v) (e0 : gA D1 125 (60 * nL) = chOf 1 k) (e1 : gA D1 125 (60 * nL + 1) = 32) (eb : ∀ t, t < ln → ∃ b, b < 256 ∧ gA C1 78 (ts + t) = nI b ∧ gA D1 125 (60 * nL + 2 + t) = nI b) : RTt C1 D1 (nL + 1) nR (cidL cid nL nR) (ts + ln) := by
  obtain ⟨t1, t2, t3⟩ := R
  refine ⟨by omega, c01, fun m hm => ?_⟩
  by_cases c : m = nL
  · subst c
    refine ⟨ln, ts, m, k, hl, Nat.le_refl _, by rw [d24, upd_eq], by rw [cidL_eq, c83, upd_eq], by rw [cidL_eq, c82, upd_eq], eb, by rw [d22, upd_eq], by omega, hk, by rw [d16, upd_eq], e0, e1⟩
  · have vm := vid_old hn hm c
    have cm := R2.2.2.2.2.2.1 m vm
    obtain ⟨ln', fr, l, k', a1, a2, a3, a4, a5, a6, a7, a8, a9, a10, a11, a12⟩ := t3 m vm
    have o25 : ∀ i, i < 60 → gA D1 125 (60 * m + i) = gA D 125 (60 * m + i) := fun i hi => d25 _ (by omega)
    refine ⟨ln', fr, l, k', a1, by omega, by rw [d24, upd_ne c]; exact a3, by rw [cidL_ne c, c83, upd_ne (by omega)]; exact a4, by rw [cidL_ne c, c82, upd_ne (by omega)]; exact a5, fun t ht => ?_, by rw [d22, upd_ne c]; exact a7, by omega, a9, by rw [d16, upd_ne (by omega)]; exact a10, ?_, ?_⟩
    · obtain ⟨b, b1, b2, b3⟩ := a6 t ht
      refine ⟨b, b1, by rw [c78 _ (by omega)]; exact b2, ?_⟩
      rw [show 60 * m + 2 + t = 60 * m + (2 + t) by omega, o25 (2 + t) (by omega), ← show 60 * m + 2 + t = 60 * m + (2 + t) by omega]
      exact b3
    · have := o25 0 (by omega)
      exact this.trans a11
    · exact (o25 1 (by omega)).trans a12
theorem FOk.addL {f : Nat} {kk : Int32} (h : FOk C D nL nR cid f) (hn : nL < 200) (d16 : gA D1 116 = upd (gA D 116) nL kk) (d22 : gA D1 122 = upd (gA D 122) nL (nI nL)) (a : ∀ r ∈ [85, 86, 87, 88, 89, 90], gA C1 r f = gA C r f) (b : ∀ r ∈ [126, 127, 128, 129, 130], gA D1 r f = gA D r f) : FOk C1 D1 (nL + 1) nR (cidL cid nL nR) f := by
  obtain ⟨⟨m, l, h1, h2, h3, h4, h5, h6, h7⟩, h8⟩ := h
  have hm := vid_ne hn h1
  unfold FOk
  rw [a 85 (by decide), a 86 (by decide), a 87 (by decide), a 88 (by decide), a 89 (by decide), a 90 (by decide), b 126 (by decide), b 127 (by decide), b 128 (by decide), b 129 (by decide), b 130 (by decide)]
  refine ⟨⟨m, l, vid_up h1, by omega, h3, by rw [cidL_ne hm]; exact h4, by rw [d22, upd_ne hm]; exact h5, h6, by rw [d16, upd_ne (by omega)]; exact h7⟩, h8⟩
theorem FEq.addL {f : Nat} {kk : Int32} (h : FEq C D nL nL (nL + nR) f) (hk : kk ≠ 5) (d16 : gA D1 116 = upd (gA D 116) nL kk) (d22 : gA D1 122 = upd (gA D 122) nL (nI nL)) (a : ∀ r ∈ [85, 86, 87, 88, 89, 90], gA C1 r f = gA C r f) (b : ∀ r ∈ [126, 127, 128, 129, 130], gA D1 r f = gA D r f) : FOk C1 D1 (nL + 1) nR (cidL cid nL nR) f := by
  obtain ⟨h1, h2, h3, h4⟩ := h
  unfold FOk
  rw [a 85 (by decide), a 86 (by decide), a 87 (by decide), a 88 (by decide), a 89 (by decide), a 90 (by decide), b 126 (by decide), b 127 (by decide), b 128 (by decide), b 129 (by decide), b 130 (by decide)]
  exact ⟨⟨nL, nL, Or.inl (by omega), by omega, h1, by rw [cidL_eq]; exact h2, by rw [d22, upd_eq], h3, by rw [d16, upd_eq]; exact hk⟩, h4⟩
end PJ
