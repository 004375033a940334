/-! the loop of a sitting -/
def SitR (C0 D0 : CS) (en f nR nF0 nM0 nN0 ts0 : Nat) (si : Nat) (pv : Int32) (x : Option (Int32 × CS)) (y : Option CS) : Prop :=
  (∃ C1 D1 p n E cid nF nM nN nX ts, x = some (1, C1) ∧ y = some D1 ∧ SQ C1 D1 en p f n nR nF nM nN nX ts cid si E pv ∧ nF0 ≤ nF ∧ nM0 ≤ nM ∧ nN0 ≤ nN ∧ LC C0 C1 f (f + nR) nF0 ts0 nN0 ∧ LD D0 D1 f nF0 nN0 ∧ lC C0 C1 ∧ lD D0 D1) ∨
  ∃ C1 D1 ts, x = some (0, C1) ∧ y = some D1 ∧ PF C1 D1 ∧ ts0 ≤ ts ∧ ts ≤ 17400 ∧ gI C1 7701 = nI ts ∧ (∀ i, i < nM0 → MEq C1 D1 i) ∧ LC C0 C1 f (f + nR) nF0 ts0 nN0 ∧ LD D0 D1 f nF0 nN0 ∧ lC C0 C1 ∧ lD D0 D1
theorem bnd_split {x : Option CS} {u g : CS → Option CS} {D1 : CS} (h : bnd x (fun q => if gI q 11349 = 0 then u q else some q) = some D1) : bnd x (fun q => if gI q 11349 = 0 then bnd (u q) g else g q) = g D1 := by
  cases x with
  | none => cases h
  | some q =>
    rw [bnd_some] at h ⊢
    by_cases c : gI q 11349 = 0
    · rw [if_pos c] at h ⊢
      rw [h, bnd_some]
    · rw [if_neg c] at h ⊢
      injection h with h
      rw [h]
section PSL
variable {C0 D0 : CS} {en f nR nF0 nM0 nN0 ts0 si N : Nat} {pv a b cc d : Int32}
theorem sitL (hN : 20000 < N) : ∀ (j p i z z' n nF nM nN nX ts : Nat) (cid : Nat → Nat) (E : Option Nat) (C D : CS), en < p + j → i ≤ p → j + 1 < z → j + 1 < z' → SQ C D en p f n nR nF nM nN nX ts cid si E pv → nF0 ≤ nF → nM0 ≤ nM → nN0 ≤ nN → ts0 ≤ ts → LC C0 C f (f + nR) nF0 ts0 nN0 → LD D0 D f nF0 nN0 → lC C0 C → lD D0 D → SitR C0 D0 en f nR nF0 nM0 nN0 ts0 si pv (f_X10_takeSitting_L10 N (nI en) (nI si) z 1 (nI i) C) (f_X12_sitting_L89 N (nI f) a b cc d z' D) := by
  intro j
  induction j with
  | zero => intro p i z z' n nF nM nN nX ts cid E C D h1 h2 hz hz' Q; have := Q.1.2.2.2.2.2.2.2.2; omega
  | succ j ih =>
    intro p i z z' n nF nM nN nX ts cid E C D h1 h2 hz hz' Q g1 g2 g3 g4 lc ld fc fd
    obtain ⟨z, rfl, hy⟩ := sc hz
    obtain ⟨z', rfl, hy'⟩ := sc hz'
    obtain ⟨z, rfl, hw⟩ := sc (show j + 1 < z by omega)
    obtain ⟨z', rfl, hw'⟩ := sc (show j + 1 < z' by omega)
    obtain ⟨q0, q1, q2, q3, q4, q5, q6, q7, q8⟩ := id Q.1
    have he := q0.1
    have fn := Q.2.1.2.1
    rw [f_X10_takeSitting_L10, f_X12_sitting_L89, q6, if_pos rfl, q1, q2, q3, q4, if_neg (show ¬ (1 : Int32) = 0 by decide)]
    by_cases c : en ≤ p
    · rw [if_pos (nI_le c (by omega)), if_pos (nI_le c (by omega))]
      left
      refine ⟨C, D, p, n, E, cid, nF, nM, nN, nX, ts, ?_, rfl, Q, g1, g2, g3, lc, ld, fc, fd⟩
      split <;> rfl
    · rw [if_neg (nI_ge (by omega) (by omega)), if_neg (nI_ge (by omega) (by omega)), if_neg (nI_ge (by omega) (by omega)), nI_1]
      rcases lineStep (N := N) Q (by omega) hN with ⟨C1, D1, p', E', cid', nF', nM', nN', nX', ts', r1, r2, r3, r4, r5, r6, r7, r8, r9, r10, r11, r12, r13⟩ | ⟨C1, D1, r1, r2, r3, r4, r5, r6, r7, r8, r9⟩
      · have y := bnd_split (g := fun q => f_X12_sitting_L89 N (nI f) a b cc d (z' + 1) q) r2
        rw [r1, bnd_some]
        have W := ih p' (i + 1) (z + 1) (z' + 1) (n + 1) nF' nM' nN' nX' ts' cid' E' C1 D1 (by omega) (by omega) (by omega) (by omega) r4 (by omega) (by omega) (by omega) (by omega) (lc.trans (r9.le (Nat.le_refl _) (by omega) g1 g4 g3)) (ld.trans (r10.le (Nat.le_refl _) g1 g3)) (fc.trans r11) (fd.trans r12)
        rw [← y] at W
        exact W
      · have y := bnd_split (g := fun q => f_X12_sitting_L89 N (nI f) a b cc d (z' + 1) q) r2
        have e1 : f_X10_takeSitting_L10 N (nI en) (nI si) (z + 1) 0 (nI (i + 1)) C1 = some (0, C1) := by
          rw [f_X10_takeSitting_L10]
          split
          · rfl
          · rw [if_pos rfl]
        have e2 : f_X12_sitting_L89 N (nI f) a b cc d (z' + 1) D1 = some D1 := by
          rw [f_X12_sitting_L89, if_neg r3.bad]
        have tb := Q.2.2.2.1.1
        have n2 := Q.2.1.1
        have r2' := Q.2.2.1.2.1
        have W : SitR C0 D0 en f nR nF0 nM0 nN0 ts0 si pv (some (0, C1)) (some D1) := Or.inr ⟨C1, D1, ts, rfl, rfl, r3, g4, by omega, r4, fun i hi => r5 i (by omega), lc.trans (r6.le (Nat.le_refl _) (by omega) g1 g4 g3), ld.trans (r7.le (Nat.le_refl _) g1 g3), fc.trans r8, fd.trans r9⟩
        rw [r1, bnd_some, e1]
        rw [← e2, ← y] at W
        exact W
end PSL
