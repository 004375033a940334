/-! the loop of a sitting -/
def SitR (C0 D0 : CS) (en f nR nF0 nM0 nN0 ts0 : Nat) (si : Nat) (pv : Int32) (x : Option (Int32 × CS)) (y : Option CS) : Prop :=
  (∃ C1 D1 p n E cid nF nM nN nX ts, x = some (1, C1) ∧ y = some D1 ∧ SQ C1 D1 en p f n nR nF nM nN nX ts cid si E pv ∧ nF0 ≤ nF ∧ nM0 ≤ nM ∧ nN0 ≤ nN ∧ LC C0 C1 f (f + nR) nF0 ts0 nN0 ∧ LD D0 D1 f nF0 nN0 ∧ lC C0 C1 ∧ lD D0 D1) ∨
  ∃ C1 D1 ts, x = some (0, C1) ∧ y = some D1 ∧ PF C1 D1 ∧ ts0 ≤ ts ∧ ts ≤ 17400 ∧ gI C1 7701 = nI ts ∧ (∀ i, i < nM0 → MEq C1 D1 i) ∧ LC C0 C1 f (f + nR) nF0 ts0 nN0 ∧ LD D0 D1 f nF0 nN0 ∧ lC C0 C1 ∧ lD D0 D1
section PSL
variable {C0 D0 : CS} {en f nR nF0 nM0 nN0 ts0 si N : Nat} {pv a b cc d : Int32}
theorem sitL (hN : 20000 < N) : ∀ (j p i z z' n nF nM nN nX ts : Nat) (cid : Nat → Nat) (E : Option Nat) (C D : CS), en < p + j → i ≤ p → j + 1 < z → j + 1 < z' → SQ C D en p f n nR nF nM nN nX ts cid si E pv → nF0 ≤ nF → nM0 ≤ nM → nN0 ≤ nN → ts0 ≤ ts → LC C0 C f (f + nR) nF0 ts0 nN0 → LD D0 D f nF0 nN0 → lC C0 C → lD D0 D → SitR C0 D0 en f nR nF0 nM0 nN0 ts0 si pv (f_X10_takeSitting_L10 N (nI en) (nI si) z 1 (nI i) C) (f_X12_sitting_L89 N (nI f) a b cc d z' D) := by
  intro j
  induction j with
  | zero => intro p i z z' n nF nM nN nX ts cid E C D h1 h2 hz hz' Q; have := Q.1.2.2.2.2.2.2.2.2; omega
  | succ j ih =>
    intro p i z z' n nF nM nN nX ts cid E C D h1 h2 hz hz' Q g1 g2 g3 g4 lc ld fc fd
    obtain ⟨z, rfl, hy⟩ := sc hz
    obtain ⟨z', rfl, hy'⟩ := sc hz'
    obtain ⟨z, rfl, hw⟩ := sc (show j + 1 < z by omega)
    obtain ⟨z', rfl, hw'⟩ := sc (show j + 1 < z' by omega)
    obtain ⟨q0, q1, q2, q3, q4, q5, q6, q7, q8⟩ := id Q.1
    have he := q0.1
    have fn := Q.2.1.2.1
    rw [f_X10_takeSitting_L10, f_X12_sitting_L89, q6, if_pos rfl, q1, q2, q3, q4, if_neg (show ¬ (1 : Int32) = 0 by decide)]
    by_cases c : en ≤ p
    · rw [if_pos (nI_le c (by omega)), if_pos (nI_le c (by omega))]
      left
      refine ⟨C, D, p, n, E, cid, nF, nM, nN, nX, ts, ?_, rfl, Q, g1, g2, g3, lc, ld, fc, fd⟩
      split <;> rfl
    · rw [if_neg (nI_ge (by omega) (by omega)), if_neg (nI_ge (by omega) (by omega)), if_neg (nI_ge (by omega) (by omega)), nI_1]
      rcases lineStep (N := N) Q (by omega) hN with ⟨C1, D1, p', E', cid', nF', nM', nN', nX', ts', r1, r2, r3, r4, r5, r6, r7, r8, r9, r10, r11, r12, r13⟩ | ⟨C1, D1, r1, r2, r3, r4, r5, r6, r7, r8, r9⟩
      · have b8 : gI D1 11349 = 0 := r4.1.2.2.2.2.2.2.1
        have y : (bnd (f_X12_readLine N (nI f) D) fun q20 => if gI q20 11349 = 0 then (bnd (f_X12_keepLine N (nI p) q20) fun q23 => f_X12_sitting_L89 N (nI f) a b cc d (z' + 1) q23) else f_X12_sitting_L89 N (nI f) a b cc d (z' + 1) q20) = f_X12_sitting_L89 N (nI f) a b cc d (z' + 1) D1 := by
          sorry
        sorry
      · sorry
end PSL
