/-! a line: takeLine against readLine and keepLine -/
theorem sI_sI {C : CS} {k : Nat} {a b : Int32} : sI (sI C k a) k b = sI C k b := by
  unfold sI
  simp only [Prod.mk.injEq, and_true]
  funext j
  by_cases e : j = k
  · rw [if_pos e, if_pos e]
  · rw [if_neg e, if_neg e, if_neg e]
/-- a line was read by both, or both found the same fault -/
def LineR (C D : CS) (en p f n nR nF nM nN ts : Nat) (si : Nat) (pv : Int32) (x : Option (Int32 × CS)) (y : Option CS) : Prop :=
  (∃ C1 D1 p' E' cid' nF' nM' nN' nX' ts', x = some (1, C1) ∧ y = some D1 ∧ p < p' ∧ SQ C1 D1 en p' f (n + 1) nR nF' nM' nN' nX' ts' cid' si E' pv ∧ nF ≤ nF' ∧ nM ≤ nM' ∧ nN ≤ nN' ∧ ts ≤ ts' ∧ LC C C1 f (n + nR) nF ts nN ∧ LD D D1 f nF nN ∧ lC C C1 ∧ lD D D1 ∧ n < 200) ∨
  ∃ C1 D1, x = some (0, C1) ∧ y = some D1 ∧ PF C1 D1 ∧ gI C1 7701 = nI ts ∧ (∀ i, i < nM → MEq C1 D1 i) ∧ LC C C1 f (n + nR) nF ts nN ∧ LD D D1 f nF nN ∧ lC C C1 ∧ lD D D1
section PLS
variable {C D C3 D3 : CS} {en p f n nR nF nM nN nX ts si k b N : Nat} {cid : Nat → Nat} {E : Option Nat} {pv : Int32}
/-- the pages of a new line -/
theorem SL.page {s : Int32} (S : SL C D f n s E pv) : (n = 0 → pv + nI ((n - f) / 10) = 1 ∧ nI (1 + (n - f) % 10) = 1) ∧ (0 < n → gA C 71 (n - 1) = s → gA C 73 (n - 1) ≠ 10 → pv + nI ((n - f) / 10) = gA C 72 (n - 1) ∧ nI (1 + (n - f) % 10) = gA C 73 (n - 1) + 1) ∧ (0 < n → (gA C 71 (n - 1) ≠ s ∨ gA C 73 (n - 1) = 10) → pv + nI ((n - f) / 10) = gA C 72 (n - 1) + 1 ∧ nI (1 + (n - f) % 10) = 1) := by
  obtain ⟨s1, s2, s3, s4, s5, sa, sb, sc', sd, se, sf, sg, sh, s0, sp⟩ := S
  have z0 : ∀ x : Int32, x + nI 0 = x := fun x => Int32.add_zero x
  refine ⟨fun h => ?_, fun h1 h2 h3 => ?_, fun h1 h2 => ?_⟩
  · have : f = 0 := by omega
    subst this
    subst h
    rw [s0 rfl]
    exact ⟨by decide, by decide⟩
  · have a := sa (n - 1) (by omega)
    have fn : f ≤ n - 1 := by
      by_cases c : n - 1 < f
      · exact absurd (a.2.1.symm.trans h2) (se (n - 1) c)
      · omega
    obtain ⟨q1, q2⟩ := sh (n - 1) fn (by omega)
    rw [q2] at h3
    have m9 : (n - 1 - f) % 10 ≠ 9 := fun z => h3 (by rw [z]; rfl)
    rw [q1, q2, nI_1, show (n - f) / 10 = (n - 1 - f) / 10 by omega, show 1 + (n - f) % 10 = 1 + (n - 1 - f) % 10 + 1 by omega]
    exact ⟨rfl, rfl⟩
  · have a := sa (n - 1) (by omega)
    by_cases c : n - 1 < f
    · have fn : f = n := by omega
      subst fn
      rw [(sg (f - 1) c).1, ← sp h1, Nat.sub_self]
      exact ⟨z0 _, rfl⟩
    · obtain ⟨q1, q2⟩ := sh (n - 1) (by omega) (by omega)
      have h10 : gA C 73 (n - 1) = 10 := by
        rcases h2 with q | q
        · exact absurd (a.2.1.trans (sd (n - 1) (by omega) (by omega))) q
        · exact q
      rw [q2] at h10
      have m9 : 1 + (n - 1 - f) % 10 = 10 := (nI_eq (b := 10) (by omega) (by decide)).mp h10
      rw [q1, show (n - f) / 10 = (n - 1 - f) / 10 + 1 by omega, show (n - f) % 10 = 0 by omega, ← nI_1, Int32.add_assoc]
      exact ⟨rfl, rfl⟩
end PLS
