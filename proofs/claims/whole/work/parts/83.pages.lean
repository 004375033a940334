/-! the model's pages, at the end of a sitting -/
theorem div10 : ∀ a, a < 201 → (nI a) / 10 = nI (a / 10) ∧ 1 + (nI a - nI a / 10 * 10) = nI (1 + a % 10) := by decide +kernel
section PPG
variable {D : CS} {f n N : Nat} {pv : Int32}
theorem d_pages (hn : n ≤ 200) : ∀ (j i z : Nat) (D : CS), i + j = n → f ≤ i → j < z → gI D 11308 = nI n → ∃ D1, f_X12_sitting_L207 N (nI f) pv z (nI i) D = some D1 ∧ Fm [] [119, 120] [] D D1 ∧ (∀ q, i ≤ q → q < n → gA D1 119 q = pv + nI ((q - f) / 10) ∧ gA D1 120 q = nI (1 + (q - f) % 10)) ∧ ∀ q, q < i → gA D1 119 q = gA D 119 q ∧ gA D1 120 q = gA D 120 q := by
  intro j
  induction j with
  | zero =>
    intro i z D hi hf hz h
    obtain ⟨z, rfl, -⟩ := sc hz
    rw [f_X12_sitting_L207, h, if_pos (nI_le (by omega) (by omega))]
    exact ⟨D, rfl, Fm.rfl, fun q h1 h2 => by omega, fun q _ => ⟨rfl, rfl⟩⟩
  | succ j ih =>
    intro i z D hi hf hz h
    obtain ⟨z, rfl, hz⟩ := sc hz
    obtain ⟨e1, e2⟩ := div10 (i - f) (by omega)
    rw [f_X12_sitting_L207, h, if_neg (nI_ge (by omega) (by omega)), inb_nI (by omega) (by decide), if_pos rfl, nI_clamp (by omega), pk_sub hf, bd_eq, if_pos rfl, bd_eq, nI_1, e2, e1]
    obtain ⟨D1, q1, q2, q3, q4⟩ := ih (i + 1) z (sA (sA D 119 i (pv + nI ((i - f) / 10))) 120 i (nI (1 + (i - f) % 10))) (by omega) (by omega) (by omega) h
    refine ⟨D1, q1, ((Fm.A rfl).trans (Fm.A rfl)).trans q2, fun q h1 h2 => ?_, fun q hq => ?_⟩
    · by_cases c : q = i
      · subst c
        obtain ⟨a, b⟩ := q4 q (by omega)
        refine ⟨a.trans ?_, b.trans ?_⟩
        · show upd (gA D 119) q _ q = _; exact upd_eq
        · show upd (gA D 120) q _ q = _; exact upd_eq
      · exact q3 q (by omega) h2
    · obtain ⟨a, b⟩ := q4 q (by omega)
      refine ⟨a.trans ?_, b.trans ?_⟩
      · show upd (gA D 119) i _ q = _; exact upd_ne (by omega)
      · show upd (gA D 120) i _ q = _; exact upd_ne (by omega)
end PPG
