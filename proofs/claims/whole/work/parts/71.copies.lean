/-! texts of rests: copied on both sides -/
section PK
variable {C D : CS} {en l p0 p1 N : Nat} {x1 : Int32}
theorem c_badd77 {t b : Nat} (h : gI C 7701 = nI t) (ht : t < 17400) (hb : b < 256) : badd 77 (nI b) C = sI (sA C 78 t (nI b)) 7701 (nI (t + 1)) := by
  unfold badd
  rw [show 100 * 77 + 1 = 7701 from rfl, show 77 + 1 = 78 from rfl, h, if_pos (nI_lt (show t < mo 77 from ht) (by decide)), nI_clamp (by omega), nI_1, and255 hb]
theorem c_copyL {q : Nat} (hq : q ≤ en) : ∀ (j i t z : Nat) (C : CS), i + j = q → j < z → Tx C D en → gI C 7701 = nI t → t + j ≤ 17400 → ∃ C1, f_X8_add_L66 N x1 (nI q) z (nI i) C = some C1 ∧ Fm [7701] [78] [] C C1 ∧ gI C1 7701 = nI (t + j) ∧ (∀ u, u < j → gA C1 78 (t + u) = gA C 66 (i + u)) ∧ ∀ v, v < t → gA C1 78 v = gA C 78 v := by
  intro j
  induction j with
  | zero =>
    intro i t z C hi hz T h ht
    obtain ⟨z, rfl, -⟩ := sc hz
    have := T.1
    rw [f_X8_add_L66, if_pos (nI_le (by omega) (by omega))]
    exact ⟨C, rfl, Fm.rfl, h, fun u hu => by omega, fun v _ => rfl⟩
  | succ j ih =>
    intro i t z C hi hz T h ht
    obtain ⟨z, rfl, hz⟩ := sc hz
    have := T.1
    obtain ⟨sz, t2, t3, t4⟩ := T.2.1
    obtain ⟨b, b1, b2, b3⟩ := T.2.2 i (by omega)
    rw [f_X8_add_L66, if_neg (nI_ge (by omega) (by omega)), bd_eq, bat_in (q := 65) (s := sz) t4 (by omega) (by omega), show 65 + 1 = 66 from rfl, b2, c_badd77 h (by omega) b1, nI_1]
    have F : Fm [7701] [78] [] C (sI (sA C 78 t (nI b)) 7701 (nI (t + 1))) := (Fm.A rfl).trans (Fm.I rfl)
    obtain ⟨C1, q1, q2, q3, q4, q5⟩ := ih (i + 1) (t + 1) z _ (by omega) (by omega) (T.fm F (Fm.rfl (ei := []) (ea := []) (eb := [])) rfl rfl) rfl (by omega)
    refine ⟨C1, q1, F.trans q2, by rw [q3, show t + 1 + j = t + (j + 1) by omega], fun u hu => ?_, fun v hv => ?_⟩
    · by_cases c : u = 0
      · subst c
        refine (q5 t (by omega)).trans ?_
        show upd (gA C 78) t (nI b) t = gA C 66 i
        rw [upd_eq, b2]
      · have := q4 (u - 1) (by omega)
        rw [show t + 1 + (u - 1) = t + u by omega, show i + 1 + (u - 1) = i + u by omega] at this
        exact this
    · refine (q5 v (by omega)).trans ?_
      show upd (gA C 78) t (nI b) v = _
      exact upd_ne (by omega)
theorem d_copyL (hl : l < 300) (hp : p1 ≤ en) (he : en ≤ 3000) (h60 : p1 ≤ p0 + 60) : ∀ (j c z : Nat) (D : CS), p0 + c + j = p1 → j < z → (gI D 11346 = nI p1 ∨ (gI D 11346 = nI (p1 + 1) ∧ p1 < 3000 ∧ gA D 114 p1 = 10)) → (∀ i, p0 ≤ i → i < p1 → gA D 114 i ≠ 10) → ∃ D1, f_X12_keepLine_L12 N (nI l) z (nI c) (nI (p0 + c)) D = some (nI (p1 - p0), D1) ∧ Fm [] [125] [] D D1 ∧ (∀ u, u < j → gA D1 125 (60 * l + c + u) = gA D 114 (p0 + c + u)) ∧ ∀ v, (v < 60 * l + c ∨ 60 * l + c + j ≤ v) → gA D1 125 v = gA D 125 v := by
  intro j
  induction j with
  | zero =>
    intro c z D hc hz hD hno
    obtain ⟨z, rfl, -⟩ := sc hz
    refine ⟨D, ?_, Fm.rfl, fun u hu => by omega, fun v _ => rfl⟩
    rw [f_X12_keepLine_L12, show p1 - p0 = c by omega]
    rcases hD with h | ⟨h, h1, h2⟩
    · rw [h, if_pos (nI_le (by omega) (by omega))]
    · rw [h, if_neg (nI_ge (by omega) (by omega)), inb_nI (by omega) (by decide), if_pos rfl, nI_clamp (by omega), show p0 + c = p1 by omega, if_pos h2]
  | succ j ih =>
    intro c z D hc hz hD hno
    obtain ⟨z, rfl, hz⟩ := sc hz
    have lt : ¬ gI D 11346 ≤ nI (p0 + c) := by
      rcases hD with h | ⟨h, -, -⟩
      · rw [h]; exact nI_ge (by omega) (by omega)
      · rw [h]; exact nI_ge (by omega) (by omega)
    have ix : (60 : Int32) * nI l + nI c = nI (60 * l + c) := by rw [show (60 : Int32) = nI 60 from rfl, nI_mul, nI_add]
    rw [f_X12_keepLine_L12, if_neg lt, inb_nI (i := p0 + c) (by omega) (by decide), if_pos rfl, nI_clamp (n := p0 + c) (by omega), if_neg (hno (p0 + c) (by omega) (by omega)), if_pos rfl, ix, inb_nI (i := 60 * l + c) (by omega) (by decide), if_pos rfl, nI_clamp (n := 60 * l + c) (by omega), bd_eq, nI_1, nI_1]
    obtain ⟨D1, q1, q2, q3, q4⟩ := ih (c + 1) z (sA D 125 (60 * l + c) (gA D 114 (p0 + c))) (by omega) (by omega) hD hno
    refine ⟨D1, q1, (Fm.A rfl).trans q2, fun u hu => ?_, fun v hv => ?_⟩
    · by_cases e : u = 0
      · subst e
        refine (q4 (60 * l + c) (by omega)).trans ?_
        show upd (gA D 125) (60 * l + c) (gA D 114 (p0 + c)) (60 * l + c) = _
        exact upd_eq
      · have := q3 (u - 1) (by omega)
        rw [show 60 * l + (c + 1) + (u - 1) = 60 * l + c + u by omega, show p0 + (c + 1) + (u - 1) = p0 + c + u by omega] at this
        exact this
    · refine (q4 v (by omega)).trans ?_
      show upd (gA D 125) (60 * l + c) (gA D 114 (p0 + c)) v = _
      exact upd_ne (by omega)
end PK
