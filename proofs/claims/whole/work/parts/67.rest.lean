/-! reading: a rest -/
section PA
variable {C D C1 D1 : CS} {nF0 nM0 nF nM nL nR l m rid en p lim mo N nN nX : Nat} {cid : Nat → Nat} {rf : Int32}
theorem c_ends (P : PP C D en p lim mo) : f_X10_lineEnds C = some (if sgn D en p = -1 ∨ sgn D en p = 10 then 1 else 0) := by
  have hl := P.lt
  unfold f_X10_lineEnds
  rw [P.2.1, P.2.2.2.1, c_sign P, bnd_some]
  by_cases c : p < en
  · rw [if_neg (nI_ge c (by omega))]
    rcases P.byte with hb | ⟨b, b1, b2, b3⟩
    · exfalso
      unfold sgn at hb
      rw [if_pos c] at hb
      obtain ⟨b, b1, b2, b3⟩ := P.1.2.2 p c
      rw [b3] at hb
      exact nI_m1 (by omega) hb
    · rw [b2]
      by_cases c1 : nI b = 10
      · rw [if_pos c1, if_pos (Or.inr c1)]
      · rw [if_neg c1, if_neg (by rintro (z | z); exact nI_m1 (by omega) z; exact c1 z)]
  · have e : sgn D en p = -1 := by unfold sgn; rw [if_neg c]
    rw [if_pos (nI_le (by omega) (by omega)), e, if_pos (Or.inl rfl)]
theorem c_plain {x : Int32} : f_X10_isPlain x C = some (if x < 32 ∨ 126 < x ∨ x = 62 ∨ x = 125 then 0 else 1) := by
  unfold f_X10_isPlain
  by_cases c1 : x < 32 <;> by_cases c2 : 126 < x <;> by_cases c3 : x = 62 <;> by_cases c4 : x = 125 <;> simp [c1, c2, c3, c4]
/-- the rest's loop: both come to the line's end, or find a fault -/
def Rest (C D : CS) (nF0 nM0 nL nR : Nat) (cid : Nat → Nat) (l m rid en p lim mo : Nat) (x : Option (Int32 × CS)) (y : Option CS) : Prop :=
  (∃ C1 D1 p1 nF nM, x = some (1, C1) ∧ y = some D1 ∧ PP C1 D1 en p1 lim mo ∧ p ≤ p1 ∧ (sgn D1 en p1 = -1 ∨ sgn D1 en p1 = 10) ∧ DQ C1 D1 nF0 nM0 nF nM nL nR cid l m rid ∧ rC C C1 ∧ rD D D1 ∧ ∀ i, p ≤ i → i < p1 → sgn D en i ≠ 10 ∧ sgn D en i ≠ -1) ∨
  ∃ C1 D1, x = some (0, C1) ∧ y = some D1 ∧ PF C1 D1 ∧ DB C1 D1 nF0 nM0 nL nR cid ∧ rC C C1 ∧ rD D D1
theorem restL (hrf : rf = nI lim - 60) (hN : 20000 < N) {x2 : Int32} {p0 : Nat} (hp0 : lim ≤ p0 + 60) : ∀ (j i p z z' nF nM : Nat) (C D : CS), lim < p + j → p0 + i ≤ p → j < z → j + 1 < z' → PP C D en p lim mo → DQ C D nF0 nM0 nF nM nL nR cid l m rid → RN C D nN nX → Rest C D nF0 nM0 nL nR cid l m rid en p lim mo (f_X10_takeRest_L10 N (nI l) x2 z 1 (nI i) C) (f_X12_readRest_L26 N (nI mo) rf z' D) := by
  intro j
  induction j with
  | zero => intro i p z z' nF nM C D h1 h2 hz hz' P Q K; have := P.2.2.2.2.2.2.2.2.2.2.1; omega
  | succ j ih =>
    intro i p z z' nF nM C D h1 h2 hz hz' P Q K
    obtain ⟨z, rfl, hz⟩ := sc hz
    obtain ⟨z', rfl, hz'⟩ := sc hz'
    have hle := P.2.2.2.2.2.2.2.2.2.2.1
    have hl := P.lt
    have h8 := P.2.2.2.2.2.2.2.2.1
    have e7 : gI C 11007 = nI p := P.2.2.2.1
    have e46 : gI D 11346 = nI p := P.2.2.2.2.1
    have n60 : ¬ (60 : Int32) < nI i := nI_nlt (b := i) (a := 60) (by omega) (by decide)
    rw [f_X10_takeRest_L10, f_X12_readRest_L26, if_neg n60, if_neg (show ¬ (1 : Int32) = 0 by decide), h8, if_pos rfl, P.now, bnd_some, bnd_some, bnd_some, c_ends P, bnd_some, c_sign P, bnd_some]
    by_cases ce : sgn D en p = -1 ∨ sgn D en p = 10
    · rw [if_pos ce, if_neg (show ¬ (1 : Int32) = 0 by decide)]
      left
      refine ⟨C, D, p, nF, nM, rfl, ?_, P, Nat.le_refl _, ce, Q, Fm.rfl, Fm.rfl, fun i h1 h2 => by omega⟩
      rcases ce with c | c
      · rw [if_pos c]
      · rw [if_neg (by rw [c]; decide), if_pos c]
    · rw [if_neg ce, if_pos rfl, if_neg (fun z => ce (Or.inl z)), if_neg (fun z => ce (Or.inr z))]
      have nx10 : sgn D en p ≠ 10 := fun z => ce (Or.inr z)
      have nxm : sgn D en p ≠ -1 := fun z => ce (Or.inl z)
      -- a fault at this byte
      have fault : Rest C D nF0 nM0 nL nR cid l m rid en p lim mo (bnd (f_X10_refuse 1 (gI C 11007) C) fun q13 => f_X10_takeRest_L10 N (nI l) x2 z q13.1 (nI i + 1) q13.2) (bnd (f_X12_wrong 1 (gI D 11346) D) fun q16 => f_X12_readRest_L26 N (nI mo) rf z' q16) := by
        rw [c_ref, d_wr h8, bnd_some, bnd_some, e7, e46, nI_1]
        obtain ⟨z, rfl, -⟩ := sc (show 0 < z + 1 by omega)
        right
        sorry
      sorry
end PA
