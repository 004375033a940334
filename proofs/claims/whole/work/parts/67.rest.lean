/-! reading: a rest -/
section PA
variable {C D C1 D1 : CS} {nF0 nM0 nF nM nL nR l m rid en p lim mo N nN nX : Nat} {cid : Nat → Nat} {rf : Int32}
theorem c_ends (P : PP C D en p lim mo) : f_X10_lineEnds C = some (if sgn D en p = -1 ∨ sgn D en p = 10 then 1 else 0) := by
  have hl := P.lt
  unfold f_X10_lineEnds
  rw [P.2.1, P.2.2.2.1, c_sign P, bnd_some]
  by_cases c : p < en
  · rw [if_neg (nI_ge c (by omega))]
    rcases P.byte with hb | ⟨b, b1, b2, b3⟩
    · exfalso
      unfold sgn at hb
      rw [if_pos c] at hb
      obtain ⟨b, b1, b2, b3⟩ := P.1.2.2 p c
      rw [b3] at hb
      exact nI_m1 (by omega) hb
    · rw [b2]
      by_cases c1 : nI b = 10
      · rw [if_pos c1, if_pos (Or.inr c1)]
      · rw [if_neg c1, if_neg (by rintro (z | z); exact nI_m1 (by omega) z; exact c1 z)]
  · have e : sgn D en p = -1 := by unfold sgn; rw [if_neg c]
    rw [if_pos (nI_le (by omega) (by omega)), e, if_pos (Or.inl rfl)]
theorem c_plain {x : Int32} : f_X10_isPlain x C = some (if x < 32 ∨ 126 < x ∨ x = 62 ∨ x = 125 then 0 else 1) := by
  unfold f_X10_isPlain
  by_cases c1 : x < 32 <;> by_cases c2 : 126 < x <;> by_cases c3 : x = 62 <;> by_cases c4 : x = 125 <;> simp [c1, c2, c3, c4]
/-- the rest's loop: both come to the line's end, or find a fault -/
def Rest (C D : CS) (nF0 nM0 nL nR : Nat) (cid : Nat → Nat) (l m rid en p lim mo : Nat) (x : Option (Int32 × CS)) (y : Option CS) : Prop :=
  (∃ C1 D1 p1 nF nM, x = some (1, C1) ∧ y = some D1 ∧ PP C1 D1 en p1 lim mo ∧ p ≤ p1 ∧ (sgn D1 en p1 = -1 ∨ sgn D1 en p1 = 10) ∧ DQ C1 D1 nF0 nM0 nF nM nL nR cid l m rid ∧ rC C C1 ∧ rD D D1 ∧ ∀ i, p ≤ i → i < p1 → sgn D en i ≠ 10 ∧ sgn D en i ≠ -1) ∨
  ∃ C1 D1, x = some (0, C1) ∧ y = some D1 ∧ PF C1 D1 ∧ DB C1 D1 nF0 nM0 nL nR cid ∧ rC C C1 ∧ rD D D1
theorem sgn_r (k : rD D D1) (i : Nat) : sgn D1 en i = sgn D en i := sgn_cg ((k.ag (li := []) (la := [114]) (lb := []) rfl).2.1 114 (by decide))
theorem rdWent_go {X : Option (Int32 × CS)} {Y : Option CS} (h : Went C D nF0 nM0 nL nR cid l m rid en p lim mo X Y) (hs : ∀ i, p < i → i < en → True) : True := trivial
end PA
