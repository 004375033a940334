/-! reading: a rest -/
section PA
variable {C D C1 D1 : CS} {nF0 nM0 nF nM nL nR l m rid en p lim mo N nN nX : Nat} {Cb Db : CS} {rf : Int32}
theorem c_ends (P : PP C D en p lim mo) : f_X10_lineEnds C = some (if sgn D en p = -1 ∨ sgn D en p = 10 then 1 else 0) := by
  have hl := P.lt
  unfold f_X10_lineEnds
  rw [P.2.1, P.2.2.2.1, c_sign P, bnd_some]
  by_cases c : p < en
  · rw [if_neg (nI_ge c (by omega))]
    rcases P.byte with hb | ⟨b, b1, b2, b3⟩
    · exfalso
      unfold sgn at hb
      rw [if_pos c] at hb
      obtain ⟨b, b1, b2, b3⟩ := P.1.2.2 p c
      rw [b3] at hb
      exact nI_m1 (by omega) hb
    · rw [b2]
      by_cases c1 : nI b = 10
      · rw [if_pos c1, if_pos (Or.inr c1)]
      · rw [if_neg c1, if_neg (by rintro (z | z); exact nI_m1 (by omega) z; exact c1 z)]
  · have e : sgn D en p = -1 := by unfold sgn; rw [if_neg c]
    rw [if_pos (nI_le (by omega) (by omega)), e, if_pos (Or.inl rfl)]
theorem c_plain {x : Int32} : f_X10_isPlain x C = some (if x < 32 ∨ 126 < x ∨ x = 62 ∨ x = 125 then 0 else 1) := by
  unfold f_X10_isPlain
  by_cases c1 : x < 32 <;> by_cases c2 : 126 < x <;> by_cases c3 : x = 62 <;> by_cases c4 : x = 125 <;> simp [c1, c2, c3, c4]
/-- the rest's loop: both come to the line's end, or find a fault -/
def Rest (C D : CS) (nF0 nM0 : Nat) (Cb Db : CS) (l m rid en p lim mo : Nat) (x : Option (Int32 × CS)) (y : Option CS) : Prop :=
  (∃ C1 D1 p1 nF nM, x = some (1, C1) ∧ y = some D1 ∧ PP C1 D1 en p1 lim mo ∧ p ≤ p1 ∧ (sgn D1 en p1 = -1 ∨ sgn D1 en p1 = 10) ∧ DQ C1 D1 nF0 nM0 nF nM Cb Db l m rid ∧ rC C C1 ∧ rD D D1 ∧ (∀ i, p ≤ i → i < p1 → sgn D en i ≠ 10) ∧ p1 ≤ en) ∨
  ∃ C1 D1, x = some (0, C1) ∧ y = some D1 ∧ PF C1 D1 ∧ DB C1 D1 nF0 nM0 Cb Db ∧ rC C C1 ∧ rD D D1
theorem c_restB {z : Nat} {a b i : Int32} : f_X10_takeRest_L10 N a b (z + 1) 0 i C = some (0, C) := by
  rw [f_X10_takeRest_L10]
  split
  · rfl
  · rw [if_pos rfl]
theorem d_restB {z : Nat} {a : Int32} (h : gI D 11349 ≠ 0) : f_X12_readRest_L26 N a rf (z + 1) D = some D := by
  rw [f_X12_readRest_L26, if_neg h]
theorem went_rest {z z' i : Nat} {x2 : Int32} {x : Option (Int32 × CS)} {y : Option CS} (W : Went C D nF0 nM0 Cb Db l m rid en p lim mo x y) (K : RN C D nN nX) (ih : ∀ (p1 nF nM : Nat) (C1 D1 : CS), p < p1 → p1 ≤ en → PP C1 D1 en p1 lim mo → DQ C1 D1 nF0 nM0 nF nM Cb Db l m rid → RN C1 D1 nN nX → Rest C1 D1 nF0 nM0 Cb Db l m rid en p1 lim mo (f_X10_takeRest_L10 N (nI l) x2 (z + 1) 1 (nI (i + 1)) C1) (f_X12_readRest_L26 N (nI mo) rf (z' + 1) D1)) : Rest C D nF0 nM0 Cb Db l m rid en p lim mo (bnd x fun q => f_X10_takeRest_L10 N (nI l) x2 (z + 1) q.1 (nI i + 1) q.2) (bnd y fun q => f_X12_readRest_L26 N (nI mo) rf (z' + 1) q) := by
  rw [nI_1]
  rcases W with ⟨C1, D1, p1, nF, nM, a1, a2, a3, a4, a5, a6, a7, a8, a9⟩ | ⟨C1, D1, a1, a2, a3, a4, a5, a6⟩
  · rw [a1, a2, bnd_some, bnd_some]
    have sg : ∀ i, sgn D1 en i = sgn D en i := sgn_r (en := en) a7
    rcases ih p1 nF nM C1 D1 a4 a9 a3 a5 (K.fm a6 a7 rfl rfl) with ⟨C2, D2, p2, nF2, nM2, b1, b2, b3, b4, b5, b6, b7, b8, b9, b10⟩ | ⟨C2, D2, b1, b2, b3, b4, b5, b6⟩
    · left
      refine ⟨C2, D2, p2, nF2, nM2, b1, b2, b3, by omega, b5, b6, a6.trans b7, a7.trans b8, fun q h1 h2 => ?_, b10⟩
      by_cases c : q < p1
      · exact a8 q h1 c
      · rw [← sg]
        exact b9 q (by omega) h2
    · right
      exact ⟨C2, D2, b1, b2, b3, b4, a6.trans b5, a7.trans b6⟩
  · rw [a1, a2, bnd_some, bnd_some, c_restB, d_restB a3.bad]
    right
    exact ⟨C1, D1, rfl, rfl, a3, a4, a5, a6⟩
theorem restL (hrf : rf = nI lim - 60) (hN : 20000 < N) {x2 : Int32} {p0 : Nat} (hp0 : lim ≤ p0 + 60) : ∀ (j i p z z' nF nM : Nat) (C D : CS), lim < p + j → p0 + i ≤ p → p ≤ en → j + 1 < z → j + 1 < z' → PP C D en p lim mo → DQ C D nF0 nM0 nF nM Cb Db l m rid → RN C D nN nX → Rest C D nF0 nM0 Cb Db l m rid en p lim mo (f_X10_takeRest_L10 N (nI l) x2 z 1 (nI i) C) (f_X12_readRest_L26 N (nI mo) rf z' D) := by
  intro j
  induction j with
  | zero => intro i p z z' nF nM C D h1 h2 hpe hz hz' P Q K; have := P.2.2.2.2.2.2.2.2.2.2.1; omega
  | succ j ih =>
    intro i p z z' nF nM C D h1 h2 hpe hz hz' P Q K
    obtain ⟨z, rfl, hy⟩ := sc hz
    obtain ⟨z', rfl, hy'⟩ := sc hz'
    obtain ⟨z, rfl, hw⟩ := sc (show j + 1 < z by omega)
    obtain ⟨z', rfl, hw'⟩ := sc (show j + 1 < z' by omega)
    have hle := P.2.2.2.2.2.2.2.2.2.2.1
    have hl := P.lt
    have h8 := P.2.2.2.2.2.2.2.2.1
    have e7 : gI C 11007 = nI p := P.2.2.2.1
    have e46 : gI D 11346 = nI p := P.2.2.2.2.1
    have n60 : ¬ (60 : Int32) < nI i := nI_nlt (b := i) (a := 60) (by omega) (by decide)
    rw [f_X10_takeRest_L10, f_X12_readRest_L26, if_neg n60, if_neg (show ¬ (1 : Int32) = 0 by decide), h8, if_pos rfl, P.now, bnd_some, bnd_some, bnd_some, c_ends P, bnd_some, c_sign P, bnd_some]
    by_cases ce : sgn D en p = -1 ∨ sgn D en p = 10
    · rw [if_pos ce, if_neg (show ¬ (1 : Int32) = 0 by decide)]
      left
      refine ⟨C, D, p, nF, nM, rfl, ?_, P, Nat.le_refl _, ce, Q, Fm.rfl, Fm.rfl, fun i h1 h2 => by omega, hpe⟩
      rcases ce with c | c
      · rw [if_pos c]
      · rw [if_neg (by rw [c]; decide), if_pos c]
    · rw [if_neg ce, if_pos rfl, if_neg (fun z => ce (Or.inl z)), if_neg (fun z => ce (Or.inr z))]
      have nx10 : sgn D en p ≠ 10 := fun z => ce (Or.inr z)
      have nxm : sgn D en p ≠ -1 := fun z => ce (Or.inl z)
      have ihh : ∀ (p1 nF nM : Nat) (C1 D1 : CS), p < p1 → p1 ≤ en → PP C1 D1 en p1 lim mo → DQ C1 D1 nF0 nM0 nF nM Cb Db l m rid → RN C1 D1 nN nX → Rest C1 D1 nF0 nM0 Cb Db l m rid en p1 lim mo (f_X10_takeRest_L10 N (nI l) x2 (z + 1) 1 (nI (i + 1)) C1) (f_X12_readRest_L26 N (nI mo) rf (z' + 1) D1) := fun p1 nF nM C1 D1 k1 k2 k3 k4 k5 => ih (i + 1) p1 (z + 1) (z' + 1) nF nM C1 D1 (by omega) (by omega) k2 (by omega) (by omega) k3 k4 k5
      -- a fault at this byte
      have fault : Rest C D nF0 nM0 Cb Db l m rid en p lim mo (bnd (f_X10_refuse 1 (gI C 11007) C) fun q13 => f_X10_takeRest_L10 N (nI l) x2 (z + 1) q13.1 (nI i + 1) q13.2) (bnd (f_X12_wrong 1 (gI D 11346) D) fun q16 => f_X12_readRest_L26 N (nI mo) rf (z' + 1) q16) := by
        have b : gI (sI (sI D 11349 1) 11350 (nI p)) 11349 ≠ 0 := show (1 : Int32) ≠ 0 by decide
        rw [c_ref, d_wr h8, bnd_some, bnd_some, e7, e46, c_restB, d_restB b]
        right
        exact ⟨_, _, rfl, rfl, pf_mk (k := 1) (q := nI p) (by decide), Q.db.pp pc_ref pd_wr, Fm.pr pc_ref, Fm.prD pd_wr⟩
      rw [c_plain]
      by_cases c123 : sgn D en p = 123
      · rw [if_pos c123, if_neg (by rw [c123]; decide), if_neg (by rw [c123]; decide), if_neg (by rw [c123]; decide), if_neg (by rw [c123]; decide), if_neg (by rw [c123]; decide), if_pos c123]
        exact went_rest (rdFact P Q hrf nx10 hN) K ihh
      rw [if_neg c123]
      by_cases c60 : sgn D en p = 60
      · rw [if_pos c60, if_neg (by rw [c60]; decide), if_neg (by rw [c60]; decide), if_neg (by rw [c60]; decide), if_neg (by rw [c60]; decide), if_pos c60]
        exact went_rest (rdMention P Q K nx10 hN) K ihh
      rw [if_neg c60, bnd_some]
      by_cases a1 : sgn D en p < 32
      · rw [if_pos a1, if_pos (Or.inl a1), if_pos rfl]
        exact fault
      by_cases a2 : 126 < sgn D en p
      · rw [if_neg a1, if_pos a2, if_pos (Or.inr (Or.inl a2)), if_pos rfl]
        exact fault
      by_cases a3 : sgn D en p = 62
      · rw [if_neg a1, if_neg a2, if_pos a3, if_pos (Or.inr (Or.inr (Or.inl a3))), if_pos rfl]
        exact fault
      by_cases a4 : sgn D en p = 125
      · rw [if_neg a1, if_neg a2, if_neg a3, if_pos a4, if_pos (Or.inr (Or.inr (Or.inr a4))), if_pos rfl]
        exact fault
      have np : ¬ (sgn D en p < 32 ∨ 126 < sgn D en p ∨ sgn D en p = 62 ∨ sgn D en p = 125) := by rintro (q | q | q | q); exact a1 q; exact a2 q; exact a3 q; exact a4 q
      rw [if_neg np, if_neg (show ¬ (1 : Int32) = 0 by decide), if_neg a1, if_neg a2, if_neg a3, if_neg a4, if_neg c60, if_neg c123]
      refine went_rest (p := p) ?_ K ihh
      by_cases h : p < lim
      · obtain ⟨s1, s2, s3⟩ := P.stepY h
        left
        exact ⟨_, _, p + 1, nF, nM, s1, s2, s3, by omega, Q.pp (Fm.I rfl) (Fm.I rfl), Fm.I rfl, Fm.I rfl, fun q h1 h2 => by rw [show q = p by omega]; exact nx10, sgn_in rfl nxm⟩
      · obtain ⟨s1, s2⟩ := P.stepN h
        right
        exact ⟨_, _, s1, s2, pf_mk (k := 2) (q := nI p) (by decide), Q.db.pp pc_ref pd_wr, Fm.pr pc_ref, Fm.prD pd_wr⟩
/-- a rest: takeRest against readRest -/
theorem rdRest (hrf : rf = nI lim - 60) (hN : 20000 < N) (hp0 : lim ≤ p + 60) (hpe : p ≤ en) (P : PP C D en p lim mo) (Q : DQ C D nF0 nM0 nF nM Cb Db l m rid) (K : RN C D nN nX) : Rest C D nF0 nM0 Cb Db l m rid en p lim mo (f_X10_takeRest N (nI l) C) (f_X12_readRest N (nI mo) rf D) := by
  have hl := P.lt
  have h8 := P.2.2.2.2.2.2.2.2.1
  have e7 : gI C 11007 = nI p := P.2.2.2.1
  have e46 : gI D 11346 = nI p := P.2.2.2.2.1
  have b : gI (sI (sI D 11349 1) 11350 (nI p)) 11349 ≠ 0 := show (1 : Int32) ≠ 0 by decide
  obtain ⟨z, rfl, hz⟩ := sc (show 0 < N by omega)
  unfold f_X10_takeRest f_X12_readRest
  rw [e7, P.now, bnd_some, bnd_some]
  have L := restL (nN := nN) (nX := nX) (N := z + 1) (x2 := nI p) hrf hN hp0 (lim + 1) 0 p (z + 1) (z + 1) nF nM C D (by omega) (by omega) hpe (by have := P.1.1; omega) (by have := P.1.1; omega) P Q K
  by_cases ce : sgn D en p = -1 ∨ sgn D en p = 10
  · have m : (if sgn D en p = -1 then f_X12_readRest_J17 (z + 1) (nI mo) rf D else if sgn D en p = 10 then f_X12_readRest_J17 (z + 1) (nI mo) rf D else bnd (f_X12_readRest_L26 (z + 1) (nI mo) rf (z + 1) D) fun q40 => some q40) = f_X12_readRest_J17 (z + 1) (nI mo) rf D := by
      rcases ce with c | c
      · rw [if_pos c]
      · rw [if_neg (by rw [c]; decide), if_pos c]
    rw [m]
    unfold f_X12_readRest_J17
    rw [d_wr h8, bnd_some, e46, d_restB b, bnd_some]
    have e1 : f_X10_takeRest_L10 (z + 1) (nI l) (nI p) (z + 1) 1 0 C = some (1, C) := by
      rw [f_X10_takeRest_L10, if_neg (by decide), if_neg (by decide), c_ends P, bnd_some, if_pos ce, if_neg (by decide)]
    rw [e1, bnd_some]
    unfold f_X10_takeRest_J97
    rw [if_neg (show ¬ (1 : Int32) = 0 by decide), e7, if_neg (show ¬ nI p < nI p from nI_nlt (Nat.le_refl _) (by omega)), c_ref, bnd_some, if_pos rfl]
    right
    exact ⟨_, _, rfl, rfl, pf_mk (k := 1) (q := nI p) (by decide), Q.db.pp pc_ref pd_wr, Fm.pr pc_ref, Fm.prD pd_wr⟩
  · rw [if_neg (fun q => ce (Or.inl q)), if_neg (fun q => ce (Or.inr q))]
    rcases L with ⟨C2, D2, p2, nF2, nM2, b1, b2, b3, b4, b5, b6, b7, b8, b9, b10⟩ | ⟨C2, D2, b1, b2, b3, b4, b5, b6⟩
    · have sg : ∀ i, sgn D2 en i = sgn D en i := sgn_r (en := en) b8
      have lt : p < p2 := by
        by_cases c : p = p2
        · rw [sg, ← c] at b5
          exact absurd b5 ce
        · omega
      rw [show (0 : Int32) = nI 0 from rfl, b1, b2, bnd_some, bnd_some]
      unfold f_X10_takeRest_J97
      have e77 : gI C2 11007 = nI p2 := b3.2.2.2.1
      rw [if_neg (show ¬ (1 : Int32) = 0 by decide), e77, if_pos (nI_lt lt (by have := b3.lt; omega))]
      left
      exact ⟨C2, D2, p2, nF2, nM2, rfl, rfl, b3, b4, b5, b6, b7, b8, b9, b10⟩
    · rw [show (0 : Int32) = nI 0 from rfl, b1, b2, bnd_some, bnd_some]
      unfold f_X10_takeRest_J97
      rw [if_pos rfl]
      right
      exact ⟨C2, D2, rfl, rfl, b3, b4, b5, b6⟩
end PA
