/-! quarrels -/
def rowF (Q : Nat → Bool) (x : Int32) : Nat → Nat → Nat → Nat ⊕ Nat
  | 0, _, c => .inl c
  | m + 1, g, c => if Q g = true then (if nI c = x then .inr g else rowF Q x m (g + 1) (c + 1)) else rowF Q x m (g + 1) c
def allF (Q : Nat → Nat → Bool) (x : Int32) (n : Nat) : Nat → Nat → Nat → Nat ⊕ (Nat × Nat)
  | 0, _, c => .inl c
  | m + 1, f, c => match rowF (Q f) x (n - (f + 1)) (f + 1) c with
    | .inl c' => allF Q x n m (f + 1) c'
    | .inr g => .inr (f, g)
theorem rowF_no {Q : Nat → Bool} {x : Int32} (h : ∀ g, Q g = false) : ∀ {m g c : Nat}, rowF Q x m g c = .inl c := by
  intro m
  induction m with
  | zero => intro g c; rfl
  | succ m ih => intro g c; rw [rowF, h g, if_neg (by decide)]; exact ih
theorem rowF_in {Q : Nat → Bool} {x : Int32} (h0 : 0 ≤ x) : ∀ {m g c : Nat}, c + m < 2 ^ 30 → nI c ≤ x → (∃ c', rowF Q x m g c = .inl c' ∧ c ≤ c' ∧ c' ≤ c + m ∧ nI c' ≤ x) ∨ ∃ g', rowF Q x m g c = .inr g' ∧ g ≤ g' ∧ g' < g + m := by
  intro m
  induction m with
  | zero => intro g c h1 h2; left; exact ⟨c, rfl, Nat.le_refl _, by omega, h2⟩
  | succ m ih =>
    intro g c h1 h2
    rw [rowF]
    by_cases q : Q g = true
    · rw [if_pos q]
      by_cases e : nI c = x
      · rw [if_pos e]; right; exact ⟨g, rfl, by omega, by omega⟩
      · rw [if_neg e]
        have h3 : nI (c + 1) ≤ x := by
          rw [i_le, nI_toInt (by omega)] at h2 ⊢
          have : ¬ (nI c).toInt = x.toInt := fun z => e (i_eq.mpr z)
          rw [nI_toInt (by omega)] at this
          omega
        rcases @ih (g + 1) (c + 1) (by omega) h3 with ⟨c', a1, a2, a3, a4⟩ | ⟨g', a1, a2, a3⟩
        · left; exact ⟨c', a1, by omega, by omega, a4⟩
        · right; exact ⟨g', a1, by omega, by omega⟩
    · rw [if_neg q]
      rcases @ih (g + 1) c (by omega) h2 with ⟨c', a1, a2, a3, a4⟩ | ⟨g', a1, a2, a3⟩
      · left; exact ⟨c', a1, a2, by omega, a4⟩
      · right; exact ⟨g', a1, by omega, by omega⟩
/-- how many pairs there are in m rows -/
def qTri : Nat → Nat
  | 0 => 0
  | m + 1 => qTri m + m
theorem qTri_s {m : Nat} : qTri (m + 1) = qTri m + m := rfl
theorem qTri_mono : ∀ {a b : Nat}, a ≤ b → qTri a ≤ qTri b := by
  intro a b
  induction b with
  | zero => intro h; cases Nat.le_zero.mp h; exact Nat.le_refl _
  | succ b ih =>
    intro h
    rw [qTri_s]
    rcases Nat.lt_or_ge b a with h1 | h1
    · have : a = b + 1 := by omega
      rw [this, qTri_s]
      exact Nat.le_refl _
    · have := ih h1
      omega
theorem qTri_150 {n : Nat} (h : n ≤ 150) : qTri n ≤ 11175 := Nat.le_trans (qTri_mono h) (Nat.le_of_eq (by decide +kernel))
theorem mx_ne {c : Nat} (h : c < 11175) : ¬ nI c = 11175 := by
  intro z
  have := i_eq.mp z
  rw [nI_toInt (by omega), show (11175 : Int32).toInt = 11175 by decide] at this
  omega
theorem rowF_mx {Q : Nat → Bool} : ∀ {m g c : Nat}, c + m ≤ 11175 → ∃ c', rowF Q 11175 m g c = .inl c' ∧ c' ≤ c + m := by
  intro m
  induction m with
  | zero => intro g c h1; exact ⟨c, rfl, by omega⟩
  | succ m ih =>
    intro g c h1
    rw [rowF]
    by_cases q : Q g = true
    · rw [if_pos q, if_neg (mx_ne (by omega))]
      obtain ⟨c', a1, a2⟩ := @ih (g + 1) (c + 1) (by omega)
      exact ⟨c', a1, by omega⟩
    · rw [if_neg q]
      obtain ⟨c', a1, a2⟩ := @ih (g + 1) c (by omega)
      exact ⟨c', a1, by omega⟩
section PQ
variable {C D : CS} {k x : Int32} {nL nR nF nO f i N : Nat} {cid : Nat → Nat}
theorem c_rowL (hN : 20000 < N) (h0 : 0 ≤ x) (hf : f < nF) : ∀ (m g c z : Nat) (C : CS), RBe C D nL nR nF nO cid → (∀ j, j < nF → gA C 112 j = sgv N D k j) → g + m = nF → c + m < 2 ^ 30 → nI c ≤ x → m < z →
    match rowF (qz N D k f) x m g c with
    | .inl c' => ∃ C1, f_X0_seekQuarrel_L28 N x (nI f) z (nI c) (nI g) C = some (.inr (nI c', C1)) ∧ EqC C C1 ∧ ∀ j, j < nF → gA C1 112 j = sgv N D k j
    | .inr g' => ∃ v C1, f_X0_seekQuarrel_L28 N x (nI f) z (nI c) (nI g) C = some (.inl (v, C1)) ∧ EqC C C1 ∧ ¬ v ≤ x ∧ gI C1 11106 = nI f ∧ gI C1 11107 = nI g' := by
  intro m
  induction m with
  | zero =>
    intro g c z C R hs hg hc hx hz
    obtain ⟨z, rfl, -⟩ := sc hz
    have := R.2.2.1.1
    refine ⟨C, ?_, EqC.rfl, hs⟩
    rw [f_X0_seekQuarrel_L28, R.2.2.1.2.1, if_pos (nI_le (by omega) (by omega))]
  | succ m ih =>
    intro g c z C R hs hg hc hx hz
    obtain ⟨z, rfl, hz⟩ := sc hz
    have hF := R.2.2.1.1
    have e0 : f_X0_seekQuarrel_L28 N x (nI f) (z + 1) (nI c) (nI g) C = if sgv N D k f = 0 then some (.inr (nI c, C)) else if b2 (qz N D k f g) = 0 then f_X0_seekQuarrel_L28 N x (nI f) z (nI c) (nI (g + 1)) C else if nI (c + 1) ≤ x then f_X0_seekQuarrel_L28 N x (nI f) z (nI (c + 1)) (nI (g + 1)) (sI (sI C 11106 (nI f)) 11107 (nI g)) else some (.inl (nI (c + 1), sI (sI C 11106 (nI f)) 11107 (nI g))) := by
      rw [f_X0_seekQuarrel_L28, R.2.2.1.2.1, if_neg (nI_ge (by omega) (by omega)), inb_nI (by omega) (by decide), nI_clamp (by omega), if_pos rfl, hs f hf, c_clash R hs hf (by omega), bnd_some, nI_1, nI_1]
      rfl
    rw [e0]
    by_cases s0 : sgv N D k f = 0
    · rw [rowF_no (fun g => qz_0 s0)]
      refine ⟨C, ?_, EqC.rfl, hs⟩
      rw [if_pos s0]
    · rw [if_neg s0, rowF]
      cases q : qz N D k f g
      · rw [if_pos (b2_0.mpr rfl), if_neg (by decide)]
        exact ih (g + 1) c z C R hs (by omega) (by omega) hx (by omega)
      · rw [if_neg (show ¬ b2 true = 0 by decide), if_pos rfl]
        have E : EqC C (sI (sI C 11106 (nI f)) 11107 (nI g)) := (EqC.i (by decide)).trans (EqC.i (by decide))
        by_cases e : nI c = x
        · rw [if_pos e]
          have n1 : ¬ nI (c + 1) ≤ x := by rw [← e]; exact nI_ge (by omega) (by omega)
          rw [if_neg n1]
          exact ⟨_, _, rfl, E, n1, rfl, rfl⟩
        · rw [if_neg e]
          have h3 : nI (c + 1) ≤ x := by
            rw [i_le, nI_toInt (by omega)] at hx ⊢
            have : ¬ (nI c).toInt = x.toInt := fun z => e (i_eq.mpr z)
            rw [nI_toInt (by omega)] at this
            omega
          rw [if_pos h3]
          have := ih (g + 1) (c + 1) z (sI (sI C 11106 (nI f)) 11107 (nI g)) (R.cg E EqD.rfl) hs (by omega) (by omega) h3 (by omega)
          revert this
          cases rowF (qz N D k f) x m (g + 1) (c + 1) with
          | inl c' => exact fun ⟨C1, a1, a2, a3⟩ => ⟨C1, a1, E.trans a2, a3⟩
          | inr g' => exact fun ⟨v, C1, a1, a2, a3⟩ => ⟨v, C1, a1, E.trans a2, a3⟩
theorem c_allL (hN : 20000 < N) (h0 : 0 ≤ x) : ∀ (m f c z : Nat) (C : CS), RBe C D nL nR nF nO cid → (∀ j, j < nF → gA C 112 j = sgv N D k j) → f + m = nF → c + m * 150 < 2 ^ 29 → nI c ≤ x → m < z →
    match allF (qz N D k) x nF m f c with
    | .inl c' => ∃ C1, f_X0_seekQuarrel_L10 N x z (nI c) (nI f) C = some (.inr (nI c', C1)) ∧ EqC C C1 ∧ nI c' ≤ x
    | .inr (f', g') => ∃ v C1, f_X0_seekQuarrel_L10 N x z (nI c) (nI f) C = some (.inl (v, C1)) ∧ EqC C C1 ∧ ¬ v ≤ x ∧ gI C1 11106 = nI f' ∧ gI C1 11107 = nI g' := by
  intro m
  induction m with
  | zero =>
    intro f c z C R hs hg hc hx hz
    obtain ⟨z, rfl, -⟩ := sc hz
    have := R.2.2.1.1
    refine ⟨C, ?_, EqC.rfl, hx⟩
    rw [f_X0_seekQuarrel_L10, R.2.2.1.2.1, if_pos (nI_le (by omega) (by omega))]
  | succ m ih =>
    intro f c z C R hs hg hc hx hz
    obtain ⟨z, rfl, hz⟩ := sc hz
    have hF := R.2.2.1.1
    have r := c_rowL (k := k) hN h0 (show f < nF by omega) (nF - (f + 1)) (f + 1) c N C R hs (by omega) (by omega) hx (by omega)
    rw [allF, f_X0_seekQuarrel_L10, R.2.2.1.2.1, if_neg (nI_ge (by omega) (by omega)), nI_1]
    rcases rowF_in (Q := qz N D k f) h0 (m := nF - (f + 1)) (g := f + 1) (c := c) (by omega) hx with ⟨c', a1, a2, a3, a4⟩ | ⟨g', a1, a2, a3⟩
    · rw [a1] at r ⊢
      obtain ⟨C1, b1, b2, b3⟩ := r
      rw [b1, bns_r]
      have := ih (f + 1) c' z C1 (R.cg b2 EqD.rfl) b3 (by omega) (by omega) a4 (by omega)
      revert this
      simp only
      cases allF (qz N D k) x nF m (f + 1) c' with
      | inl c'' => exact fun ⟨C2, d1, d2, d3⟩ => ⟨C2, d1, b2.trans d2, d3⟩
      | inr q => exact fun ⟨v, C2, d1, d2, d3⟩ => ⟨v, C2, d1, b2.trans d2, d3⟩
    · rw [a1] at r ⊢
      obtain ⟨v, C1, b1, b2, b3⟩ := r
      rw [b1, bns_l]
      exact ⟨v, C1, rfl, b2, b3⟩
/-- the class's way along the quarrels -/
theorem RBe.seek (R : RBe C D nL nR nF nO cid) (hN : 20000 < N) (h0 : 0 ≤ x) :
    match allF (qz N D k) x nF nF 0 0 with
    | .inl c' => ∃ C1, f_X0_seekQuarrel N x k C = some (nI c', C1) ∧ EqC C C1 ∧ nI c' ≤ x
    | .inr (f', g') => ∃ v C1, f_X0_seekQuarrel N x k C = some (v, C1) ∧ EqC C C1 ∧ ¬ v ≤ x ∧ gI C1 11106 = nI f' ∧ gI C1 11107 = nI g' := by
  obtain ⟨C1, e1, e2, e3⟩ := R.weigh (k := k) hN
  have hF := R.2.2.1.1
  have := c_allL (k := k) (x := x) hN h0 nF 0 0 N C1 (R.cg e2 EqD.rfl) e3 (by omega) (by omega) (by rw [nI_0]; exact h0) (by omega)
  revert this
  unfold f_X0_seekQuarrel
  rw [e1, bnd_some]
  cases allF (qz N D k) x nF nF 0 0 with
  | inl c' =>
    intro ⟨C2, d1, d2, d3⟩
    refine ⟨C2, ?_, e2.trans d2, d3⟩
    rw [show f_X0_seekQuarrel_L10 N x N 0 0 C1 = f_X0_seekQuarrel_L10 N x N (nI 0) (nI 0) C1 from rfl, d1, bns_r]
  | inr q =>
    intro ⟨v, C2, d1, d2, d3⟩
    refine ⟨v, C2, ?_, e2.trans d2, d3⟩
    rw [show f_X0_seekQuarrel_L10 N x N 0 0 C1 = f_X0_seekQuarrel_L10 N x N (nI 0) (nI 0) C1 from rfl, d1, bns_l]
theorem d_rowL {y : Int32} (R : RBe C D nL nR nF nO cid) (hN : 20000 < N) (hf : f < nF) : ∀ (m g c z : Nat), g + m = nF → c + m < 2 ^ 30 → m < z →
    f_X12_quarrel_L39 N x k y (nI f) D z (nI c) (nI g) = some (match rowF (qz N D k f) x m g c with
    | .inl c' => .inr (nI c')
    | .inr g' => .inl (if y = 0 then nI f else nI g', D)) := by
  have hF := R.2.2.1.1
  intro m
  induction m with
  | zero =>
    intro g c z hg hc hz
    obtain ⟨z, rfl, -⟩ := sc hz
    rw [f_X12_quarrel_L39, R.2.2.1.2.2.1, if_pos (nI_le (by omega) (by omega))]
    rfl
  | succ m ih =>
    intro g c z hg hc hz
    obtain ⟨z, rfl, hz⟩ := sc hz
    rw [f_X12_quarrel_L39, R.2.2.1.2.2.1, if_neg (nI_ge (by omega) (by omega)), d_quar R hf (by omega) hN, bnd_some, nI_1, nI_1, ih (g + 1) c z (by omega) (by omega) (by omega), ih (g + 1) (c + 1) z (by omega) (by omega) (by omega), rowF]
    cases q : qz N D k f g
    · rw [if_pos (b2_0.mpr rfl), if_neg (by decide)]
    · rw [if_neg (show ¬ b2 true = 0 by decide), if_pos rfl]
      by_cases e : nI c = x
      · rw [if_pos e, if_pos e]
        by_cases y0 : y = 0
        · rw [if_pos y0]; simp only [if_pos y0]
        · rw [if_neg y0]; simp only [if_neg y0]
      · rw [if_neg e, if_neg e]
theorem d_allL {y : Int32} (R : RBe C D nL nR nF nO cid) (hN : 20000 < N) (h0 : 0 ≤ x) (hy : y = 0 ∨ y = 1) : ∀ (m f c z : Nat), f + m = nF → c + m * 150 < 2 ^ 29 → nI c ≤ x → m < z →
    f_X12_quarrel_L11 N x k y D z (nI c) (nI f) = some (match allF (qz N D k) x nF m f c with
    | .inl _ => .inr ()
    | .inr (f', g') => .inl (if y = 0 then nI f' else nI g', D)) := by
  have hF := R.2.2.1.1
  intro m
  induction m with
  | zero =>
    intro f c z hg hc hx hz
    obtain ⟨z, rfl, -⟩ := sc hz
    rw [f_X12_quarrel_L11, R.2.2.1.2.2.1, if_pos (nI_le (by omega) (by omega))]
    rfl
  | succ m ih =>
    intro f c z hg hc hx hz
    obtain ⟨z, rfl, hz⟩ := sc hz
    have y1 : ¬ y < 0 := by rcases hy with rfl | rfl <;> decide
    have y2 : ¬ 1 < y := by rcases hy with rfl | rfl <;> decide
    rw [f_X12_quarrel_L11, R.2.2.1.2.2.1, if_neg (nI_ge (by omega) (by omega)), if_neg (Int32.not_lt.mpr h0), if_neg y1, if_neg y2, nI_1, d_rowL R hN (by omega) (nF - (f + 1)) (f + 1) c N (by omega) (by omega) (by omega), allF]
    rcases rowF_in (Q := qz N D k f) h0 (m := nF - (f + 1)) (g := f + 1) (c := c) (by omega) hx with ⟨c', a1, a2, a3, a4⟩ | ⟨g', a1, a2, a3⟩
    · rw [a1, bns_r, ih (f + 1) c' z (by omega) (by omega) a4 (by omega)]
    · rw [a1, bns_l]
theorem d_cntL (R : RBe C D nL nR nF nO cid) (hN : 20000 < N) (hf : f < nF) : ∀ (m g c z : Nat), g + m = nF → c + m ≤ 11175 → m < z →
    ∃ c', rowF (qz N D k f) 11175 m g c = .inl c' ∧ f_X12_quarrels_L22 N k (nI f) D z (nI c) (nI g) = some (nI c') := by
  have hF := R.2.2.1.1
  intro m
  induction m with
  | zero =>
    intro g c z hg hc hz
    obtain ⟨z, rfl, -⟩ := sc hz
    refine ⟨c, rfl, ?_⟩
    rw [f_X12_quarrels_L22, R.2.2.1.2.2.1, if_pos (nI_le (by omega) (by omega))]
  | succ m ih =>
    intro g c z hg hc hz
    obtain ⟨z, rfl, hz⟩ := sc hz
    rw [f_X12_quarrels_L22, R.2.2.1.2.2.1, if_neg (nI_ge (by omega) (by omega)), d_quar R hf (by omega) hN, bnd_some, nI_1, nI_1, Int32.add_zero, rowF]
    cases q : qz N D k f g
    · rw [if_pos (b2_0.mpr rfl), if_neg (by decide)]
      exact ih (g + 1) c z (by omega) (by omega) (by omega)
    · rw [if_neg (show ¬ b2 true = 0 by decide), if_pos rfl, if_neg (mx_ne (by omega))]
      exact ih (g + 1) (c + 1) z (by omega) (by omega) (by omega)
theorem d_cntA (R : RBe C D nL nR nF nO cid) (hN : 20000 < N) : ∀ (m f c z : Nat), f + m = nF → c + qTri m ≤ 11175 → m < z →
    ∃ c', allF (qz N D k) 11175 nF m f c = .inl c' ∧ f_X12_quarrels_L9 N k D z (nI c) (nI f) = some (nI c') := by
  have hF := R.2.2.1.1
  intro m
  induction m with
  | zero =>
    intro f c z hg hc hz
    obtain ⟨z, rfl, -⟩ := sc hz
    refine ⟨c, rfl, ?_⟩
    rw [f_X12_quarrels_L9, R.2.2.1.2.2.1, if_pos (nI_le (by omega) (by omega))]
  | succ m ih =>
    intro f c z hg hc hz
    obtain ⟨z, rfl, hz⟩ := sc hz
    rw [qTri_s] at hc
    obtain ⟨c1, a1, a2⟩ := d_cntL (k := k) R hN (show f < nF by omega) (nF - (f + 1)) (f + 1) c N (by omega) (by omega) (by omega)
    obtain ⟨c1', b1, b2⟩ := rowF_mx (Q := qz N D k f) (m := nF - (f + 1)) (g := f + 1) (c := c) (by omega)
    rw [a1] at b1
    cases b1
    rw [f_X12_quarrels_L9, R.2.2.1.2.2.1, if_neg (nI_ge (by omega) (by omega)), nI_1, a2, bnd_some, allF, a1]
    exact ih (f + 1) c1 z (by omega) (by omega) (by omega)
theorem RBe.quarrels (R : RBe C D nL nR nF nO cid) (hN : 20000 < N) : ∃ r C1, f_X11_quarrels N k C = some (r, C1) ∧ EqC C C1 ∧ f_X12_quarrels N k D = some (r, sI D 11300 0) := by
  have hF := R.2.2.1.1
  have R2 := R.cg (C1 := C) (D1 := sI D 11300 0) EqC.rfl EqD.code
  have s := R2.seek (x := 11175) (k := k) hN (by decide)
  obtain ⟨c', a1, a2⟩ := d_cntA (D := sI D 11300 0) (k := k) R2 hN nF 0 0 N (by omega) (by rw [Nat.zero_add]; exact qTri_150 hF) (by omega)
  rw [a1] at s
  obtain ⟨C1, b1, b2, b3⟩ := s
  refine ⟨nI c', C1, ?_, b2, ?_⟩
  · unfold f_X11_quarrels
    rw [b1, bnd_some]
  · unfold f_X12_quarrels
    rw [bd_eq, show f_X12_quarrels_L9 N k (sI D 11300 0) N 0 0 = f_X12_quarrels_L9 N k (sI D 11300 0) N (nI 0) (nI 0) from rfl, a2, bnd_some]
theorem d_fail {v : Int32} : f_X12_fail v D = some (0, sI D 11300 v) := rfl
theorem c_dem0 : f_X11_demand 0 C = some (.inl eN, sE C) := rfl
theorem c_dem1 : f_X11_demand 1 C = some (.inr (), C) := rfl
end PQ
/-- what a call that may throw owes: cN, cI are the codes of the two -/
def Both (cN cI : Int32) (P : CS → CS → Prop) (x : Option ((String ⊕ Int32) × CS)) (y : Option (Int32 × CS)) : Prop :=
  (∃ r C1 D1, x = some (.inr r, C1) ∧ y = some (r, D1) ∧ gI D1 11300 = 0 ∧ P C1 D1) ∨ ∃ E C1 b D1, x = some (.inl E, sE C1) ∧ y = some (b, D1) ∧ ((E = eN ∧ gI D1 11300 = cN) ∨ (E = eI ∧ gI D1 11300 = cI)) ∧ P C1 D1
/-- a call that changes nothing that is seen -/
abbrev Sees (C D : CS) : CS → CS → Prop := fun C1 D1 => EqC C C1 ∧ EqD D D1
section PQ2
variable {C D : CS} {k x y : Int32} {nL nR nF nO f i N : Nat} {cid : Nat → Nat}
theorem both_0 {cI : Int32} {P : CS → CS → Prop} {r : Int32} {X : Option ((String ⊕ Int32) × CS)} {Y : Option (Int32 × CS)} {C1 D1 : CS} {cN : Int32} (h1 : X = some (.inr r, C1)) (h2 : Y = some (r, D1)) (h3 : gI D1 11300 = 0) (h4 : P C1 D1) : Both cN cI P X Y := Or.inl ⟨r, C1, D1, h1, h2, h3, h4⟩
theorem both_N {cI : Int32} {P : CS → CS → Prop} {b : Int32} {X : Option ((String ⊕ Int32) × CS)} {Y : Option (Int32 × CS)} {C1 D1 : CS} {cN : Int32} (h1 : X = some (.inl eN, sE C1)) (h2 : Y = some (b, D1)) (h3 : gI D1 11300 = cN) (h4 : P C1 D1) : Both cN cI P X Y := Or.inr ⟨eN, C1, b, D1, h1, h2, Or.inl ⟨rfl, h3⟩, h4⟩
theorem both_I {cI : Int32} {P : CS → CS → Prop} {b : Int32} {X : Option ((String ⊕ Int32) × CS)} {Y : Option (Int32 × CS)} {C1 D1 : CS} {cN : Int32} (h1 : X = some (.inl eI, sE C1)) (h2 : Y = some (b, D1)) (h3 : gI D1 11300 = cI) (h4 : P C1 D1) : Both cN cI P X Y := Or.inr ⟨eI, C1, b, D1, h1, h2, Or.inr ⟨rfl, h3⟩, h4⟩
theorem d_quarrel_no (h : ¬ (0 ≤ x ∧ (y = 0 ∨ y = 1))) (hF : gI D 11320 = nI nF) (hn : nF ≤ 150) (hN : 20000 < N) : f_X12_quarrel N x k y D = some (0, sI (sI D 11300 0) 11300 1) := by
  unfold f_X12_quarrel
  obtain ⟨z, rfl, -⟩ := sc (show 0 < N by omega)
  have hF2 : gI (sI D 11300 0) 11320 = nI nF := hF
  have e : f_X12_quarrel_L11 (z + 1) x k y (sI D 11300 0) (z + 1) 0 0 = some (.inr ()) := by
    rw [f_X12_quarrel_L11, hF2]
    by_cases c0 : nI nF ≤ 0
    · rw [if_pos c0]
    · rw [if_neg c0]
      by_cases c1 : x < 0
      · rw [if_pos c1]
      · rw [if_neg c1]
        by_cases c2 : y < 0
        · rw [if_pos c2]
        · rw [if_neg c2]
          have c3 : 1 < y := by
            obtain ⟨j, j1, rfl⟩ := nI_of c2
            have h4 : ¬ (nI j = 0 ∨ nI j = 1) := fun z => h ⟨Int32.not_lt.mp c1, z⟩
            have : j ≠ 0 ∧ j ≠ 1 := ⟨fun z => h4 (Or.inl (by rw [z]; rfl)), fun z => h4 (Or.inr (by rw [z]; rfl))⟩
            exact nI_lt (a := 1) (by omega) j1
          rw [if_pos c3]
  rw [bd_eq, e, bns_r, d_fail, bnd_some]
theorem RBe.quarrel {cI : Int32} (R : RBe C D nL nR nF nO cid) (hN : 20000 < N) : Both 1 cI (Sees C D) (f_X11_quarrel N x k y C) (f_X12_quarrel N x k y D) := by
  have hF := R.2.2.1.1
  have E0 : EqD D (sI (sI D 11300 0) 11300 1) := EqD.code.trans EqD.code
  by_cases h : 0 ≤ x ∧ (y = 0 ∨ y = 1)
  · have R2 := R.cg (C1 := C) (D1 := sI D 11300 0) EqC.rfl EqD.code
    have s := R2.seek (x := x) (k := k) hN h.1
    have a := d_allL (x := x) (k := k) R2 hN h.1 h.2 nF 0 0 N (by omega) (by omega) (by rw [nI_0]; exact h.1) (by omega)
    have ec : f_X11_quarrel N x k y C = f_X11_quarrel_J13 N x k y C := by
      unfold f_X11_quarrel
      rw [if_neg (Int32.not_lt.mpr h.1)]
      rcases h.2 with rfl | rfl
      · rw [if_pos rfl]
      · rw [if_neg (by decide), if_pos rfl]
    have ed : f_X12_quarrel N x k y D = bns (f_X12_quarrel_L11 N x k y (sI D 11300 0) N (nI 0) (nI 0)) (fun q15 => some q15) fun _ => bnd (f_X12_fail 1 (sI D 11300 0)) fun q17 => some (q17.1, q17.2) := rfl
    rw [ec, ed, a]
    unfold f_X11_quarrel_J13
    rw [c_dem1, bnx_r]
    revert s
    rcases allF (qz N (sI D 11300 0) k) x nF nF 0 0 with c' | ⟨f', g'⟩
    · intro ⟨C1, b1, b2, b3⟩
      rw [b1, bnd_some, bns_r, d_fail, bnd_some]
      exact both_N (C1 := C1) (by rw [if_pos b3, c_dem0, bnx_l]) rfl rfl ⟨b2, E0⟩
    · intro ⟨v, C1, b1, b2, b3, b4, b5⟩
      rw [b1, bnd_some, bns_l]
      refine both_0 (C1 := C1) (r := if y = 0 then nI f' else nI g') ?_ rfl rfl ⟨b2, EqD.code⟩
      rw [if_neg b3, c_dem1, bnx_r]
      by_cases y0 : y = 0
      · rw [if_pos y0, if_pos y0, b4]
      · rw [if_neg y0, if_neg y0, b5]
  · have ec : f_X11_quarrel N x k y C = f_X11_quarrel_J17 N x k y C := by
      unfold f_X11_quarrel
      by_cases c1 : x < 0
      · rw [if_pos c1]
      · rw [if_neg c1]
        by_cases c2 : y = 0
        · exact absurd ⟨Int32.not_lt.mp c1, Or.inl c2⟩ h
        · rw [if_neg c2]
          by_cases c3 : y = 1
          · exact absurd ⟨Int32.not_lt.mp c1, Or.inr c3⟩ h
          · rw [if_neg c3]
    rw [ec, d_quarrel_no h R.2.2.1.2.2.1 hF hN]
    unfold f_X11_quarrel_J17
    rw [c_dem0, bnx_l]
    exact both_N (C1 := C) rfl rfl rfl ⟨EqC.rfl, E0⟩
end PQ2
