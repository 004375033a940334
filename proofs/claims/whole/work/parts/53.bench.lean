/-! what calls leave unseen -/
def EqC (C C1 : CS) : Prop := (∀ k, ¬ (11006 ≤ k ∧ k ≤ 11199) → gI C1 k = gI C k) ∧ (∀ r, r ≠ 112 → gA C1 r = gA C r) ∧ (∀ r, gB C1 r = gB C r) ∧ gE C1 = gE C
def EqD (D D1 : CS) : Prop := (∀ k, k ≠ 11300 → ¬ (11346 ≤ k ∧ k ≤ 11353) → gI D1 k = gI D k) ∧ (∀ r, gA D1 r = gA D r) ∧ (∀ r, r ≠ 1000 → gB D1 r = gB D r)
theorem EqC.rfl {C : CS} : EqC C C := ⟨fun _ _ => Eq.refl _, fun _ _ => Eq.refl _, fun _ => Eq.refl _, Eq.refl _⟩
theorem EqD.rfl {D : CS} : EqD D D := ⟨fun _ _ _ => Eq.refl _, fun _ => Eq.refl _, fun _ _ => Eq.refl _⟩
theorem EqC.trans {C C1 C2 : CS} (h : EqC C C1) (k : EqC C1 C2) : EqC C C2 := ⟨fun a b => (k.1 a b).trans (h.1 a b), fun a b => (k.2.1 a b).trans (h.2.1 a b), fun a => (k.2.2.1 a).trans (h.2.2.1 a), k.2.2.2.trans h.2.2.2⟩
theorem EqD.trans {C C1 C2 : CS} (h : EqD C C1) (k : EqD C1 C2) : EqD C C2 := ⟨fun a b c => (k.1 a b c).trans (h.1 a b c), fun a => (k.2.1 a).trans (h.2.1 a), fun a b => (k.2.2 a b).trans (h.2.2 a b)⟩
theorem EqC.a112 {C : CS} {i : Nat} {v : Int32} : EqC C (sA C 112 i v) := ⟨fun _ _ => Eq.refl _, fun r h => by rw [gA_sA, if_neg h], fun _ => Eq.refl _, Eq.refl _⟩
theorem EqC.i {C : CS} {k : Nat} {v : Int32} (h : 11006 ≤ k ∧ k ≤ 11199) : EqC C (sI C k v) := ⟨fun j hj => by rw [gI_sI, if_neg (by intro e; rw [e] at hj; exact hj h)], fun _ _ => Eq.refl _, fun _ => Eq.refl _, Eq.refl _⟩
theorem EqD.code {D : CS} {v : Int32} : EqD D (sI D 11300 v) := ⟨fun j hj _ => by rw [gI_sI, if_neg hj], fun _ => Eq.refl _, fun _ _ => Eq.refl _⟩
theorem RO.cg {C C1 D D1 : CS} {n : Nat} (R : RO C D n) (h : EqC C C1) (k : EqD D D1) : RO C1 D1 n := by
  unfold RO at R ⊢
  rw [h.1 9801 (by decide), h.1 9800 (by decide), k.1 11334 (by decide) (by decide), h.2.1 99 (by decide), h.2.1 100 (by decide), h.2.1 101 (by decide), h.2.1 102 (by decide), h.2.1 103 (by decide), k.2.1 136, k.2.1 137, k.2.1 138, k.2.1 139, k.2.1 140]
  exact R
theorem RN.cg {C C1 D D1 : CS} {n nX : Nat} (R : RN C D n nX) (h : EqC C C1) (k : EqD D D1) : RN C1 D1 n nX := by
  unfold RN at R ⊢
  rw [h.1 9401 (by decide), h.1 9400 (by decide), k.1 11323 (by decide) (by decide), k.1 11322 (by decide) (by decide), h.2.1 95 (by decide), h.2.1 96 (by decide), h.2.2.1 97, k.2.1 133, k.2.1 134, k.2.2 135 (by decide)]
  exact R
theorem RLn.cg {C C1 D D1 : CS} {n : Nat} (R : RLn C D n) (h : EqC C C1) (k : EqD D D1) : RLn C1 D1 n := by
  unfold RLn at R ⊢
  rw [h.1 6901 (by decide), h.1 6900 (by decide), k.1 11308 (by decide) (by decide), h.2.1 70 (by decide), h.2.1 71 (by decide), h.2.1 72 (by decide), h.2.1 73 (by decide), h.2.1 74 (by decide), h.2.1 75 (by decide), k.2.1 116, k.2.1 117, k.2.1 118, k.2.1 119, k.2.1 120]
  exact R
theorem RR.cg {C C1 D D1 : CS} {nL nR : Nat} {cid : Nat → Nat} (R : RR C D nL nR cid) (h : EqC C C1) (k : EqD D D1) : RR C1 D1 nL nR cid := by
  unfold RR at R ⊢
  rw [h.1 7601 (by decide), h.1 7600 (by decide), k.1 11319 (by decide) (by decide), h.2.1 79 (by decide), h.2.1 80 (by decide), h.2.1 81 (by decide), k.2.1 121, k.2.1 122, k.2.1 123]
  exact R
/-- facts on both sides -/
def RF (C D : CS) (nF nL nR : Nat) (cid : Nat → Nat) : Prop := nF ≤ 150 ∧ gI C 8401 = nI nF ∧ gI D 11320 = nI nF ∧ gI C 8400 = 150 ∧
  ∀ f, f < nF → (∃ m l, vid nL nR m ∧ l < nL ∧ gA D 126 f = nI m ∧ gA C 86 f = nI (cid m) ∧ gA D 122 m = nI l ∧ gA C 85 f = nI l ∧ gA D 116 l ≠ 5) ∧ gA C 87 f = gA D 130 f ∧ gA C 88 f = gA D 127 f ∧ gA C 89 f = gA D 128 f ∧ gA C 90 f = gA D 129 f
theorem RF.cg {C C1 D D1 : CS} {nF nL nR : Nat} {cid : Nat → Nat} (R : RF C D nF nL nR cid) (h : EqC C C1) (k : EqD D D1) : RF C1 D1 nF nL nR cid := by
  unfold RF at R ⊢
  rw [h.1 8401 (by decide), h.1 8400 (by decide), k.1 11320 (by decide) (by decide), h.2.1 85 (by decide), h.2.1 86 (by decide), h.2.1 87 (by decide), h.2.1 88 (by decide), h.2.1 89 (by decide), h.2.1 90 (by decide), k.2.1 116, k.2.1 122, k.2.1 126, k.2.1 127, k.2.1 128, k.2.1 129, k.2.1 130]
  exact R
/-- the bench's relations at once -/
def RBe (C D : CS) (nL nR nF nO : Nat) (cid : Nat → Nat) : Prop := RLn C D nL ∧ RR C D nL nR cid ∧ RF C D nF nL nR cid ∧ RO C D nO
theorem RBe.cg {C C1 D D1 : CS} {nL nR nF nO : Nat} {cid : Nat → Nat} (R : RBe C D nL nR nF nO cid) (h : EqC C C1) (k : EqD D D1) : RBe C1 D1 nL nR nF nO cid := ⟨R.1.cg h k, R.2.1.cg h k, R.2.2.1.cg h k, R.2.2.2.cg h k⟩
def sgv (N : Nat) (D : CS) (k : Int32) (f : Nat) : Int32 := (f_X12_standsOn N (nI f) k D).getD 0
section PB
variable {C D : CS} {k : Int32} {nL nR nF nO f i N : Nat} {cid : Nat → Nat}
theorem RBe.stand (R : RBe C D nL nR nF nO cid) (hf : f < nF) (hN : 20000 < N) : f_X0_signOf N (nI f) k C = some (sgv N D k f) ∧ f_X12_standsOn N (nI f) k D = some (sgv N D k f) ∧ (sgv N D k f = 0 ∨ sgv N D k f = 1 ∨ sgv N D k f = -1) := by
  suffices h : ∃ v, f_X0_signOf N (nI f) k C = some v ∧ f_X12_standsOn N (nI f) k D = some v ∧ (v = 0 ∨ v = 1 ∨ v = -1) by
    obtain ⟨v, h1, h2, h3⟩ := h
    have e : sgv N D k f = v := by rw [sgv, h2]; rfl
    rw [e]
    exact ⟨h1, h2, h3⟩
  obtain ⟨L, Q, F, O⟩ := R
  obtain ⟨⟨m, l, m1, l1, m2, m3, m4, m5, m6⟩, -⟩ := F.2.2.2.2 f hf
  have hm : m < 300 := by
    have := Q.1
    have := Q.2.1
    rcases m1 with h | h <;> omega
  have hF := F.1
  have hL := L.1
  obtain ⟨h1, h2⟩ := Q.held (N := N) (k := k) l1 (by omega)
  obtain ⟨s1, s2⟩ := O.strike (N := N) (l := nI l) (k := k) (by omega)
  obtain ⟨e, e1, e2, e3⟩ := L.entry l1 m6
  obtain ⟨a, a1, a2, a3⟩ := L.answer (N := N) l1 (by omega)
  unfold f_X0_signOf f_X12_standsOn
  rw [inb_nI (by omega) (by decide), nI_clamp (by omega), m2, m3, m5, inb_nI (by omega) (by decide), nI_clamp (by omega), m4, inb_nI (by omega) (by decide), nI_clamp (by omega), e2, inb_nI (by omega) (by decide), nI_clamp (by omega), h1, h2, s1, s2, e3, a1, a2]
  simp only [↓reduceIte, bnd_some]
  have hv := ro_vid (L := gA D 122) (Dy := gA D 123) (k := k) l1 (Nat.le_refl nR)
  have hr : ro (gA D 122) (gA D 123) l k nR < 300 := by
    have := Q.2.1
    rcases hv with h | h <;> omega
  have c1 := Q.2.2.2.2.2.1 _ hv
  have c2 := Q.2.2.2.2.2.1 _ m1
  have q1 := Q.2.1
  by_cases c : ro (gA D 122) (gA D 123) l k nR = m
  · have p1 : nI (cid (ro (gA D 122) (gA D 123) l k nR)) = nI (cid m) := by rw [c]
    have p2 : nI (ro (gA D 122) (gA D 123) l k nR) = nI m := by rw [c]
    rw [if_pos p1, if_pos p2]
    cases sk D nO (nI l) k
    · rw [if_pos (b2_0.mpr rfl), if_pos (b2_0.mpr rfl)]
      by_cases k1 : gA D 116 e = 1
      · rw [if_pos k1, if_pos k1]
        exact ⟨1, rfl, rfl, Or.inr (Or.inl rfl)⟩
      · rw [if_neg k1, if_neg k1]
        by_cases k0 : gA D 116 e = 0
        · rw [if_pos k0, if_pos k0]
          unfold f_X0_signByAnswer
          rw [L.2.1]
          rcases a3 with rfl | ⟨y, y1, rfl⟩
          · rw [hasT_m1, if_pos rfl, if_pos rfl, bnd_some]
            exact ⟨0, rfl, rfl, Or.inl rfl⟩
          · obtain ⟨t1, t2⟩ := O.strike (N := N) (l := nI y) (k := k) (by omega)
            obtain ⟨y5, -⟩ := L.2.2.2.2.1 y y1
            rw [hasT_nI (by omega) (by omega), if_pos y1, if_neg (by decide), if_neg (nI_m1 (by omega)), t1, t2, inb_nI (by omega) (by decide), nI_clamp (by omega), y5]
            simp only [↓reduceIte, bnd_some]
            cases sk D nO (nI y) k
            · first | rw [if_pos (b2_0.mpr rfl), if_pos (b2_0.mpr rfl)] | rw [if_pos (b2_0.mpr rfl)]
              by_cases z2 : gA D 116 y = 2
              · rw [if_pos z2]
                exact ⟨1, rfl, rfl, Or.inr (Or.inl rfl)⟩
              · rw [if_neg z2]
                by_cases z3 : gA D 116 y = 3
                · rw [if_pos z3]
                  exact ⟨-1, rfl, rfl, Or.inr (Or.inr rfl)⟩
                · rw [if_neg z3]
                  exact ⟨0, rfl, rfl, Or.inl rfl⟩
            · first | rw [if_neg (show ¬ b2 true = 0 by decide), if_neg (show ¬ b2 true = 0 by decide)] | rw [if_neg (show ¬ b2 true = 0 by decide)]
              exact ⟨0, rfl, rfl, Or.inl rfl⟩
        · rw [if_neg k0, if_neg k0]
          exact ⟨0, rfl, rfl, Or.inl rfl⟩
    · rw [if_neg (by decide), if_neg (by decide)]
      exact ⟨0, rfl, rfl, Or.inl rfl⟩
  · have n1 : ¬ nI (cid (ro (gA D 122) (gA D 123) l k nR)) = nI (cid m) := fun z => c (Q.2.2.2.2.2.2.1 _ _ hv m1 ((nI_eq (by omega) (by omega)).mp z))
    have n2 : ¬ nI (ro (gA D 122) (gA D 123) l k nR) = nI m := fun z => c ((nI_eq (by omega) (by omega)).mp z)
    rw [if_neg n1, if_neg n2]
    exact ⟨0, rfl, rfl, Or.inl rfl⟩
theorem c_weighL (D : CS) (k : Int32) (hN : 20000 < N) : ∀ (m i z : Nat) (C : CS), RBe C D nL nR nF nO cid → i + m = nF → m < z → (∀ j, j < i → gA C 112 j = sgv N D k j) → ∃ C1, f_X0_weigh_L2 N k z (nI i) C = some C1 ∧ EqC C C1 ∧ ∀ j, j < nF → gA C1 112 j = sgv N D k j := by
  intro m
  induction m with
  | zero =>
    intro i z C R hi hz hj
    obtain ⟨z, rfl, -⟩ := sc hz
    refine ⟨C, ?_, EqC.rfl, fun j h => hj j (by omega)⟩
    have := R.2.2.1.1
    rw [f_X0_weigh_L2, R.2.2.1.2.1, if_pos (nI_le (by omega) (by omega))]
  | succ m ih =>
    intro i z C R hi hz hj
    obtain ⟨z, rfl, hz⟩ := sc hz
    have := R.2.2.1.1
    obtain ⟨h1, -, -⟩ := R.stand (k := k) (f := i) (by omega) hN
    obtain ⟨C1, e1, e2, e3⟩ := ih (i + 1) z (sA C 112 i (sgv N D k i)) (R.cg EqC.a112 EqD.rfl) (by omega) (by omega) (fun j h => by
      rw [gA_sA, if_pos rfl, upd]
      by_cases e : j = i
      · rw [if_pos e, e]
      · rw [if_neg e]; exact hj j (by omega))
    refine ⟨C1, ?_, EqC.a112.trans e2, e3⟩
    rw [f_X0_weigh_L2, R.2.2.1.2.1, if_neg (nI_ge (by omega) (by omega)), if_neg (nI_ge (by omega) (by omega)), h1, bnd_some, inb_nI (by omega) (by decide), if_pos rfl, nI_clamp (by omega), bd_eq, nI_1]
    exact e1
theorem RBe.weigh (R : RBe C D nL nR nF nO cid) (hN : 20000 < N) : ∃ C1, f_X0_weigh N k C = some C1 ∧ EqC C C1 ∧ ∀ j, j < nF → gA C1 112 j = sgv N D k j := by
  have := R.2.2.1.1
  obtain ⟨C1, e1, e2, e3⟩ := c_weighL D k hN nF 0 N C R (by omega) (by omega) (fun j h => by omega)
  refine ⟨C1, ?_, e2, e3⟩
  unfold f_X0_weigh
  rw [show f_X0_weigh_L2 N k N 0 C = f_X0_weigh_L2 N k N (nI 0) C from rfl, e1, bnd_some]
/-- whether two facts quarrel -/
def qz (N : Nat) (D : CS) (k : Int32) (f g : Nat) : Bool := decide (gA D 127 f = gA D 127 g) && (decide (gA D 128 f = gA D 128 g) && (if sgv N D k f = 1 ∧ sgv N D k g = 1 then !decide (gA D 129 f = gA D 129 g) else decide (gA D 129 f = gA D 129 g) && decide (sgv N D k f * sgv N D k g = -1)))
theorem c_clash {g : Nat} (R : RBe C D nL nR nF nO cid) (hs : ∀ j, j < nF → gA C 112 j = sgv N D k j) (hf : f < nF) (hg : g < nF) : f_X0_clash (nI f) (nI g) C = some (b2 (qz N D k f g)) := by
  have hF := R.2.2.1.1
  obtain ⟨-, -, f2, f3, f4⟩ := R.2.2.1.2.2.2.2 f hf
  obtain ⟨-, -, g2, g3, g4⟩ := R.2.2.1.2.2.2.2 g hg
  unfold f_X0_clash f_X0_clash_J101 qz b2
  rw [inb_nI (i := f) (by omega) (by decide), inb_nI (i := g) (by omega) (by decide), nI_clamp (n := f) (by omega), nI_clamp (n := g) (by omega), hs f hf, hs g hg, f2, f3, f4, g2, g3, g4]
  by_cases c1 : gA D 127 f = gA D 127 g <;> by_cases c2 : gA D 128 f = gA D 128 g <;> by_cases c3 : gA D 129 f = gA D 129 g <;> by_cases c4 : sgv N D k f = 1 <;> by_cases c5 : sgv N D k g = 1 <;> by_cases c6 : sgv N D k f * sgv N D k g = -1 <;> simp [c1, c2, c3, c4, c5, c6] <;> simp_all
theorem d_quar {g : Nat} (R : RBe C D nL nR nF nO cid) (hf : f < nF) (hg : g < nF) (hN : 20000 < N) : f_X12_doQuarrel N (nI f) (nI g) k D = some (b2 (qz N D k f g)) := by
  have hF := R.2.2.1.1
  obtain ⟨-, s1, s3⟩ := R.stand (k := k) hf hN
  obtain ⟨-, s2, s4⟩ := R.stand (k := k) hg hN
  unfold f_X12_doQuarrel f_X12_doQuarrel_J75 qz b2
  rw [inb_nI (i := f) (by omega) (by decide), inb_nI (i := g) (by omega) (by decide), nI_clamp (n := f) (by omega), nI_clamp (n := g) (by omega), s1, s2, bnd_some, bnd_some]
  by_cases c1 : gA D 127 f = gA D 127 g <;> by_cases c2 : gA D 128 f = gA D 128 g <;> by_cases c3 : gA D 129 f = gA D 129 g <;> rcases s3 with c4 | c4 | c4 <;> rcases s4 with c5 | c5 | c5 <;> simp [c1, c2, c3, c4, c5]
theorem qz_self (f : Nat) : qz N D k f f = true → sgv N D k f ≠ 1 := by
  intro h z
  simp [qz, z] at h
theorem qz_0 {g : Nat} (h : sgv N D k f = 0) : qz N D k f g = false := by
  simp [qz, h]
end PB
