/-! a sitting that is being read: what both hold -/
def Pos (C D : CS) (en p : Nat) : Prop := Tx C D en ∧ gI C 11006 = nI en ∧ gI D 11347 = nI en ∧ gI C 11007 = nI p ∧ gI D 11346 = nI p ∧ gI C 11011 = 0 ∧ gI D 11349 = 0 ∧ gI C 11012 = -1 ∧ p ≤ en
def NX (D : CS) (n nN : Nat) : Prop := nN ≤ n ∧ ∀ k, k < nN → (∃ j, j < n ∧ gA D 134 k = nI j) ∧ Int64.toInt32 (nby (gB D 135 k) 0) ≠ 0
def SQ (C D : CS) (en p f n nR nF nM nN nX ts : Nat) (cid : Nat → Nat) (si : Nat) (E : Option Nat) (pv : Int32) : Prop :=
  Pos C D en p ∧ SL C D f n (nI si) E pv ∧ RR C D n nR cid ∧ RTt C D n nR cid ts ∧ RF C D nF n nR cid ∧ RM C D nM ∧ RN C D nN nX ∧ NX D n nN ∧ gI D 11306 = nI si
def Same (rs : List Nat) (A : Nat → Prop) (C C1 : CS) : Prop := ∀ r ∈ rs, ∀ i, A i → gA C1 r i = gA C r i
/-- rows below the sizes stay -/
def LC (C C1 : CS) (f b nF ts nN : Nat) : Prop := Same [70, 71, 72, 73, 74, 75, 79] (· < f) C C1 ∧ Same [80, 81, 82, 83] (· < b) C C1 ∧ Same [78] (· < ts) C C1 ∧ Same [85, 86, 87, 88, 89, 90] (· < nF) C C1 ∧ nbC nN C C1
def LD (D D1 : CS) (f nF nN : Nat) : Prop := Same [116, 117, 118, 119, 120, 121] (· < f) D D1 ∧ Same [122, 123, 124] (fun i => i < f ∨ 200 ≤ i) D D1 ∧ Same [125] (fun v => v < 60 * f ∨ 12000 ≤ v) D D1 ∧ Same [126, 127, 128, 129, 130] (· < nF) D D1 ∧ nbD nN D D1
abbrev lC : CS → CS → Prop := Fm [11007, 11008, 11009, 11011, 11012, 6901, 7601, 7701, 8401, 9101, 9401] [70, 71, 72, 73, 74, 75, 78, 79, 80, 81, 82, 83, 85, 86, 87, 88, 89, 90, 92, 93, 95, 96] [97]
abbrev lD : CS → CS → Prop := Fm [11346, 11348, 11349, 11350, 11351, 11352, 11308, 11320, 11321, 11322, 11323] [116, 117, 118, 121, 122, 123, 124, 125, 126, 127, 128, 129, 130, 131, 132, 133, 134] [135]
section PU
variable {C D C1 D1 C2 D2 : CS} {A B : Nat → Prop} {rs : List Nat} {en p f n nR nF nM nN nX ts si b : Nat} {cid : Nat → Nat} {E : Option Nat} {pv : Int32}
theorem Same.rfl : Same rs A C C := fun _ _ _ _ => Eq.refl _
theorem Same.trans (h : Same rs A C C1) (k : Same rs A C1 C2) : Same rs A C C2 := fun r hr i hi => (k r hr i hi).trans (h r hr i hi)
theorem Same.le (h : Same rs A C C1) (k : ∀ i, B i → A i) : Same rs B C C1 := fun r hr i hi => h r hr i (k i hi)
theorem Same.fm {ei ea eb : List Nat} (h : Fm ei ea eb C C1) (s : dj rs ea = true) : Same rs A C C1 := fun r hr i _ => by
  have a := h.ag (li := []) (la := rs) (lb := []) (by simp only [Bool.and_eq_true]; exact ⟨Eq.refl _, s, Eq.refl _⟩)
  rw [a.2.1 r hr]
theorem LC.rfl : LC C C f b nF ts nN := ⟨Same.rfl, Same.rfl, Same.rfl, Same.rfl, nbC.rfl⟩
theorem LD.rfl : LD D D f nF nN := ⟨Same.rfl, Same.rfl, Same.rfl, Same.rfl, nbD.rfl⟩
theorem LC.trans (h : LC C C1 f b nF ts nN) (k : LC C1 C2 f b nF ts nN) : LC C C2 f b nF ts nN := ⟨h.1.trans k.1, h.2.1.trans k.2.1, h.2.2.1.trans k.2.2.1, h.2.2.2.1.trans k.2.2.2.1, h.2.2.2.2.trans k.2.2.2.2⟩
theorem LD.trans (h : LD D D1 f nF nN) (k : LD D1 D2 f nF nN) : LD D D2 f nF nN := ⟨h.1.trans k.1, h.2.1.trans k.2.1, h.2.2.1.trans k.2.2.1, h.2.2.2.1.trans k.2.2.2.1, h.2.2.2.2.trans k.2.2.2.2⟩
theorem LC.le {f' b' nF' ts' nN' : Nat} (h : LC C C1 f' b' nF' ts' nN') (h1 : f ≤ f') (h2 : b ≤ b') (h3 : nF ≤ nF') (h4 : ts ≤ ts') (h5 : nN ≤ nN') : LC C C1 f b nF ts nN := ⟨h.1.le (fun i hi => Nat.lt_of_lt_of_le hi h1), h.2.1.le (fun i hi => Nat.lt_of_lt_of_le hi h2), h.2.2.1.le (fun i hi => Nat.lt_of_lt_of_le hi h4), h.2.2.2.1.le (fun i hi => Nat.lt_of_lt_of_le hi h3), h.2.2.2.2.le h5⟩
theorem LD.le {f' nF' nN' : Nat} (h : LD D D1 f' nF' nN') (h1 : f ≤ f') (h3 : nF ≤ nF') (h5 : nN ≤ nN') : LD D D1 f nF nN := ⟨h.1.le (fun i hi => Nat.lt_of_lt_of_le hi h1), h.2.1.le (fun i hi => by rcases hi with q | q; exact Or.inl (Nat.lt_of_lt_of_le q h1); exact Or.inr q), h.2.2.1.le (fun i hi => by rcases hi with q | q; exact Or.inl (by omega); exact Or.inr q), h.2.2.2.1.le (fun i hi => Nat.lt_of_lt_of_le hi h3), h.2.2.2.2.le h5⟩
theorem Pos.pp (P : Pos C D en p) : PP (sI C 11008 (gI C 11007)) (d3 D) en p (p + 60) 60 := by
  obtain ⟨p0, p1, p2, p3, p4, p5, p6, p7, p8⟩ := P
  have he := p0.1
  have T : Tx (sI C 11008 (gI C 11007)) (d3 D) en := p0.fm (Fm.I (ei := [11008]) (ea := []) (eb := []) (Eq.refl _)) (show Fm [11348, 11351] [] [] D (d3 D) from (Fm.I (Eq.refl _)).trans (Fm.I (Eq.refl _))) (Eq.refl _) (Eq.refl _)
  refine ⟨T, p1, p2, p3, p4, ?_, ?_, p5, p6, p7, by omega, by omega, by omega, by omega, by omega⟩
  · show gI C 11007 = _
    rw [p3, show (60 : Int32) = nI 60 from Eq.refl _, pk_sub (by omega), Nat.add_sub_cancel]
  · show gI D 11346 = _
    rw [p4, Nat.add_sub_cancel]
theorem SL.fm {ei ea eb fi fa fb : List Nat} {s : Int32} (S : SL C D f n s E pv) (h : Fm ei ea eb C C1) (k : Fm fi fa fb D D1) (ss : (dj [6901, 6900] ei && (dj [70, 71, 72, 73, 74, 75] ea && dj [] eb)) = true) (tt : (dj [11308] fi && (dj [116, 117, 118, 119, 120] fa && dj [] fb)) = true) : SL C1 D1 f n s E pv := by
  have a := h.ag ss
  have b := k.ag tt
  unfold SL at S ⊢
  rw [a.1 6901 (by decide), a.1 6900 (by decide), a.2.1 70 (by decide), a.2.1 71 (by decide), a.2.1 72 (by decide), a.2.1 73 (by decide), a.2.1 74 (by decide), a.2.1 75 (by decide), b.1 11308 (by decide), b.2.1 116 (by decide), b.2.1 117 (by decide), b.2.1 118 (by decide), b.2.1 119 (by decide), b.2.1 120 (by decide)]
  exact S
/-- the end of a sitting that went well: the model's pages are filled in -/
theorem SL.done {s : Int32} (S : SL C D f n s E pv) (h8 : gI D1 11308 = nI n) (h16 : gA D1 116 = gA D 116) (h17 : gA D1 117 = gA D 117) (h18 : gA D1 118 = gA D 118) (hp : ∀ i, i < n → gA D1 119 i = (if i < f then gA D 119 i else pv + nI ((i - f) / 10)) ∧ gA D1 120 i = (if i < f then gA D 120 i else nI (1 + (i - f) % 10))) : RLn C D1 n := by
  obtain ⟨s1, s2, s3, s4, s5, sa, sb, sc', sd, se, sf, sg, sh, -⟩ := S
  refine ⟨s1, s3, h8, s5, fun i hi => ?_, ?_, ?_⟩
  · obtain ⟨a1, a2, a3, a4⟩ := sa i hi
    obtain ⟨b1, b2⟩ := hp i hi
    rw [h16, h17, h18, b1, b2]
    refine ⟨a1, a2, ?_, ?_, a3, a4⟩
    · by_cases c : i < f
      · rw [if_pos c]; exact (sg i c).1
      · rw [if_neg c]; exact (sh i (by omega) hi).1
    · by_cases c : i < f
      · rw [if_pos c]; exact (sg i c).2
      · rw [if_neg c]; exact (sh i (by omega) hi).2
  · rw [h16, h17, h18]; exact sb
  · rw [h16, h17, h18]; exact sc'
/-- the beginning of a sitting -/
theorem RLn.sl {s : Int32} (R : RLn C D n) (h : ∀ i, i < n → gA D 117 i ≠ s) (h0 : n = 0 → pv = 1) (h1 : 0 < n → pv = gA D 119 (n - 1) + 1) : SL C D n n s none pv := by
  obtain ⟨r1, r2, r3, r4, r5, r6, r7⟩ := R
  exact ⟨r1, Nat.le_refl _, r2, r3, r4, fun i hi => ⟨(r5 i hi).1, (r5 i hi).2.1, (r5 i hi).2.2.2.2.1, (r5 i hi).2.2.2.2.2⟩, r6, r7, fun i a b => by omega, h, fun j a b => by omega, fun i hi => ⟨(r5 i hi).2.2.1, (r5 i hi).2.2.2.1⟩, fun i a b => by omega, h0, h1⟩
end PU
