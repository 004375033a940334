/-! THE PURE STATEMENT. Basics; orders -/
theorem sc {m n : Nat} (h : m < n) : ∃ k, n = k + 1 ∧ m ≤ k := ⟨n - 1, by omega, by omega⟩
theorem ite_tt {α : Type} {a b : α} : (if true = true then a else b) = a := if_pos rfl
theorem bnd_some {α β : Type} {a : α} {k : α → Option β} : bnd (some a) k = k a := rfl
theorem bd_eq {α β : Type} {a : α} {k : α → Option β} : bd a k = k a := rfl
theorem bns_l {α β γ : Type} {a : α} {k : α → Option γ} {l : β → Option γ} : bns (some (.inl a)) k l = k a := rfl
theorem bns_r {α β γ : Type} {a : β} {k : α → Option γ} {l : β → Option γ} : bns (some (.inr a)) k l = l a := rfl
theorem bnx_l {α β : Type} {E : String} {C : CS} {k : α → CS → Option ((String ⊕ β) × CS)} : bnx (some (.inl E, C)) k = some (.inl E, C) := rfl
theorem bnx_r {α β : Type} {a : α} {C : CS} {k : α → CS → Option ((String ⊕ β) × CS)} : bnx (some (.inr a, C)) k = k a C := rfl
def b2 (b : Bool) : Int32 := if b = true then 1 else 0
theorem b2_0 {b : Bool} : b2 b = 0 ↔ b = false := by cases b <;> decide
theorem b2_1 {b : Bool} : b2 b = 1 ↔ b = true := by cases b <;> decide
theorem b2_and (b : Bool) : b2 b &&& 1 = b2 b := by cases b <;> decide
def anyF (P : Nat → Bool) : Nat → Nat → Bool
  | 0, _ => false
  | m + 1, i => P i || anyF P m (i + 1)
theorem anyF_cg {P Q : Nat → Bool} : ∀ {m i : Nat}, (∀ j, i ≤ j → j < i + m → P j = Q j) → anyF P m i = anyF Q m i := by
  intro m
  induction m with
  | zero => intro i h; rfl
  | succ m ih =>
    intro i h
    rw [anyF, anyF, h i (Nat.le_refl _) (by omega), ih (fun j h1 h2 => h j (by omega) (by omega))]
theorem anyF_iff {P : Nat → Bool} : ∀ {m i : Nat}, anyF P m i = true ↔ ∃ j, i ≤ j ∧ j < i + m ∧ P j = true := by
  intro m
  induction m with
  | zero =>
    intro i
    constructor
    · intro h; cases h
    · intro ⟨j, h1, h2, _⟩; omega
  | succ m ih =>
    intro i
    rw [anyF, Bool.or_eq_true, ih]
    constructor
    · rintro (h | ⟨j, h1, h2, h3⟩)
      · exact ⟨i, Nat.le_refl _, by omega, h⟩
      · exact ⟨j, by omega, by omega, h3⟩
    · intro ⟨j, h1, h2, h3⟩
      by_cases e : j = i
      · subst e; exact Or.inl h3
      · exact Or.inr ⟨j, by omega, by omega, h3⟩
def onO (fr to gi lf : Nat → Int32) (l k : Int32) (i : Nat) : Bool := !(decide (l < fr i)) && !(decide (to i < l)) && !(decide (k < gi i)) && (decide (lf i = -1) || !(decide (lf i ≤ k)))
theorem onO_cg {fr to gi lf fr' to' gi' lf' : Nat → Int32} {l k : Int32} {i : Nat} (h1 : fr i = fr' i) (h2 : to i = to' i) (h3 : gi i = gi' i) (h4 : lf i = lf' i) : onO fr to gi lf l k i = onO fr' to' gi' lf' l k i := by
  unfold onO
  rw [h1, h2, h3, h4]
section PO
variable {C D : CS} {l k : Int32} {i n N : Nat}
theorem c_holds (hi : i < 60) : f_X7_holds (nI i) l k C = some (b2 (onO (gA C 99) (gA C 100) (gA C 102) (gA C 103) l k i)) := by
  unfold f_X7_holds onO b2
  rw [inb_nI hi (by decide), nI_clamp (by omega)]
  by_cases c1 : l < gA C 99 i <;> by_cases c2 : gA C 100 i < l <;> by_cases c3 : k < gA C 102 i <;> by_cases c4 : gA C 103 i = -1 <;> by_cases c5 : gA C 103 i ≤ k <;> simp [c1, c2, c3, c4, c5]
theorem d_isOn (hi : i < 60) : f_X12_isOn (nI i) l k D = some (b2 (onO (gA D 136) (gA D 137) (gA D 139) (gA D 140) l k i)) := by
  unfold f_X12_isOn onO b2
  rw [inb_nI hi (by decide), nI_clamp (by omega)]
  by_cases c1 : l < gA D 136 i <;> by_cases c2 : gA D 137 i < l <;> by_cases c3 : k < gA D 139 i <;> by_cases c4 : gA D 140 i = -1 <;> by_cases c5 : gA D 140 i ≤ k <;> simp [c1, c2, c3, c4, c5]
def skC (C : CS) (l k : Int32) (i : Nat) : Bool := decide (gA C 101 i = 0) && onO (gA C 99) (gA C 100) (gA C 102) (gA C 103) l k i
def skD (D : CS) (l k : Int32) (i : Nat) : Bool := decide (gA D 138 i = 0) && onO (gA D 136) (gA D 137) (gA D 139) (gA D 140) l k i
theorem c_strikeL (h : gI C 9801 = nI n) (hn : n ≤ 60) : ∀ m i z : Nat, i + m = n → m < z → f_X7_strike_L2 N l k C z (nI i) = some (if anyF (skC C l k) m i = true then .inl 1 else .inr ()) := by
  intro m
  induction m with
  | zero =>
    intro i z hi hz
    obtain ⟨z, rfl, -⟩ := sc hz
    rw [f_X7_strike_L2, h, if_pos (nI_le (by omega) (by omega))]
    rfl
  | succ m ih =>
    intro i z hi hz
    obtain ⟨z, rfl, hz⟩ := sc hz
    rw [f_X7_strike_L2, h, if_neg (nI_ge (by omega) (by omega)), inb_nI (by omega) (by decide), nI_clamp (by omega), if_pos rfl, c_holds (by omega), bnd_some, nI_1, ih (i + 1) z (by omega) (by omega), anyF, skC]
    by_cases c1 : gA C 101 i = 0 <;> cases c2 : onO (gA C 99) (gA C 100) (gA C 102) (gA C 103) l k i <;> simp [c1, b2]
theorem c_strike (h : gI C 9801 = nI n) (hn : n ≤ 60) (hN : 60 < N) : f_X7_strike N l k C = some (b2 (anyF (skC C l k) n 0)) := by
  unfold f_X7_strike
  rw [show (0 : Int32) = nI 0 from rfl, c_strikeL h hn n 0 N (by omega) (by omega)]
  cases anyF (skC C l k) n 0 <;> rfl
theorem d_strikeL (h : gI D 11334 = nI n) (hn : n ≤ 60) : ∀ (m i z : Nat) (f : Bool), i + m = n → m < z → f_X12_isStruck_L5 N l k D z (b2 f) (nI i) = some (b2 (f || anyF (skD D l k) m i)) := by
  intro m
  induction m with
  | zero =>
    intro i z f hi hz
    obtain ⟨z, rfl, -⟩ := sc hz
    rw [f_X12_isStruck_L5, h, if_pos (nI_le (by omega) (by omega)), anyF, Bool.or_false]
  | succ m ih =>
    intro i z f hi hz
    obtain ⟨z, rfl, hz⟩ := sc hz
    rw [f_X12_isStruck_L5, h, if_neg (nI_ge (by omega) (by omega)), inb_nI (by omega) (by decide), nI_clamp (by omega), if_pos rfl, d_isOn (by omega), bnd_some, nI_1, ih (i + 1) z f (by omega) (by omega), show (1 : Int32) = b2 true from rfl, ih (i + 1) z true (by omega) (by omega), anyF, skD]
    by_cases c1 : gA D 138 i = 0 <;> cases c2 : onO (gA D 136) (gA D 137) (gA D 139) (gA D 140) l k i <;> simp [c1, b2]
theorem d_strike (h : gI D 11334 = nI n) (hn : n ≤ 60) (hN : 60 < N) : f_X12_isStruck N l k D = some (b2 (anyF (skD D l k) n 0)) := by
  unfold f_X12_isStruck
  rw [show f_X12_isStruck_L5 N l k D N 0 0 = f_X12_isStruck_L5 N l k D N (b2 false) (nI 0) from rfl, d_strikeL h hn n 0 N false (by omega) (by omega), bnd_some, if_pos (b2_and _), Bool.false_or]
def mxF (L : Nat → Int32) (P : Nat → Bool) : Nat → Nat → Int32 → Int32
  | 0, _, v => v
  | m + 1, i, v => mxF L P m (i + 1) (if v < L i ∧ P i = true then L i else v)
theorem mxF_cg {L L' : Nat → Int32} {P P' : Nat → Bool} : ∀ {m i : Nat} {v : Int32}, (∀ j, i ≤ j → j < i + m → L j = L' j ∧ P j = P' j) → mxF L P m i v = mxF L' P' m i v := by
  intro m
  induction m with
  | zero => intro i v h; rfl
  | succ m ih =>
    intro i v h
    rw [mxF, mxF, (h i (Nat.le_refl _) (by omega)).1, (h i (Nat.le_refl _) (by omega)).2, ih (fun j h1 h2 => h j (by omega) (by omega))]
theorem c_levelL (h : gI C 9801 = nI n) (hn : n ≤ 60) : ∀ (m i z : Nat) (v : Int32), i + m = n → m < z → f_X7_levelOf_L5 N l k C z v (nI i) = some (mxF (gA C 101) (onO (gA C 99) (gA C 100) (gA C 102) (gA C 103) l k) m i v) := by
  intro m
  induction m with
  | zero =>
    intro i z v hi hz
    obtain ⟨z, rfl, -⟩ := sc hz
    rw [f_X7_levelOf_L5, h, if_pos (nI_le (by omega) (by omega)), mxF]
  | succ m ih =>
    intro i z v hi hz
    obtain ⟨z, rfl, hz⟩ := sc hz
    rw [f_X7_levelOf_L5, h, if_neg (nI_ge (by omega) (by omega)), inb_nI (by omega) (by decide), nI_clamp (by omega), if_pos rfl, if_pos rfl, c_holds (by omega), bnd_some, nI_1, ih (i + 1) z _ (by omega) (by omega), ih (i + 1) z _ (by omega) (by omega), mxF]
    by_cases c1 : gA C 101 i ≤ v
    · rw [if_pos c1, if_neg (fun z => Int32.not_le.mpr z.1 c1)]
    · rw [if_neg c1]
      cases c2 : onO (gA C 99) (gA C 100) (gA C 102) (gA C 103) l k i
      · rw [if_pos (b2_0.mpr rfl), if_neg (fun z => by cases z.2)]
      · rw [if_neg (by decide), if_pos ⟨Int32.not_le.mp c1, rfl⟩]
theorem c_level (h : gI C 9801 = nI n) (hn : n ≤ 60) (hN : 60 < N) : f_X7_levelOf N l k C = some (mxF (gA C 101) (onO (gA C 99) (gA C 100) (gA C 102) (gA C 103) l k) n 0 0) := by
  unfold f_X7_levelOf
  rw [show f_X7_levelOf_L5 N l k C N 0 0 = f_X7_levelOf_L5 N l k C N 0 (nI 0) from rfl, c_levelL h hn n 0 N 0 (by omega) (by omega), bnd_some]
theorem d_levelL (h : gI D 11334 = nI n) (hn : n ≤ 60) : ∀ (m i z : Nat) (v : Int32), i + m = n → m < z → f_X12_level_L5 N l k D z v (nI i) = some (mxF (gA D 138) (onO (gA D 136) (gA D 137) (gA D 139) (gA D 140) l k) m i v) := by
  intro m
  induction m with
  | zero =>
    intro i z v hi hz
    obtain ⟨z, rfl, -⟩ := sc hz
    rw [f_X12_level_L5, h, if_pos (nI_le (by omega) (by omega)), mxF]
  | succ m ih =>
    intro i z v hi hz
    obtain ⟨z, rfl, hz⟩ := sc hz
    rw [f_X12_level_L5, h, if_neg (nI_ge (by omega) (by omega)), d_isOn (by omega), bnd_some, inb_nI (by omega) (by decide), nI_clamp (by omega), if_pos rfl, nI_1, ih (i + 1) z _ (by omega) (by omega), ih (i + 1) z _ (by omega) (by omega), mxF]
    cases c2 : onO (gA D 136) (gA D 137) (gA D 139) (gA D 140) l k i
    · rw [if_pos (b2_0.mpr rfl), if_neg (fun z => by cases z.2)]
    · rw [if_neg (by decide)]
      by_cases c1 : v < gA D 138 i
      · rw [if_pos c1, if_pos ⟨c1, rfl⟩]
      · rw [if_neg c1, if_neg (fun z => c1 z.1)]
theorem d_level (h : gI D 11334 = nI n) (hn : n ≤ 60) (hN : 60 < N) : f_X12_level N l k D = some (mxF (gA D 138) (onO (gA D 136) (gA D 137) (gA D 139) (gA D 140) l k) n 0 0) := by
  unfold f_X12_level
  rw [show f_X12_level_L5 N l k D N 0 0 = f_X12_level_L5 N l k D N 0 (nI 0) from rfl, d_levelL h hn n 0 N 0 (by omega) (by omega), bnd_some]
/-- orders on both sides -/
def RO (C D : CS) (n : Nat) : Prop := n ≤ 60 ∧ gI C 9801 = nI n ∧ gI D 11334 = nI n ∧ gI C 9800 = 60 ∧ ∀ i, i < n → gA C 99 i = gA D 136 i ∧ gA C 100 i = gA D 137 i ∧ gA C 101 i = gA D 138 i ∧ gA C 102 i = gA D 139 i ∧ gA C 103 i = gA D 140 i
def sk (D : CS) (n : Nat) (l k : Int32) : Bool := anyF (skD D l k) n 0
theorem RO.strike (R : RO C D n) (hN : 60 < N) : f_X7_strike N l k C = some (b2 (sk D n l k)) ∧ f_X12_isStruck N l k D = some (b2 (sk D n l k)) := by
  obtain ⟨r1, r2, r3, -, r4⟩ := R
  refine ⟨?_, d_strike r3 r1 hN⟩
  rw [c_strike r2 r1 hN, sk, anyF_cg (P := skC C l k) (Q := skD D l k)]
  intro j _ hj
  obtain ⟨e1, e2, e3, e4, e5⟩ := r4 j (by omega)
  rw [skC, skD, e3, onO_cg e1 e2 e4 e5]
def lvl (D : CS) (n : Nat) (l k : Int32) : Int32 := mxF (gA D 138) (onO (gA D 136) (gA D 137) (gA D 139) (gA D 140) l k) n 0 0
theorem RO.level (R : RO C D n) (hN : 60 < N) : f_X7_levelOf N l k C = some (lvl D n l k) ∧ f_X12_level N l k D = some (lvl D n l k) := by
  obtain ⟨r1, r2, r3, -, r4⟩ := R
  refine ⟨?_, d_level r3 r1 hN⟩
  rw [c_level r2 r1 hN, lvl]
  congr 1
  apply mxF_cg
  intro j _ hj
  obtain ⟨e1, e2, e3, e4, e5⟩ := r4 j (by omega)
  exact ⟨e3, onO_cg e1 e2 e4 e5⟩
end PO
