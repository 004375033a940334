/-! frames by lists of intervals -/
def offL (L : List (Nat × Nat)) (a b : Nat) : Bool := L.all fun i => Nat.blt i.2 a || Nat.blt b i.1
def subL (L K : List (Nat × Nat)) : Bool := L.all fun i => K.any fun j => Nat.ble j.1 i.1 && Nat.ble i.2 j.2
theorem offL_iff {L : List (Nat × Nat)} {a b : Nat} : offL L a b = true ↔ ∀ i ∈ L, i.2 < a ∨ b < i.1 := by
  simp [offL, List.all_eq_true]
theorem offL_sub {L K : List (Nat × Nat)} {a b : Nat} (s : subL L K = true) (h : offL K a b = true) : offL L a b = true := by
  rw [offL_iff] at h ⊢
  intro i hi
  have := List.all_eq_true.mp s i hi
  obtain ⟨j, hj, h2⟩ := List.any_eq_true.mp this
  simp at h2
  have := h j hj
  omega
theorem offL_in {L : List (Nat × Nat)} {a b q : Nat} (h : offL L a b = true) (h1 : a ≤ q) (h2 : q ≤ b) : offL L q q = true := by
  rw [offL_iff] at h ⊢
  intro i hi
  have := h i hi
  omega
/-- nothing changed but the cells of some intervals; nothing made -/
def Fs (L : List (Nat × Nat)) (h h' : mm_Hp) : Prop := (∀ q, offL L q q = true → h'.1 q = h.1 q) ∧ h'.2 = h.2
theorem Fs.rfl {L : List (Nat × Nat)} {h : mm_Hp} : Fs L h h := ⟨fun _ _ => Eq.refl _, Eq.refl _⟩
theorem Fs.then {L K : List (Nat × Nat)} {h h1 h2 : mm_Hp} (f : Fs L h h1) (k : Fs K h1 h2) (s : subL K L = true) : Fs L h h2 := ⟨fun q hq => (k.1 q (offL_sub s hq)).trans (f.1 q hq), k.2.trans f.2⟩
theorem Fs.sub {L K : List (Nat × Nat)} {h h1 : mm_Hp} (f : Fs L h h1) (s : subL L K = true) : Fs K h h1 := ⟨fun q hq => f.1 q (offL_sub s hq), f.2⟩
theorem mm_fr.fs {a b : Nat} {h h1 : mm_Hp} (f : mm_fr a b h h1) : Fs [(a, b)] h h1 := ⟨fun q hq => f.1 q (by have := offL_iff.mp hq (a, b) (by simp); simp at this; omega), f.2⟩
theorem Fs.one {h h1 : mm_Hp} {r : Nat} {x : va_E} (e : h1 = mm_up h r x) : Fs [(r, r)] h h1 := (mm_fr.up (mm_fr.rfl (a := r) (b := r)) e (Nat.le_refl _) (Nat.le_refl _)).fs
theorem mm_at.fs {L : List (Nat × Nat)} {h h1 : mm_Hp} {r : Nat} {x : va_E} (k : mm_at h r x) (f : Fs L h h1) (n : offL L r r = true) : mm_at h1 r x := by
  refine ⟨k.1, ?_, (f.1 r n).trans k.2.2⟩
  rw [f.2]
  exact k.2.1
/-- things may have been made -/
def Fg (L : List (Nat × Nat)) (h h' : mm_Hp) : Prop := (∀ q, q < h.2.1 + 64 → offL L q q = true → h'.1 q = h.1 q) ∧ h.2.1 ≤ h'.2.1
theorem Fs.fg {L : List (Nat × Nat)} {h h1 : mm_Hp} (f : Fs L h h1) : Fg L h h1 := ⟨fun q _ hq => f.1 q hq, by rw [f.2]; exact Nat.le_refl _⟩
theorem Fg.rfl {L : List (Nat × Nat)} {h : mm_Hp} : Fg L h h := ⟨fun _ _ _ => Eq.refl _, Nat.le_refl _⟩
theorem Fg.then {L K : List (Nat × Nat)} {h h1 h2 : mm_Hp} (f : Fg L h h1) (k : Fg K h1 h2) (s : subL K L = true) : Fg L h h2 := ⟨fun q hl hq => (k.1 q (by have := f.2; omega) (offL_sub s hq)).trans (f.1 q hl hq), Nat.le_trans f.2 k.2⟩
theorem mm_at.fg {L : List (Nat × Nat)} {h h1 : mm_Hp} {r : Nat} {x : va_E} (k : mm_at h r x) (f : Fg L h h1) (n : offL L r r = true) : mm_at h1 r x := ⟨k.1, by have := f.2; have := k.2.1; omega, (f.1 r k.2.1 n).trans k.2.2⟩
def lowL (L : List (Nat × Nat)) : Bool := L.all fun i => Nat.ble 67 i.1 && Nat.blt i.2 147
/-- a row of bytes: the first, or a later one -/
def kR (a k : Nat) : Prop := k = a ∨ 147 ≤ k
theorem lowL.off {L : List (Nat × Nat)} {k : Nat} (h : lowL L = true) (hk : kR 66 k) : offL L k k = true := by
  rw [offL_iff]
  intro i hi
  have := List.all_eq_true.mp h i hi
  simp at this
  rcases hk with hk | hk <;> omega
theorem ByAt.fs {L : List (Nat × Nat)} {h h1 : mm_Hp} {r most s mk k cap : Nat} {bs : Nat → Nat} (B : ByAt h r most s mk k cap bs) (f : Fs L h h1) (hr : offL L r r = true) (hk : offL L k k = true) : ByAt h1 r most s mk k cap bs := by
  obtain ⟨f0, b1, b2, b3⟩ := B
  exact ⟨f0, b1.fs f hr, b2.fs f hk, b3⟩
theorem ByAt.fg {L : List (Nat × Nat)} {h h1 : mm_Hp} {r most s mk k cap : Nat} {bs : Nat → Nat} (B : ByAt h r most s mk k cap bs) (f : Fg L h h1) (hr : offL L r r = true) (hk : offL L k k = true) : ByAt h1 r most s mk k cap bs := by
  obtain ⟨f0, b1, b2, b3⟩ := B
  exact ⟨f0, b1.fg f hr, b2.fg f hk, b3⟩
theorem LiAt.fs {L : List (Nat × Nat)} {h h1 : mm_Hp} {n mk : Nat} {kd si pg pl fi an : Nat → Int32} (A : LiAt h n mk kd si pg pl fi an) (f : Fs L h h1) (o : offL L 69 75 = true) : LiAt h1 n mk kd si pg pl fi an :=
  ⟨A.1.fs f (offL_in o (by decide) (by decide)), A.2.1.fs f (offL_in o (by decide) (by decide)), A.2.2.1.fs f (offL_in o (by decide) (by decide)), A.2.2.2.1.fs f (offL_in o (by decide) (by decide)), A.2.2.2.2.1.fs f (offL_in o (by decide) (by decide)), A.2.2.2.2.2.1.fs f (offL_in o (by decide) (by decide)), A.2.2.2.2.2.2.fs f (offL_in o (by decide) (by decide))⟩
theorem ReAt.fs {L : List (Nat × Nat)} {h h1 : mm_Hp} {n mk : Nat} {la be da fr le : Nat → Int32} (A : ReAt h n mk la be da fr le) (f : Fs L h h1) (o : offL L 76 76 = true) (o2 : offL L 79 83 = true) : ReAt h1 n mk la be da fr le :=
  ⟨A.1.fs f o, A.2.1.fs f (offL_in o2 (by decide) (by decide)), A.2.2.1.fs f (offL_in o2 (by decide) (by decide)), A.2.2.2.1.fs f (offL_in o2 (by decide) (by decide)), A.2.2.2.2.1.fs f (offL_in o2 (by decide) (by decide)), A.2.2.2.2.2.fs f (offL_in o2 (by decide) (by decide))⟩
theorem FaAt.fs {L : List (Nat × Nat)} {h h1 : mm_Hp} {n mk : Nat} {li re pl su da va : Nat → Int32} (A : FaAt h n mk li re pl su da va) (f : Fs L h h1) (o : offL L 84 90 = true) : FaAt h1 n mk li re pl su da va :=
  ⟨A.1.fs f (offL_in o (by decide) (by decide)), A.2.1.fs f (offL_in o (by decide) (by decide)), A.2.2.1.fs f (offL_in o (by decide) (by decide)), A.2.2.2.1.fs f (offL_in o (by decide) (by decide)), A.2.2.2.2.1.fs f (offL_in o (by decide) (by decide)), A.2.2.2.2.2.1.fs f (offL_in o (by decide) (by decide)), A.2.2.2.2.2.2.fs f (offL_in o (by decide) (by decide))⟩
theorem MeAt.fs {L : List (Nat × Nat)} {h h1 : mm_Hp} {n mk : Nat} {li ex : Nat → Int32} (A : MeAt h n mk li ex) (f : Fs L h h1) (o : offL L 91 93 = true) : MeAt h1 n mk li ex :=
  ⟨A.1.fs f (offL_in o (by decide) (by decide)), A.2.1.fs f (offL_in o (by decide) (by decide)), A.2.2.fs f (offL_in o (by decide) (by decide))⟩
theorem NaAt.fs {L : List (Nat × Nat)} {h h1 : mm_Hp} {n mk : Nat} {li ex : Nat → Int32} {na : Nat → Int64} (A : NaAt h n mk li ex na) (f : Fs L h h1) (o : offL L 94 97 = true) : NaAt h1 n mk li ex na :=
  ⟨A.1.fs f (offL_in o (by decide) (by decide)), A.2.1.fs f (offL_in o (by decide) (by decide)), A.2.2.1.fs f (offL_in o (by decide) (by decide)), A.2.2.2.fs f (offL_in o (by decide) (by decide))⟩
theorem OrAt.fs {L : List (Nat × Nat)} {h h1 : mm_Hp} {n mk : Nat} {fr to lv gi lf : Nat → Int32} (A : OrAt h n mk fr to lv gi lf) (f : Fs L h h1) (o : offL L 98 103 = true) : OrAt h1 n mk fr to lv gi lf :=
  ⟨A.1.fs f (offL_in o (by decide) (by decide)), A.2.1.fs f (offL_in o (by decide) (by decide)), A.2.2.1.fs f (offL_in o (by decide) (by decide)), A.2.2.2.1.fs f (offL_in o (by decide) (by decide)), A.2.2.2.2.1.fs f (offL_in o (by decide) (by decide)), A.2.2.2.2.2.fs f (offL_in o (by decide) (by decide))⟩
theorem DiAt.fs {L : List (Nat × Nat)} {h h1 : mm_Hp} {n mk : Nat} {su da va ct fa : Nat → Int32} (A : DiAt h n mk su da va ct fa) (f : Fs L h h1) (o : offL L 104 109 = true) : DiAt h1 n mk su da va ct fa :=
  ⟨A.1.fs f (offL_in o (by decide) (by decide)), A.2.1.fs f (offL_in o (by decide) (by decide)), A.2.2.1.fs f (offL_in o (by decide) (by decide)), A.2.2.2.1.fs f (offL_in o (by decide) (by decide)), A.2.2.2.2.1.fs f (offL_in o (by decide) (by decide)), A.2.2.2.2.2.fs f (offL_in o (by decide) (by decide))⟩
theorem ScAt.fs {L : List (Nat × Nat)} {h h1 : mm_Hp} {s : Sc} (A : ScAt h s) (f : Fs L h h1) (o : offL L 110 110 = true) : ScAt h1 s := mm_at.fs A f o
/-! the pure reader: a fault is its kind and its place -/
abbrev Flt : Type := Nat × Nat
def pb {α β : Type} (x : Flt ⊕ α) (f : α → Flt ⊕ β) : Flt ⊕ β := match x with
  | .inl e => .inl e
  | .inr a => f a
def pStep (lim p : Nat) : Flt ⊕ Nat := if p < lim then .inr (p + 1) else .inl (2, p)
def pExp (b : Nat → Nat) (en lim : Nat) (c : Int32) (p : Nat) : Flt ⊕ Nat := if sgOf b en p = c then pStep lim p else .inl (1, p)
def pNum (b : Nat → Nat) (en lim : Nat) : Nat → Nat → Int32 → Flt ⊕ (Nat × Int32)
  | 0, p, v => if sgOf b en p < 48 ∨ ¬ sgOf b en p ≤ 57 then .inr (p, v) else .inl (2, p)
  | r + 1, p, v => if sgOf b en p < 48 ∨ ¬ sgOf b en p ≤ 57 then (if r = 3 then .inl (1, p) else .inr (p, v))
    else if p < lim then pNum b en lim r (p + 1) (10 * v + sgOf b en p - 48) else .inl (2, p)
def pNam (b : Nat → Nat) (en lim : Nat) : Nat → Nat → Int64 → Flt ⊕ (Nat × Int64)
  | 0, p, w => if nsOf (sgOf b en p) = true then .inl (2, p) else .inr (p, w)
  | r + 1, p, w => if nsOf (sgOf b en p) = true then (if p < lim then pNam b en lim r (p + 1) (w <<< (Int32.toInt64 8 &&& 63) ||| Int32.toInt64 (sgOf b en p)) else .inl (2, p))
    else (if r = 5 then .inl (1, p) else .inr (p, w))
/-- kinds of faults -/
def fOk (k : Nat) : Prop := 1 ≤ k ∧ k ≤ 5
theorem pNum_in {b : Nat → Nat} {en lim : Nat} : ∀ {r p : Nat} {v : Int32}, p ≤ lim → match pNum b en lim r p v with
    | .inl (k, _) => fOk k
    | .inr (p', _) => p ≤ p' ∧ p' ≤ lim ∧ p' ≤ p + r := by
  intro r
  induction r with
  | zero =>
    intro p v hp
    rw [pNum]
    by_cases c : sgOf b en p < 48 ∨ ¬ sgOf b en p ≤ 57
    · rw [if_pos c]; exact ⟨Nat.le_refl _, hp, Nat.le_refl _⟩
    · rw [if_neg c]; exact ⟨by decide, by decide⟩
  | succ r ih =>
    intro p v hp
    rw [pNum]
    by_cases c : sgOf b en p < 48 ∨ ¬ sgOf b en p ≤ 57
    · rw [if_pos c]
      by_cases e : r = 3
      · rw [if_pos e]; exact ⟨by decide, by decide⟩
      · rw [if_neg e]; exact ⟨Nat.le_refl _, hp, by omega⟩
    · rw [if_neg c]
      by_cases e : p < lim
      · rw [if_pos e]
        have := @ih (p + 1) (10 * v + sgOf b en p - 48) e
        revert this
        cases pNum b en lim r (p + 1) (10 * v + sgOf b en p - 48) with
        | inl x => exact fun q => q
        | inr x => exact fun q => ⟨by have := q.1; omega, q.2.1, by have := q.2.2; omega⟩
      · rw [if_neg e]; exact ⟨by decide, by decide⟩
theorem pNam_in {b : Nat → Nat} {en lim : Nat} : ∀ {r p : Nat} {v : Int64}, p ≤ lim → match pNam b en lim r p v with
    | .inl (k, _) => fOk k
    | .inr (p', _) => p ≤ p' ∧ p' ≤ lim ∧ p' ≤ p + r := by
  intro r
  induction r with
  | zero =>
    intro p v hp
    rw [pNam]
    by_cases c : nsOf (sgOf b en p) = true
    · rw [if_pos c]; exact ⟨by decide, by decide⟩
    · rw [if_neg c]; exact ⟨Nat.le_refl _, hp, Nat.le_refl _⟩
  | succ r ih =>
    intro p v hp
    rw [pNam]
    by_cases c : nsOf (sgOf b en p) = true
    · rw [if_pos c]
      by_cases e : p < lim
      · rw [if_pos e]
        have := @ih (p + 1) (v <<< (Int32.toInt64 8 &&& 63) ||| Int32.toInt64 (sgOf b en p)) e
        revert this
        cases pNam b en lim r (p + 1) (v <<< (Int32.toInt64 8 &&& 63) ||| Int32.toInt64 (sgOf b en p)) with
        | inl x => exact fun q => q
        | inr x => exact fun q => ⟨by have := q.1; omega, q.2.1, by have := q.2.2; omega⟩
      · rw [if_neg e]; exact ⟨by decide, by decide⟩
    · rw [if_neg c]
      by_cases e : r = 5
      · rw [if_pos e]; exact ⟨by decide, by decide⟩
      · rw [if_neg e]; exact ⟨Nat.le_refl _, hp, by omega⟩
theorem scNum_eq {b : Nat → Nat} {en lim : Nat} {nm : Int64} {fa pl : Int32} : ∀ {r p : Nat} {v : Int32}, match pNum b en lim r p v with
    | .inl (k, q) => ∃ p' v', scNumL b en lim nm fa pl r p v = (0, (en, p', lim, v', nm, nI k, nI q))
    | .inr (p', v') => scNumL b en lim nm fa pl r p v = (1, (en, p', lim, v', nm, fa, pl)) := by
  intro r
  induction r with
  | zero =>
    intro p v
    rw [pNum, scNumL]
    by_cases c : sgOf b en p < 48 ∨ ¬ sgOf b en p ≤ 57
    · rw [if_pos c, if_pos c]
    · rw [if_neg c, if_neg c]; exact ⟨p, v, rfl⟩
  | succ r ih =>
    intro p v
    rw [pNum, scNumL]
    by_cases c : sgOf b en p < 48 ∨ ¬ sgOf b en p ≤ 57
    · rw [if_pos c, if_pos c]
      by_cases e : r = 3
      · rw [if_pos e, if_pos e]; exact ⟨p, v, rfl⟩
      · rw [if_neg e, if_neg e]
    · rw [if_neg c, if_neg c]
      by_cases e : p < lim
      · rw [if_pos e, if_pos e]
        exact ih
      · rw [if_neg e, if_neg e]; exact ⟨p, v, rfl⟩
theorem scNam_eq {b : Nat → Nat} {en lim : Nat} {nu fa pl : Int32} : ∀ {r p : Nat} {v : Int64}, match pNam b en lim r p v with
    | .inl (k, q) => ∃ p' v', scNamL b en lim nu fa pl r p v = (0, (en, p', lim, nu, v', nI k, nI q))
    | .inr (p', v') => scNamL b en lim nu fa pl r p v = (1, (en, p', lim, nu, v', fa, pl)) := by
  intro r
  induction r with
  | zero =>
    intro p v
    rw [pNam, scNamL]
    by_cases c : nsOf (sgOf b en p) = true
    · rw [if_pos c, if_pos c]; exact ⟨p, v, rfl⟩
    · rw [if_neg c, if_neg c]
  | succ r ih =>
    intro p v
    rw [pNam, scNamL]
    by_cases c : nsOf (sgOf b en p) = true
    · rw [if_pos c, if_pos c]
      by_cases e : p < lim
      · rw [if_pos e, if_pos e]
        exact ih
      · rw [if_neg e, if_neg e]; exact ⟨p, v, rfl⟩
    · rw [if_neg c, if_neg c]
      by_cases e : r = 5
      · rw [if_pos e, if_pos e]; exact ⟨p, v, rfl⟩
      · rw [if_neg e, if_neg e]
/-- the text that is read: its row k, its bytes b, its end, the line's limit -/
def TxAt (h : mm_Hp) (k : Nat) (b : Nat → Nat) (en lim : Nat) : Prop := (∃ sz mk cap, ByAt h 65 3000 sz mk k cap b ∧ en ≤ sz) ∧ kR 66 k ∧ lim + 20 < 2 ^ 20
theorem TxAt.fs {L : List (Nat × Nat)} {h h1 : mm_Hp} {k en lim : Nat} {b : Nat → Nat} (T : TxAt h k b en lim) (f : Fs L h h1) (o : lowL L = true) : TxAt h1 k b en lim := by
  obtain ⟨⟨sz, mk, cap, B, h1⟩, h2, h3⟩ := T
  refine ⟨⟨sz, mk, cap, B.fs f ?_ (lowL.off o h2), h1⟩, h2, h3⟩
  rw [offL_iff]
  intro i hi
  have := List.all_eq_true.mp o i hi
  simp at this
  omega
def ScN (h : mm_Hp) (en lim k q : Nat) : Prop := ∃ p nu nm, ScAt h (en, p, lim, nu, nm, nI k, nI q)
section MPR
variable {g : mm_G} {d en p lim k : Nat} {nu : Int32} {nm : Int64} {b : Nat → Nat} {h : mm_Hp}
theorem TxAt.p20 (T : TxAt h k b en lim) (hp : p ≤ lim) : p < 2 ^ 20 ∧ p + 6 < 2 ^ 20 ∧ p + 4 < 2 ^ 20 ∧ lim < 2 ^ 20 := by have := T.2.2; omega
theorem m_num_no {k1 q1 : Nat} (hd : 3 ≤ d) (a110 : ScAt h (en, p, lim, nu, nm, 0, -1)) (T : TxAt h k b en lim) (hp : p ≤ lim) (e : pNum b en lim 4 p 0 = .inl (k1, q1)) : mm_P g d MX10_takeNumber 0 [some (.ref 110), none, none] [] h (fun o h' => o = .inl (some (.int 0)) ∧ ScN h' en lim k1 q1 ∧ mm_fr 110 110 h h') := by
  obtain ⟨⟨sz, mk, cap, B, hen⟩, hk, hl⟩ := id T
  have hs := B.choose_spec.2.2.2.2.1
  have z := scNum_eq (b := b) (en := en) (lim := lim) (nm := nm) (fa := 0) (pl := -1) (r := 4) (p := p) (v := 0)
  rw [e] at z
  obtain ⟨p', v', z⟩ := z
  have z2 := m_Sc_takeNumber (g := g) hd a110 B hen hs (by rcases hk with hk | hk <;> omega) (T.p20 hp).2.2.2 (T.p20 hp).2.2.1
  rw [z] at z2
  exact mm_cons z2 (fun o h' w => ⟨w.1, ⟨_, _, _, w.2.1⟩, w.2.2⟩)
theorem m_num_ok {p1 : Nat} {v1 : Int32} (hd : 3 ≤ d) (a110 : ScAt h (en, p, lim, nu, nm, 0, -1)) (T : TxAt h k b en lim) (hp : p ≤ lim) (e : pNum b en lim 4 p 0 = .inr (p1, v1)) : mm_P g d MX10_takeNumber 0 [some (.ref 110), none, none] [] h (fun o h' => o = .inl (some (.int 1)) ∧ ScAt h' (en, p1, lim, v1, nm, 0, -1) ∧ mm_fr 110 110 h h') := by
  obtain ⟨⟨sz, mk, cap, B, hen⟩, hk, hl⟩ := id T
  have hs := B.choose_spec.2.2.2.2.1
  have z := scNum_eq (b := b) (en := en) (lim := lim) (nm := nm) (fa := 0) (pl := -1) (r := 4) (p := p) (v := 0)
  rw [e] at z
  have z2 := m_Sc_takeNumber (g := g) hd a110 B hen hs (by rcases hk with hk | hk <;> omega) (T.p20 hp).2.2.2 (T.p20 hp).2.2.1
  rw [z] at z2
  exact z2
theorem m_nam_no {k1 q1 : Nat} (hd : 3 ≤ d) (a110 : ScAt h (en, p, lim, nu, nm, 0, -1)) (T : TxAt h k b en lim) (hp : p ≤ lim) (e : pNam b en lim 6 p 0 = .inl (k1, q1)) : mm_P g d MX10_takeName 0 [some (.ref 110), none, none] [] h (fun o h' => o = .inl (some (.int 0)) ∧ ScN h' en lim k1 q1 ∧ mm_fr 110 110 h h') := by
  obtain ⟨⟨sz, mk, cap, B, hen⟩, hk, hl⟩ := id T
  have hs := B.choose_spec.2.2.2.2.1
  have z := scNam_eq (b := b) (en := en) (lim := lim) (nu := nu) (fa := 0) (pl := -1) (r := 6) (p := p) (v := 0)
  rw [e] at z
  obtain ⟨p', v', z⟩ := z
  have z2 := m_Sc_takeName (g := g) hd a110 B hen hs (by rcases hk with hk | hk <;> omega) (T.p20 hp).2.2.2 (T.p20 hp).2.1
  rw [z] at z2
  exact mm_cons z2 (fun o h' w => ⟨w.1, ⟨_, _, _, w.2.1⟩, w.2.2⟩)
theorem m_nam_ok {p1 : Nat} {v1 : Int64} (hd : 3 ≤ d) (a110 : ScAt h (en, p, lim, nu, nm, 0, -1)) (T : TxAt h k b en lim) (hp : p ≤ lim) (e : pNam b en lim 6 p 0 = .inr (p1, v1)) : mm_P g d MX10_takeName 0 [some (.ref 110), none, none] [] h (fun o h' => o = .inl (some (.int 1)) ∧ ScAt h' (en, p1, lim, nu, v1, 0, -1) ∧ mm_fr 110 110 h h') := by
  obtain ⟨⟨sz, mk, cap, B, hen⟩, hk, hl⟩ := id T
  have hs := B.choose_spec.2.2.2.2.1
  have z := scNam_eq (b := b) (en := en) (lim := lim) (nu := nu) (fa := 0) (pl := -1) (r := 6) (p := p) (v := 0)
  rw [e] at z
  have z2 := m_Sc_takeName (g := g) hd a110 B hen hs (by rcases hk with hk | hk <;> omega) (T.p20 hp).2.2.2 (T.p20 hp).2.1
  rw [z] at z2
  exact z2
theorem m_exp_no {c : Int32} {k1 q1 : Nat} (hd : 2 ≤ d) (a110 : ScAt h (en, p, lim, nu, nm, 0, -1)) (T : TxAt h k b en lim) (hp : p ≤ lim) (e : pExp b en lim c p = .inl (k1, q1)) : mm_P g d MX10_expect 0 [some (.ref 110), some (.int c)] [] h (fun o h' => o = .inl (some (.int 0)) ∧ ScN h' en lim k1 q1 ∧ mm_fr 110 110 h h') := by
  obtain ⟨⟨sz, mk, cap, B, hen⟩, hk, hl⟩ := id T
  have hs := B.choose_spec.2.2.2.2.1
  have z2 := m_Sc_expect (g := g) (c := c) hd a110 B hen hs (T.p20 hp).1 (T.p20 hp).2.2.2
  have z : scExpect b c (en, p, lim, nu, nm, 0, -1) = (0, (en, p, lim, nu, nm, nI k1, nI q1)) := by
    unfold pExp pStep at e
    unfold scExpect scStep scRefuse
    by_cases c1 : sgOf b en p = c
    · rw [if_pos c1] at e
      rw [if_pos c1]
      by_cases c2 : p < lim
      · rw [if_pos c2] at e; cases e
      · rw [if_neg c2] at e
        rw [if_neg c2]
        cases e; rfl
    · rw [if_neg c1] at e
      rw [if_neg c1]
      cases e; rfl
  rw [z] at z2
  exact mm_cons z2 (fun o h' w => ⟨w.1, ⟨_, _, _, w.2.1⟩, w.2.2⟩)
theorem m_exp_ok {c : Int32} {p1 : Nat} (hd : 2 ≤ d) (a110 : ScAt h (en, p, lim, nu, nm, 0, -1)) (T : TxAt h k b en lim) (hp : p ≤ lim) (e : pExp b en lim c p = .inr p1) : mm_P g d MX10_expect 0 [some (.ref 110), some (.int c)] [] h (fun o h' => o = .inl (some (.int 1)) ∧ ScAt h' (en, p1, lim, nu, nm, 0, -1) ∧ mm_fr 110 110 h h') := by
  obtain ⟨⟨sz, mk, cap, B, hen⟩, hk, hl⟩ := id T
  have hs := B.choose_spec.2.2.2.2.1
  have z2 := m_Sc_expect (g := g) (c := c) hd a110 B hen hs (T.p20 hp).1 (T.p20 hp).2.2.2
  have z : scExpect b c (en, p, lim, nu, nm, 0, -1) = (1, (en, p1, lim, nu, nm, 0, -1)) := by
    unfold pExp pStep at e
    unfold scExpect scStep
    by_cases c1 : sgOf b en p = c
    · rw [if_pos c1] at e
      rw [if_pos c1]
      by_cases c2 : p < lim
      · rw [if_pos c2] at e
        rw [if_pos c2]
        cases e; rfl
      · rw [if_neg c2] at e; cases e
    · rw [if_neg c1] at e; cases e
  rw [z] at z2
  exact z2
theorem pExp_in {c : Int32} (hp : p ≤ lim) : match pExp b en lim c p with
    | .inl (k, _) => fOk k
    | .inr p' => p' = p + 1 ∧ p' ≤ lim := by
  unfold pExp pStep
  by_cases c1 : sgOf b en p = c
  · rw [if_pos c1]
    by_cases c2 : p < lim
    · rw [if_pos c2]; exact ⟨rfl, c2⟩
    · rw [if_neg c2]; exact ⟨by decide, by decide⟩
  · rw [if_neg c1]; exact ⟨by decide, by decide⟩
theorem m_step_ok (hd : 1 ≤ d) (a110 : ScAt h (en, p, lim, nu, nm, 0, -1)) (T : TxAt h k b en lim) (hp : p < lim) : mm_P g d MX10_step 0 [some (.ref 110)] [] h (fun o h' => o = .inl (some (.int 1)) ∧ ScAt h' (en, p + 1, lim, nu, nm, 0, -1) ∧ mm_fr 110 110 h h') :=
  m_Sc_step1 hd a110 (T.p20 (Nat.le_of_lt hp)).1 (T.p20 (Nat.le_of_lt hp)).2.2.2 hp
theorem m_step_no (hd : 1 ≤ d) (a110 : ScAt h (en, p, lim, nu, nm, 0, -1)) (T : TxAt h k b en lim) (hp : p ≤ lim) (hn : ¬ p < lim) : mm_P g d MX10_step 0 [some (.ref 110)] [] h (fun o h' => o = .inl (some (.int 0)) ∧ ScN h' en lim 2 p ∧ mm_fr 110 110 h h') :=
  mm_cons (m_Sc_step0 hd a110 (T.p20 hp).1 (T.p20 hp).2.2.2 hn) (fun o h' w => ⟨w.1, ⟨_, _, _, w.2.1⟩, w.2.2⟩)
theorem m_refuse {k1 q1 : Nat} (a110 : ScAt h (en, p, lim, nu, nm, 0, -1)) : mm_P g d MX10_refuse 0 [some (.ref 110), some (.int (nI k1)), some (.int (nI q1))] [] h (fun o h' => o = .inl (some (.int 0)) ∧ ScN h' en lim k1 q1 ∧ mm_fr 110 110 h h') :=
  mm_cons (m_Sc_refuse a110) (fun o h' w => ⟨w.1, ⟨_, _, _, w.2.1⟩, w.2.2⟩)
theorem m_sign (hd : 1 ≤ d) (a110 : ScAt h (en, p, lim, nu, nm, 0, -1)) (T : TxAt h k b en lim) (hp : p ≤ lim) : mm_P g d MX10_sign 0 [some (.ref 110)] [] h (mm_pureI (sgOf b en p) h) := by
  obtain ⟨⟨sz, mk, cap, B, hen⟩, hk, hl⟩ := id T
  exact m_Sc_sign hd a110 B hen B.choose_spec.2.2.2.2.1 (T.p20 hp).1
theorem m_lineEnds (hd : 2 ≤ d) (a110 : ScAt h (en, p, lim, nu, nm, 0, -1)) (T : TxAt h k b en lim) (hp : p ≤ lim) : mm_P g d MX10_lineEnds 0 [some (.ref 110)] [] h (mm_pureI (if en ≤ p ∨ sgOf b en p = 10 then 1 else 0) h) := by
  obtain ⟨⟨sz, mk, cap, B, hen⟩, hk, hl⟩ := id T
  exact m_Sc_lineEnds hd a110 B hen B.choose_spec.2.2.2.2.1 (T.p20 hp).1
end MPR
