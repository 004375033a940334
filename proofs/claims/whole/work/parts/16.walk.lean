/-! rows for walks that a program lays: a changed heap gets a name; places are natural numbers -/
theorem mm_at.up1 {h h1 : mm_Hp} {r : Nat} {x y : va_E} (a : mm_at h r x) (e : h1 = mm_up h r y) : mm_at h1 r y := by rw [e]; exact a.up
theorem mm_at.ne1 {h h1 : mm_Hp} {r q : Nat} {x y : va_E} (a : mm_at h r x) (e : h1 = mm_up h q y) (n : r ≠ q) : mm_at h1 r x := by rw [e]; exact a.ne n
theorem mm_at.add1 {h h1 : mm_Hp} {r N : Nat} {x y : va_E} (a : mm_at h r x) (e : h1 = mm_add h y N) : mm_at h1 r x := by rw [e]; exact a.add
theorem mm_at.new1 {h h1 : mm_Hp} {N : Nat} {y : va_E} (e : h1 = mm_add h y N) : mm_at h1 (h.2.1 + 64) y := by rw [e]; exact mm_at.new
/-- nothing changed but cells a to b; nothing made -/
def mm_fr (a b : Nat) (h h' : mm_Hp) : Prop := (∀ q, ¬ (a ≤ q ∧ q ≤ b) → h'.1 q = h.1 q) ∧ h'.2 = h.2
theorem mm_fr.rfl {a b : Nat} {h : mm_Hp} : mm_fr a b h h := ⟨fun _ _ => Eq.refl _, Eq.refl _⟩
theorem mm_fr.up {a b : Nat} {h h1 h2 : mm_Hp} {r : Nat} {x : va_E} (f : mm_fr a b h h1) (e : h2 = mm_up h1 r x) (h3 : a ≤ r) (h4 : r ≤ b) : mm_fr a b h h2 := by
  subst e
  refine ⟨fun q hq => ?_, f.2⟩
  show va_up h1.1 r x q = h.1 q
  rw [va_up, if_neg (by omega)]
  exact f.1 q hq
theorem mm_fr.trans {a b c d : Nat} {h h1 h2 : mm_Hp} (f : mm_fr a b h h1) (k : mm_fr c d h1 h2) {l r : Nat} (h3 : l ≤ a) (h4 : b ≤ r) (h5 : l ≤ c) (h6 : d ≤ r) : mm_fr l r h h2 :=
  ⟨fun q hq => (k.1 q (by omega)).trans (f.1 q (by omega)), k.2.trans f.2⟩
theorem mm_at.fr {a b r : Nat} {h h1 : mm_Hp} {x : va_E} (k : mm_at h r x) (f : mm_fr a b h h1) (n : ¬ (a ≤ r ∧ r ≤ b)) : mm_at h1 r x := by
  refine ⟨k.1, ?_, (f.1 r n).trans k.2.2⟩
  rw [f.2]
  exact k.2.1
section MMW
variable {g : mm_G} {d : Nat} {M : mm_Me} {pc : Nat} {ls : List (Option Value)} {st : List Value} {h : mm_Hp} {Post : mm_Ou → mm_Hp → Prop}
theorem mm_put1 {r index ci k : Nat} {C : String} {T : u_T} {N : Nat} {ty : Nat → FieldType} {fs fs' : List Value} {v : Value} (hl : mm_lk M.1.cls index ci k C T N ty) (hfin : (T k).2.2.2 = false) (hd : decode M.2.1 pc = .ok (.putfield index, 3)) (a : mm_at h r (.inr (ci, fs))) (hn : ∀ v', v' = mm_v g v → narrow (ty k) v' = v') (hfit : ∀ v', v' = mm_v g v → fits (ty k) v' = true) (hlen : k < fs.length) (hfs : fs.set k v = fs')
    (kk : ∀ h1, h1 = mm_up h r (.inr (ci, fs')) → mm_P g d M (pc + 3) ls st h1 Post) : mm_P g d M pc ls (v :: .ref r :: st) h Post := by
  subst hfs
  exact mm_put hl hfin hd a hn hfit hlen (kk _ rfl)
theorem mm_putF1 {r index ci k : Nat} {C : String} {T : u_T} {N : Nat} {ty : Nat → FieldType} {fs fs' : List Value} {v : Value} (hl : mm_lk M.1.cls index ci k C T N ty) (hfin : (T k).2.2.2 = true) (hin : M.1.name = "<init>") (hown : (T k).1 = M.1.cls) (hd : decode M.2.1 pc = .ok (.putfield index, 3)) (a : mm_at h r (.inr (ci, fs))) (hn : ∀ v', v' = mm_v g v → narrow (ty k) v' = v') (hfit : ∀ v', v' = mm_v g v → fits (ty k) v' = true) (hlen : k < fs.length) (hfs : fs.set k v = fs')
    (kk : ∀ h1, h1 = mm_up h r (.inr (ci, fs')) → mm_P g d M (pc + 3) ls st h1 Post) : mm_P g d M pc ls (v :: .ref r :: st) h Post := by
  subst hfs
  exact mm_putF hl hfin hin hown hd a hn hfit hlen (kk _ rfl)
theorem mm_ialdN {r n i : Nat} {f : Nat → Int32} (hd : decode M.2.1 pc = .ok (.iaload, 1)) (a : mm_at h r (.inl (0, n, .inl f))) (hi : i < n) (hn : n < 2 ^ 31) (kk : mm_P g d M (pc + 1) ls (.int (f i) :: st) h Post) : mm_P g d M pc ls (.int (nI i) :: .ref r :: st) h Post :=
  mm_iald hd a (vp_in_nI hi hn) (by rw [nI_clamp (Nat.lt_trans hi hn)]; exact kk)
theorem mm_baldN {r n i : Nat} {f : Nat → Int32} (hd : decode M.2.1 pc = .ok (.baload, 1)) (a : mm_at h r (.inl (1, n, .inl f))) (hi : i < n) (hn : n < 2 ^ 31) (kk : mm_P g d M (pc + 1) ls (.int (f i) :: st) h Post) : mm_P g d M pc ls (.int (nI i) :: .ref r :: st) h Post :=
  mm_bald hd a (vp_in_nI hi hn) (by rw [nI_clamp (Nat.lt_trans hi hn)]; exact kk)
theorem mm_laldN {r n i : Nat} {f : Nat → Int64} (hd : decode M.2.1 pc = .ok (.laload, 1)) (a : mm_at h r (.inl (2, n, .inr (.inl f)))) (hi : i < n) (hn : n < 2 ^ 31) (kk : mm_P g d M (pc + 1) ls (.long (f i) :: st) h Post) : mm_P g d M pc ls (.int (nI i) :: .ref r :: st) h Post :=
  mm_lald hd a (vp_in_nI hi hn) (by rw [nI_clamp (Nat.lt_trans hi hn)]; exact kk)
theorem mm_iastN {r n i : Nat} {f : Nat → Int32} {x : Int32} (hd : decode M.2.1 pc = .ok (.iastore, 1)) (a : mm_at h r (.inl (0, n, .inl f))) (hi : i < n) (hn : n < 2 ^ 31) (kk : ∀ h1, h1 = mm_up h r (.inl (0, n, .inl (upd f i x))) → mm_P g d M (pc + 1) ls st h1 Post) : mm_P g d M pc ls (.int x :: .int (nI i) :: .ref r :: st) h Post :=
  mm_iast hd a (vp_in_nI hi hn) (by rw [nI_clamp (Nat.lt_trans hi hn)]; exact kk _ rfl)
theorem mm_bastN {r n i : Nat} {f : Nat → Int32} {x : Int32} (hd : decode M.2.1 pc = .ok (.bastore, 1)) (a : mm_at h r (.inl (1, n, .inl f))) (hi : i < n) (hn : n < 2 ^ 31) (kk : ∀ h1, h1 = mm_up h r (.inl (1, n, .inl (upd f i x.toInt8.toInt32))) → mm_P g d M (pc + 1) ls st h1 Post) : mm_P g d M pc ls (.int x :: .int (nI i) :: .ref r :: st) h Post :=
  mm_bast hd a (vp_in_nI hi hn) (by rw [nI_clamp (Nat.lt_trans hi hn), vp_nar_byte]; exact kk _ rfl)
theorem mm_lastN {r n i : Nat} {f : Nat → Int64} {x : Int64} (hd : decode M.2.1 pc = .ok (.lastore, 1)) (a : mm_at h r (.inl (2, n, .inr (.inl f)))) (hi : i < n) (hn : n < 2 ^ 31) (kk : ∀ h1, h1 = mm_up h r (.inl (2, n, .inr (.inl (vp_updL f i x)))) → mm_P g d M (pc + 1) ls st h1 Post) : mm_P g d M pc ls (.long x :: .int (nI i) :: .ref r :: st) h Post :=
  mm_last hd a (vp_in_nI hi hn) (by rw [nI_clamp (Nat.lt_trans hi hn)]; exact kk _ rfl)
theorem mm_alenN {r t n : Nat} {x : (Nat → Int32) ⊕ (Nat → Int64) ⊕ (Nat → UInt32) ⊕ (Nat → UInt64) ⊕ (Nat → Option Nat)} (ht : t < 3) (hd : decode M.2.1 pc = .ok (.arraylength, 1)) (a : mm_at h r (.inl (t, n, x))) (kk : mm_P g d M (pc + 1) ls (.int (nI n) :: st) h Post) : mm_P g d M pc ls (.ref r :: st) h Post :=
  mm_alen ht hd a kk
theorem mm_new1 {index ci : Nat} {C : String} {T : u_T} {N : Nat} {ty : Nat → FieldType} {fs : List Value} (hk : mm_kc ci C T N ty) (hcl : Cond.classLink M.1.cls index C ∈ mm_tb) (hin : Cond.instantiable C N ∈ mm_tb) (hini : Cond.initialized C ∈ mm_tb) (hfs : ∀ j, j < N → defaultValue (ty j) = vp_V fs j) (hm : fs.map (mm_v g) = fs) (hd : decode M.2.1 pc = .ok (.new index, 3))
    (kk : ∀ h1, h1 = mm_add h (.inr (ci, fs)) N → mm_P g d M (pc + 3) ls (.ref (h.2.1 + 64) :: st) h1 Post) : mm_P g d M pc ls st h Post := mm_new hk hcl hin hini hfs hm hd (kk _ rfl)
/-- what a call answers that only returns an int, a long, nothing, and leaves the heap -/
abbrev mm_pureI (r : Int32) (h : mm_Hp) : mm_Ou → mm_Hp → Prop := fun o h' => o = .inl (some (.int r)) ∧ h' = h
theorem mm_thenI {r : Int32} {o : mm_Ou} {h1 : mm_Hp} (q : mm_pureI r h o h1) (k : mm_P g d M (pc + 3) ls (.int r :: st) h Post) : mm_then g d M pc ls st Post o h1 := by
  obtain ⟨rfl, rfl⟩ := q
  exact k
end MMW
