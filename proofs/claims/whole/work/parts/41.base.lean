/-! behind calls; the primitives over the one state -/
theorem dS {k d : Nat} (h : k + 1 ≤ d) : d - 1 + 1 ≤ d := by omega
theorem dL {k d j : Nat} (h : k + 1 ≤ d) (hj : j ≤ k) : j ≤ d - 1 := by omega
section MTH
variable {g : mm_G} {d : Nat} {M : mm_Me} {pc : Nat} {ls : List (Option Value)} {st : List Value} {h h1 : mm_Hp} {Post : mm_Ou → mm_Hp → Prop} {C D : CS} {o : mm_Ou}
theorem th_cI {r : Int32 × CS} (q : cI D r o h1) (k : Rep h1 r.2 D → mm_P g d M (pc + 3) ls (.int r.1 :: st) h1 Post) : mm_then g d M pc ls st Post o h1 := by
  obtain ⟨rfl, q2⟩ := q
  exact k q2
theorem th_cJ {r : Int64 × CS} (q : cJ D r o h1) (k : Rep h1 r.2 D → mm_P g d M (pc + 3) ls (.long r.1 :: st) h1 Post) : mm_then g d M pc ls st Post o h1 := by
  obtain ⟨rfl, q2⟩ := q
  exact k q2
theorem th_cV {r : CS} (q : cV D r o h1) (k : Rep h1 r D → mm_P g d M (pc + 3) ls st h1 Post) : mm_then g d M pc ls st Post o h1 := by
  obtain ⟨rfl, q2⟩ := q
  exact k q2
theorem th_dI {r : Int32 × CS} (q : dI C r o h1) (k : Rep h1 C r.2 → mm_P g d M (pc + 3) ls (.int r.1 :: st) h1 Post) : mm_then g d M pc ls st Post o h1 := by
  obtain ⟨rfl, q2⟩ := q
  exact k q2
theorem th_dJ {r : Int64 × CS} (q : dJ C r o h1) (k : Rep h1 C r.2 → mm_P g d M (pc + 3) ls (.long r.1 :: st) h1 Post) : mm_then g d M pc ls st Post o h1 := by
  obtain ⟨rfl, q2⟩ := q
  exact k q2
theorem th_dV {r : CS} (q : dV C r o h1) (k : Rep h1 C r → mm_P g d M (pc + 3) ls st h1 Post) : mm_then g d M pc ls st Post o h1 := by
  obtain ⟨rfl, q2⟩ := q
  exact k q2
theorem th_xI {v : Int32} {C1 : CS} (q : cXI D (.inr v, C1) o h1) (k : Rep h1 C1 D → mm_P g d M (pc + 3) ls (.int v :: st) h1 Post) : mm_then g d M pc ls st Post o h1 := by
  obtain ⟨rfl, q2⟩ := q
  exact k q2
theorem th_xV {v : Unit} {C1 : CS} (q : cXV D (.inr v, C1) o h1) (k : Rep h1 C1 D → mm_P g d M (pc + 3) ls st h1 Post) : mm_then g d M pc ls st Post o h1 := by
  obtain ⟨rfl, q2⟩ := q
  exact k q2
theorem th_eV {E : String} {C1 : CS} (hh : M.2.2.2.2 = []) (q : cXV D (.inl E, C1) o h1) (k : Rep h1 C1 D → Post (.inr E) h1) : mm_then g d M pc ls st Post o h1 := by
  obtain ⟨rfl, q2⟩ := q
  exact mm_out hh (k q2)
theorem th_eI {E : String} {C1 : CS} (hh : M.2.2.2.2 = []) (q : cXI D (.inl E, C1) o h1) (k : Rep h1 C1 D → Post (.inr E) h1) : mm_then g d M pc ls st Post o h1 := by
  obtain ⟨rfl, q2⟩ := q
  exact mm_out hh (k q2)
theorem th_pU {r : Int32} {v : Option Value} (q : mm_pureI r h (.inl v) h1) (k : mm_P g d M (pc + 3) ls (.int r :: st) h Post) : mm_P g d M (pc + 3) ls (v.toList ++ st) h1 Post := by
  obtain ⟨q1, rfl⟩ := q
  cases q1
  exact k
theorem th_vU {r : CS} {v : Option Value} (q : cV D r (.inl v) h1) (k : Rep h1 r D → mm_P g d M (pc + 3) ls st h1 Post) : mm_P g d M (pc + 3) ls (v.toList ++ st) h1 Post := by
  obtain ⟨q1, q2⟩ := q
  cases q1
  exact k q2
end MTH
theorem hN {α : Type} {r : α} {P : Prop} (h : (none : Option α) = some r) : P := by cases h
def pJ (r : Int64) (h : mm_Hp) : mm_Ou → mm_Hp → Prop := fun o h1 => o = .inl (some (.long r)) ∧ h1 = h
theorem en_cI {h : mm_Hp} {D C1 : CS} {v : Int32} {r : Int32 × CS} (H : some (v, C1) = some r) (R : Rep h C1 D) : cI D r (.inl (some (.int v))) h := by cases H; exact ⟨rfl, R⟩
theorem en_cJ {h : mm_Hp} {D C1 : CS} {v : Int64} {r : Int64 × CS} (H : some (v, C1) = some r) (R : Rep h C1 D) : cJ D r (.inl (some (.long v))) h := by cases H; exact ⟨rfl, R⟩
theorem en_cV {h : mm_Hp} {D C1 : CS} {r : CS} (H : some C1 = some r) (R : Rep h C1 D) : cV D r (.inl none) h := by cases H; exact ⟨rfl, R⟩
theorem en_dI {h : mm_Hp} {C D1 : CS} {v : Int32} {r : Int32 × CS} (H : some (v, D1) = some r) (R : Rep h C D1) : dI C r (.inl (some (.int v))) h := by cases H; exact ⟨rfl, R⟩
theorem en_dJ {h : mm_Hp} {C D1 : CS} {v : Int64} {r : Int64 × CS} (H : some (v, D1) = some r) (R : Rep h C D1) : dJ C r (.inl (some (.long v))) h := by cases H; exact ⟨rfl, R⟩
theorem en_dV {h : mm_Hp} {C D1 : CS} {r : CS} (H : some D1 = some r) (R : Rep h C D1) : dV C r (.inl none) h := by cases H; exact ⟨rfl, R⟩
theorem en_pI {h : mm_Hp} {v r : Int32} (H : some v = some r) : mm_pureI r h (.inl (some (.int v))) h := by cases H; exact ⟨rfl, rfl⟩
theorem en_pJ {h : mm_Hp} {v r : Int64} (H : some v = some r) : pJ r h (.inl (some (.long v))) h := by cases H; exact ⟨rfl, rfl⟩
theorem en_xI {h : mm_Hp} {D C1 : CS} {v : String ⊕ Int32} {r : (String ⊕ Int32) × CS} (H : some (v, C1) = some r) (R : Rep h C1 D) : cXI D r (xI v) h := by cases H; exact ⟨rfl, R⟩
theorem en_xV {h : mm_Hp} {D C1 : CS} {v : String ⊕ Unit} {r : (String ⊕ Unit) × CS} (H : some (v, C1) = some r) (R : Rep h C1 D) : cXV D r (xV v) h := by cases H; exact ⟨rfl, R⟩
theorem en_xI2 {h : mm_Hp} {D C1 : CS} {E : String} {r : (String ⊕ Int32) × CS} (H : r = (.inl E, C1)) (R : Rep h C1 D) : cXI D r (.inr E) h := by cases H; exact ⟨rfl, R⟩
theorem en_xV2 {h : mm_Hp} {D C1 : CS} {E : String} {r : (String ⊕ Unit) × CS} (H : r = (.inl E, C1)) (R : Rep h C1 D) : cXV D r (.inr E) h := by cases H; exact ⟨rfl, R⟩
theorem Rep.cg {h : mm_Hp} {C C1 D : CS} (e : C1 = C) (R : Rep h C D) : Rep h C1 D := e ▸ R
theorem th_pJ {g : mm_G} {d : Nat} {M : mm_Me} {pc : Nat} {ls : List (Option Value)} {st : List Value} {h h1 : mm_Hp} {Post : mm_Ou → mm_Hp → Prop} {o : mm_Ou} {r : Int64} (q : pJ r h o h1) (k : mm_P g d M (pc + 3) ls (.long r :: st) h Post) : mm_then g d M pc ls st Post o h1 := by
  obtain ⟨rfl, rfl⟩ := q
  exact k
theorem sw_ne {x : Int32} {n i : Nat} (h : ∀ y ∈ (List.range n).map nI, ¬ x = y) (hi : i < n) : x ≠ nI i := h _ (List.mem_map.mpr ⟨i, List.mem_range.mpr hi, rfl⟩)
theorem sw_out {x : Int32} (n : Nat) (hn : n < 2 ^ 31) (h : ∀ y ∈ (List.range n).map nI, ¬ x = y) : x.toInt < 0 ∨ (n : Int) - 1 < x.toInt := by
  by_cases c : x < 0
  · left
    exact Int32.lt_iff_toInt_lt.mp c
  · obtain ⟨j, j1, rfl⟩ := nI_of c
    right
    rw [nI_toInt j1]
    by_cases z : j < n
    · exact absurd rfl (sw_ne h z)
    · omega
def hasT (z i : Int32) : Int32 := if 0 ≤ i ∧ i < z then 1 else 0
def fullT (z y : Int32) : Int32 := if z < y then 0 else 1
theorem Rep.oB {h : mm_Hp} {C D : CS} {q : Nat} (R : Rep h C D) (hq : bys q) : ∃ k, mm_at h q (.inr (1, [.int (nI (mo q)), .int (gI C (100 * q + 1)), .int (gI C (100 * q + 2)), .ref k])) := by
  obtain ⟨R1, k, j, R2, R3⟩ := R
  obtain ⟨s, mk, b, ⟨f, a, B⟩, b1, b2, b3⟩ := R2 q hq
  rw [b1, b2]
  exact ⟨_, a⟩
section MBY
variable {g : mm_G} {d : Nat} {M : mm_Me} {pc : Nat} {ls : List (Option Value)} {st : List Value} {h : mm_Hp} {Post : mm_Ou → mm_Hp → Prop} {C D : CS}
theorem rB_get {r index key N : Nat} {Cn : String} {T : u_T} {ty : Nat → FieldType} (hl : mm_lk M.1.cls index 1 1 Cn T N ty) (hq : bys r) (hk : 100 * r + 1 = key) (hd : decode M.2.1 pc = .ok (.getfield index, 3)) (R : Rep h C D) (kk : mm_P g d M (pc + 3) ls (.int (gI C key) :: st) h Post) : mm_P g d M pc ls (.ref r :: st) h Post := by
  subst hk
  obtain ⟨k, a⟩ := R.oB hq
  exact mm_get hl hd a rfl kk
theorem tr_has {r c : Nat} {fs : List Nat} {i : Int32} {N : Nat} {Cn : String} {T : u_T} {ty : Nat → FieldType} (l : mm_lk RX9 13 c 1 Cn T N ty) (hL : lay r = .inl (c, fs)) (hr : okC r = true) (hc : fs[1]? = some 0) (R : Rep h C D) : mm_P g d MX9_has 0 [some (.ref r), some (.int i)] [] h (mm_pureI (hasT (gI C (100 * r + 1)) i) h) :=
  m_has l (R.oC hr hL) (fvs_get hc)
theorem tb_has {r : Nat} {i : Int32} (hq : bys r) (R : Rep h C D) : mm_P g d MX9_has 0 [some (.ref r), some (.int i)] [] h (mm_pureI (hasT (gI C (100 * r + 1)) i) h) := by
  obtain ⟨k, a⟩ := R.oB hq
  exact m_has lk_X9_13_X1 a rfl
theorem tr_full {r c : Nat} {fs : List Nat} {N : Nat} {Cn : String} {T : u_T} {ty : Nat → FieldType} (l : mm_lk RX9 13 c 1 Cn T N ty) (l2 : mm_lk RX9 7 c 0 Cn T N ty) (hL : lay r = .inl (c, fs)) (hr : okC r = true) (hc : fs[1]? = some 0) (hc0 : fs[0]? = some 0) (R : Rep h C D) : mm_P g d MX9_isFull 0 [some (.ref r)] [] h (mm_pureI (fullT (gI C (100 * r + 1)) (gI C (100 * r + 0))) h) :=
  m_isFull l l2 (R.oC hr hL) (fvs_get hc) (fvs_get hc0)
theorem tr_mark {r c : Nat} {fs : List Nat} {N : Nat} {Cn : String} {T : u_T} {ty : Nat → FieldType} (l : mm_lk RX9 13 c 1 Cn T N ty) (l2 : mm_lk RX9 16 c 2 Cn T N ty) (hn : (T 2).2.2.2 = false) (ht : ty 2 = .int) (hL : lay r = .inl (c, fs)) (hr : okC r = true) (hc : fs[1]? = some 0) (hc2 : fs[2]? = some 0) (R : Rep h C D) : mm_P g d MX9_mark 0 [some (.ref r)] [] h (cV D (sI C (100 * r + 2) (gI C (100 * r + 1)))) := by
  refine mm_cons (m_mark l l2 hn ht (R.oC hr hL) (fvs_get hc) (by rw [fvs_len]; exact (List.getElem?_eq_some_iff.mp hc2).1)) (fun o h1 q => ⟨q.1, ?_⟩)
  rw [q.2]
  refine R.upC (r := r) hr (by rw [fvs_setI hc2, cel_of hL]; rfl) (fun q hq => cel_I hL hc2 rfl hq) (fun q hq => ⟨by rw [gI_sI, if_neg (bys_key hq hr rfl hc2 hL).1], by rw [gI_sI, if_neg (bys_key hq hr rfl hc2 hL).2], rfl⟩) rfl
theorem tr_back {r c : Nat} {fs : List Nat} {N : Nat} {Cn : String} {T : u_T} {ty : Nat → FieldType} (l : mm_lk RX9 13 c 1 Cn T N ty) (l2 : mm_lk RX9 16 c 2 Cn T N ty) (hn : (T 1).2.2.2 = false) (ht : ty 1 = .int) (hL : lay r = .inl (c, fs)) (hr : okC r = true) (hc : fs[1]? = some 0) (hc2 : fs[2]? = some 0) (R : Rep h C D) : mm_P g d MX9_takeBack 0 [some (.ref r)] [] h (cV D (sI C (100 * r + 1) (gI C (100 * r + 2)))) := by
  refine mm_cons (m_takeBack l l2 hn ht (R.oC hr hL) (fvs_get hc2) (by rw [fvs_len]; exact (List.getElem?_eq_some_iff.mp hc).1)) (fun o h1 q => ⟨q.1, ?_⟩)
  rw [q.2]
  refine R.upC (r := r) hr (by rw [fvs_setI hc, cel_of hL]; rfl) (fun q hq => cel_I hL hc rfl hq) (fun q hq => ⟨by rw [gI_sI, if_neg (bys_key hq hr rfl hc hL).1], by rw [gI_sI, if_neg (bys_key hq hr rfl hc hL).2], rfl⟩) rfl
/-- a change of one Bytes: its object, its row; things may be made -/
theorem Rep.byC {h1 : mm_Hp} {C1 : CS} {r k1 e : Nat} {k j : Nat → Nat} (hr : bys r) (R1 : ∀ q, 64 ≤ q → q < 147 → low q = true → mm_at h q (cel (if q < 113 then C else D) q)) (R2 : ∀ q, bys q → Byt h C q (k q) (j q)) (R3 : k 65 ≠ k 67 ∧ k 65 ≠ k 77 ∧ k 67 ≠ k 77) (R4 : h.2.1 = 83 + (j 65 + j 67 + j 77) + gE C) (R5 : h.2.2 + 384 = 34068 + 128 * (2 ^ j 65 + 2 ^ j 67 + 2 ^ j 77) + 6 * gE C)
    (ho : ∀ q, low q = true → cel C1 q = cel C q) (hb : ∀ q, bys q → q ≠ r → gI C1 (100 * q + 1) = gI C (100 * q + 1) ∧ gI C1 (100 * q + 2) = gI C (100 * q + 2) ∧ gA C1 (q + 1) = gA C (q + 1)) (hE : gE C1 = gE C)
    (B : Byt h1 C1 r k1 (j r + e)) (n1 : ∀ q, q < h.2.1 + 64 → q ≠ r → q ≠ k r → h1.1 q = h.1 q) (n2 : k1 = k r ∨ h.2.1 + 64 ≤ k1) (n3 : h1.2.1 = h.2.1 + e) (n4 : h1.2.2 + 2 * (64 * 2 ^ j r) = h.2.2 + 2 * (64 * 2 ^ (j r + e))) : Rep h1 C1 D := by
  have lk : ∀ q, bys q → k q < h.2.1 + 64 ∧ (k q = q + 1 ∨ 147 ≤ k q) ∧ q < h.2.1 + 64 := by
    intro q hq
    obtain ⟨s, mk, b, ⟨f, a, ak, _⟩, b1, b2, b3, b4⟩ := R2 q hq
    exact ⟨ak.2.1, b4, a.2.1⟩
  have hk3 : ∀ q, bys q → q ≠ r → k q ≠ k r := by
    intro q hq hn
    rcases hq with rfl | rfl | rfl <;> rcases hr with rfl | rfl | rfl <;> first | exact absurd rfl hn | exact R3.1 | exact R3.2.1 | exact R3.2.2 | exact R3.1.symm | exact R3.2.1.symm | exact R3.2.2.symm
  have hlow : ∀ q, low q = true → 64 ≤ q → q < 147 → q ≠ r ∧ q ≠ k r := by
    intro q q1 q2 q3
    have h4 := bys_low hr
    refine ⟨fun z => by rw [← z] at h4; exact absurd (h4.1.symm.trans q1) (by decide), fun z => ?_⟩
    rcases (lk r hr).2.1 with h5 | h5
    · rw [← z] at h5; rw [← h5] at h4; exact absurd (h4.2.symm.trans q1) (by decide)
    · omega
  refine ⟨fun q q1 q2 q3 => ?_, fun q => if q = r then k1 else k q, fun q => if q = r then j q + e else j q, fun q hq => ?_, ?_, ?_, ?_⟩
  · have h2 := R1 q q1 q2 q3
    have h3 := hlow q q3 q1 q2
    have h4 : mm_at h1 q (cel (if q < 113 then C else D) q) := ⟨h2.1, by have := h2.2.1; omega, (n1 q h2.2.1 h3.1 h3.2).trans h2.2.2⟩
    by_cases c : q < 113
    · rw [if_pos c] at h4 ⊢
      rw [ho q q3]
      exact h4
    · rw [if_neg c] at h4 ⊢
      exact h4
  · by_cases c : q = r
    · subst c
      simp only [if_true]
      exact B
    · simp only [if_neg c]
      obtain ⟨s, mk, b, ⟨f, a, ak, B2⟩, b1, b2, b3, b4⟩ := R2 q hq
      obtain ⟨e1, e2, e3⟩ := hb q hq c
      have lq := lk q hq
      have h6 : q ≠ k r := by
        intro z
        have := (lk r hr).2.1
        rcases hq with rfl | rfl | rfl <;> rcases hr with rfl | rfl | rfl <;> omega
      have h7 : k q ≠ r := by
        intro z
        have := lq.2.1
        rcases hq with rfl | rfl | rfl <;> rcases hr with rfl | rfl | rfl <;> omega
      exact ⟨s, mk, b, ⟨f, ⟨a.1, by have := a.2.1; omega, (n1 q a.2.1 c h6).trans a.2.2⟩, ⟨ak.1, by have := ak.2.1; omega, (n1 _ ak.2.1 h7 (hk3 q hq c)).trans ak.2.2⟩, B2⟩, e1.trans b1, e2.trans b2, fun i hi => by rw [e3]; exact b3 i hi, b4⟩
  · have l65 := lk 65 (Or.inl rfl)
    have l67 := lk 67 (Or.inr (Or.inl rfl))
    have l77 := lk 77 (Or.inr (Or.inr rfl))
    rcases hr with rfl | rfl | rfl <;> simp <;> omega
  · rw [n3, R4, hE]
    rcases hr with rfl | rfl | rfl <;> simp <;> omega
  · rw [hE]
    rcases hr with rfl | rfl | rfl <;> simp <;> omega
def bat (q : Nat) (i : Int32) (C : CS) : Int32 := if 0 ≤ i ∧ i < gI C (100 * q + 1) then gA C (q + 1) i.toNatClampNeg else -1
def badd (q : Nat) (x : Int32) (C : CS) : CS := if gI C (100 * q + 1) < nI (mo q) then sI (sA C (q + 1) (gI C (100 * q + 1)).toNatClampNeg (x &&& 255)) (100 * q + 1) (gI C (100 * q + 1) + 1) else C
theorem mo_lt {q : Nat} (h : bys q) : 2 * mo q < 2 ^ 29 ∧ 147 ≤ mo q := by
  rcases h with rfl | rfl | rfl <;> decide
theorem tb_at {r : Nat} {i : Int32} (hq : bys r) (R : Rep h C D) : mm_P g d MX1_byteAt 0 [some (.ref r), some (.int i)] [] h (mm_pureI (bat r i C) h) := by
  obtain ⟨R1, k, j, R2, R3⟩ := R
  obtain ⟨s, mk, b, B, b1, b2, b3, b4⟩ := R2 r hq
  have hm := (mo_lt hq).1
  have z := m_By_byteAt (g := g) (d := d) (i := i) B (by omega)
  have hs := B.choose_spec.2.2.2.2.1
  have e : (if 0 ≤ i ∧ i < nI s then nI (b i.toNatClampNeg) else -1) = bat r i C := by
    unfold bat
    rw [b1]
    by_cases c : 0 ≤ i ∧ i < nI s
    · rw [if_pos c, if_pos c]
      obtain ⟨n, n1, rfl⟩ := nI_of (Int32.not_lt.mpr c.1)
      rw [nI_clamp n1, b3 n ((nI_ltI n1 (by omega)).mp c.2)]
    · rw [if_neg c, if_neg c]
  rw [← e]
  exact z
theorem cel_by {r k q : Nat} {v : Int32} (hr : bys r) (hk : k < 100) (hq : low q = true) : cel (sI C (100 * r + k) v) q = cel C q := by
  have h4 := bys_low hr
  have h5 : q ≠ r := fun z => by rw [← z] at h4; exact absurd (h4.1.symm.trans hq) (by decide)
  refine cel_cg (fun j h3 h4 => ⟨?_, rfl⟩) rfl rfl
  rw [gI_sI, if_neg]
  intro z
  rcases Nat.lt_or_gt_of_ne h5 with h | h <;> omega
theorem cel_byA {r q i : Nat} {v : Int32} (hr : bys r) (hq : low q = true) : cel (sA C (r + 1) i v) q = cel C q := by
  have h4 := bys_low hr
  have h5 : q ≠ r + 1 := fun z => by rw [← z] at h4; exact absurd (h4.2.symm.trans hq) (by decide)
  exact cel_cg (fun _ _ _ => ⟨rfl, rfl⟩) (by rw [gA_sA, if_neg h5]) rfl
theorem by_ne {r q : Nat} (hr : bys r) (hq : bys q) (hn : q ≠ r) : 100 * q + 1 ≠ 100 * r + 1 ∧ 100 * q + 2 ≠ 100 * r + 1 ∧ 100 * q + 1 ≠ 100 * r + 2 ∧ 100 * q + 2 ≠ 100 * r + 2 ∧ q + 1 ≠ r + 1 := by omega
theorem Byt.lt {q k j : Nat} (B : Byt h C q k j) : ∃ s, s ≤ mo q ∧ s ≤ 64 * 2 ^ j ∧ gI C (100 * q + 1) = nI s := by
  obtain ⟨s, mk, b, ⟨f, a, ak, B⟩, b1, _⟩ := B
  exact ⟨s, B.2.2.1, B.2.2.2.1, b1⟩
theorem tb_add {r : Nat} {x : Int32} (hr : bys r) (hd : 2 ≤ d) (R : Rep h C D) : mm_P g d MX1_add 0 [some (.ref r), some (.int x)] [] h (cV D (badd r x C)) := by
  obtain ⟨v, hv, hx⟩ := pk_andE x (m := 255) 8 rfl
  obtain ⟨R1, k, j, R2, R3, R4, R5⟩ := R
  obtain ⟨s, mk, b, B, b1, b2, b3, b4⟩ := R2 r hr
  have hm := mo_lt hr
  have hs := B.choose_spec.2.2.2.2.1
  refine mm_cons (m_By_add (g := g) hd B hm.1 hx hv) (fun o h1 q => ⟨q.1, ?_⟩)
  obtain ⟨-, k1, cap1, B1, G1, G2, e, G3, G4, G5⟩ := q
  have ec : cap1 = 64 * 2 ^ (j r + e) := by rw [G3, Nat.pow_add, Nat.mul_assoc]
  subst ec
  have hk1 : k1 = r + 1 ∨ 147 ≤ k1 := by
    rcases G2 with z | z
    · rw [z]; exact b4
    · right; omega
  by_cases c : s < mo r
  · have c1 : gI C (100 * r + 1) < nI (mo r) := by rw [b1]; exact (nI_ltI (by omega) (by omega)).mpr c
    rw [if_pos c] at B1
    rw [badd, if_pos c1, b1, nI_clamp (by omega)]
    refine Rep.byC (e := e) (k1 := k1) hr R1 R2 R3 R4 R5 (fun q hq => (cel_by hr (by decide) hq).trans (cel_byA hr hq)) (fun q hq hn => ?_) rfl ?_ G1 G2 G4 G5
    · have n := by_ne hr hq hn
      exact ⟨by rw [gI_sI, if_neg n.1]; rfl, by rw [gI_sI, if_neg n.2.1]; rfl, by rw [gA_sI, gA_sA, if_neg n.2.2.2.2]⟩
    · refine ⟨s + 1, mk, _, B1, by rw [gI_sI, if_pos rfl, nI_1], by rw [gI_sI, if_neg (by omega)]; exact b2, fun i hi => ?_, hk1⟩
      rw [gA_sI, gA_sA, if_pos rfl, upd, va_up]
      by_cases z : i = s
      · rw [if_pos z, if_pos z, hx]
      · rw [if_neg z, if_neg z]
        exact b3 i (by omega)
  · have c1 : ¬ gI C (100 * r + 1) < nI (mo r) := by rw [b1]; exact fun z => c ((nI_ltI (by omega) (by omega)).mp z)
    rw [if_neg c] at B1
    rw [badd, if_neg c1]
    refine Rep.byC (e := e) (k1 := k1) hr R1 R2 R3 R4 R5 (fun q hq => rfl) (fun q hq hn => ⟨rfl, rfl, rfl⟩) rfl ?_ G1 G2 G4 G5
    refine ⟨s, mk, _, B1, b1, b2, fun i hi => ?_, hk1⟩
    rw [va_up, if_neg (by omega)]
    exact b3 i hi
theorem tb_clear {r : Nat} (hr : bys r) (R : Rep h C D) : mm_P g d MX1_clear 0 [some (.ref r)] [] h (cV D (sI C (100 * r + 1) 0)) := by
  obtain ⟨R1, k, j, R2, R3, R4, R5⟩ := R
  obtain ⟨s, mk, b, B, b1, b2, b3, b4⟩ := R2 r hr
  refine mm_cons (m_By_clear (g := g) (b' := b) B) (fun o h1 q => ⟨q.1, ?_⟩)
  obtain ⟨-, B1, G1, G2⟩ := q
  refine Rep.byC (e := 0) (k1 := k r) hr R1 R2 R3 R4 R5 (fun q hq => cel_by hr (by decide) hq) (fun q hq hn => ?_) rfl ?_ (fun q q1 q2 q3 => G1 q q1 q2) (Or.inl rfl) (by rw [G2]; rfl) (by rw [G2]; rfl)
  · have n := by_ne hr hq hn
    exact ⟨by rw [gI_sI, if_neg n.1], by rw [gI_sI, if_neg n.2.1], rfl⟩
  · refine ⟨0, mk, b, B1, by rw [gI_sI, if_pos rfl]; rfl, by rw [gI_sI, if_neg (by omega)]; exact b2, fun i hi => by omega, b4⟩
theorem tb_mark {r : Nat} (hr : bys r) (R : Rep h C D) : mm_P g d MX9_mark 0 [some (.ref r)] [] h (cV D (sI C (100 * r + 2) (gI C (100 * r + 1)))) := by
  obtain ⟨R1, k, j, R2, R3, R4, R5⟩ := R
  obtain ⟨s, mk, b, ⟨f, a, ak, B⟩, b1, b2, b3, b4⟩ := R2 r hr
  have rk : r ≠ k r := fun z => by rw [← z] at ak; cases a.inj ak
  refine mm_cons (m_mark lk_X9_13_X1 lk_X9_16_X1 rfl rfl a rfl (Nat.le_of_ble_eq_true rfl)) (fun o h1 q => ⟨q.1, ?_⟩)
  have G := q.2
  refine Rep.byC (e := 0) (k1 := k r) hr R1 R2 R3 R4 R5 (fun q hq => cel_by hr (by decide) hq) (fun q hq hn => ?_) rfl ?_ (fun q q1 q2 q3 => by rw [G]; show va_up h.1 r _ q = _; rw [va_up, if_neg q2]) (Or.inl rfl) (by rw [G]; rfl) (by rw [G]; rfl)
  · have n := by_ne hr hq hn
    exact ⟨by rw [gI_sI, if_neg n.2.2.1], by rw [gI_sI, if_neg n.2.2.2.1], rfl⟩
  · refine ⟨s, s, b, ⟨f, by rw [G]; exact a.up, by rw [G]; exact ak.ne (Ne.symm rk), B⟩, by rw [gI_sI, if_neg (by omega)]; exact b1, by rw [gI_sI, if_pos rfl]; exact b1, b3, b4⟩
theorem tb_back {r : Nat} (hr : bys r) (hle : gI C (100 * r + 2) ≤ gI C (100 * r + 1) ∧ 0 ≤ gI C (100 * r + 2)) (R : Rep h C D) : mm_P g d MX9_takeBack 0 [some (.ref r)] [] h (cV D (sI C (100 * r + 1) (gI C (100 * r + 2)))) := by
  obtain ⟨R1, k, j, R2, R3, R4, R5⟩ := R
  obtain ⟨s, mk, b, ⟨f, a, ak, B⟩, b1, b2, b3, b4⟩ := R2 r hr
  have rk : r ≠ k r := fun z => by rw [← z] at ak; cases a.inj ak
  have hm := mo_lt hr
  refine mm_cons (m_takeBack lk_X9_13_X1 lk_X9_16_X1 rfl rfl a rfl (Nat.le_of_ble_eq_true rfl)) (fun o h1 q => ⟨q.1, ?_⟩)
  have G := q.2
  obtain ⟨m, m1, m2⟩ := nI_of (Int32.not_lt.mpr hle.2)
  have ms : m ≤ s := by
    have z := hle.1
    rw [m2, b1] at z
    exact (nI_leI m1 (by have := B.2.2.1; omega)).mp z
  refine Rep.byC (e := 0) (k1 := k r) hr R1 R2 R3 R4 R5 (fun q hq => cel_by hr (by decide) hq) (fun q hq hn => ?_) rfl ?_ (fun q q1 q2 q3 => by rw [G]; show va_up h.1 r _ q = _; rw [va_up, if_neg q2]) (Or.inl rfl) (by rw [G]; rfl) (by rw [G]; rfl)
  · have n := by_ne hr hq hn
    exact ⟨by rw [gI_sI, if_neg n.1], by rw [gI_sI, if_neg n.2.1], rfl⟩
  · have e2 : nI mk = nI m := b2.symm.trans m2
    refine ⟨m, m, b, ⟨f, ?_, by rw [G]; exact ak.ne (Ne.symm rk), B.1, fun i hi => B.2.1 i (by omega), Nat.le_trans ms B.2.2.1, Nat.le_trans ms B.2.2.2.1, B.2.2.2.2⟩, by rw [gI_sI, if_pos rfl]; exact m2, by rw [gI_sI, if_neg (by omega)]; exact m2, fun i hi => b3 i (by omega), b4⟩
    rw [G]
    have := a.up (y := .inr (1, [.int (nI (mo r)), .int (nI m), .int (nI m), .ref (k r)]))
    rw [← e2] at this ⊢
    exact this
/-! texts -/
def sl (i : Nat) : Nat := (mm_sb i).length
theorem tx_len {i : Nat} (h1 : 1 ≤ i) (h3 : i ≤ 3) (hd : 1 ≤ d) : mm_P g d MJ0_length_8abf5 0 [some (.ref i)] [] h (mm_pureI (nI (sl i)) h) := m_St_length hd h1 h3
theorem sl_lt {i : Nat} (h1 : 1 ≤ i) (h3 : i ≤ 3) : sl i < 2 ^ 31 := by
  have : i = 1 ∨ i = 2 ∨ i = 3 := by omega
  rcases this with rfl | rfl | rfl <;> decide
theorem tx_at {i : Nat} {x : Int32} (h1 : 1 ≤ i) (h3 : i ≤ 3) (hd : 3 ≤ d) (hx : inb x (sl i) = true) : mm_P g d MJ0_charAt_5068e 0 [some (.ref i), some (.int x)] [] h (mm_pureI (chOf i x.toNatClampNeg) h) := by
  obtain ⟨j, j1, rfl⟩ := inb_ex hx (sl_lt h1 h3)
  rw [nI_clamp (Nat.lt_trans j1 (sl_lt h1 h3))]
  exact m_St_charAt hd h1 h3 j1
theorem tx_ix {x : Int32} (hd : 3 ≤ d) (hx : inb x 256 = true) : mm_P g d MJ0_indexOf_0f7a4 0 [some (.ref 1), some (.int x)] [] h (mm_pureI (kdOf x.toNatClampNeg) h) := by
  obtain ⟨j, j1, rfl⟩ := inb_ex hx (by decide)
  rw [nI_clamp (by omega)]
  exact m_St_indexOf hd j1
end MBY
