/-! the digest -/
def RD (C D : CS) (nD nF : Nat) : Prop := nD ≤ 40 ∧ gI C 10401 = nI nD ∧ gI D 11335 = nI nD ∧ gI C 10400 = 40 ∧
  (∀ d, d < nD → gA C 105 d = gA D 141 d ∧ gA C 106 d = gA D 142 d ∧ gA C 107 d = gA D 143 d ∧ ∃ c, c ≤ 8 ∧ gA C 108 d = nI c ∧ gA D 144 d = nI c ∧ ∀ i, i < c → ∃ f, f < nF ∧ gA C 109 (8 * d + i) = nI f ∧ gA D 145 (8 * d + i) = nI f) ∧ ∀ d, nD ≤ d → d < 40 → gA D 144 d = 0
theorem RD.cg {C C1 D D1 : CS} {nD nF : Nat} (R : RD C D nD nF) (h : EqC C C1) (k : EqD D D1) : RD C1 D1 nD nF := by
  unfold RD at R ⊢
  rw [h.1 10401 (by decide), h.1 10400 (by decide), k.1 11335 (by decide) (by decide), h.2.1 105 (by decide), h.2.1 106 (by decide), h.2.1 107 (by decide), h.2.1 108 (by decide), h.2.1 109 (by decide), k.2.1 141, k.2.1 142, k.2.1 143, k.2.1 144, k.2.1 145]
  exact R
theorem RD.le {C D : CS} {nD nF nG : Nat} (R : RD C D nD nF) (h : nF ≤ nG) : RD C D nD nG := by
  obtain ⟨r1, r2, r3, r4, r5, r6⟩ := R
  refine ⟨r1, r2, r3, r4, fun d hd => ?_, r6⟩
  obtain ⟨a1, a2, a3, c, c1, c2, c3, c4⟩ := r5 d hd
  refine ⟨a1, a2, a3, c, c1, c2, c3, fun i hi => ?_⟩
  obtain ⟨f, f1, f2⟩ := c4 i hi
  exact ⟨f, by omega, f2⟩
theorem fullT_nI {n m : Nat} (hn : n < 2 ^ 31) (hm : m < 2 ^ 31) : fullT (nI n) (nI m) = if n < m then 0 else 1 := by
  unfold fullT
  by_cases c : n < m
  · rw [if_pos c, if_pos (nI_lt c hm)]
  · rw [if_neg c, if_neg (fun z => c ((nI_ltI hn hm).mp z))]
theorem gI_eq {C : CS} {k : Nat} {v : Int32} : gI (sI C k v) k = v := if_pos rfl
theorem upd_eq {f : Nat → Int32} {n : Nat} {x : Int32} : upd f n x n = x := if_pos rfl
theorem upd_ne {f : Nat → Int32} {n i : Nat} {x : Int32} (h : i ≠ n) : upd f n x i = f i := if_neg h
section PD
variable {C D : CS} {k x y v : Int32} {nL nR nF nO nD f i d N : Nat} {cid : Nat → Nat}
def num (x : Int32) : Bool := !decide (x < 0) && !decide (9999 < x)
theorem c_num : f_X11_isNumber x C = some (b2 (num x)) := by
  unfold f_X11_isNumber num b2
  by_cases c1 : x < 0 <;> by_cases c2 : 9999 < x <;> simp [c1, c2]
/-- the states behind a new line of the digest -/
def dgC (C : CS) (n : Nat) (x y v : Int32) : CS := sI (sA (sA (sA (sA C 105 n x) 106 n y) 107 n v) 108 n 0) 10401 (nI (n + 1))
def dgD (D : CS) (n : Nat) (x y v : Int32) : CS := sI (sA (sA (sA D 141 n x) 142 n y) 143 n v) 11335 (nI (n + 1))
theorem c_digest (h : gI C 10401 = nI nD) (h2 : gI C 10400 = 40) (hn : nD ≤ 40) : f_X11_digest x y v C = some (if nD < 40 ∧ num x = true ∧ num y = true ∧ num v = true then (nI nD, dgC C nD x y v) else (-1, C)) := by
  unfold f_X11_digest
  rw [h, h2, show (40 : Int32) = nI 40 from rfl, fullT_nI (by omega) (by decide), c_num, c_num, c_num]
  by_cases c0 : nD < 40
  · cases c1 : num x <;> cases c2 : num y <;> cases c3 : num v <;> simp only [c0, b2, bnd_some, if_true, if_false, Bool.false_eq_true, and_false, false_and, and_true, true_and] <;> try rfl
    unfold f_X2_add
    rw [h, h2, show (40 : Int32) = nI 40 from rfl, if_pos (nI_lt c0 (by decide))]
    have e : ∀ (X : CS), gI X 10401 = nI nD → inb (gI X 10401) 40 = true := fun X hX => by rw [hX]; exact inb_nI c0 (by decide)
    have k1 : (nI nD).toNatClampNeg = nD := nI_clamp (by omega)
    simp only [bd_eq, gI_sA, gI_sI, h, inb_nI c0 (show 40 < 2 ^ 31 by decide), k1, nI_1, nI_pred, bnd_some, if_true]
    rfl
  · rw [if_neg c0, if_neg (show ¬ (1 : Int32) = 0 by decide), if_neg (fun z => c0 z.1)]
theorem d_digest (h : gI D 11335 = nI nD) (hn : nD ≤ 40) : f_X12_digest x y v D = some (if nD < 40 ∧ num x = true ∧ num y = true ∧ num v = true then (nI nD, dgD (sI D 11300 0) nD x y v) else (-1, sI D 11300 0)) := by
  unfold f_X12_digest
  have h1 : gI (sI D 11300 0) 11335 = nI nD := h
  rw [bd_eq, h1]
  by_cases c0 : nD < 40
  · have k1 : (nI nD).toNatClampNeg = nD := nI_clamp (by omega)
    have n40 : ¬ nI nD = 40 := fun z => by have := (nI_eq (a := nD) (b := 40) (by omega) (by decide)).mp z; omega
    rw [if_neg n40]
    by_cases c1 : x < 0
    · simp [c1, num]
    by_cases c2 : 9999 < x
    · simp [c1, c2, num]
    by_cases c3 : y < 0
    · simp [c1, c2, c3, num]
    by_cases c4 : 9999 < y
    · simp [c1, c2, c3, c4, num]
    by_cases c5 : v < 0
    · simp [c1, c2, c3, c4, c5, num]
    by_cases c6 : 9999 < v
    · have c6' : ¬ v ≤ 9999 := Int32.not_le.mpr c6
      simp [c1, c2, c3, c4, c5, c6, c6', num]
    have c6' : v ≤ 9999 := Int32.not_lt.mp c6
    have e : (nD < 40 ∧ num x = true ∧ num y = true ∧ num v = true) := by simp [c0, c1, c2, c3, c4, c5, c6, num]
    rw [if_neg c1, if_neg c2, if_neg c3, if_neg c4, if_neg c5, if_pos c6', if_pos e, inb_nI c0 (by decide), if_pos rfl]
    simp only [bd_eq, gI_sA, gI_eq, h1, inb_nI c0 (show 40 < 2 ^ 31 by decide), k1, nI_1, nI_pred, bnd_some, if_true]
    rfl
  · have : nD = 40 := by omega
    subst this
    rw [if_pos (show nI 40 = 40 from rfl), if_neg (fun z => c0 z.1)]
theorem RD.add (R : RD C D nD nF) (h : nD < 40) : RD (dgC C nD x y v) (dgD (sI D 11300 0) nD x y v) (nD + 1) nF := by
  obtain ⟨r1, r2, r3, r4, r5, r6⟩ := R
  refine ⟨by omega, rfl, rfl, r4, fun d hd => ?_, fun d h1 h2 => r6 d (by omega) h2⟩
  show upd (gA C 105) nD x d = upd (gA D 141) nD x d ∧ upd (gA C 106) nD y d = upd (gA D 142) nD y d ∧ upd (gA C 107) nD v d = upd (gA D 143) nD v d ∧ ∃ c, c ≤ 8 ∧ upd (gA C 108) nD 0 d = nI c ∧ gA D 144 d = nI c ∧ ∀ i, i < c → ∃ f, f < nF ∧ gA C 109 (8 * d + i) = nI f ∧ gA D 145 (8 * d + i) = nI f
  by_cases e : d = nD
  · subst e
    rw [upd_eq, upd_eq, upd_eq, upd_eq, upd_eq, upd_eq, upd_eq]
    exact ⟨rfl, rfl, rfl, 0, by decide, rfl, r6 d (Nat.le_refl _) h, fun i hi => absurd hi (Nat.not_lt_zero i)⟩
  · rw [upd_ne e, upd_ne e, upd_ne e, upd_ne e, upd_ne e, upd_ne e, upd_ne e]
    exact r5 d (by omega)
/-- the states behind a cite -/
def ctC (C : CS) (d c : Nat) (x : Int32) : CS := sA (sA C 109 (8 * d + c) x) 108 d (nI (c + 1))
def ctD (D : CS) (d c : Nat) (x : Int32) : CS := sA (sA D 145 (8 * d + c) x) 144 d (nI (c + 1))
theorem RD.cite (R : RD C D nD nF) (hd : d < nD) (hf : f < nF) {c : Nat} (hc : c < 8) (h1 : gA C 108 d = nI c) (h2 : gA D 144 d = nI c) : RD (ctC C d c (nI f)) (ctD D d c (nI f)) nD nF := by
  obtain ⟨r1, r2, r3, r4, r5, r6⟩ := R
  refine ⟨r1, r2, r3, r4, fun e he => ?_, fun e e1 e2 => ?_⟩
  · obtain ⟨a1, a2, a3, c', c1, c2, c3, c4⟩ := r5 e he
    show gA C 105 e = gA D 141 e ∧ gA C 106 e = gA D 142 e ∧ gA C 107 e = gA D 143 e ∧ ∃ b, b ≤ 8 ∧ upd (gA C 108) d (nI (c + 1)) e = nI b ∧ upd (gA D 144) d (nI (c + 1)) e = nI b ∧ ∀ i, i < b → ∃ g, g < nF ∧ upd (gA C 109) (8 * d + c) (nI f) (8 * e + i) = nI g ∧ upd (gA D 145) (8 * d + c) (nI f) (8 * e + i) = nI g
    refine ⟨a1, a2, a3, ?_⟩
    by_cases q : e = d
    · subst q
      have ec : c' = c := (nI_eq (by omega) (by omega)).mp (c2.symm.trans h1)
      subst ec
      refine ⟨c' + 1, by omega, upd_eq, upd_eq, fun i hi => ?_⟩
      by_cases z : i = c'
      · subst z
        exact ⟨f, hf, upd_eq, upd_eq⟩
      · rw [upd_ne (by omega), upd_ne (by omega)]
        exact c4 i (by omega)
    · refine ⟨c', c1, by rw [upd_ne q]; exact c2, by rw [upd_ne q]; exact c3, fun i hi => ?_⟩
      rw [upd_ne (by omega), upd_ne (by omega)]
      exact c4 i hi
  · show upd (gA D 144) d (nI (c + 1)) e = 0
    rw [upd_ne (by omega)]
    exact r6 e e1 e2
theorem nI_mul (a b : Nat) : nI a * nI b = nI (a * b) := (Int32.ofNat_mul a b).symm
def hasF (g : Nat → Int32) (x : Int32) (b : Nat) : Nat → Nat → Bool
  | 0, _ => false
  | m + 1, i => decide (g (b + i) = x) || hasF g x b m (i + 1)
theorem hasF_cg {g g' : Nat → Int32} {x : Int32} {b : Nat} : ∀ {m i : Nat}, (∀ j, i ≤ j → j < i + m → g (b + j) = g' (b + j)) → hasF g x b m i = hasF g' x b m i := by
  intro m
  induction m with
  | zero => intro i h; rfl
  | succ m ih =>
    intro i h
    rw [hasF, hasF, h i (Nat.le_refl _) (by omega), ih (fun j h1 h2 => h j (by omega) (by omega))]
theorem ix8 {d i : Nat} : nI d * 8 + nI i = nI (8 * d + i) := by
  rw [show (8 : Int32) = nI 8 from rfl, nI_mul, nI_add, Nat.mul_comm]
theorem ix8' {d i : Nat} : 8 * nI d + nI i = nI (8 * d + i) := by
  rw [show (8 : Int32) = nI 8 from rfl, nI_mul, nI_add]
theorem c_citeL {c : Nat} (hd : d < 40) (hc : c ≤ 8) : ∀ m i z : Nat, i + m = c → m < z → f_X2_addCite_L18 N (nI d) x (nI c) C z (nI i) = some (if hasF (gA C 109) x (8 * d) m i = true then .inl (-1, C) else .inr ()) := by
  intro m
  induction m with
  | zero =>
    intro i z hi hz
    obtain ⟨z, rfl, -⟩ := sc hz
    rw [f_X2_addCite_L18, if_pos (nI_le (by omega) (by omega))]
    rfl
  | succ m ih =>
    intro i z hi hz
    obtain ⟨z, rfl, hz⟩ := sc hz
    rw [f_X2_addCite_L18, if_neg (nI_ge (by omega) (by omega)), f_X2_citedBy, ix8, inb_nI (by omega) (by decide), if_pos rfl, bnd_some, nI_clamp (by omega), nI_1, ih (i + 1) z (by omega) (by omega), hasF]
    by_cases c1 : gA C 109 (8 * d + i) = x <;> simp [c1]
theorem d_citeL {c : Nat} (hd : d < 40) (hc : c ≤ 8) (h : gA D 144 d = nI c) : ∀ (m i z : Nat) (b : Bool), i + m = c → m < z → f_X12_cite_L51 N (nI d) x D z (b2 b) (nI i) = some (b2 (b || hasF (gA D 145) x (8 * d) m i)) := by
  intro m
  induction m with
  | zero =>
    intro i z b hi hz
    obtain ⟨z, rfl, -⟩ := sc hz
    rw [f_X12_cite_L51, inb_nI (by omega) (by decide), if_pos rfl, nI_clamp (by omega), h, if_pos (nI_le (by omega) (by omega)), hasF, Bool.or_false]
  | succ m ih =>
    intro i z b hi hz
    obtain ⟨z, rfl, hz⟩ := sc hz
    rw [f_X12_cite_L51, inb_nI (by omega) (by decide), if_pos rfl, nI_clamp (by omega), h, if_neg (nI_ge (by omega) (by omega)), ix8', inb_nI (by omega) (by decide), if_pos rfl, nI_clamp (by omega), nI_1, ih (i + 1) z b (by omega) (by omega), show (1 : Int32) = b2 true from rfl, ih (i + 1) z true (by omega) (by omega), hasF]
    by_cases c1 : gA D 145 (8 * d + i) = x <;> simp [c1, b2]
/-- cite: both answer alike -/
theorem RD.cites (R : RD C D nD nF) (hF1 : gI C 8401 = nI nF) (hF2 : gI D 11320 = nI nF) (hF : nF ≤ 150) (hN : 20000 < N) :
    (∃ b D1, f_X11_cite N x y C = some (.inl eN, sE C) ∧ f_X12_cite N x y D = some (b, D1) ∧ EqD D D1 ∧ gI D1 11300 = 1) ∨
    (f_X11_cite N x y C = some (.inr (-1), C) ∧ f_X12_cite N x y D = some (-1, sI D 11300 0)) ∨
    ∃ d c f, d < nD ∧ f < nF ∧ c < 8 ∧ gA C 108 d = nI c ∧ gA D 144 d = nI c ∧ f_X11_cite N x y C = some (.inr (nI (c + 1)), ctC C d c (nI f)) ∧ f_X12_cite N x y D = some (nI (c + 1), ctD (sI D 11300 0) d c (nI f)) := by
  obtain ⟨r1, r2, r3, r4, r5, r6⟩ := R
  have h1 : gI (sI D 11300 0) 11335 = nI nD := r3
  have h2 : gI (sI D 11300 0) 11320 = nI nF := hF2
  have E0 : EqD D (sI (sI D 11300 0) 11300 1) := EqD.code.trans EqD.code
  by_cases cx : hasT (nI nD) x = 0
  · left
    have ed : f_X12_cite N x y D = some (0, sI (sI D 11300 0) 11300 1) := by
      unfold f_X12_cite
      rw [bd_eq, h1, d_fail, bnd_some]
      by_cases c1 : x < 0
      · rw [if_pos c1]
      · rw [if_neg c1, if_pos (Int32.not_lt.mp (fun z => by unfold hasT at cx; rw [if_pos ⟨Int32.not_lt.mp c1, z⟩] at cx; exact absurd cx (by decide)))]
    refine ⟨0, _, ?_, ed, E0, rfl⟩
    unfold f_X11_cite
    rw [r2, if_pos cx, c_dem0, bnx_l]
  · obtain ⟨d, d1, rfl⟩ := has_ex (by omega) cx
    have xn : ¬ nI d < 0 := nI_pos (by omega)
    have xl : ¬ nI nD ≤ nI d := nI_ge (by omega) (by omega)
    by_cases cy : hasT (nI nF) y = 0
    · left
      have ed : f_X12_cite N (nI d) y D = some (0, sI (sI D 11300 0) 11300 1) := by
        unfold f_X12_cite
        rw [bd_eq, h1, if_neg xn, if_neg xl]
        have : f_X12_isFact y (sI D 11300 0) = some 0 := by
          unfold f_X12_isFact
          rw [h2]
          by_cases c1 : y < 0
          · rw [if_pos c1]
          · rw [if_neg c1, if_pos (Int32.not_lt.mp (fun z => by unfold hasT at cy; rw [if_pos ⟨Int32.not_lt.mp c1, z⟩] at cy; exact absurd cy (by decide)))]
        rw [this, bnd_some, if_pos rfl, d_fail, bnd_some]
      refine ⟨0, _, ?_, ed, E0, rfl⟩
      unfold f_X11_cite
      rw [r2, if_neg cx, hF1, if_pos cy, c_dem0, bnx_l]
    · obtain ⟨f, f1, rfl⟩ := has_ex (by omega) cy
      obtain ⟨a1, a2, a3, c, c1, c2, c3, c4⟩ := r5 d d1
      have c3' : gA (sI D 11300 0) 144 d = nI c := c3
      have fx : f_X12_isFact (nI f) (sI D 11300 0) = some 1 := by
        unfold f_X12_isFact
        rw [h2, if_neg (nI_pos (by omega)), if_neg (nI_ge (by omega) (by omega))]
      have eqh : hasF (gA C 109) (nI f) (8 * d) c 0 = hasF (gA (sI D 11300 0) 145) (nI f) (8 * d) c 0 := hasF_cg (fun j _ hj => by
        obtain ⟨g, g1, g2, g3⟩ := c4 j (by omega)
        exact g2.trans g3.symm)
      have ec : f_X11_cite N (nI d) (nI f) C = bnd (f_X2_addCite N (nI d) (nI f) C) fun q13 => some (.inr q13.1, q13.2) := by
        unfold f_X11_cite
        rw [r2, if_neg cx, hF1, if_neg cy, c_dem1, bnx_r]
      have L1 := c_citeL (C := C) (N := N) (x := nI f) (d := d) (c := c) (by omega) c1 c 0 N (by omega) (by omega)
      have L2 := d_citeL (D := sI D 11300 0) (N := N) (x := nI f) (d := d) (c := c) (by omega) c1 c3' c 0 N false (by omega) (by omega)
      have L3 := d_citeL (D := sI D 11300 0) (N := N) (x := nI f) (d := d) (c := c) (by omega) c1 c3' c 0 N true (by omega) (by omega)
      rw [eqh] at L1
      rw [Bool.true_or] at L3
      rw [Bool.false_or] at L2
      have z1 : f_X2_addCite_L18 N (nI d) (nI f) (nI c) C N 0 = f_X2_addCite_L18 N (nI d) (nI f) (nI c) C N (nI 0) := rfl
      have z2 : f_X12_cite_L51 N (nI d) (nI f) (sI D 11300 0) N 1 0 = f_X12_cite_L51 N (nI d) (nI f) (sI D 11300 0) N (b2 true) (nI 0) := rfl
      have z3 : f_X12_cite_L51 N (nI d) (nI f) (sI D 11300 0) N 0 0 = f_X12_cite_L51 N (nI d) (nI f) (sI D 11300 0) N (b2 false) (nI 0) := rfl
      have dd : (nI d).toNatClampNeg = d := nI_clamp (by omega)
      have di : inb (nI d) 40 = true := inb_nI (by omega) (by decide)
      right
      by_cases e8 : c = 8
      · subst e8
        left
        constructor
        · rw [ec, f_X2_addCite, di, if_pos rfl, dd, c2, if_neg (show ¬ nI 8 < 8 by decide), bnd_some]
        · rw [f_X12_cite, bd_eq, h1, if_neg xn, if_neg xl, fx, bnd_some, if_neg (by decide), di, if_pos rfl, dd, c3', if_pos (show nI 8 = 8 from rfl), z2, L3, bnd_some, if_neg (show ¬ b2 true = 0 by decide)]
      · have n8 : nI c < 8 := nI_lt (b := 8) (by omega) (by decide)
        have m8 : ¬ nI c = 8 := fun z => e8 ((nI_eq (b := 8) (by omega) (by decide)).mp z)
        have ii : inb (nI (8 * d + c)) 320 = true := inb_nI (by omega) (by decide)
        have ik : (nI (8 * d + c)).toNatClampNeg = 8 * d + c := nI_clamp (by omega)
        cases hh : hasF (gA (sI D 11300 0) 145) (nI f) (8 * d) c 0
        · rw [hh] at L1 L2
          right
          refine ⟨d, c, f, d1, f1, by omega, c2, c3, ?_, ?_⟩
          · rw [ec, f_X2_addCite, di, if_pos rfl, dd, c2, if_pos n8, z1, L1, if_neg (by decide), bns_r, ix8, ii, if_pos rfl, bd_eq, if_pos rfl, bd_eq, ik, nI_1, bnd_some]
            rfl
          · rw [f_X12_cite, bd_eq, h1, if_neg xn, if_neg xl, fx, bnd_some, if_neg (by decide), di, if_pos rfl, dd, c3', if_neg m8, z3, L2, bnd_some, if_pos (b2_0.mpr rfl), ix8', ii, ik]
            simp only [if_true, bd_eq]
            have e1 : gA (sA (sI D 11300 0) 145 (8 * d + c) (nI f)) 144 d = nI c := c3
            rw [e1, nI_1]
            have e2 : gA (sA (sA (sI D 11300 0) 145 (8 * d + c) (nI f)) 144 d (nI (c + 1))) 144 d = nI (c + 1) := by
              rw [gA_sA, if_pos rfl, upd_eq]
            rw [e2]
            rfl
        · rw [hh] at L1 L2
          left
          constructor
          · rw [ec, f_X2_addCite, di, if_pos rfl, dd, c2, if_pos n8, z1, L1, if_pos rfl, bns_l, bnd_some]
          · rw [f_X12_cite, bd_eq, h1, if_neg xn, if_neg xl, fx, bnd_some, if_neg (by decide), di, if_pos rfl, dd, c3', if_neg m8, z3, L2, bnd_some, if_neg (show ¬ b2 true = 0 by decide)]
end PD
