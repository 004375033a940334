/-! reading: both go along the text in step -/
abbrev pC : CS → CS → Prop := Fm [11007, 11009, 11011, 11012] [] []
abbrev pD : CS → CS → Prop := Fm [11346, 11349, 11350] [] []
/-- the text: the first en bytes -/
def Tx (C D : CS) (en : Nat) : Prop := en ≤ 3000 ∧ (∃ sz, en ≤ sz ∧ sz ≤ 3000 ∧ gI C 6501 = nI sz) ∧ ∀ i, i < en → ∃ b, b < 256 ∧ gA C 66 i = nI b ∧ gA D 114 i = nI b
def sgn (D : CS) (en p : Nat) : Int32 := if p < en then gA D 114 p else -1
/-- both stand at p; a line may go on up to lim; mo is what the model calls most -/
def PP (C D : CS) (en p lim mo : Nat) : Prop := Tx C D en ∧ gI C 11006 = nI en ∧ gI D 11347 = nI en ∧ gI C 11007 = nI p ∧ gI D 11346 = nI p ∧ gI C 11008 = nI lim - 60 ∧ gI D 11348 = nI (lim - mo) ∧ gI C 11011 = 0 ∧ gI D 11349 = 0 ∧ gI C 11012 = -1 ∧ p ≤ lim ∧ lim ≤ p + mo ∧ mo ≤ lim ∧ mo ≤ 60 ∧ lim < 2 ^ 20
/-- both found the same fault -/
def PF (C D : CS) : Prop := ∃ k q, k ≠ 0 ∧ gI C 11011 = k ∧ gI D 11349 = k ∧ gI C 11012 = q ∧ gI D 11350 = q
theorem Tx.fm {C C1 D D1 : CS} {ei ea eb fi fa fb : List Nat} {en : Nat} (R : Tx C D en) (h : Fm ei ea eb C C1) (k : Fm fi fa fb D D1) (s : (dj [6501] ei && (dj [66] ea && dj [] eb)) = true) (t : (dj [] fi && (dj [114] fa && dj [] fb)) = true) : Tx C1 D1 en := by
  have a := h.ag s
  have b := k.ag t
  unfold Tx at R ⊢
  rw [a.1 6501 (by decide), a.2.1 66 (by decide), b.2.1 114 (by decide)]
  exact R
section PW
variable {C D : CS} {en p lim mo N : Nat} {k q v : Int32}
theorem sgn_cg {D1 : CS} (h : gA D1 114 = gA D 114) : sgn D1 en p = sgn D en p := by unfold sgn; rw [h]
theorem PP.lt (P : PP C D en p lim mo) : p < 2 ^ 20 ∧ en < 2 ^ 20 := by
  obtain ⟨h0, -, -, -, -, -, -, -, -, -, h1, -, -, -, h2⟩ := P
  have := h0.1
  omega
theorem c_sign (P : PP C D en p lim mo) : f_X10_sign C = some (sgn D en p) := by
  have hl := P.lt
  obtain ⟨⟨t1, ⟨sz, t2, t3, t4⟩, t5⟩, h1, h2, h3, h4, -⟩ := P
  unfold f_X10_sign sgn
  rw [h1, h3]
  by_cases c : p < en
  · obtain ⟨b, b1, b2, b3⟩ := t5 p c
    rw [if_neg (nI_ge c (by omega)), if_pos c, bat_in (q := 65) t4 (by omega) (by omega), show 65 + 1 = 66 from rfl, b2, b3]
  · rw [if_pos (nI_le (by omega) (by omega)), if_neg c]
theorem d_now {D : CS} (h1 : gI D 11347 = nI en) (h2 : gI D 11346 = nI p) (he : en ≤ 3000) (hp : p < 2 ^ 20) : f_X12_now0 D = some (sgn D en p) := by
  unfold f_X12_now0 sgn
  rw [h1, h2]
  by_cases c : p < en
  · rw [if_neg (nI_ge c (by omega)), if_pos c, inb_nI (by omega) (by decide), if_pos rfl, nI_clamp (by omega)]
  · rw [if_pos (nI_le (by omega) (by omega)), if_neg c]
theorem PP.now (P : PP C D en p lim mo) : f_X12_now0 D = some (sgn D en p) := d_now P.2.2.1 P.2.2.2.2.1 P.1.1 P.lt.1
/-- the byte at a place -/
theorem PP.byte (P : PP C D en p lim mo) : sgn D en p = -1 ∨ ∃ b, b < 256 ∧ sgn D en p = nI b ∧ p < en := by
  unfold sgn
  by_cases c : p < en
  · obtain ⟨b, b1, b2, b3⟩ := P.1.2.2 p c
    rw [if_pos c, b3]
    right; exact ⟨b, b1, rfl, c⟩
  · rw [if_neg c]; left; rfl
theorem c_ref : f_X10_refuse k q C = some (0, sI (sI C 11011 k) 11012 q) := rfl
theorem d_wr (h : gI D 11349 = 0) : f_X12_wrong k q D = some (sI (sI D 11349 k) 11350 q) := by
  unfold f_X12_wrong
  rw [if_pos h]
  rfl
theorem d_wrb (h : gI D 11349 ≠ 0) : f_X12_wrong k q D = some D := by
  unfold f_X12_wrong
  rw [if_neg h]
theorem pf_mk (hk : k ≠ 0) : PF (sI (sI C 11011 k) 11012 q) (sI (sI D 11349 k) 11350 q) := ⟨k, q, hk, rfl, rfl, rfl, rfl⟩
theorem pc_ref : pC C (sI (sI C 11011 k) 11012 q) := (Fm.I rfl).trans (Fm.I rfl)
theorem pd_wr : pD D (sI (sI D 11349 k) 11350 q) := (Fm.I rfl).trans (Fm.I rfl)
theorem dist {p lim : Nat} (h1 : p < 2 ^ 20) (h2 : lim < 2 ^ 20) (h3 : lim ≤ p + 60) : nI p - (nI lim - 60) = nI (p + 60 - lim) := by
  have e : nI p - (nI lim - 60) = nI (p + 60) - nI lim := by
    rw [← nI_add]
    show nI p - (nI lim - nI 60) = nI p + nI 60 - nI lim
    generalize nI p = x
    generalize nI lim = y
    generalize nI 60 = z
    grind
  rw [e, pk_sub (by omega)]
theorem PP.stepY (P : PP C D en p lim mo) (h : p < lim) : f_X10_step C = some (1, sI C 11007 (nI (p + 1))) ∧ f_X12_take (nI mo) D = some (sI D 11346 (nI (p + 1))) ∧ PP (sI C 11007 (nI (p + 1))) (sI D 11346 (nI (p + 1))) en (p + 1) lim mo := by
  have hl := P.lt
  obtain ⟨h0, h1, h2, h3, h4, h5, h6, h7, h8, h9, h10, h11, h12, h13, h14⟩ := P
  refine ⟨?_, ?_, ?_⟩
  · unfold f_X10_step
    rw [h3, h5, dist hl.1 h14 (by omega), if_pos (show nI (p + 60 - lim) < 60 from nI_lt (b := 60) (by omega) (by decide)), bd_eq, nI_1]
  · unfold f_X12_take f_X12_take_J22
    rw [h4, h6, pk_sub (by omega), if_pos (nI_lt (by omega) (by omega)), h8, if_pos rfl, bd_eq, nI_1]
  · exact ⟨h0.fm (ei := [11007]) (ea := []) (eb := []) (fi := [11346]) (fa := []) (fb := []) (Fm.I rfl) (Fm.I rfl) rfl rfl, h1, h2, rfl, rfl, h5, h6, h7, h8, h9, by omega, by omega, h12, h13, h14⟩
theorem PP.stepN (P : PP C D en p lim mo) (h : ¬ p < lim) : f_X10_step C = some (0, sI (sI C 11011 2) 11012 (nI p)) ∧ f_X12_take (nI mo) D = some (sI (sI D 11349 2) 11350 (nI p)) := by
  have hl := P.lt
  obtain ⟨h0, h1, h2, h3, h4, h5, h6, h7, h8, h9, h10, h11, h12, h13, h14⟩ := P
  constructor
  · unfold f_X10_step
    rw [h3, h5, dist hl.1 h14 (by omega), if_neg (show ¬ nI (p + 60 - lim) < 60 from nI_nlt (b := 60) (by omega) (by omega)), c_ref, bnd_some, if_pos (show (0 : Int32) &&& 1 = 0 by decide)]
  · unfold f_X12_take f_X12_take_J22
    rw [h4, h6, pk_sub (by omega), if_neg (nI_nlt (by omega) (by omega)), d_wr h8, bnd_some, if_neg (show ¬ gI (sI (sI D 11349 2) 11350 (nI p)) 11349 = 0 from show ¬ (2 : Int32) = 0 by decide)]
/-- where the model has a fault already nothing more is done -/
theorem d_takeB {x : Int32} (h : gI D 11349 ≠ 0) : f_X12_take x D = some D := by
  unfold f_X12_take f_X12_take_J22
  rw [d_wrb h, bnd_some, if_neg h]
  split <;> rfl
theorem d_needB {x y : Int32} (h : gI D 11349 ≠ 0) : f_X12_need x y D = some D := by
  unfold f_X12_need
  rw [if_neg h, if_neg h]
/-- a sign that must stand here -/
theorem PP.exp {x : Int32} (P : PP C D en p lim mo) : (∃ C1 D1, f_X10_expect x C = some (1, C1) ∧ f_X12_need x (nI mo) D = some D1 ∧ PP C1 D1 en (p + 1) lim mo ∧ pC C C1 ∧ pD D D1 ∧ sgn D en p = x) ∨ ∃ C1 D1, f_X10_expect x C = some (0, C1) ∧ f_X12_need x (nI mo) D = some D1 ∧ PF C1 D1 ∧ pC C C1 ∧ pD D D1 := by
  unfold f_X10_expect f_X12_need
  have h8 := P.2.2.2.2.2.2.2.2.1
  rw [c_sign P, bnd_some, h8, if_pos rfl, P.now, bnd_some]
  by_cases c : sgn D en p = x
  · rw [if_pos c, if_pos c, if_pos rfl]
    by_cases h : p < lim
    · obtain ⟨s1, s2, s3⟩ := P.stepY h
      rw [s1, s2, bnd_some, bnd_some]
      left
      exact ⟨_, _, if_pos (show (1 : Int32) &&& 1 = 1 by decide), rfl, s3, Fm.I rfl, Fm.I rfl, c⟩
    · obtain ⟨s1, s2⟩ := P.stepN h
      rw [s1, s2, bnd_some, bnd_some]
      right
      exact ⟨_, _, if_pos (show (0 : Int32) &&& 1 = 0 by decide), rfl, pf_mk (by decide), pc_ref, pd_wr⟩
  · rw [if_neg c, if_neg c, c_ref, d_wr h8, bnd_some, bnd_some, if_neg (show ¬ gI (sI (sI D 11349 1) 11350 (gI D 11346)) 11349 = 0 from show ¬ (1 : Int32) = 0 by decide)]
    right
    have e : gI D 11346 = gI C 11007 := P.2.2.2.2.1.trans P.2.2.2.1.symm
    rw [e]
    exact ⟨_, _, if_pos (show (0 : Int32) &&& 1 = 0 by decide), rfl, pf_mk (by decide), pc_ref, pd_wr⟩
theorem PF.bad {C D : CS} (h : PF C D) : gI D 11349 ≠ 0 := by
  obtain ⟨k, q, h1, -, h2, -⟩ := h
  rw [h2]
  exact h1
theorem PP.n9 (P : PP C D en p lim mo) : PP (sI C 11009 v) D en p lim mo := by
  obtain ⟨h0, h⟩ := P
  exact ⟨h0.fm (ei := [11009]) (ea := []) (eb := []) (fi := []) (fa := []) (fb := []) (Fm.I rfl) Fm.rfl rfl rfl, h⟩
/-- numbers -/
theorem numL {p0 : Nat} : ∀ (m j p z z' : Nat) (v : Int32) (C D : CS), j + m = 4 → p = p0 + j → m + 1 < z → m + 2 < z' → PP C D en p lim mo → gI C 11009 = v → (j = 0 → ¬ sgn D en p < 48 ∧ sgn D en p ≤ 57) →
    (∃ C1 D1 p1 v1, f_X10_takeNumber_L7 N z (nI j) C = some (.inl (1, C1)) ∧ f_X12_readNumber_L34 N (nI mo) (nI p0) z' v D = some (v1, D1) ∧ PP C1 D1 en p1 lim mo ∧ p ≤ p1 ∧ (j = 0 → p < p1) ∧ gI C1 11009 = v1 ∧ pC C C1 ∧ pD D D1 ∧ (∀ i, p ≤ i → i < p1 → sgn D en i ≠ 10)) ∨
    ∃ C1 D1 v1, f_X10_takeNumber_L7 N z (nI j) C = some (.inl (0, C1)) ∧ f_X12_readNumber_L34 N (nI mo) (nI p0) z' v D = some (v1, D1) ∧ PF C1 D1 ∧ pC C C1 ∧ pD D D1 := by
  intro m
  induction m with
  | zero =>
    intro j p z z' v C D hj hp hz hz' P hv hd
    obtain ⟨z, rfl, hz⟩ := sc hz
    obtain ⟨z', rfl, hz'⟩ := sc hz'
    have h8 := P.2.2.2.2.2.2.2.2.1
    have hl := P.lt
    have j4 : j = 4 := by omega
    subst j4
    rw [f_X10_takeNumber_L7, f_X12_readNumber_L34, h8, if_pos rfl, P.now, bnd_some, c_sign P, bnd_some, if_neg (show ¬ (4 : Int32) < nI 4 by decide)]
    by_cases c1 : sgn D en p < 48
    · rw [if_pos c1, if_pos (show (0 : Int32) < nI 4 by decide), if_pos c1]
      left
      exact ⟨C, D, p, v, rfl, rfl, P, Nat.le_refl _, fun z => by omega, hv, Fm.rfl, Fm.rfl, fun i h1 h2 => by omega⟩
    · rw [if_neg c1, if_neg c1]
      by_cases c2 : sgn D en p ≤ 57
      · rw [if_pos c2, if_pos (show nI 4 = 4 from rfl), bnd_some, if_neg (Int32.not_lt.mpr c2), P.2.2.2.2.1, pk_sub (by omega), if_pos (show nI (p - p0) = 4 by rw [show p - p0 = 4 by omega]; rfl), c_ref, bnd_some, d_wr h8, bnd_some]
        have b : gI (sI (sI D 11349 2) 11350 (nI p)) 11349 ≠ 0 := show (2 : Int32) ≠ 0 by decide
        have nw : f_X12_now0 (sI (sI D 11349 2) 11350 (nI p)) = some (sgn D en p) := d_now (D := sI (sI D 11349 2) 11350 (nI p)) P.2.2.1 P.2.2.2.2.1 P.1.1 hl.1
        obtain ⟨z2, rfl, -⟩ := sc (show 0 < z' by omega)
        rw [nw, bnd_some, d_takeB b, bnd_some, f_X12_readNumber_L34, if_neg b, if_pos (show (0 : Int32) &&& 1 = 0 by decide), P.2.2.2.1]
        right
        exact ⟨_, _, _, rfl, rfl, pf_mk (by decide), pc_ref, pd_wr⟩
      · rw [if_neg c2, if_pos (show (0 : Int32) < nI 4 by decide), bnd_some, if_pos (Int32.not_le.mp c2)]
        left
        exact ⟨C, D, p, v, rfl, rfl, P, Nat.le_refl _, fun z => by omega, hv, Fm.rfl, Fm.rfl, fun i h1 h2 => by omega⟩
  | succ m ih =>
    intro j p z z' v C D hj hp hz hz' P hv hd
    obtain ⟨z, rfl, hz⟩ := sc hz
    obtain ⟨z', rfl, hz'⟩ := sc hz'
    have h8 := P.2.2.2.2.2.2.2.2.1
    have hl := P.lt
    have n4 : ¬ (4 : Int32) < nI j := nI_nlt (b := j) (a := 4) (by omega) (by decide)
    have e4 : ¬ nI j = 4 := fun z => by have := (nI_eq (b := 4) (by omega) (by decide)).mp z; omega
    have d4 : ¬ nI (p - p0) = 4 := fun z => by have := (nI_eq (b := 4) (by omega) (by decide)).mp z; omega
    rw [f_X10_takeNumber_L7, f_X12_readNumber_L34, h8, if_pos rfl, P.now, bnd_some, c_sign P, bnd_some, if_neg n4]
    by_cases c1 : sgn D en p < 48
    · have j0 : j ≠ 0 := fun z => (hd z).1 c1
      rw [if_pos c1, if_pos (show (0 : Int32) < nI j from nI_lt (a := 0) (by omega) (by omega)), if_pos c1]
      left
      exact ⟨C, D, p, v, rfl, rfl, P, Nat.le_refl _, fun z => absurd z j0, hv, Fm.rfl, Fm.rfl, fun i h1 h2 => by omega⟩
    · rw [if_neg c1, if_neg c1]
      by_cases c2 : sgn D en p ≤ 57
      · rw [if_pos c2, if_neg e4, bnd_some, if_neg (Int32.not_lt.mpr c2), P.2.2.2.2.1, pk_sub (by omega), if_neg d4, bnd_some]
        by_cases h : p < lim
        · obtain ⟨s1, s2, s3⟩ := P.stepY h
          rw [s1, s2, bnd_some, bnd_some, if_neg (show ¬ (1 : Int32) = 0 by decide), bd_eq, nI_1]
          have ev : gI (sI C 11007 (nI (p + 1))) 11009 = v := hv
          rw [ev]
          rcases ih (j + 1) (p + 1) z z' (((10 * v) + sgn D en p) - 48) _ _ (by omega) (by omega) (by omega) (by omega) (s3.n9 (v := ((10 * v) + sgn D en p) - 48)) rfl (fun z => by omega) with ⟨C1, D1, p1, v1, r1, r2, r3, r4, r5, r6, r7, r8, r9⟩ | ⟨C1, D1, v1, r1, r2, r3, r4, r5⟩
          · left
            refine ⟨C1, D1, p1, v1, r1, r2, r3, by omega, fun _ => by omega, r6, ((Fm.I rfl).trans (Fm.I rfl)).trans r7, (Fm.I rfl).trans r8, fun i h1 h2 => ?_⟩
            by_cases e : i = p
            · rw [e]; exact fun q => c1 (by rw [q]; decide)
            · exact r9 i (by omega) h2
          · right
            exact ⟨C1, D1, v1, r1, r2, r3, ((Fm.I rfl).trans (Fm.I rfl)).trans r4, (Fm.I rfl).trans r5⟩
        · obtain ⟨s1, s2⟩ := P.stepN h
          have b : gI (sI (sI D 11349 2) 11350 (nI p)) 11349 ≠ 0 := show (2 : Int32) ≠ 0 by decide
          obtain ⟨z2, rfl, -⟩ := sc (show 0 < z' by omega)
          rw [s1, s2, bnd_some, bnd_some, if_pos rfl, f_X12_readNumber_L34, if_neg b]
          right
          exact ⟨_, _, _, rfl, rfl, pf_mk (by decide), pc_ref, pd_wr⟩
      · have j0 : j ≠ 0 := fun z => c2 (hd z).2
        rw [if_neg c2, if_pos (show (0 : Int32) < nI j from nI_lt (a := 0) (by omega) (by omega)), bnd_some, if_pos (Int32.not_le.mp c2)]
        left
        exact ⟨C, D, p, v, rfl, rfl, P, Nat.le_refl _, fun z => absurd z j0, hv, Fm.rfl, Fm.rfl, fun i h1 h2 => by omega⟩
theorem PP.num (P : PP C D en p lim mo) (hN : 20000 < N) :
    (∃ C1 D1 p1 v1, f_X10_takeNumber N C = some (1, C1) ∧ f_X12_readNumber N (nI mo) D = some (v1, D1) ∧ PP C1 D1 en p1 lim mo ∧ p < p1 ∧ gI C1 11009 = v1 ∧ pC C C1 ∧ pD D D1 ∧ (∀ i, p ≤ i → i < p1 → sgn D en i ≠ 10)) ∨
    ∃ C1 D1 v1, f_X10_takeNumber N C = some (0, C1) ∧ f_X12_readNumber N (nI mo) D = some (v1, D1) ∧ PF C1 D1 ∧ pC C C1 ∧ pD D D1 := by
  have h8 := P.2.2.2.2.2.2.2.2.1
  have hl := P.lt
  have P0 := P.n9 (v := 0)
  have dig : (¬ sgn D en p < 48 ∧ sgn D en p ≤ 57) ∨ ¬ (¬ sgn D en p < 48 ∧ sgn D en p ≤ 57) := Classical.em _
  unfold f_X10_takeNumber f_X12_readNumber
  rw [bd_eq, P.now, bnd_some, bnd_some, P.2.2.2.2.1]
  rcases dig with dg | dg
  · rw [if_neg dg.1, if_pos dg.2]
    have z0 : f_X10_takeNumber_L7 N N 0 (sI C 11009 0) = f_X10_takeNumber_L7 N N (nI 0) (sI C 11009 0) := rfl
    rcases numL (N := N) (p0 := p) 4 0 p N N 0 _ D (by omega) (by omega) (by omega) (by omega) P0 rfl (fun _ => dg) with ⟨C1, D1, p1, v1, r1, r2, r3, r4, r5, r6, r7, r8, r9⟩ | ⟨C1, D1, v1, r1, r2, r3, r4, r5⟩
    · rw [z0, r1, r2, bns_l, bnd_some]
      left
      exact ⟨C1, D1, p1, v1, rfl, rfl, r3, r5 rfl, r6, (Fm.I rfl).trans r7, r8, r9⟩
    · rw [z0, r1, r2, bns_l, bnd_some]
      right
      exact ⟨C1, D1, v1, rfl, rfl, r3, (Fm.I rfl).trans r4, r5⟩
  · obtain ⟨n1, rfl, -⟩ := sc (show 0 < N by omega)
    have b : gI (sI (sI D 11349 1) 11350 (nI p)) 11349 ≠ 0 := show (1 : Int32) ≠ 0 by decide
    have eJ : f_X12_readNumber_J25 (n1 + 1) (nI mo) (nI p) 0 D = some (0, sI (sI D 11349 1) 11350 (nI p)) := by
      unfold f_X12_readNumber_J25
      rw [P.2.2.2.2.1, d_wr h8, bnd_some, f_X12_readNumber_L34, if_neg b, bnd_some]
    have ec : f_X10_takeNumber_L7 (n1 + 1) (n1 + 1) 0 (sI C 11009 0) = some (.inl (0, sI (sI (sI C 11009 0) 11011 1) 11012 (nI p))) := by
      rw [f_X10_takeNumber_L7, if_neg (by decide), c_sign P0, bnd_some]
      have e11 : gI (sI C 11009 0) 11007 = nI p := P.2.2.2.1
      by_cases c1 : sgn D en p < 48
      · rw [if_pos c1, if_neg (show ¬ (0 : Int32) < 0 by decide), c_ref, bnd_some, if_pos rfl, e11]
      · rw [if_neg c1, if_neg (fun z => dg ⟨c1, z⟩), if_neg (show ¬ (0 : Int32) < 0 by decide), c_ref, bnd_some, if_pos rfl, e11]
    rw [ec, bns_l, eJ]
    right
    refine ⟨_, _, 0, rfl, ?_, pf_mk (by decide), (Fm.I rfl).trans pc_ref, pd_wr⟩
    by_cases c1 : sgn D en p < 48
    · rw [if_pos c1]
    · rw [if_neg c1, if_neg (fun z => dg ⟨c1, z⟩)]
end PW
