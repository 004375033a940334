/-! reading: names -/
theorem low8 {w : BitVec 64} {b : Nat} (hb : b < 256) : ((((w <<< 8) ||| (BitVec.ofNat 64 b)).sshiftRight 0) &&& 255#64) = BitVec.ofNat 64 b := by
  apply BitVec.eq_of_getLsbD_eq
  intro i hi
  rw [BitVec.getLsbD_and, BitVec.getLsbD_sshiftRight, if_pos (by omega), BitVec.getLsbD_or, BitVec.getLsbD_shiftLeft, BitVec.getLsbD_ofNat]
  simp only [Nat.zero_add]
  by_cases c : i < 8
  · rw [m64.1 i c, BitVec.getLsbD_ofNat]
    simp [show ¬ 64 ≤ i by omega, c, hi]
  · rw [m64.2 i hi (by omega)]
    have : b.testBit i = false := Nat.testBit_lt_two_pow (Nat.lt_of_lt_of_le hb (show 2 ^ 8 ≤ 2 ^ i from Nat.pow_le_pow_right (show 0 < 2 by decide) (show 8 ≤ i by omega)))
    rw [BitVec.getLsbD_ofNat, this]
    simp
def nxt (w : Int64) (c : Int32) : Int64 := (w <<< (Int32.toInt64 8 &&& 63)) ||| Int32.toInt64 c
theorem nxt_low {w : Int64} {b : Nat} (hb : b < 256) (h0 : 0 < b) : Int64.toInt32 (nby (nxt w (nI b)) 0) ≠ 0 := by
  have e : nby (nxt w (nI b)) 0 = lN b := by
    apply Int64.toBitVec_inj.mp
    have h2 : (nxt w (nI b)) = (w <<< (8 : Int64)) ||| lN b := by
      unfold nxt
      rw [nI_l (by omega), show (Int32.toInt64 8 &&& 63) = (8 : Int64) by decide]
    rw [h2]
    exact low8 (w := w.toBitVec) hb
  rw [e, lN_i]
  exact nI_ne0 h0 (by omega)
theorem low_ne {w : Int64} (h : Int64.toInt32 (nby w 0) ≠ 0) : w ≠ 0 := by
  intro z
  rw [z, nby_z] at h
  exact h rfl
section PX
variable {C D : CS} {en p lim mo N : Nat} {k q v : Int32}
def isN (x : Int32) : Bool := (!decide (x < 65) && decide (x ≤ 90)) || (!decide (x < 48) && !decide (57 < x))
theorem c_isN {x : Int32} : f_X10_isOfName x C = some (b2 (isN x)) := by
  unfold f_X10_isOfName f_X10_isOfName_J12 isN b2
  by_cases c1 : x < 65 <;> by_cases c2 : x ≤ 90 <;> by_cases c3 : x < 48 <;> by_cases c4 : 57 < x <;> simp [c1, c2, c3, c4]
theorem d_isN {x : Int32} : f_X12_isNameSign x D = some (b2 (isN x)) := by
  unfold f_X12_isNameSign f_X12_isNameSign_J12 isN b2
  by_cases c1 : x < 65 <;> by_cases c2 : x ≤ 90 <;> by_cases c3 : x < 48 <;> by_cases c4 : 57 < x <;> simp [c1, c2, c3, c4]
theorem isN_m1 : isN (-1) = false := by decide
theorem isN_pos {b : Nat} (hb : b < 256) (h : isN (nI b) = true) : 0 < b := by
  rcases Nat.eq_zero_or_pos b with z | z
  · subst z
    exact absurd h (by decide)
  · exact z
theorem PP.jj {w u : Int64} (P : PP C D en p lim mo) : PP (sJ C 11010 w) (sJ D 11353 u) en p lim mo := by
  obtain ⟨h0, h⟩ := P
  exact ⟨h0.fm (ei := []) (ea := []) (eb := []) (fi := []) (fa := []) (fb := []) Fm.J Fm.J rfl rfl, h⟩
theorem namL {p0 : Nat} : ∀ (m j p z z' : Nat) (w : Int64) (C D : CS), j + m = 6 → p = p0 + j → m + 1 < z → m + 2 < z' → PP C D en p lim mo → gJ C 11010 = w → gJ D 11353 = w → (j = 0 → isN (sgn D en p) = true) → (j ≠ 0 → Int64.toInt32 (nby w 0) ≠ 0) →
    (∃ C1 D1 p1 w1, f_X10_takeName_L7 N z (nI j) C = some (.inl (1, C1)) ∧ f_X12_readName_L29 N (nI mo) (nI p0) z' D = some D1 ∧ PP C1 D1 en p1 lim mo ∧ p ≤ p1 ∧ (j = 0 → p < p1) ∧ p1 ≤ p + m ∧ gJ C1 11010 = w1 ∧ gJ D1 11353 = w1 ∧ Int64.toInt32 (nby w1 0) ≠ 0 ∧ pC C C1 ∧ pD D D1 ∧ (∀ i, p ≤ i → i < p1 → sgn D en i ≠ 10 ∧ i < en)) ∨
    ∃ C1 D1, f_X10_takeName_L7 N z (nI j) C = some (.inl (0, C1)) ∧ f_X12_readName_L29 N (nI mo) (nI p0) z' D = some D1 ∧ PF C1 D1 ∧ pC C C1 ∧ pD D D1 := by
  intro m
  induction m with
  | zero =>
    intro j p z z' w C D hj hp hz hz' P hv hv' hd hw
    obtain ⟨z, rfl, hz⟩ := sc hz
    obtain ⟨z', rfl, hz'⟩ := sc hz'
    have h8 := P.2.2.2.2.2.2.2.2.1
    have hl := P.lt
    have j4 : j = 6 := by omega
    subst j4
    rw [f_X10_takeName_L7, f_X12_readName_L29, h8, if_pos rfl, P.now, bnd_some, c_sign P, bnd_some, if_neg (show ¬ (6 : Int32) < nI 6 by decide), c_isN, d_isN, bnd_some, bnd_some]
    cases c : isN (sgn D en p)
    · rw [if_pos (b2_0.mpr rfl), if_pos (b2_0.mpr rfl), if_pos (show (0 : Int32) < nI 6 by decide)]
      left
      exact ⟨C, D, p, w, rfl, rfl, P, Nat.le_refl _, fun z => by omega, by omega, hv, hv', hw (by decide), Fm.rfl, Fm.rfl, fun i h1 h2 => by exfalso; omega⟩
    · rw [if_neg (show ¬ b2 true = 0 by decide), if_neg (show ¬ b2 true = 0 by decide), if_pos (show nI 6 = 6 from rfl), P.2.2.2.2.1, pk_sub (by omega), if_pos (show nI (p - p0) = 6 by rw [show p - p0 = 6 by omega]; rfl), c_ref, bnd_some, d_wr h8, bnd_some]
      have b : gI (sJ (sI (sI D 11349 2) 11350 (nI p)) 11353 (((gJ (sI (sI D 11349 2) 11350 (nI p)) 11353) <<< (Int32.toInt64 8 &&& 63)) ||| (Int32.toInt64 (sgn D en p)))) 11349 ≠ 0 := show (2 : Int32) ≠ 0 by decide
      have nw : f_X12_now0 (sI (sI D 11349 2) 11350 (nI p)) = some (sgn D en p) := d_now (D := sI (sI D 11349 2) 11350 (nI p)) P.2.2.1 P.2.2.2.2.1 P.1.1 hl.1
      obtain ⟨z2, rfl, -⟩ := sc (show 0 < z' by omega)
      rw [nw, bnd_some, bd_eq, d_takeB b, bnd_some, f_X12_readName_L29, if_neg b, if_pos (show (0 : Int32) &&& 1 = 0 by decide), P.2.2.2.1]
      right
      exact ⟨_, _, rfl, rfl, ⟨2, nI p, by decide, rfl, rfl, rfl, rfl⟩, pc_ref, pd_wr.trans Fm.J⟩
  | succ m ih =>
    intro j p z z' w C D hj hp hz hz' P hv hv' hd hw
    obtain ⟨z, rfl, hz⟩ := sc hz
    obtain ⟨z', rfl, hz'⟩ := sc hz'
    have h8 := P.2.2.2.2.2.2.2.2.1
    have hl := P.lt
    have n4 : ¬ (6 : Int32) < nI j := nI_nlt (b := j) (a := 6) (by omega) (by decide)
    have e4 : ¬ nI j = 6 := fun z => by have := (nI_eq (b := 6) (by omega) (by decide)).mp z; omega
    have d4 : ¬ nI (p - p0) = 6 := fun z => by have := (nI_eq (b := 6) (by omega) (by decide)).mp z; omega
    rw [f_X10_takeName_L7, f_X12_readName_L29, h8, if_pos rfl, P.now, bnd_some, c_sign P, bnd_some, if_neg n4, c_isN, d_isN, bnd_some, bnd_some]
    cases c : isN (sgn D en p)
    · have j0 : j ≠ 0 := fun z => by rw [hd z] at c; cases c
      rw [if_pos (b2_0.mpr rfl), if_pos (b2_0.mpr rfl), if_pos (show (0 : Int32) < nI j from nI_lt (a := 0) (by omega) (by omega))]
      left
      exact ⟨C, D, p, w, rfl, rfl, P, Nat.le_refl _, fun z => absurd z j0, by omega, hv, hv', hw j0, Fm.rfl, Fm.rfl, fun i h1 h2 => by exfalso; omega⟩
    · rw [if_neg (show ¬ b2 true = 0 by decide), if_neg (show ¬ b2 true = 0 by decide), if_neg e4, P.2.2.2.2.1, pk_sub (by omega), if_neg d4, bnd_some, bd_eq]
      have P2 := P.jj (w := w) (u := ((gJ D 11353) <<< (Int32.toInt64 8 &&& 63)) ||| (Int32.toInt64 (sgn D en p)))
      by_cases h : p < lim
      · obtain ⟨s1, -, s3⟩ := P.stepY h
        obtain ⟨-, s2, s4⟩ := P2.stepY h
        rw [s1, s2, bnd_some, bnd_some, if_neg (show ¬ (1 : Int32) = 0 by decide), bd_eq, nI_1]
        have ev : gJ (sI C 11007 (nI (p + 1))) 11010 = w := hv
        rw [ev, hv']
        rcases P.byte with hb | ⟨b, b1, b2', b3⟩
        · rw [hb, isN_m1] at c; cases c
        rw [b2'] at c
        rw [b2', hv'] at s4
        rw [b2']
        have P3 : PP (sJ (sI C 11007 (nI (p + 1))) 11010 (nxt w (nI b))) (sI (sJ D 11353 (nxt w (nI b))) 11346 (nI (p + 1))) en (p + 1) lim mo := by
          obtain ⟨t0, t⟩ := s4
          exact ⟨t0.fm (ei := []) (ea := []) (eb := []) (fi := []) (fa := []) (fb := []) ⟨fun _ _ => rfl, fun _ _ => rfl, fun _ _ => rfl, rfl⟩ Fm.rfl rfl rfl, t⟩
        rcases ih (j + 1) (p + 1) z z' (nxt w (nI b)) _ _ (by omega) (by omega) (by omega) (by omega) P3 rfl rfl (fun z => by omega) (fun _ => nxt_low b1 (isN_pos b1 c)) with ⟨C1, D1, p1, w1, r1, r2, r3, r4, r5, r6, r7, r8, r9, r10, r11, r12⟩ | ⟨C1, D1, r1, r2, r3, r4, r5⟩
        · left
          refine ⟨C1, D1, p1, w1, r1, r2, r3, by omega, fun _ => by omega, by omega, r7, r8, r9, ((Fm.I rfl).trans Fm.J).trans r10, (Fm.J.trans (Fm.I rfl)).trans r11, fun i h1 h2 => ?_⟩
          by_cases e : i = p
          · rw [e, b2']; exact ⟨fun q => (by rw [q] at c; exact absurd c (by decide)), b3⟩
          · exact r12 i (by omega) h2
        · right
          exact ⟨C1, D1, r1, r2, r3, ((Fm.I rfl).trans Fm.J).trans r4, (Fm.J.trans (Fm.I rfl)).trans r5⟩
      · obtain ⟨s1, -⟩ := P.stepN h
        obtain ⟨-, s2⟩ := P2.stepN h
        obtain ⟨z2, rfl, -⟩ := sc (show 0 < z' by omega)
        rw [s1, s2, bnd_some, bnd_some, if_pos rfl, f_X12_readName_L29]
        right
        refine ⟨_, _, rfl, if_neg (show ¬ (2 : Int32) = 0 by decide), ⟨2, nI p, by decide, rfl, rfl, rfl, rfl⟩, pc_ref, Fm.J.trans pd_wr⟩
theorem PP.nam (P : PP C D en p lim mo) (hN : 20000 < N) :
    (∃ C1 D1 p1 w, f_X10_takeName N C = some (1, C1) ∧ f_X12_readName N (nI mo) D = some (nI p, D1) ∧ PP C1 D1 en p1 lim mo ∧ p < p1 ∧ p1 ≤ p + 6 ∧ gJ C1 11010 = w ∧ gJ D1 11353 = w ∧ Int64.toInt32 (nby w 0) ≠ 0 ∧ pC C C1 ∧ pD D D1 ∧ (∀ i, p ≤ i → i < p1 → sgn D en i ≠ 10 ∧ i < en)) ∨
    ∃ C1 D1, f_X10_takeName N C = some (0, C1) ∧ f_X12_readName N (nI mo) D = some (nI p, D1) ∧ PF C1 D1 ∧ pC C C1 ∧ pD D D1 := by
  have h8 := P.2.2.2.2.2.2.2.2.1
  have hl := P.lt
  have P0 := P.jj (w := 0) (u := 0)
  have hp4 : gI D 11346 = nI p := P.2.2.2.2.1
  have nw : f_X12_now0 (sJ D 11353 0) = some (sgn D en p) := d_now (D := sJ D 11353 0) P.2.2.1 P.2.2.2.2.1 P.1.1 hl.1
  unfold f_X10_takeName f_X12_readName
  rw [bd_eq, bd_eq, nw, bnd_some, d_isN, bnd_some, hp4]
  cases dg : isN (sgn D en p)
  · obtain ⟨n1, rfl, -⟩ := sc (show 0 < N by omega)
    have e11 : gI (sJ C 11010 0) 11007 = nI p := P.2.2.2.1
    have ed : gI (sJ D 11353 0) 11346 = nI p := hp4
    have b8 : gI (sJ D 11353 0) 11349 = 0 := h8
    rw [if_pos (b2_0.mpr rfl), ed, d_wr b8, bnd_some]
    have b : gI (sI (sI (sJ D 11353 0) 11349 1) 11350 (nI p)) 11349 ≠ 0 := show (1 : Int32) ≠ 0 by decide
    have ec : f_X10_takeName_L7 (n1 + 1) (n1 + 1) 0 (sJ C 11010 0) = some (.inl (0, sI (sI (sJ C 11010 0) 11011 1) 11012 (nI p))) := by
      have sg : f_X10_sign (sJ C 11010 0) = some (sgn D en p) := c_sign P0
      rw [f_X10_takeName_L7, if_neg (by decide), sg, bnd_some, c_isN, bnd_some, dg, if_pos (b2_0.mpr rfl), if_neg (show ¬ (0 : Int32) < 0 by decide), c_ref, bnd_some, if_pos rfl, e11]
    rw [ec, bns_l, f_X12_readName_L29, if_neg b, bnd_some]
    right
    exact ⟨_, _, rfl, rfl, ⟨1, nI p, by decide, rfl, rfl, rfl, rfl⟩, Fm.J.trans pc_ref, Fm.J.trans pd_wr⟩
  · rw [if_neg (show ¬ b2 true = 0 by decide)]
    have z0 : f_X10_takeName_L7 N N 0 (sJ C 11010 0) = f_X10_takeName_L7 N N (nI 0) (sJ C 11010 0) := rfl
    rcases namL (N := N) (p0 := p) 6 0 p N N 0 _ _ (by omega) (by omega) (by omega) (by omega) P0 rfl rfl (fun _ => dg) (fun z => absurd rfl z) with ⟨C1, D1, p1, w1, r1, r2, r3, r4, r5, r6, r7, r8, r9, r10, r11, r12⟩ | ⟨C1, D1, r1, r2, r3, r4, r5⟩
    · rw [z0, r1, r2, bns_l, bnd_some]
      left
      exact ⟨C1, D1, p1, w1, rfl, rfl, r3, r5 rfl, r6, r7, r8, r9, Fm.J.trans r10, Fm.J.trans r11, r12⟩
    · rw [z0, r1, r2, bns_l, bnd_some]
      right
      exact ⟨C1, D1, rfl, rfl, r3, Fm.J.trans r4, Fm.J.trans r5⟩
end PX
