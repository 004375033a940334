/-! feed -/
abbrev tC : CS → CS → Prop := Fm [6501] [66] []
abbrev tD : CS → CS → Prop := Fm [11303] [114] []
section PV
variable {C D : CS} {a b c d e x : Int32} {t N : Nat}
theorem RTp.add {v : Nat} (R : RTp C D t) (h : t < 3000) (hx : x &&& 255 = nI v) (hv : v < 256) : RTp (badd 65 x C) (sI (sA D 114 t (nI v)) 11303 (nI (t + 1))) (t + 1) ∧ tC C (badd 65 x C) := by
  obtain ⟨r1, r2, r3, r4⟩ := R
  unfold badd
  rw [show 100 * 65 + 1 = 6501 from rfl, show 65 + 1 = 66 from rfl, r2, show mo 65 = 3000 from rfl, if_pos (nI_lt h (by decide)), hx, nI_clamp (by omega), nI_1]
  refine ⟨⟨by omega, rfl, rfl, fun i hi => ?_⟩, (Fm.A rfl).trans (Fm.I rfl)⟩
  show ∃ b, b < 256 ∧ upd (gA C 66) t (nI v) i = nI b ∧ upd (gA D 114) t (nI v) i = nI b
  by_cases q : i = t
  · subst q
    exact ⟨v, hv, upd_eq, upd_eq⟩
  · rw [upd_ne q, upd_ne q]
    exact r4 i (by omega)
def shf (k : Nat) : Int32 := nI (24 - 8 * (k % 4))
def wrd (a b c d e : Int32) (k : Nat) : Int32 := if k < 4 then a else if k < 8 then b else if k < 12 then c else if k < 16 then d else e
def ubt (x s : Int32) : Int32 := ((x).toUInt32 >>> (Int32.toUInt32 s &&& Int32.toUInt32 31)).toInt32
def cb (a b c d e : Int32) (C : CS) : Nat → CS
  | 0 => C
  | k + 1 => badd 65 (ubt (wrd a b c d e k) (shf k)) (cb a b c d e C k)
def dbt (a b c d e : Int32) (t : Nat) (D : CS) : Nat → CS
  | 0 => D
  | k + 1 => sI (sA (dbt a b c d e t D k) 114 (t + k) ((wrd a b c d e k >>> (shf k &&& 31)) &&& 255)) 11303 (nI (t + (k + 1)))
theorem shf_all : ∀ k, k < 20 → (24 - (8 * (nI k - nI k / 4 * 4))) = shf k ∧ (shf k = 24 ∨ shf k = 16 ∨ shf k = 8 ∨ shf k = 0) := by decide
theorem fdR (R : RTp C D t) (h : t + 20 ≤ 3000) : ∀ k, k ≤ 20 → RTp (cb a b c d e C k) (dbt a b c d e t D k) (t + k) ∧ tC C (cb a b c d e C k) ∧ tD D (dbt a b c d e t D k) := by
  intro k
  induction k with
  | zero => intro _; exact ⟨R, Fm.rfl, Fm.rfl⟩
  | succ k ih =>
    intro hk
    obtain ⟨h1, h2, h3⟩ := ih (by omega)
    have hs := (shf_all k (by omega)).2
    obtain ⟨v, v1, v2⟩ := pk_andE (ubt (wrd a b c d e k) (shf k)) (m := 255) 8 rfl
    have e1 : (wrd a b c d e k >>> (shf k &&& 31)) &&& 255 = nI v := by rw [← ush32 _ _ hs]; exact v2
    obtain ⟨r1, r2⟩ := h1.add (x := ubt (wrd a b c d e k) (shf k)) (by omega) v2 v1
    refine ⟨?_, h2.trans r2, ?_⟩
    · rw [cb, dbt, e1]
      exact r1
    · rw [dbt]
      exact h3.trans ((Fm.A rfl).trans (Fm.I rfl))
theorem d_feedL (R : RTp C D t) (h : t + 20 ≤ 3000) : ∀ m k z : Nat, k + m = 20 → m < z → f_X12_feed_L23 N a b c d e z (nI k) (dbt a b c d e t D k) = some (dbt a b c d e t D 20) := by
  intro m
  induction m with
  | zero =>
    intro k z hk hz
    obtain ⟨z, rfl, -⟩ := sc hz
    rw [f_X12_feed_L23, if_pos (show (20 : Int32) ≤ nI k from nI_le (a := 20) (by omega) (by omega)), show k = 20 by omega]
  | succ m ih =>
    intro k z hk hz
    obtain ⟨z, rfl, hz⟩ := sc hz
    have ih := ih (k + 1) z (by omega) (by omega)
    have hr := (fdR (a := a) (b := b) (c := c) (d := d) (e := e) R h k (by omega)).1
    have n20 : ¬ (20 : Int32) ≤ nI k := nI_ge (b := 20) (by omega) (by decide)
    have ii : inb (nI (t + k)) 3000 = true := inb_nI (by omega) (by decide)
    have ik : (nI (t + k)).toNatClampNeg = t + k := nI_clamp (by omega)
    rw [dbt] at ih
    rw [f_X12_feed_L23, if_neg n20, hr.2.2.1, ii, ik, (shf_all k (by omega)).1]
    simp only [bd_eq, gI_sA, hr.2.2.1, nI_1, if_true]
    rw [show t + k + 1 = t + (k + 1) by omega]
    have L : ∀ n : Nat, n ≤ 20 → ((nI n ≤ nI k) ↔ n ≤ k) := fun n hn => nI_leI (by omega) (by omega)
    have l4 := L 4 (by decide)
    have l8 := L 8 (by decide)
    have l12 := L 12 (by decide)
    have l16 := L 16 (by decide)
    rw [show (nI 4 : Int32) = 4 from rfl] at l4
    rw [show (nI 8 : Int32) = 8 from rfl] at l8
    rw [show (nI 12 : Int32) = 12 from rfl] at l12
    rw [show (nI 16 : Int32) = 16 from rfl] at l16
    unfold wrd at ih
    simp only [l4, l8, l12, l16]
    by_cases c4 : k < 4
    · rw [if_pos c4] at ih
      rw [if_neg (by omega : ¬ 4 ≤ k)]
      exact ih
    · rw [if_neg c4] at ih
      rw [if_pos (by omega : 4 ≤ k)]
      by_cases c8 : k < 8
      · rw [if_pos c8] at ih
        rw [if_neg (by omega : ¬ 8 ≤ k)]
        exact ih
      · rw [if_neg c8] at ih
        rw [if_pos (by omega : 8 ≤ k)]
        by_cases c12 : k < 12
        · rw [if_pos c12] at ih
          rw [if_neg (by omega : ¬ 12 ≤ k)]
          exact ih
        · rw [if_neg c12] at ih
          rw [if_pos (by omega : 12 ≤ k)]
          by_cases c16 : k < 16
          · rw [if_pos c16] at ih
            rw [if_neg (by omega : ¬ 16 ≤ k)]
            exact ih
          · rw [if_neg c16] at ih
            rw [if_pos (by omega : 16 ≤ k)]
            exact ih
theorem c_add4 (X : CS) (hN : 20 < N) : f_X1_addNumber_65 N x X = some (badd 65 (ubt x 0) (badd 65 (ubt x 8) (badd 65 (ubt x 16) (badd 65 (ubt x 24) X)))) := by
  unfold f_X1_addNumber_65
  obtain ⟨n1, rfl, h1⟩ := sc (show 4 < N by omega)
  obtain ⟨n2, rfl, h2⟩ := sc (show 3 < n1 by omega)
  obtain ⟨n3, rfl, h3⟩ := sc (show 2 < n2 by omega)
  obtain ⟨n4, rfl, h4⟩ := sc (show 1 < n3 by omega)
  obtain ⟨n5, rfl, h5⟩ := sc (show 0 < n4 by omega)
  rw [f_X1_addNumber_65_L3, if_neg (by decide), bd_eq, show (24 : Int32) + (-8) = 16 by decide, f_X1_addNumber_65_L3, if_neg (by decide), bd_eq, show (16 : Int32) + (-8) = 8 by decide, f_X1_addNumber_65_L3, if_neg (by decide), bd_eq, show (8 : Int32) + (-8) = 0 by decide, f_X1_addNumber_65_L3, if_neg (by decide), bd_eq, show (0 : Int32) + (-8) = -8 by decide, f_X1_addNumber_65_L3, if_pos (by decide), bnd_some]
  rfl
theorem op_feed (R : Inv C D) (hN : 20000 < N) : ∃ r C1 D1, f_X11_feed N a b c d e C = some (r, C1) ∧ f_X12_feed N a b c d e D = some (r, D1) ∧ Kept C D C1 D1 := by
  obtain ⟨nL, nR, nF, nM, nN, nX, nO, nD, t, o, s, w, fp, cid, Q⟩ := id R
  have Q2 := Q.cg (C1 := C) (D1 := sI D 11300 0) EqC.rfl EqD.code
  obtain ⟨q1, q2, q3, q4, q5, q6, q7, q8, q9, q10, q11, q12⟩ := Q2
  have q9' := q9
  obtain ⟨t1, t2, t3, t4⟩ := q9'
  unfold f_X11_feed f_X12_feed
  rw [bd_eq, t2, t3, show (20 : Int32) = nI 20 from rfl, nI_add]
  by_cases h : t + 20 ≤ 3000
  · have hh : nI (t + 20) ≤ 3000 := nI_le (b := 3000) h (by decide)
    rw [if_pos hh, if_pos hh]
    obtain ⟨r1, r2, r3⟩ := fdR (a := a) (b := b) (c := c) (d := d) (e := e) q9 h 20 (Nat.le_refl _)
    have z := d_feedL (N := N) (a := a) (b := b) (c := c) (d := d) (e := e) q9 h 20 0 N (by omega) (by omega)
    rw [show f_X12_feed_L23 N a b c d e N 0 (sI D 11300 0) = f_X12_feed_L23 N a b c d e N (nI 0) (dbt a b c d e t (sI D 11300 0) 0) from rfl, z, bnd_some, r1.2.2.1]
    have ec : (bnd (f_X1_addNumber_65 N a C) fun q2 => bnd (f_X1_addNumber_65 N b q2) fun q4 => bnd (f_X1_addNumber_65 N c q4) fun q6 => bnd (f_X1_addNumber_65 N d q6) fun q8 => bnd (f_X1_addNumber_65 N e q8) fun q10 => some ((gI q10 6501), q10)) = some (gI (cb a b c d e C 20) 6501, cb a b c d e C 20) := by
      simp only [c_add4 _ (show 20 < N by omega), bnd_some]
      rfl
    rw [ec, r1.2.1]
    refine ⟨_, _, _, rfl, rfl, ⟨nL, nR, nF, nM, nN, nX, nO, nD, t + 20, o, s, w, fp, cid, ?_⟩, kp r2.2.2.2 (r3.2.2.1 146 rfl)⟩
    exact ⟨q1.fm r2 r3 rfl rfl, q2.fm r2 r3 rfl rfl, q3.fm r2 r3 rfl rfl, q4.fm r2 r3 rfl rfl, q5.fm r2 r3 rfl rfl, q6.fm r2 r3 rfl rfl, q7.fm r2 r3 rfl rfl, q8.fm r2 r3 rfl rfl, r1, q10.fm r2 r3 rfl rfl, q11.fm r2 r3 rfl rfl, q12.fm r3 rfl⟩
  · have hh : ¬ nI (t + 20) ≤ 3000 := nI_ge (a := 3000) (by omega) (by omega)
    rw [if_neg hh, if_neg hh]
    exact ⟨_, _, _, rfl, rfl, R.cg EqC.rfl EqD.code, rfl⟩
end PV
