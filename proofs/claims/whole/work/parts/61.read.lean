/-! read, name, feed -/
theorem bnd_k {α β : Type} {x : Option α} {k : α → Option β} : bnd (bnd x some) k = bnd x k := by
  cases x <;> rfl
theorem body_k {X Y Z : Option Int32} {W V : Int32 → Option CS} {K : CS → Option CS} {v : Int32} :
    (bnd X fun q => if q = 0 then (bnd Y fun r => if r ≤ v then (bnd Z fun s => bnd (W s) fun t => K t) else (bnd X fun t => bnd (V t) fun u => K u)) else (bnd X fun t => bnd (V t) fun u => K u)) =
    bnd (bnd X fun q => if q = 0 then (bnd Y fun r => if r ≤ v then (bnd Z fun s => bnd (W s) fun t => some t) else (bnd X fun t => bnd (V t) fun u => some u)) else (bnd X fun t => bnd (V t) fun u => some u)) K := by
  cases X with
  | none => rfl
  | some q =>
    simp only [bnd_some]
    by_cases c : q = 0
    · rw [if_pos c, if_pos c]
      cases Y with
      | none => rfl
      | some r =>
        simp only [bnd_some]
        by_cases c1 : r ≤ v
        · rw [if_pos c1, if_pos c1]
          cases Z with
          | none => rfl
          | some s =>
            simp only [bnd_some]
            cases W s <;> rfl
        · rw [if_neg c1, if_neg c1]
          cases V q <;> rfl
    · rw [if_neg c, if_neg c]
      cases V q <;> rfl
section PU
variable {C D : CS} {x y k v : Int32} {N : Nat} {nL nR nF nO a b : Nat} {cid : Nat → Nat}
theorem readL (hb : b < nL) (hL : nL ≤ 200) (hN : 20000 < N) : ∀ (m l z z' o : Nat) (C D : CS), l + m = b + 1 → a ≤ l → RRd C D nL nR nF nO cid → ROt C D o → o + 100 * m + 200 < 2 ^ 30 → m < z → m < z' → ∃ o' C1 D1, f_X11_read_L36 N (nI a) (nI b) v k z (nI o) (nI l) C = some (nI o', C1) ∧ f_X12_read_L55 N (nI a) (nI b) v k z' (nI l) D = some D1 ∧ ROt C1 D1 o' ∧ oC C C1 ∧ oD D D1 ∧ o' ≤ o + 100 * m := by
  intro m
  induction m with
  | zero =>
    intro l z z' o C D hl ha R O ho hz hz'
    obtain ⟨z, rfl, -⟩ := sc hz
    obtain ⟨z', rfl, -⟩ := sc hz'
    refine ⟨o, C, D, ?_, ?_, O, Fm.rfl, Fm.rfl, by omega⟩
    · rw [f_X11_read_L36, if_pos (nI_lt (by omega) (by omega))]
    · rw [f_X12_read_L55, if_pos (nI_lt (by omega) (by omega))]
  | succ m ih =>
    intro l z z' o C D hl ha R O ho hz hz'
    obtain ⟨z, rfl, hz⟩ := sc hz
    obtain ⟨z', rfl, hz'⟩ := sc hz'
    rw [f_X11_read_L36, f_X12_read_L55, if_neg (nI_nlt (by omega) (by omega)), if_neg (nI_nlt (by omega) (by omega))]
    by_cases c : l = a
    · subst c
      rw [if_pos (nI_le (Nat.le_refl _) (by omega)), if_pos (nI_le (Nat.le_refl _) (by omega)), body_k]
      obtain ⟨n, C1, D1, n1, h1, h2, h3, h4, h5⟩ := R.line (x1 := nI l) (x2 := nI b) (v := v) (k := k) O (by omega) (show l < nL by omega) hN
      rw [h1, h2, bnd_some, bnd_some, nI_add, nI_1]
      obtain ⟨o', C2, D2, t1, t2, t3, t4, t5, t6⟩ := ih (l + 1) z z' (o + n) C1 D1 (by omega) (by omega) (R.ou h4 h5) h3 (by omega) (by omega) (by omega)
      exact ⟨o', C2, D2, t1, t2, t3, h4.trans t4, h5.trans t5, by omega⟩
    · rw [if_neg (nI_ge (by omega) (by omega)), if_neg (nI_ge (by omega) (by omega)), bd_eq]
      obtain ⟨D0, s1, s2, s3, s4⟩ := O.say (b := 10) (by decide) (by omega)
      rw [show (10 : Int32) = nI 10 from rfl, s1, bnd_some, body_k]
      obtain ⟨n, C1, D1, n1, h1, h2, h3, h4, h5⟩ := (R.ou s3 s4).line (x1 := nI a) (x2 := nI b) (v := v) (k := k) s2 (by omega) (show l < nL by omega) hN
      rw [h1, h2, bnd_some, bnd_some, nI_1, nI_add, nI_1]
      obtain ⟨o', C2, D2, t1, t2, t3, t4, t5, t6⟩ := ih (l + 1) z z' (o + 1 + n) C1 D1 (by omega) (by omega) ((R.ou s3 s4).ou h4 h5) h3 (by omega) (by omega) (by omega)
      exact ⟨o', C2, D2, t1, t2, t3, (s3.trans h4).trans t4, (s4.trans h5).trans t5, by omega⟩
theorem ROt.zero : ROt (sI C 6701 0) (sI D 11304 0) 0 := ⟨by decide, rfl, rfl, fun i hi => by omega⟩
theorem InvN.out {C1 D1 : CS} {nM nN nX nD t o o' s w : Nat} {fp : Int32} (Q : InvN C D nL nR nF nM nN nX nO nD t o s w fp cid) (h : oC C C1) (k : oD D D1) (O : ROt C1 D1 o') : InvN C1 D1 nL nR nF nM nN nX nO nD t o' s w fp cid := by
  obtain ⟨q1, q2, q3, q4, q5, q6, q7, q8, q9, q10, q11, q12⟩ := Q
  exact ⟨q1.fm h k rfl rfl, q2.fm h k rfl rfl, q3.fm h k rfl rfl, q4.fm h k rfl rfl, q5.fm h k rfl rfl, q6.fm h k rfl rfl, q7.fm h k rfl rfl, q8.fm h k rfl rfl, q9.fm h k rfl rfl, O, q11.fm h k rfl rfl, q12.fm k rfl⟩
theorem op_read (R : Inv C D) (hN : 20000 < N) : Both 1 2 (Kept C) (f_X11_read N x y v k C) (f_X12_read N x y v k D) := by
  obtain ⟨nL, nR, nF, nM, nN, nX, nO, nD, t, o, s, w, fp, cid, Q⟩ := id R
  have Q2 := Q.cg (C1 := C) (D1 := sI D 11300 0) EqC.rfl EqD.code
  have hL := Q.1.1
  unfold f_X11_read f_X12_read
  rw [bd_eq, c_dLines Q2.1.2.1, d_isLine Q2.1.2.2.1, d_isLine Q2.1.2.2.1, d_fail, d_fail, bnd_some, bnd_some, bnd_some, bnd_some]
  by_cases c1 : hasT (nI nL) x = 0
  · rw [if_pos (Or.inl c1), bnx_l, if_pos c1]
    exact both_N (C1 := C) rfl rfl rfl ⟨R.cg EqC.rfl E01, rfl⟩
  by_cases c2 : hasT (nI nL) y = 0
  · rw [if_pos (Or.inr (Or.inl c2)), bnx_l, if_neg c1, if_pos c2]
    exact both_N (C1 := C) rfl rfl rfl ⟨R.cg EqC.rfl E01, rfl⟩
  by_cases c3 : y < x
  · rw [if_pos (Or.inr (Or.inr c3)), bnx_l, if_neg c1, if_neg c2, if_neg (Int32.not_le.mpr c3)]
    exact both_N (C1 := C) rfl rfl rfl ⟨R.cg EqC.rfl E01, rfl⟩
  rw [if_neg (by rintro (z | z | z); exact c1 z; exact c2 z; exact c3 z), bnx_r, if_neg c1, if_neg c2, if_pos (Int32.not_lt.mp c3), c_level3, bnd_some]
  cases cl : lv v
  · rw [if_pos (b2_0.mpr rfl)]
    refine both_I (C1 := C) (b := 0) (D1 := sI (sI D 11300 0) 11300 2) rfl ?_ rfl ⟨R.cg EqC.rfl E02, rfl⟩
    unfold lv at cl
    by_cases v1 : v < 0
    · rw [if_pos v1]
    · have v2 : 3 < v := by simpa [v1] using cl
      rw [if_neg v1, if_neg (Int32.not_le.mpr v2)]
  · have v1 : ¬ v < 0 := by intro z; simp [lv, z] at cl
    have v2 : ¬ 3 < v := by intro z; simp [lv, z] at cl
    rw [if_neg (show ¬ b2 true = 0 by decide), if_neg v1, if_pos (Int32.not_lt.mp v2), bd_eq, bd_eq]
    obtain ⟨a, a1, rfl⟩ := has_ex (by omega) c1
    obtain ⟨b, b1, rfl⟩ := has_ex (by omega) c2
    have hab : a ≤ b := (nI_leI (by omega) (by omega)).mp (Int32.not_lt.mp c3)
    have F1 : oC C (sI C 6701 0) := Fm.I rfl
    have F2 : oD (sI D 11300 0) (sI (sI D 11300 0) 11304 0) := Fm.I rfl
    have Rd : RRd C (sI D 11300 0) nL nR nF nO cid := ⟨Q2.be, Q2.2.2.2.2.1⟩
    obtain ⟨o', C1, D1, t1, t2, t3, t4, t5, t6⟩ := readL (a := a) (v := v) (k := k) b1 hL hN (b + 1 - a) a N N 0 _ _ (by omega) (Nat.le_refl _) (Rd.ou F1 F2) ROt.zero (by omega) (by omega) (by omega)
    rw [show f_X11_read_L36 N (nI a) (nI b) v k N 0 (nI a) (sI C 6701 0) = f_X11_read_L36 N (nI a) (nI b) v k N (nI 0) (nI a) (sI C 6701 0) from rfl, t1, t2, bnd_some, bnd_some, t3.2.1]
    refine both_0 rfl rfl ?_ ⟨⟨nL, nR, nF, nM, nN, nX, nO, nD, t, o', s, w, fp, cid, Q2.out (F1.trans t4) (F2.trans t5) t3⟩, (F1.trans t4).2.2.2⟩
    exact (F2.trans t5).1 11300 rfl
/-! bytes of a name -/
def nby (x : Int64) (s : Int32) : Int64 := (x >>> (Int32.toInt64 s &&& 63)) &&& 255
theorem nby_lt (x : Int64) (s : Int32) : ∃ b, b < 256 ∧ nby x s = lN b := by
  refine ⟨(nby x s).toBitVec.toNat, ?_, ?_⟩
  · unfold nby
    rw [Int64.toBitVec_and, BitVec.toNat_and]
    exact Nat.lt_of_le_of_lt Nat.and_le_right (by decide)
  · apply Int64.toBitVec_inj.mp
    apply BitVec.eq_of_toNat_eq
    show _ = ((nby x s).toBitVec.toNat) % 2 ^ 64
    rw [Nat.mod_eq_of_lt (nby x s).toBitVec.isLt]
theorem nby_i {x : Int64} {s : Int32} {b : Nat} (hb : b < 256) (h : nby x s = lN b) : Int64.toInt32 (nby x s) = nI b := by rw [h, lN_i]
theorem nby_0 {x : Int64} {s : Int32} {b : Nat} (hb : b < 256) (h : nby x s = lN b) : lg_cmp (nby x s) 0 = 0 ↔ b = 0 := by
  rw [lg0, h, show (0 : Int64) = lN 0 from rfl, lN_eq (by omega) (by decide)]
theorem ush (x : Int64) : ∀ s : Int32, s = 40 ∨ s = 32 ∨ s = 24 ∨ s = 16 ∨ s = 8 ∨ s = 0 → (Int64.toInt32 (((x).toUInt64 >>> ((Int32.toInt64 s).toUInt64 &&& Int64.toUInt64 63)).toInt64)) &&& 255 = Int64.toInt32 (nby x s) := by
  intro s hs
  sorry
end PU
