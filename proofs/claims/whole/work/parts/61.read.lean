/-! read, name, feed -/
theorem bnd_k {α β : Type} {x : Option α} {k : α → Option β} : bnd (bnd x some) k = bnd x k := by
  cases x <;> rfl
theorem body_k {X Y Z : Option Int32} {W V : Int32 → Option CS} {K : CS → Option CS} {v : Int32} :
    (bnd X fun q => if q = 0 then (bnd Y fun r => if r ≤ v then (bnd Z fun s => bnd (W s) fun t => K t) else (bnd X fun t => bnd (V t) fun u => K u)) else (bnd X fun t => bnd (V t) fun u => K u)) =
    bnd (bnd X fun q => if q = 0 then (bnd Y fun r => if r ≤ v then (bnd Z fun s => bnd (W s) fun t => some t) else (bnd X fun t => bnd (V t) fun u => some u)) else (bnd X fun t => bnd (V t) fun u => some u)) K := by
  cases X with
  | none => rfl
  | some q =>
    simp only [bnd_some]
    by_cases c : q = 0
    · rw [if_pos c, if_pos c]
      cases Y with
      | none => rfl
      | some r =>
        simp only [bnd_some]
        by_cases c1 : r ≤ v
        · rw [if_pos c1, if_pos c1]
          cases Z with
          | none => rfl
          | some s =>
            simp only [bnd_some]
            cases W s <;> rfl
        · rw [if_neg c1, if_neg c1]
          cases V q <;> rfl
    · rw [if_neg c, if_neg c]
      cases V q <;> rfl
section PU
variable {C D : CS} {x y k v : Int32} {N : Nat} {nL nR nF nO a b : Nat} {cid : Nat → Nat}
theorem readL (hb : b < nL) (hL : nL ≤ 200) (hN : 20000 < N) : ∀ (m l z z' o : Nat) (C D : CS), l + m = b + 1 → a ≤ l → RRd C D nL nR nF nO cid → ROt C D o → o + 100 * m + 200 < 2 ^ 30 → m < z → m < z' → ∃ o' C1 D1, f_X11_read_L36 N (nI a) (nI b) v k z (nI o) (nI l) C = some (nI o', C1) ∧ f_X12_read_L55 N (nI a) (nI b) v k z' (nI l) D = some D1 ∧ ROt C1 D1 o' ∧ oC C C1 ∧ oD D D1 ∧ o' ≤ o + 100 * m := by
  intro m
  induction m with
  | zero =>
    intro l z z' o C D hl ha R O ho hz hz'
    obtain ⟨z, rfl, -⟩ := sc hz
    obtain ⟨z', rfl, -⟩ := sc hz'
    refine ⟨o, C, D, ?_, ?_, O, Fm.rfl, Fm.rfl, by omega⟩
    · rw [f_X11_read_L36, if_pos (nI_lt (by omega) (by omega))]
    · rw [f_X12_read_L55, if_pos (nI_lt (by omega) (by omega))]
  | succ m ih =>
    intro l z z' o C D hl ha R O ho hz hz'
    obtain ⟨z, rfl, hz⟩ := sc hz
    obtain ⟨z', rfl, hz'⟩ := sc hz'
    rw [f_X11_read_L36, f_X12_read_L55, if_neg (nI_nlt (by omega) (by omega)), if_neg (nI_nlt (by omega) (by omega))]
    by_cases c : l = a
    · subst c
      rw [if_pos (nI_le (Nat.le_refl _) (by omega)), if_pos (nI_le (Nat.le_refl _) (by omega)), body_k]
      obtain ⟨n, C1, D1, n1, h1, h2, h3, h4, h5⟩ := R.line (x1 := nI l) (x2 := nI b) (v := v) (k := k) O (by omega) (show l < nL by omega) hN
      rw [h1, h2, bnd_some, bnd_some, nI_add, nI_1]
      obtain ⟨o', C2, D2, t1, t2, t3, t4, t5, t6⟩ := ih (l + 1) z z' (o + n) C1 D1 (by omega) (by omega) (R.ou h4 h5) h3 (by omega) (by omega) (by omega)
      exact ⟨o', C2, D2, t1, t2, t3, h4.trans t4, h5.trans t5, by omega⟩
    · rw [if_neg (nI_ge (by omega) (by omega)), if_neg (nI_ge (by omega) (by omega)), bd_eq]
      obtain ⟨D0, s1, s2, s3, s4⟩ := O.say (b := 10) (by decide) (by omega)
      rw [show (10 : Int32) = nI 10 from rfl, s1, bnd_some, body_k]
      obtain ⟨n, C1, D1, n1, h1, h2, h3, h4, h5⟩ := (R.ou s3 s4).line (x1 := nI a) (x2 := nI b) (v := v) (k := k) s2 (by omega) (show l < nL by omega) hN
      rw [h1, h2, bnd_some, bnd_some, nI_1, nI_add, nI_1]
      obtain ⟨o', C2, D2, t1, t2, t3, t4, t5, t6⟩ := ih (l + 1) z z' (o + 1 + n) C1 D1 (by omega) (by omega) ((R.ou s3 s4).ou h4 h5) h3 (by omega) (by omega) (by omega)
      exact ⟨o', C2, D2, t1, t2, t3, (s3.trans h4).trans t4, (s4.trans h5).trans t5, by omega⟩
theorem ROt.zero : ROt (sI C 6701 0) (sI D 11304 0) 0 := ⟨by decide, rfl, rfl, fun i hi => by omega⟩
theorem InvN.out {C1 D1 : CS} {nM nN nX nD t o o' s w : Nat} {fp : Int32} (Q : InvN C D nL nR nF nM nN nX nO nD t o s w fp cid) (h : oC C C1) (k : oD D D1) (O : ROt C1 D1 o') : InvN C1 D1 nL nR nF nM nN nX nO nD t o' s w fp cid := by
  obtain ⟨q1, q2, q3, q4, q5, q6, q7, q8, q9, q10, q11, q12⟩ := Q
  exact ⟨q1.fm h k rfl rfl, q2.fm h k rfl rfl, q3.fm h k rfl rfl, q4.fm h k rfl rfl, q5.fm h k rfl rfl, q6.fm h k rfl rfl, q7.fm h k rfl rfl, q8.fm h k rfl rfl, q9.fm h k rfl rfl, O, q11.fm h k rfl rfl, q12.fm k rfl⟩
theorem op_read (R : Inv C D) (hN : 20000 < N) : Both 1 2 (Kept C D) (f_X11_read N x y v k C) (f_X12_read N x y v k D) := by
  obtain ⟨nL, nR, nF, nM, nN, nX, nO, nD, t, o, s, w, fp, cid, Q⟩ := id R
  have Q2 := Q.cg (C1 := C) (D1 := sI D 11300 0) EqC.rfl EqD.code
  have hL := Q.1.1
  unfold f_X11_read f_X12_read
  rw [bd_eq, c_dLines Q2.1.2.1, d_isLine Q2.1.2.2.1, d_isLine Q2.1.2.2.1, d_fail, d_fail, bnd_some, bnd_some, bnd_some, bnd_some]
  by_cases c1 : hasT (nI nL) x = 0
  · rw [if_pos (Or.inl c1), bnx_l, if_pos c1]
    exact both_N (C1 := C) rfl rfl rfl ⟨R.cg EqC.rfl E01, rfl⟩
  by_cases c2 : hasT (nI nL) y = 0
  · rw [if_pos (Or.inr (Or.inl c2)), bnx_l, if_neg c1, if_pos c2]
    exact both_N (C1 := C) rfl rfl rfl ⟨R.cg EqC.rfl E01, rfl⟩
  by_cases c3 : y < x
  · rw [if_pos (Or.inr (Or.inr c3)), bnx_l, if_neg c1, if_neg c2, if_neg (Int32.not_le.mpr c3)]
    exact both_N (C1 := C) rfl rfl rfl ⟨R.cg EqC.rfl E01, rfl⟩
  rw [if_neg (by rintro (z | z | z); exact c1 z; exact c2 z; exact c3 z), bnx_r, if_neg c1, if_neg c2, if_pos (Int32.not_lt.mp c3), c_level3, bnd_some]
  cases cl : lv v
  · rw [if_pos (b2_0.mpr rfl)]
    refine both_I (C1 := C) (b := 0) (D1 := sI (sI D 11300 0) 11300 2) rfl ?_ rfl ⟨R.cg EqC.rfl E02, rfl⟩
    unfold lv at cl
    by_cases v1 : v < 0
    · rw [if_pos v1]
    · have v2 : 3 < v := by simpa [v1] using cl
      rw [if_neg v1, if_neg (Int32.not_le.mpr v2)]
  · have v1 : ¬ v < 0 := by intro z; simp [lv, z] at cl
    have v2 : ¬ 3 < v := by intro z; simp [lv, z] at cl
    rw [if_neg (show ¬ b2 true = 0 by decide), if_neg v1, if_pos (Int32.not_lt.mp v2), bd_eq, bd_eq]
    obtain ⟨a, a1, rfl⟩ := has_ex (by omega) c1
    obtain ⟨b, b1, rfl⟩ := has_ex (by omega) c2
    have hab : a ≤ b := (nI_leI (by omega) (by omega)).mp (Int32.not_lt.mp c3)
    have F1 : oC C (sI C 6701 0) := Fm.I rfl
    have F2 : oD (sI D 11300 0) (sI (sI D 11300 0) 11304 0) := Fm.I rfl
    have Rd : RRd C (sI D 11300 0) nL nR nF nO cid := ⟨Q2.be, Q2.2.2.2.2.1⟩
    obtain ⟨o', C1, D1, t1, t2, t3, t4, t5, t6⟩ := readL (a := a) (v := v) (k := k) b1 hL hN (b + 1 - a) a N N 0 _ _ (by omega) (Nat.le_refl _) (Rd.ou F1 F2) ROt.zero (by omega) (by omega) (by omega)
    rw [show f_X11_read_L36 N (nI a) (nI b) v k N 0 (nI a) (sI C 6701 0) = f_X11_read_L36 N (nI a) (nI b) v k N (nI 0) (nI a) (sI C 6701 0) from rfl, t1, t2, bnd_some, bnd_some, t3.2.1]
    refine both_0 rfl rfl ?_ ⟨⟨nL, nR, nF, nM, nN, nX, nO, nD, t, o', s, w, fp, cid, Q2.out (F1.trans t4) (F2.trans t5) t3⟩, kp (F1.trans t4).2.2.2 ((F2.trans t5).2.2.1 146 rfl)⟩
    exact (F2.trans t5).1 11300 rfl
/-! bytes of a name -/
theorem nby_lt (x : Int64) (s : Int32) : ∃ b, b < 256 ∧ nby x s = lN b := by
  refine ⟨(nby x s).toBitVec.toNat, ?_, ?_⟩
  · unfold nby
    rw [Int64.toBitVec_and, BitVec.toNat_and]
    exact Nat.lt_of_le_of_lt Nat.and_le_right (by decide)
  · apply Int64.toBitVec_inj.mp
    apply BitVec.eq_of_toNat_eq
    show _ = ((nby x s).toBitVec.toNat) % 2 ^ 64
    rw [Nat.mod_eq_of_lt (nby x s).toBitVec.isLt]
theorem nby_i {x : Int64} {s : Int32} {b : Nat} (hb : b < 256) (h : nby x s = lN b) : Int64.toInt32 (nby x s) = nI b := by rw [h, lN_i]
theorem nby_0 {x : Int64} {s : Int32} {b : Nat} (hb : b < 256) (h : nby x s = lN b) : lg_cmp (nby x s) 0 = 0 ↔ b = 0 := by
  rw [lg0, h, show (0 : Int64) = lN 0 from rfl, lN_eq (by omega) (by decide)]
theorem m32 : (∀ i, i < 8 → (255#32).getLsbD i = true) ∧ ∀ i, i < 32 → 8 ≤ i → (255#32).getLsbD i = false := by decide
theorem m64 : (∀ i, i < 8 → (255#64).getLsbD i = true) ∧ ∀ i, i < 64 → 8 ≤ i → (255#64).getLsbD i = false := by decide
theorem bits64 {x : BitVec 64} {s : Nat} (hs : s ≤ 40) : ((x >>> s).signExtend 32 &&& 255#32) = ((x.sshiftRight s &&& 255#64).signExtend 32) := by
  apply BitVec.eq_of_getLsbD_eq
  intro i hi
  rw [BitVec.getLsbD_and, BitVec.getLsbD_signExtend, BitVec.getLsbD_signExtend, BitVec.getLsbD_and, BitVec.getLsbD_ushiftRight, BitVec.getLsbD_sshiftRight, if_pos (by omega : i < 64), if_pos (by omega : i < 64)]
  by_cases c : i < 8
  · rw [m32.1 i c, m64.1 i c, if_pos (by omega)]
    simp [show ¬ 64 ≤ i by omega]
  · rw [m32.2 i hi (by omega), m64.2 i (by omega) (by omega)]
    simp
theorem bits32 {x : BitVec 32} {s : Nat} (hs : s ≤ 24) : ((x >>> s) &&& 255#32) = (x.sshiftRight s &&& 255#32) := by
  apply BitVec.eq_of_getLsbD_eq
  intro i hi
  rw [BitVec.getLsbD_and, BitVec.getLsbD_and, BitVec.getLsbD_ushiftRight, BitVec.getLsbD_sshiftRight]
  by_cases c : i < 8
  · rw [m32.1 i c, if_pos (by omega)]
    simp [show ¬ 32 ≤ i by omega]
  · rw [m32.2 i hi (by omega)]
    simp
theorem ush (x : Int64) : ∀ s : Int32, s = 40 ∨ s = 32 ∨ s = 24 ∨ s = 16 ∨ s = 8 ∨ s = 0 → (Int64.toInt32 (((x).toUInt64 >>> ((Int32.toInt64 s).toUInt64 &&& Int64.toUInt64 63)).toInt64)) &&& 255 = Int64.toInt32 (nby x s) := by
  intro s hs
  apply Int32.toBitVec_inj.mp
  rcases hs with rfl | rfl | rfl | rfl | rfl | rfl
  · exact bits64 (x := x.toBitVec) (s := 40) (by decide)
  · exact bits64 (x := x.toBitVec) (s := 32) (by decide)
  · exact bits64 (x := x.toBitVec) (s := 24) (by decide)
  · exact bits64 (x := x.toBitVec) (s := 16) (by decide)
  · exact bits64 (x := x.toBitVec) (s := 8) (by decide)
  · exact bits64 (x := x.toBitVec) (s := 0) (by decide)
theorem ush32 (x : Int32) : ∀ s : Int32, s = 24 ∨ s = 16 ∨ s = 8 ∨ s = 0 → ((x).toUInt32 >>> (Int32.toUInt32 s &&& Int32.toUInt32 31)).toInt32 &&& 255 = (x >>> (s &&& 31)) &&& 255 := by
  intro s hs
  apply Int32.toBitVec_inj.mp
  rcases hs with rfl | rfl | rfl | rfl
  · exact bits32 (x := x.toBitVec) (s := 24) (by decide)
  · exact bits32 (x := x.toBitVec) (s := 16) (by decide)
  · exact bits32 (x := x.toBitVec) (s := 8) (by decide)
  · exact bits32 (x := x.toBitVec) (s := 0) (by decide)
/-- both spell a name -/
theorem nameL {w : Int64} : ∀ (m z z' o : Nat) (s : Int32) (C D : CS), (m = 6 ∧ s = 40) ∨ (m = 5 ∧ s = 32) ∨ (m = 4 ∧ s = 24) ∨ (m = 3 ∧ s = 16) ∨ (m = 2 ∧ s = 8) ∨ (m = 1 ∧ s = 0) ∨ (m = 0 ∧ s = -8) → ROt C D o → o + m < 2 ^ 30 → m < z → m < z' → ∃ o' C1 D1, f_X1_addName_67_L3 N w z s C = some C1 ∧ f_X12_name__L47 N w z' s D = some D1 ∧ ROt C1 D1 o' ∧ oC C C1 ∧ oD D D1 ∧ o ≤ o' ∧ o' ≤ o + m ∧ (o' = o → ∀ t : Int32, (t = 40 ∨ t = 32 ∨ t = 24 ∨ t = 16 ∨ t = 8 ∨ t = 0) → t ≤ s → Int64.toInt32 (nby w t) = 0) ∧ ((∀ t, nby w t = 0) → o' = o) := by
  intro m
  induction m with
  | zero =>
    intro z z' o s C D hs R ho hz hz'
    obtain ⟨z, rfl, -⟩ := sc hz
    obtain ⟨z', rfl, -⟩ := sc hz'
    have e : s = -8 := by
      rcases hs with h | h | h | h | h | h | h
      · omega
      · omega
      · omega
      · omega
      · omega
      · omega
      · exact h.2
    subst e
    refine ⟨o, C, D, ?_, ?_, R, Fm.rfl, Fm.rfl, by omega, by omega, fun _ t ht hle => ?_, fun _ => rfl⟩
    · rw [f_X1_addName_67_L3, if_pos (by decide)]
    · rw [f_X12_name__L47, if_pos (by decide)]
    · rcases ht with rfl | rfl | rfl | rfl | rfl | rfl <;> exact absurd hle (by decide)
  | succ m ih =>
    intro z z' o s C D hs R ho hz hz'
    obtain ⟨z, rfl, hz⟩ := sc hz
    obtain ⟨z', rfl, hz'⟩ := sc hz'
    have hs6 : s = 40 ∨ s = 32 ∨ s = 24 ∨ s = 16 ∨ s = 8 ∨ s = 0 := by
      rcases hs with h | h | h | h | h | h | h
      · exact Or.inl h.2
      · exact Or.inr (Or.inl h.2)
      · exact Or.inr (Or.inr (Or.inl h.2))
      · exact Or.inr (Or.inr (Or.inr (Or.inl h.2)))
      · exact Or.inr (Or.inr (Or.inr (Or.inr (Or.inl h.2))))
      · exact Or.inr (Or.inr (Or.inr (Or.inr (Or.inr h.2))))
      · omega
    have hs0 : ¬ s < 0 := by rcases hs6 with rfl | rfl | rfl | rfl | rfl | rfl <;> decide
    have hn : (m = 6 ∧ s + (-8) = 40) ∨ (m = 5 ∧ s + (-8) = 32) ∨ (m = 4 ∧ s + (-8) = 24) ∨ (m = 3 ∧ s + (-8) = 16) ∨ (m = 2 ∧ s + (-8) = 8) ∨ (m = 1 ∧ s + (-8) = 0) ∨ (m = 0 ∧ s + (-8) = -8) := by
      rcases hs with ⟨h1, rfl⟩ | ⟨h1, rfl⟩ | ⟨h1, rfl⟩ | ⟨h1, rfl⟩ | ⟨h1, rfl⟩ | ⟨h1, rfl⟩ | ⟨h1, rfl⟩
      · exact Or.inr (Or.inl ⟨by omega, by decide⟩)
      · exact Or.inr (Or.inr (Or.inl ⟨by omega, by decide⟩))
      · exact Or.inr (Or.inr (Or.inr (Or.inl ⟨by omega, by decide⟩)))
      · exact Or.inr (Or.inr (Or.inr (Or.inr (Or.inl ⟨by omega, by decide⟩))))
      · exact Or.inr (Or.inr (Or.inr (Or.inr (Or.inr (Or.inl ⟨by omega, by decide⟩)))))
      · exact Or.inr (Or.inr (Or.inr (Or.inr (Or.inr (Or.inr ⟨by omega, by decide⟩)))))
      · omega
    have hst : ∀ t : Int32, (t = 40 ∨ t = 32 ∨ t = 24 ∨ t = 16 ∨ t = 8 ∨ t = 0) → t ≤ s → t ≠ s → t ≤ s + (-8) := by
      intro t ht h1 h2
      rcases ht with rfl | rfl | rfl | rfl | rfl | rfl <;> rcases hs6 with rfl | rfl | rfl | rfl | rfl | rfl <;> first | exact absurd rfl h2 | exact absurd h1 (by decide) | decide
    obtain ⟨b, b1, b2⟩ := nby_lt w s
    rw [f_X1_addName_67_L3, f_X12_name__L47, if_neg hs0, if_neg hs0, ush w s hs6, show (w >>> (Int32.toInt64 s &&& 63)) &&& 255 = nby w s from rfl, nby_i b1 b2]
    by_cases c : b = 0
    · subst c
      rw [if_pos (show nI 0 = 0 from rfl), if_pos ((nby_0 b1 b2).mpr rfl)]
      obtain ⟨o', C1, D1, t1, t2, t3, t4, t5, t6, t7, t8, t9⟩ := ih z z' o (s + (-8)) C D hn R (by omega) (by omega) (by omega)
      refine ⟨o', C1, D1, t1, t2, t3, t4, t5, t6, by omega, fun e t ht hle => ?_, t9⟩
      by_cases q : t = s
      · rw [q, nby_i b1 b2]
        rfl
      · exact t8 e t ht (hst t ht hle q)
    · have nb : ¬ nI b = 0 := nI_ne0 (by omega) (by omega)
      rw [if_neg nb, if_neg (fun z => c ((nby_0 b1 b2).mp z)), bd_eq]
      obtain ⟨D0, s1, s2, s3, s4⟩ := R.say b1 (by omega)
      rw [s1, bnd_some]
      obtain ⟨o', C1, D1, t1, t2, t3, t4, t5, t6, t7, t8, t9⟩ := ih z z' (o + 1) (s + (-8)) _ D0 hn s2 (by omega) (by omega) (by omega)
      exact ⟨o', C1, D1, t1, t2, t3, s3.trans t4, s4.trans t5, by omega, by omega, fun e => by omega, fun q => absurd ((nby_0 b1 b2).mp (lg0.mpr (q s))) c⟩
theorem nby_z (t : Int32) : nby 0 t = 0 := by
  unfold nby
  apply Int64.toBitVec_inj.mp
  rw [Int64.toBitVec_and]
  have : ((0 : Int64) >>> (Int32.toInt64 t &&& 63)).toBitVec = 0#64 := by
    show (0#64).sshiftRight _ = 0#64
    exact BitVec.zero_sshiftRight
  rw [this]
  exact BitVec.zero_and
theorem op_name {cI : Int32} (R : Inv C D) (hN : 20000 < N) : Both 1 cI (Kept C D) (f_X11_name N x y C) (f_X12_name_ N x y D) := by
  obtain ⟨nL, nR, nF, nM, nN, nX, nO, nD, t, o, s, w, fp, cid, Q⟩ := id R
  have Q2 := Q.cg (C1 := C) (D1 := sI D 11300 0) EqC.rfl EqD.code
  have hL := Q.1.1
  have q7 := Q2.2.2.2.2.2.2.1
  have hX := q7.2.1
  unfold f_X11_name f_X12_name_
  rw [bd_eq, q7.ex (by omega), bnd_some, q7.2.2.2.2.1, d_isLine Q2.1.2.2.1, d_fail, bnd_some, bnd_some, Q2.1.2.1]
  have J : f_X11_name_J30 N x y C = some (.inl eN, sE C) := by
    unfold f_X11_name_J30
    rw [c_dem0, bnx_l]
  rw [J]
  by_cases c1 : x < 0
  · rw [if_pos c1, if_pos c1]
    exact both_N (C1 := C) rfl rfl rfl ⟨R.cg EqC.rfl E01, rfl⟩
  rw [if_neg c1, if_neg c1]
  by_cases c2 : nI nX ≤ x
  · rw [if_pos c2, if_pos c2]
    exact both_N (C1 := C) rfl rfl rfl ⟨R.cg EqC.rfl E01, rfl⟩
  rw [if_neg c2, if_neg c2]
  by_cases c3 : hasT (nI nL) y = 0
  · rw [if_pos c3, if_pos c3]
    exact both_N (C1 := C) rfl rfl rfl ⟨R.cg EqC.rfl E01, rfl⟩
  rw [if_neg c3, if_neg c3, c_dem1, bnx_r, bd_eq, bd_eq]
  have F1 : oC C (sI C 6701 0) := Fm.I rfl
  have F2 : oD (sI D 11300 0) (sI (sI D 11300 0) 11304 0) := Fm.I rfl
  have Q3 := Q2.out F1 F2 ROt.zero
  obtain ⟨nm, n1, n2, n3⟩ := Q3.2.2.2.2.2.2.1.name (N := N) (x := x) (l := y) (by omega)
  rw [n1, n2, bnd_some, bnd_some]
  obtain ⟨o', C1, D1, t1, t2, t3, t4, t5, t6, t7, t8, t9⟩ := nameL (N := N) (w := nm) 6 N N 0 40 _ _ (Or.inl ⟨rfl, rfl⟩) ROt.zero (by decide) (by omega) (by omega)
  rw [t2, bnd_some, t3.2.1]
  have kept : Kept C D C1 D1 := ⟨⟨nL, nR, nF, nM, nN, nX, nO, nD, t, o', s, w, fp, cid, Q2.out (F1.trans t4) (F2.trans t5) t3⟩, kp (F1.trans t4).2.2.2 ((F2.trans t5).2.2.1 146 rfl)⟩
  have code0 : gI D1 11300 = 0 := (F2.trans t5).1 11300 rfl
  by_cases z : nm = 0
  · subst z
    have e0 : o' = 0 := t9 (fun t => nby_z t)
    subst e0
    rw [if_pos (lg0.mpr rfl), if_pos (show nI 0 = 0 from rfl)]
    refine both_0 (C1 := sI C 6701 0) rfl rfl code0 ⟨⟨nL, nR, nF, nM, nN, nX, nO, nD, t, 0, s, w, fp, cid, Q2.out F1 (F2.trans t5) ?_⟩, kp rfl ((F2.trans t5).2.2.1 146 rfl)⟩
    exact ⟨by decide, t3.2.1, rfl, fun i hi => by omega⟩
  · rw [if_neg (fun q => z (lg0.mp q))]
    obtain ⟨k, k1, k2⟩ := n3.resolve_left z
    have e0 : o' ≠ 0 := by
      intro q
      have := t8 q 0 (Or.inr (Or.inr (Or.inr (Or.inr (Or.inr rfl))))) (by decide)
      rw [k2] at this
      exact (Q3.2.2.2.2.2.2.2.2.2.2.2.2.2 k k1).2 this
    unfold f_X1_addName_67
    rw [t1, bnd_some, bnd_some, t3.2.2.1, if_neg (nI_ne0 (by omega) (by omega)), show min o' 3000 = o' by omega]
    exact both_0 rfl rfl code0 kept
end PU
