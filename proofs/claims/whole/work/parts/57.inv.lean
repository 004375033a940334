/-! the whole relation -/
def RM (C D : CS) (n : Nat) : Prop := n ≤ 100 ∧ gI C 9101 = nI n ∧ gI D 11321 = nI n ∧ gI C 9100 = 100 ∧ ∀ i, i < n → gA C 92 i = gA D 131 i ∧ gA C 93 i = gA D 132 i
def RTp (C D : CS) (t : Nat) : Prop := t ≤ 3000 ∧ gI C 6501 = nI t ∧ gI D 11303 = nI t ∧ ∀ i, i < t → ∃ b, b < 256 ∧ gA C 66 i = nI b ∧ gA D 114 i = nI b
def ROt (C D : CS) (o : Nat) : Prop := o < 2 ^ 30 ∧ gI D 11304 = nI o ∧ gI C 6701 = nI (min o 3000) ∧ ∀ i, i < min o 3000 → gA C 68 i = gA D 115 i
def RMi (C D : CS) (s w : Nat) (fp : Int32) : Prop := s ≤ 8 ∧ w ≤ 100000 ∧ gI C 6411 = nI s ∧ gI D 11306 = nI s ∧ gI C 6412 = nI w ∧ gI D 11305 = nI w ∧ gI C 6413 = fp ∧ gI D 11307 = fp
def RT (C D : CS) (nL nR : Nat) (cid : Nat → Nat) : Prop := ∃ ts, ts ≤ 58 * (nL + nR) ∧ gI C 7701 = nI ts ∧ ∀ m, vid nL nR m → ∃ ln fr l k, ln ≤ 58 ∧ fr + ln ≤ ts ∧ gA D 124 m = nI (ln + 2) ∧ gA C 83 (cid m) = nI ln ∧ gA C 82 (cid m) = nI fr ∧ (∀ t, t < ln → ∃ b, b < 256 ∧ gA C 78 (fr + t) = nI b ∧ gA D 125 (60 * m + 2 + t) = nI b) ∧ gA D 122 m = nI l ∧ l < nL ∧ k ≤ 5 ∧ gA D 116 l = nI k ∧ gA D 125 (60 * m) = chOf 1 k ∧ gA D 125 (60 * m + 1) = 32
/-- a byte of a name -/
def nby (x : Int64) (s : Int32) : Int64 := (x >>> (Int32.toInt64 s &&& 63)) &&& 255
/-- lines' sittings are the earlier ones; names lie on lines, and have a last letter -/
def RX (D : CS) (nL nN s : Nat) : Prop := nN ≤ nL ∧ (∀ i, i < nL → ∃ t, t < s ∧ gA D 117 i = nI t) ∧ ∀ k, k < nN → (∃ j, j < nL ∧ gA D 134 k = nI j) ∧ Int64.toInt32 (nby (gB D 135 k) 0) ≠ 0
section PI
variable {C C1 D D1 : CS}
theorem RM.cg {n : Nat} (R : RM C D n) (h : EqC C C1) (k : EqD D D1) : RM C1 D1 n := by
  unfold RM at R ⊢
  rw [h.1 9101 (by decide), h.1 9100 (by decide), k.1 11321 (by decide) (by decide), h.2.1 92 (by decide), h.2.1 93 (by decide), k.2.1 131, k.2.1 132]
  exact R
theorem RTp.cg {n : Nat} (R : RTp C D n) (h : EqC C C1) (k : EqD D D1) : RTp C1 D1 n := by
  unfold RTp at R ⊢
  rw [h.1 6501 (by decide), k.1 11303 (by decide) (by decide), h.2.1 66 (by decide), k.2.1 114]
  exact R
theorem ROt.cg {n : Nat} (R : ROt C D n) (h : EqC C C1) (k : EqD D D1) : ROt C1 D1 n := by
  unfold ROt at R ⊢
  rw [h.1 6701 (by decide), k.1 11304 (by decide) (by decide), h.2.1 68 (by decide), k.2.1 115]
  exact R
theorem RMi.cg {s w : Nat} {fp : Int32} (R : RMi C D s w fp) (h : EqC C C1) (k : EqD D D1) : RMi C1 D1 s w fp := by
  unfold RMi at R ⊢
  rw [h.1 6411 (by decide), h.1 6412 (by decide), h.1 6413 (by decide), k.1 11306 (by decide) (by decide), k.1 11305 (by decide) (by decide), k.1 11307 (by decide) (by decide)]
  exact R
theorem RT.cg {nL nR : Nat} {cid : Nat → Nat} (R : RT C D nL nR cid) (h : EqC C C1) (k : EqD D D1) : RT C1 D1 nL nR cid := by
  unfold RT at R ⊢
  rw [h.1 7701 (by decide), h.2.1 78 (by decide), h.2.1 82 (by decide), h.2.1 83 (by decide), k.2.1 116, k.2.1 122, k.2.1 124, k.2.1 125]
  exact R
theorem RX.cg {nL nN s : Nat} (R : RX D nL nN s) (k : EqD D D1) : RX D1 nL nN s := by
  unfold RX at R ⊢
  rw [k.2.1 117, k.2.1 134, k.2.2 135 (by decide)]
  exact R
end PI
/-- how many there are of each thing -/
def InvN (C D : CS) (nL nR nF nM nN nX nO nD t o s w : Nat) (fp : Int32) (cid : Nat → Nat) : Prop :=
  RLn C D nL ∧ RR C D nL nR cid ∧ RF C D nF nL nR cid ∧ RO C D nO ∧ RT C D nL nR cid ∧ RM C D nM ∧ RN C D nN nX ∧ RD C D nD nF ∧ RTp C D t ∧ ROt C D o ∧ RMi C D s w fp ∧ RX D nL nN s
def Inv (C D : CS) : Prop := ∃ nL nR nF nM nN nX nO nD t o s w fp cid, InvN C D nL nR nF nM nN nX nO nD t o s w fp cid
theorem InvN.cg {C C1 D D1 : CS} {nL nR nF nM nN nX nO nD t o s w : Nat} {fp : Int32} {cid : Nat → Nat} (R : InvN C D nL nR nF nM nN nX nO nD t o s w fp cid) (h : EqC C C1) (k : EqD D D1) : InvN C1 D1 nL nR nF nM nN nX nO nD t o s w fp cid := by
  obtain ⟨r1, r2, r3, r4, r5, r6, r7, r8, r9, r10, r11, r12⟩ := R
  exact ⟨r1.cg h k, r2.cg h k, r3.cg h k, r4.cg h k, r5.cg h k, r6.cg h k, r7.cg h k, r8.cg h k, r9.cg h k, r10.cg h k, r11.cg h k, r12.cg k⟩
theorem Inv.cg {C C1 D D1 : CS} (R : Inv C D) (h : EqC C C1) (k : EqD D D1) : Inv C1 D1 := by
  obtain ⟨nL, nR, nF, nM, nN, nX, nO, nD, t, o, s, w, fp, cid, R⟩ := R
  exact ⟨nL, nR, nF, nM, nN, nX, nO, nD, t, o, s, w, fp, cid, R.cg h k⟩
theorem InvN.be {C D : CS} {nL nR nF nM nN nX nO nD t o s w : Nat} {fp : Int32} {cid : Nat → Nat} (R : InvN C D nL nR nF nM nN nX nO nD t o s w fp cid) : RBe C D nL nR nF nO cid := ⟨R.1, R.2.1, R.2.2.1, R.2.2.2.1⟩
/-- what a call leaves -/
abbrev Kept (C D : CS) : CS → CS → Prop := fun C1 D1 => Inv C1 D1 ∧ (gE C1, gB D1 146) = (gE C, gB D 146)
theorem kp {a b : Nat} {u v : Nat → Int64} (h : a = b) (k : u = v) : (a, u) = (b, v) := by rw [h, k]
theorem Both.mono {cN cI : Int32} {P Q : CS → CS → Prop} {X : Option ((String ⊕ Int32) × CS)} {Y : Option (Int32 × CS)} (h : Both cN cI P X Y) (k : ∀ C D, P C D → Q C D) : Both cN cI Q X Y := by
  rcases h with ⟨r, C1, D1, h1, h2, h3, h4⟩ | ⟨E, C1, b, D1, h1, h2, h3, h4⟩
  · exact Or.inl ⟨r, C1, D1, h1, h2, h3, k _ _ h4⟩
  · exact Or.inr ⟨E, C1, b, D1, h1, h2, h3, k _ _ h4⟩
theorem Both.sees {cN cI : Int32} {C D : CS} {X : Option ((String ⊕ Int32) × CS)} {Y : Option (Int32 × CS)} (R : Inv C D) (h : Both cN cI (Sees C D) X Y) : Both cN cI (Kept C D) X Y := h.mono (fun _ _ q => ⟨R.cg q.1 q.2, kp q.1.2.2.2 (q.2.2.2 146 (by decide))⟩)
section PK
variable {C D : CS} {k x y v : Int32} {N : Nat}
theorem E01 : EqD D (sI (sI D 11300 0) 11300 1) := EqD.code.trans EqD.code
theorem E02 : EqD D (sI (sI D 11300 0) 11300 2) := EqD.code.trans EqD.code
theorem op_stands {cI : Int32} (R : Inv C D) (hN : 20000 < N) : Both 1 cI (Kept C D) (f_X11_stands N x k C) (f_X12_stands N x k D) := by
  obtain ⟨nL, nR, nF, nM, nN, nX, nO, nD, t, o, s, w, fp, cid, Q⟩ := id R
  exact (Q.be.stands hN).sees R
theorem op_shown {cI : Int32} (R : Inv C D) (hN : 20000 < N) : Both 1 cI (Kept C D) (f_X11_shown N x k C) (f_X12_shown N x k D) := by
  obtain ⟨nL, nR, nF, nM, nN, nX, nO, nD, t, o, s, w, fp, cid, Q⟩ := id R
  exact (Q.be.shown Q.2.2.2.2.2.2.2.1 hN).sees R
theorem op_quarrel {cI : Int32} (R : Inv C D) (hN : 20000 < N) : Both 1 cI (Kept C D) (f_X11_quarrel N x k y C) (f_X12_quarrel N x k y D) := by
  obtain ⟨nL, nR, nF, nM, nN, nX, nO, nD, t, o, s, w, fp, cid, Q⟩ := id R
  exact (Q.be.quarrel hN).sees R
theorem op_quarrels (R : Inv C D) (hN : 20000 < N) : ∃ r C1 D1, f_X11_quarrels N k C = some (r, C1) ∧ f_X12_quarrels N k D = some (r, D1) ∧ Kept C D C1 D1 := by
  obtain ⟨nL, nR, nF, nM, nN, nX, nO, nD, t, o, s, w, fp, cid, Q⟩ := id R
  obtain ⟨r, C1, h1, h2, h3⟩ := Q.be.quarrels (k := k) hN
  exact ⟨r, C1, _, h1, h3, R.cg h2 EqD.code, kp h2.2.2.2 rfl⟩
theorem op_cited (R : Inv C D) (hN : 20000 < N) : ∃ r D1, f_X11_cited N x y C = some r ∧ f_X12_cited N x y D = some (r, D1) ∧ Inv C D1 := by
  obtain ⟨nL, nR, nF, nM, nN, nX, nO, nD, t, o, s, w, fp, cid, Q⟩ := id R
  obtain ⟨r, h1, h2⟩ := Q.1.cited (x := x) (y := y) (N := N) (by omega)
  exact ⟨r, _, h1, h2, R.cg EqC.rfl EqD.code⟩
theorem op_fault (R : Inv C D) : ∃ r D1, f_X11_fault C = some r ∧ f_X12_fault D = some (r, D1) ∧ Inv C D1 := by
  obtain ⟨nL, nR, nF, nM, nN, nX, nO, nD, t, o, s, w, fp, cid, Q⟩ := id R
  obtain ⟨-, -, -, -, -, -, h1, h2⟩ := Q.2.2.2.2.2.2.2.2.2.2.1
  refine ⟨fp, sI D 11300 0, ?_, ?_, R.cg EqC.rfl EqD.code⟩
  · unfold f_X11_fault
    rw [h1]
  · unfold f_X12_fault
    rw [bd_eq, show gI (sI D 11300 0) 11307 = gI D 11307 from rfl, h2]
theorem op_digest (R : Inv C D) : ∃ r C1 D1, f_X11_digest x y v C = some (r, C1) ∧ f_X12_digest x y v D = some (r, D1) ∧ Kept C D C1 D1 := by
  obtain ⟨nL, nR, nF, nM, nN, nX, nO, nD, t, o, s, w, fp, cid, Q⟩ := id R
  have Q0 := Q
  obtain ⟨q1, q2, q3, q4, q5, q6, q7, q8, q9, q10, q11, q12⟩ := Q
  rw [c_digest q8.2.1 q8.2.2.2.1 q8.1, d_digest q8.2.2.1 q8.1]
  by_cases c : nD < 40 ∧ num x = true ∧ num y = true ∧ num v = true
  · rw [if_pos c, if_pos c]
    refine ⟨_, _, _, rfl, rfl, ⟨nL, nR, nF, nM, nN, nX, nO, nD + 1, t, o, s, w, fp, cid, q1, q2, q3, q4, q5, q6, q7, q8.add c.1, q9, q10, q11, q12⟩, rfl⟩
  · rw [if_neg c, if_neg c]
    exact ⟨_, _, _, rfl, rfl, R.cg EqC.rfl EqD.code, rfl⟩
theorem op_cite {cI : Int32} (R : Inv C D) (hN : 20000 < N) : Both 1 cI (Kept C D) (f_X11_cite N x y C) (f_X12_cite N x y D) := by
  obtain ⟨nL, nR, nF, nM, nN, nX, nO, nD, t, o, s, w, fp, cid, Q⟩ := id R
  obtain ⟨q1, q2, q3, q4, q5, q6, q7, q8, q9, q10, q11, q12⟩ := Q
  rcases q8.cites (x := x) (y := y) q3.2.1 q3.2.2.1 q3.1 hN with ⟨b, D1, h1, h2, h3, h4⟩ | ⟨h1, h2⟩ | ⟨d, c, f, d1, f1, c1, c2, c3, h1, h2⟩
  · exact both_N h1 h2 h4 ⟨R.cg EqC.rfl h3, kp rfl (h3.2.2 146 (by decide))⟩
  · exact both_0 h1 h2 rfl ⟨R.cg EqC.rfl EqD.code, rfl⟩
  · refine both_0 h1 h2 rfl ⟨⟨nL, nR, nF, nM, nN, nX, nO, nD, t, o, s, w, fp, cid, q1, q2, q3, q4, q5, q6, q7, ?_, q9, q10, q11, q12⟩, rfl⟩
    exact (q8.cg EqC.rfl EqD.code).cite d1 f1 c1 c2 c3
theorem hasT_x {n : Nat} {x : Int32} : hasT (nI n) x = 0 → ¬ (0 ≤ x ∧ x < nI n) := by
  intro h z
  unfold hasT at h
  rw [if_pos z] at h
  exact absurd h (by decide)
theorem op_about {cI : Int32} (R : Inv C D) (hN : 20000 < N) : Both 1 cI (Kept C D) (f_X11_about N x y C) (f_X12_about N x y D) := by
  obtain ⟨nL, nR, nF, nM, nN, nX, nO, nD, t, o, s, w, fp, cid, Q⟩ := id R
  refine Both.sees R ?_
  have Q2 := Q.cg (C1 := C) (D1 := sI D 11300 0) EqC.rfl EqD.code
  have hL := Q.1.1
  unfold f_X11_about f_X12_about
  rw [Q.1.2.1, bd_eq, d_isLine Q2.1.2.2.1, bnd_some, d_fail, bnd_some]
  by_cases cx : hasT (nI nL) x = 0
  · rw [cx, c_dem0, bnx_l, if_pos rfl]
    exact both_N (C1 := C) rfl rfl rfl ⟨EqC.rfl, E01⟩
  · obtain ⟨i, i1, rfl⟩ := has_ex (by omega) cx
    have e1 : hasT (nI nL) (nI i) = 1 := by rw [hasT_nI (by omega) (by omega), if_pos i1]
    obtain ⟨a1, a2, a3, a4, a5, -⟩ := Q2.1.2.2.2.2.1 i i1
    obtain ⟨r, b1, b2, -⟩ := Q2.1.answer (N := N) i1 (by omega)
    have b3 := Q2.2.1.times (N := N) i1 (by omega)
    rw [e1, c_dem1, bnx_r, if_neg (show ¬ (1 : Int32) = 0 by decide), inb_nI (by omega) (by decide), nI_clamp (by omega), b1, b2, b3, bnd_some, bnd_some, bnd_some, a1, a2, a3, a4, a5]
    have S : Sees C D C (sI D 11300 0) := ⟨EqC.rfl, EqD.code⟩
    by_cases c0 : y = 0
    · rw [if_pos c0, if_pos c0]; exact both_0 rfl rfl rfl S
    rw [if_neg c0, if_neg c0]
    by_cases c1 : y = 1
    · rw [if_pos c1, if_pos c1]; exact both_0 rfl rfl rfl S
    rw [if_neg c1, if_neg c1]
    by_cases c2 : y = 2
    · rw [if_pos c2, if_pos c2]; exact both_0 rfl rfl rfl S
    rw [if_neg c2, if_neg c2]
    by_cases c3 : y = 3
    · rw [if_pos c3, if_pos c3]; exact both_0 rfl rfl rfl S
    rw [if_neg c3, if_neg c3]
    by_cases c4 : y = 4
    · rw [if_pos c4, if_pos c4]; exact both_0 rfl rfl rfl S
    rw [if_neg c4, if_neg c4]
    by_cases c5 : y = 5
    · rw [if_pos c5, if_pos c5]; exact both_0 rfl rfl rfl S
    rw [if_neg c5, if_neg c5]
    by_cases c6 : y = 6
    · rw [if_pos c6, if_pos c6]; exact both_0 rfl rfl rfl S
    rw [if_neg c6, if_neg c6]
    exact both_N (C1 := C) rfl rfl rfl ⟨EqC.rfl, E01⟩
theorem op_fact {cI : Int32} (R : Inv C D) : Both 1 cI (Kept C D) (f_X11_fact x y C) (f_X12_fact x y D) := by
  obtain ⟨nL, nR, nF, nM, nN, nX, nO, nD, t, o, s, w, fp, cid, Q⟩ := id R
  refine Both.sees R ?_
  have Q2 := Q.cg (C1 := C) (D1 := sI D 11300 0) EqC.rfl EqD.code
  have hF := Q.2.2.1.1
  unfold f_X11_fact f_X12_fact
  rw [Q.2.2.1.2.1, bd_eq, d_isFact Q2.2.2.1.2.2.1, bnd_some, d_fail, bnd_some]
  by_cases cx : hasT (nI nF) x = 0
  · rw [cx, c_dem0, bnx_l, if_pos rfl]
    exact both_N (C1 := C) rfl rfl rfl ⟨EqC.rfl, E01⟩
  · obtain ⟨i, i1, rfl⟩ := has_ex (by omega) cx
    have e1 : hasT (nI nF) (nI i) = 1 := by rw [hasT_nI (by omega) (by omega), if_pos i1]
    obtain ⟨⟨m, l, m1, l1, m2, m3, m4, m5, m6⟩, a1, a2, a3, a4⟩ := Q2.2.2.1.2.2.2.2 i i1
    have hm : m < 300 := by
      have := Q.1.1
      have := Q.2.1.2.1
      rcases m1 with h | h <;> omega
    rw [e1, c_dem1, bnx_r, if_neg (show ¬ (1 : Int32) = 0 by decide), inb_nI (by omega) (by decide), nI_clamp (by omega), m2, inb_nI (by omega) (by decide), nI_clamp (by omega), m4, m5, a1, a2, a3, a4]
    have S : Sees C D C (sI D 11300 0) := ⟨EqC.rfl, EqD.code⟩
    by_cases c0 : y = 0
    · rw [if_pos c0, if_pos c0]; exact both_0 rfl rfl rfl S
    rw [if_neg c0, if_neg c0]
    by_cases c1 : y = 1
    · rw [if_pos c1, if_pos c1]; exact both_0 rfl rfl rfl S
    rw [if_neg c1, if_neg c1]
    by_cases c2 : y = 2
    · rw [if_pos c2, if_pos c2]; exact both_0 rfl rfl rfl S
    rw [if_neg c2, if_neg c2]
    by_cases c3 : y = 3
    · rw [if_pos c3, if_pos c3]; exact both_0 rfl rfl rfl S
    rw [if_neg c3, if_neg c3]
    by_cases c4 : y = 4
    · rw [if_pos c4, if_pos c4]; exact both_0 rfl rfl rfl S
    rw [if_neg c4, if_neg c4]
    exact both_N (C1 := C) rfl rfl rfl ⟨EqC.rfl, E01⟩
theorem d_bytes {o : Nat} (h : gI D 11304 = nI o) (ho : o < 2 ^ 30) : f_X12_bytes D = some (nI (min o 3000)) := by
  unfold f_X12_bytes
  rw [h]
  by_cases c : 3000 < o
  · rw [if_pos (show (3000 : Int32) < nI o from nI_lt (a := 3000) c (by omega)), show min o 3000 = 3000 by omega]
    rfl
  · rw [if_neg (show ¬ (3000 : Int32) < nI o from nI_nlt (b := o) (a := 3000) (by omega) (by decide)), show min o 3000 = o by omega]
theorem op_count {cI : Int32} (R : Inv C D) (hN : 20000 < N) : Both 1 cI (Kept C D) (f_X11_count N x C) (f_X12_count x D) := by
  obtain ⟨nL, nR, nF, nM, nN, nX, nO, nD, t, o, s, w, fp, cid, Q⟩ := id R
  refine Both.sees R ?_
  have Q2 := Q.cg (C1 := C) (D1 := sI D 11300 0) EqC.rfl EqD.code
  obtain ⟨q1, q2, q3, q4, q5, q6, q7, q8, q9, q10, q11, q12⟩ := Q2
  unfold f_X11_count f_X12_count
  rw [bd_eq, q1.2.1, q1.2.2.1, q3.2.1, q3.2.2.1, q6.2.1, q6.2.2.1, q7.ex (by omega), q7.2.2.2.2.1, q4.2.1, q4.2.2.1, q8.2.1, q8.2.2.1, q9.2.1, q9.2.2.1, q10.2.2.1, d_bytes q10.2.1 q10.1, q11.2.2.1, q11.2.2.2.1, q11.2.2.2.2.1, q11.2.2.2.2.2.1, d_fail, bnd_some, bnd_some, bnd_some]
  have S : Sees C D C (sI D 11300 0) := ⟨EqC.rfl, EqD.code⟩
  by_cases c0 : x = 0
  · rw [if_pos c0, if_pos c0]; exact both_0 rfl rfl rfl S
  rw [if_neg c0, if_neg c0]
  by_cases c1 : x = 1
  · rw [if_pos c1, if_pos c1]; exact both_0 rfl rfl rfl S
  rw [if_neg c1, if_neg c1]
  by_cases c2 : x = 2
  · rw [if_pos c2, if_pos c2]; exact both_0 rfl rfl rfl S
  rw [if_neg c2, if_neg c2]
  by_cases c3 : x = 3
  · rw [if_pos c3, if_pos c3]; exact both_0 rfl rfl rfl S
  rw [if_neg c3, if_neg c3]
  by_cases c4 : x = 4
  · rw [if_pos c4, if_pos c4]; exact both_0 rfl rfl rfl S
  rw [if_neg c4, if_neg c4]
  by_cases c5 : x = 5
  · rw [if_pos c5, if_pos c5]; exact both_0 rfl rfl rfl S
  rw [if_neg c5, if_neg c5]
  by_cases c6 : x = 6
  · rw [if_pos c6, if_pos c6]; exact both_0 rfl rfl rfl S
  rw [if_neg c6, if_neg c6]
  by_cases c7 : x = 7
  · rw [if_pos c7, if_pos c7]; exact both_0 rfl rfl rfl S
  rw [if_neg c7, if_neg c7]
  by_cases c8 : x = 8
  · rw [if_pos c8, if_pos c8]; exact both_0 rfl rfl rfl S
  rw [if_neg c8, if_neg c8]
  by_cases c9 : x = 9
  · rw [if_pos c9, if_pos c9]; exact both_0 rfl rfl rfl S
  rw [if_neg c9, if_neg c9]
  exact both_N (C1 := C) rfl rfl rfl ⟨EqC.rfl, E01⟩
end PK
