/-! whether a line of the digest is shown -/
section PS
variable {C D : CS} {k x y v : Int32} {nL nR nF nO nD f i d N : Nat} {cid : Nat → Nat}
theorem c_dispL (R : RBe C D nL nR nF nO cid) (hs : ∀ j, j < nF → gA C 112 j = sgv N D k j) (hf : f < nF) : ∀ m i z : Nat, i + m = nF → m < z → f_X0_isDisputed_L2 N (nI f) C z (nI i) = some (if anyF (qz N D k f) m i = true then .inl 1 else .inr ()) := by
  have hF := R.2.2.1.1
  intro m
  induction m with
  | zero =>
    intro i z hi hz
    obtain ⟨z, rfl, -⟩ := sc hz
    rw [f_X0_isDisputed_L2, R.2.2.1.2.1, if_pos (nI_le (by omega) (by omega))]
    rfl
  | succ m ih =>
    intro i z hi hz
    obtain ⟨z, rfl, hz⟩ := sc hz
    rw [f_X0_isDisputed_L2, R.2.2.1.2.1, if_neg (nI_ge (by omega) (by omega)), c_clash R hs hf (by omega), bnd_some, nI_1, ih (i + 1) z (by omega) (by omega), anyF]
    cases qz N D k f i <;> rfl
theorem c_disp (R : RBe C D nL nR nF nO cid) (hs : ∀ j, j < nF → gA C 112 j = sgv N D k j) (hf : f < nF) (hN : 20000 < N) : f_X0_isDisputed N (nI f) C = some (b2 (anyF (qz N D k f) nF 0)) := by
  have hF := R.2.2.1.1
  unfold f_X0_isDisputed
  rw [show f_X0_isDisputed_L2 N (nI f) C N 0 = f_X0_isDisputed_L2 N (nI f) C N (nI 0) from rfl, c_dispL R hs hf nF 0 N (by omega) (by omega)]
  cases anyF (qz N D k f) nF 0 <;> rfl
theorem d_dispL (R : RBe C D nL nR nF nO cid) (hf : f < nF) (h1 : sgv N D k f = 1) (hN : 20000 < N) : ∀ (m i z : Nat) (v : Int32), i + m = nF → m < z → f_X12_shown_L136 N x k y (nI f) D z v (nI i) = some (if anyF (qz N D k f) m i = true then 2 else v) := by
  have hF := R.2.2.1.1
  intro m
  induction m with
  | zero =>
    intro i z v hi hz
    obtain ⟨z, rfl, -⟩ := sc hz
    rw [f_X12_shown_L136, R.2.2.1.2.2.1, if_pos (nI_le (by omega) (by omega))]
    rfl
  | succ m ih =>
    intro i z v hi hz
    obtain ⟨z, rfl, hz⟩ := sc hz
    rw [f_X12_shown_L136, R.2.2.1.2.2.1, if_neg (nI_ge (by omega) (by omega)), d_quar R hf (by omega) hN, bnd_some, nI_1, ih (i + 1) z v (by omega) (by omega), ih (i + 1) z 2 (by omega) (by omega), anyF]
    by_cases e : i = f
    · subst e
      have q0 : qz N D k i i = false := by
        cases q : qz N D k i i
        · rfl
        · exact absurd h1 (qz_self i q)
      rw [if_pos rfl, q0, Bool.false_or]
    · rw [if_neg (fun z => e ((nI_eq (by omega) (by omega)).mp z))]
      cases qz N D k f i
      · rw [if_pos (b2_0.mpr rfl), Bool.false_or]
      · rw [if_neg (show ¬ b2 true = 0 by decide), Bool.true_or, if_pos rfl]
        split <;> rfl
/-- whether a fact shows a line -/
def shw (N : Nat) (D : CS) (k : Int32) (d f : Nat) : Bool := decide (sgv N D k f = 1) && (decide (gA D 127 f = gA D 141 d) && (decide (gA D 128 f = gA D 142 d) && decide (gA D 129 f = gA D 143 d)))
theorem c_shows (R : RBe C D nL nR nF nO cid) (Q : RD C D nD nF) (hs : ∀ j, j < nF → gA C 112 j = sgv N D k j) (hf : f < nF) (hd : d < nD) : f_X0_shows (nI f) (nI d) C = some (b2 (shw N D k d f)) := by
  have hF := R.2.2.1.1
  have hD := Q.1
  obtain ⟨-, -, f2, f3, f4⟩ := R.2.2.1.2.2.2.2 f hf
  obtain ⟨d2, d3, d4, -⟩ := Q.2.2.2.2.1 d hd
  unfold f_X0_shows shw b2
  rw [inb_nI (i := f) (by omega) (by decide), inb_nI (i := d) (by omega) (by decide), nI_clamp (n := f) (by omega), nI_clamp (n := d) (by omega), hs f hf, f2, f3, f4, d2, d3, d4]
  by_cases c1 : sgv N D k f = 1 <;> by_cases c2 : gA D 127 f = gA D 141 d <;> by_cases c3 : gA D 128 f = gA D 142 d <;> by_cases c4 : gA D 129 f = gA D 143 d <;> simp [c1, c2, c3, c4]
def jdF (S Q : Nat → Bool) (F : Nat → Nat) : Nat → Nat → Int32 → Int32
  | 0, _, v => v
  | m + 1, i, v => jdF S Q F m (i + 1) (if S (F i) = true then (if Q (F i) = true then 2 else if v < 1 then 1 else v) else v)
theorem c_judgeL (R : RBe C D nL nR nF nO cid) (Q : RD C D nD nF) (hs : ∀ j, j < nF → gA C 112 j = sgv N D k j) (hd : d < nD) {c : Nat} (hc : c ≤ 8) (h1 : gA C 108 d = nI c) (F : Nat → Nat) (hF0 : ∀ i, i < c → F i < nF ∧ gA C 109 (8 * d + i) = nI (F i)) (hN : 20000 < N) : ∀ (m i z : Nat) (v : Int32), (v = 0 ∨ v = 1 ∨ v = 2) → i + m = c → m < z → f_X0_judge_L10 N (nI d) C z v (nI i) = some (jdF (shw N D k d) (fun f => anyF (qz N D k f) nF 0) F m i v) := by
  have hF := R.2.2.1.1
  have hD := Q.1
  intro m
  induction m with
  | zero =>
    intro i z v hv hi hz
    obtain ⟨z, rfl, -⟩ := sc hz
    rw [f_X0_judge_L10, inb_nI (by omega) (by decide), if_pos rfl, nI_clamp (by omega), h1, if_pos (nI_le (by omega) (by omega)), jdF]
  | succ m ih =>
    intro i z v hv hi hz
    obtain ⟨z, rfl, hz⟩ := sc hz
    obtain ⟨f1, f2⟩ := hF0 i (by omega)
    rw [f_X0_judge_L10, inb_nI (by omega) (by decide), if_pos rfl, nI_clamp (by omega), h1, if_neg (nI_ge (by omega) (by omega)), f_X2_citedBy, ix8, inb_nI (by omega) (by decide), if_pos rfl, bnd_some, nI_clamp (by omega), f2, R.2.2.1.2.1, hasT_nI (by omega) (by omega), if_pos f1, if_neg (by decide), c_shows R Q hs f1 hd, bnd_some, c_disp R hs f1 hN, bnd_some, nI_1, jdF]
    cases shw N D k d (F i)
    · rw [if_pos (b2_0.mpr rfl), if_neg (by decide), ih (i + 1) z v hv (by omega) (by omega)]
    · rw [if_neg (show ¬ b2 true = 0 by decide), if_pos rfl]
      cases anyF (qz N D k (F i)) nF 0
      · rw [if_pos (b2_0.mpr rfl), if_neg (show ¬ false = true by decide)]
        refine ih (i + 1) z _ ?_ (by omega) (by omega)
        rcases hv with rfl | rfl | rfl <;> decide
      · rw [if_neg (show ¬ b2 true = 0 by decide), if_pos rfl]
        have : (if v < 2 then 2 else v) = 2 := by rcases hv with rfl | rfl | rfl <;> decide
        rw [this]
        exact ih (i + 1) z _ (Or.inr (Or.inr rfl)) (by omega) (by omega)
theorem d_shownL (R : RBe C D nL nR nF nO cid) (Q : RD C D nD nF) (hd : d < nD) {c : Nat} (hc : c ≤ 8) (h1 : gA D 144 d = nI c) (F : Nat → Nat) (hF0 : ∀ i, i < c → F i < nF ∧ gA D 145 (8 * d + i) = nI (F i)) (hN : 20000 < N) : ∀ (m i z : Nat) (v : Int32), i + m = c → m < z → f_X12_shown_L28 N (nI d) k D z v (nI i) = some (jdF (shw N D k d) (fun f => anyF (qz N D k f) nF 0) F m i v) := by
  have hF := R.2.2.1.1
  have hD := Q.1
  intro m
  induction m with
  | zero =>
    intro i z v hi hz
    obtain ⟨z, rfl, -⟩ := sc hz
    rw [f_X12_shown_L28, inb_nI (by omega) (by decide), if_pos rfl, nI_clamp (by omega), h1, if_pos (nI_le (by omega) (by omega)), jdF]
  | succ m ih =>
    intro i z v hi hz
    obtain ⟨z, rfl, hz⟩ := sc hz
    obtain ⟨f1, f2⟩ := hF0 i (by omega)
    obtain ⟨-, s1, -⟩ := R.stand (k := k) f1 hN
    have di : inb (nI d) 40 = true := inb_nI (by omega) (by decide)
    have ii : inb (nI (8 * d + i)) 320 = true := inb_nI (by omega) (by decide)
    have fi : inb (nI (F i)) 150 = true := inb_nI (by omega) (by decide)
    have k1 : (nI d).toNatClampNeg = d := nI_clamp (by omega)
    have k2 : (nI (8 * d + i)).toNatClampNeg = 8 * d + i := nI_clamp (by omega)
    have k3 : (nI (F i)).toNatClampNeg = F i := nI_clamp (by omega)
    rw [f_X12_shown_L28, di, if_pos rfl, k1, h1, if_neg (nI_ge (by omega) (by omega)), ix8', ii, k2, f2, fi, k3, s1, nI_1, jdF]
    simp only [if_true, bnd_some]
    have e2 := fun v => ih (i + 1) z v (by omega) (by omega)
    have z0 : ∀ v, f_X12_shown_L136 N (nI d) k (nI i) (nI (F i)) D N v 0 = f_X12_shown_L136 N (nI d) k (nI i) (nI (F i)) D N v (nI 0) := fun _ => rfl
    by_cases c2 : gA D 127 (F i) = gA D 141 d
    · by_cases c3 : gA D 128 (F i) = gA D 142 d
      · by_cases c4 : gA D 129 (F i) = gA D 143 d
        · by_cases c1 : sgv N D k (F i) = 1
          · have s0 : shw N D k d (F i) = true := by simp [shw, c1, c2, c3, c4]
            rw [if_pos c2, if_pos c3, if_pos c4, if_pos c1, z0, d_dispL R f1 c1 hN nF 0 N _ (by omega) (by omega), bnd_some, e2, s0, if_pos rfl]
          · have s0 : shw N D k d (F i) = false := by simp [shw, c1]
            rw [if_pos c2, if_pos c3, if_pos c4, if_neg c1, e2, s0, if_neg (by decide)]
        · have s0 : shw N D k d (F i) = false := by simp [shw, c4]
          rw [if_pos c2, if_pos c3, if_neg c4, e2, s0, if_neg (by decide)]
      · have s0 : shw N D k d (F i) = false := by simp [shw, c3]
        rw [if_pos c2, if_neg c3, e2, s0, if_neg (by decide)]
    · have s0 : shw N D k d (F i) = false := by simp [shw, c2]
      rw [if_neg c2, e2, s0, if_neg (by decide)]
/-- shown: both answer alike -/
theorem RBe.shown {cI : Int32} (R : RBe C D nL nR nF nO cid) (Q : RD C D nD nF) (hN : 20000 < N) : Both 1 cI (Sees C D) (f_X11_shown N x k C) (f_X12_shown N x k D) := by
  have hF := R.2.2.1.1
  have R2 := R.cg (C1 := C) (D1 := sI D 11300 0) EqC.rfl EqD.code
  have Q2 := Q.cg (C1 := C) (D1 := sI D 11300 0) EqC.rfl EqD.code
  have hD := Q.1
  have E0 : EqD D (sI (sI D 11300 0) 11300 1) := EqD.code.trans EqD.code
  unfold f_X11_shown f_X12_shown
  rw [Q.2.1, bd_eq, Q2.2.2.1]
  by_cases cx : hasT (nI nD) x = 0
  · rw [cx, c_dem0, bnx_l, d_fail, bnd_some]
    refine both_N (C1 := C) (b := 0) rfl ?_ rfl ⟨EqC.rfl, E0⟩
    by_cases c1 : x < 0
    · rw [if_pos c1]
    · rw [if_neg c1, if_neg (fun z => by unfold hasT at cx; rw [if_pos ⟨Int32.not_lt.mp c1, z⟩] at cx; exact absurd cx (by decide))]
  · obtain ⟨d, d1, rfl⟩ := has_ex (by omega) cx
    have e1 : hasT (nI nD) (nI d) = 1 := by rw [hasT_nI (by omega) (by omega), if_pos d1]
    rw [e1, c_dem1, bnx_r, if_neg (nI_pos (by omega)), if_pos (nI_lt d1 (by omega))]
    obtain ⟨C1, w1, w2, w3⟩ := R2.weigh (k := k) hN
    obtain ⟨a1, a2, a3, c, c1, c2, c3, c4⟩ := Q2.2.2.2.2.1 d d1
    have R3 := R2.cg w2 EqD.rfl
    have Q3 := Q2.cg w2 EqD.rfl
    have z1 := c_judgeL (k := k) R3 Q3 w3 d1 c1 (by rw [w2.2.1 108 (by decide)]; exact c2) (fun i => (gA (sI D 11300 0) 145 (8 * d + i)).toNatClampNeg) (fun i hi => by
      obtain ⟨f, f1, f2, f3⟩ := c4 i hi
      rw [f3, nI_clamp (by omega), w2.2.1 109 (by decide)]
      exact ⟨f1, f2⟩) hN c 0 N 0 (Or.inl rfl) (by omega) (by omega)
    have z2 := d_shownL (k := k) R2 Q2 d1 c1 c3 (fun i => (gA (sI D 11300 0) 145 (8 * d + i)).toNatClampNeg) (fun i hi => by
      obtain ⟨f, f1, f2, f3⟩ := c4 i hi
      rw [f3, nI_clamp (by omega)]
      exact ⟨f1, rfl⟩) hN c 0 N 0 (by omega) (by omega)
    unfold f_X0_judge
    rw [w1, bnd_some, show f_X0_judge_L10 N (nI d) C1 N 0 0 = f_X0_judge_L10 N (nI d) C1 N 0 (nI 0) from rfl, z1, bnd_some, bnd_some, show f_X12_shown_L28 N (nI d) k (sI D 11300 0) N 0 0 = f_X12_shown_L28 N (nI d) k (sI D 11300 0) N 0 (nI 0) from rfl, z2, bnd_some]
    exact both_0 (C1 := C1) rfl rfl rfl ⟨w2, EqD.code⟩
theorem d_isFact (h : gI D 11320 = nI nF) : f_X12_isFact x D = some (hasT (nI nF) x) := by
  unfold f_X12_isFact hasT
  rw [h]
  by_cases c1 : x < 0
  · rw [if_pos c1, if_neg (fun z => Int32.not_le.mpr c1 z.1)]
  · rw [if_neg c1]
    by_cases c2 : nI nF ≤ x
    · rw [if_pos c2, if_neg (fun z => Int32.not_le.mpr z.2 c2)]
    · rw [if_neg c2, if_pos ⟨Int32.not_lt.mp c1, Int32.not_le.mp c2⟩]
theorem hasT_01 {z i : Int32} : hasT z i = 0 ∨ hasT z i = 1 := by
  unfold hasT
  split
  · right; rfl
  · left; rfl
theorem d_isLine {n : Nat} (h : gI D 11308 = nI n) : f_X12_isLine x D = some (hasT (nI n) x) := by
  unfold f_X12_isLine hasT
  rw [h]
  by_cases c1 : x < 0
  · rw [if_pos c1, if_neg (fun z => Int32.not_le.mpr c1 z.1)]
  · rw [if_neg c1]
    by_cases c2 : nI n ≤ x
    · rw [if_pos c2, if_neg (fun z => Int32.not_le.mpr z.2 c2)]
    · rw [if_neg c2, if_pos ⟨Int32.not_lt.mp c1, Int32.not_le.mp c2⟩]
theorem RBe.stands {cI : Int32} (R : RBe C D nL nR nF nO cid) (hN : 20000 < N) : Both 1 cI (Sees C D) (f_X11_stands N x k C) (f_X12_stands N x k D) := by
  have hF := R.2.2.1.1
  have R2 := R.cg (C1 := C) (D1 := sI D 11300 0) EqC.rfl EqD.code
  have E0 : EqD D (sI (sI D 11300 0) 11300 1) := EqD.code.trans EqD.code
  unfold f_X11_stands f_X12_stands
  rw [R.2.2.1.2.1, bd_eq, d_isFact R2.2.2.1.2.2.1, bnd_some]
  by_cases cx : hasT (nI nF) x = 0
  · rw [cx, c_dem0, bnx_l, if_pos rfl, d_fail, bnd_some]
    exact both_N (C1 := C) rfl rfl rfl ⟨EqC.rfl, E0⟩
  · obtain ⟨f, f1, rfl⟩ := has_ex (by omega) cx
    have e1 : hasT (nI nF) (nI f) = 1 := by rw [hasT_nI (by omega) (by omega), if_pos f1]
    obtain ⟨s1, s2, -⟩ := R2.stand (k := k) f1 hN
    rw [e1, c_dem1, bnx_r, if_neg (by decide), s1, s2, bnd_some, bnd_some]
    exact both_0 (C1 := C) rfl rfl rfl ⟨EqC.rfl, EqD.code⟩
end PS
