/-! lines, and their answers -/
def ansF (kd si : Nat → Int32) (s : Int32) : Nat → Nat → Int32
  | 0, _ => -1
  | m + 1, i => if si i = s then (if kd i = 5 then ansF kd si s m (i + 1) else if kd i = 4 then ansF kd si s m (i + 1) else if kd i = 0 then -1 else nI i) else -1
theorem ansF_in {kd si : Nat → Int32} {s : Int32} : ∀ {m i : Nat}, ansF kd si s m i = -1 ∨ ∃ y, i ≤ y ∧ y < i + m ∧ ansF kd si s m i = nI y := by
  intro m
  induction m with
  | zero => intro i; left; rfl
  | succ m ih =>
    intro i
    rw [ansF]
    have := @ih (i + 1)
    have up : ansF kd si s m (i + 1) = -1 ∨ ∃ y, i ≤ y ∧ y < i + (m + 1) ∧ ansF kd si s m (i + 1) = nI y := by
      rcases this with h | ⟨y, h1, h2, h3⟩
      · left; exact h
      · right; exact ⟨y, by omega, by omega, h3⟩
    by_cases c0 : si i = s
    · rw [if_pos c0]
      by_cases c1 : kd i = 5
      · rw [if_pos c1]; exact up
      · rw [if_neg c1]
        by_cases c2 : kd i = 4
        · rw [if_pos c2]; exact up
        · rw [if_neg c2]
          by_cases c3 : kd i = 0
          · rw [if_pos c3]; left; rfl
          · rw [if_neg c3]; right; exact ⟨i, by omega, by omega, rfl⟩
    · rw [if_neg c0]; left; rfl
/-- an entry's answer, of e -/
def ansE (kd si : Nat → Int32) (n e : Nat) : Int32 := if kd e = 0 then ansF kd si (si e) (n - (e + 1)) (e + 1) else -1
/-- lines on both sides -/
def RLn (C D : CS) (n : Nat) : Prop := n ≤ 200 ∧ gI C 6901 = nI n ∧ gI D 11308 = nI n ∧ gI C 6900 = 200 ∧
  (∀ i, i < n → gA C 70 i = gA D 116 i ∧ gA C 71 i = gA D 117 i ∧ gA C 72 i = gA D 119 i ∧ gA C 73 i = gA D 120 i ∧ gA C 74 i = gA D 118 i ∧ ∃ k, k ≤ 5 ∧ gA D 116 i = nI k) ∧
  (∀ i, i < n → (gA D 116 i = 5 ∧ gA D 118 i = -1) ∨ (gA D 116 i ≠ 5 ∧ ∃ e, e ≤ i ∧ gA D 118 i = nI e ∧ gA D 118 e = nI e ∧ gA D 117 e = gA D 117 i ∧ gA D 116 e ≠ 5 ∧ gA D 116 e ≠ 4)) ∧
  ∀ e, e < n → gA D 118 e = nI e → gA C 75 e = ansE (gA D 116) (gA D 117) n e
section PL
variable {C D : CS} {x y : Int32} {n i e N : Nat}
theorem d_answeredL (h : gI D 11308 = nI n) (hn : n ≤ 200) (hi : i < n) : ∀ m j z : Nat, j + m = n → m < z → f_X12_answered_L35 N (nI i) D z (nI j) = some (.inr ()) ∧ ansF (gA D 116) (gA D 117) (gA D 117 i) m j = -1 ∨ f_X12_answered_L35 N (nI i) D z (nI j) = some (.inl (ansF (gA D 116) (gA D 117) (gA D 117 i) m j)) := by
  intro m
  induction m with
  | zero =>
    intro j z hj hz
    obtain ⟨z, rfl, -⟩ := sc hz
    left
    rw [f_X12_answered_L35, h, if_pos (nI_le (by omega) (by omega))]
    exact ⟨rfl, rfl⟩
  | succ m ih =>
    intro j z hj hz
    obtain ⟨z, rfl, hz⟩ := sc hz
    have ih := ih (j + 1) z (by omega) (by omega)
    rw [f_X12_answered_L35, h, if_neg (nI_ge (by omega) (by omega)), inb_nI (i := j) (by omega) (by decide), inb_nI (i := i) (by omega) (by decide), nI_clamp (n := j) (by omega), nI_clamp (n := i) (by omega), if_pos rfl, if_pos rfl, if_pos rfl, if_pos rfl, if_pos rfl, nI_1, ansF]
    by_cases c0 : gA D 117 j = gA D 117 i
    · rw [if_pos c0, if_pos c0]
      by_cases c1 : gA D 116 j = 5
      · rw [if_pos c1, if_pos c1]; exact ih
      · rw [if_neg c1, if_neg c1]
        by_cases c2 : gA D 116 j = 4
        · rw [if_pos c2, if_pos c2]; exact ih
        · rw [if_neg c2, if_neg c2]
          by_cases c3 : gA D 116 j = 0
          · rw [if_pos c3, if_pos c3]; right; rfl
          · rw [if_neg c3, if_neg c3]; right; rfl
    · rw [if_neg c0, if_neg c0]
      left; exact ⟨rfl, rfl⟩
theorem d_answered (h : gI D 11308 = nI n) (hn : n ≤ 200) (hi : i < n) (he : e ≤ i) (h1 : gA D 118 i = nI e) (h2 : gA D 117 e = gA D 117 i) (hN : 200 < N) : f_X12_answered N (nI i) D = some (ansE (gA D 116) (gA D 117) n e) := by
  unfold f_X12_answered ansE
  rw [inb_nI (by omega) (by decide), nI_clamp (by omega), h1, if_pos rfl, if_neg (nI_m1 (by omega)), inb_nI (by omega) (by decide), nI_clamp (by omega), if_pos rfl, if_pos rfl, if_pos rfl, nI_1, h2]
  by_cases c : gA D 116 e = 0
  · rw [if_pos c, if_pos c]
    rcases d_answeredL (N := N) h hn hi (n - (e + 1)) (e + 1) N (by omega) (by omega) with ⟨z1, z2⟩ | z
    · rw [z1, bns_r, z2]
    · rw [z, bns_l]
  · rw [if_neg c, if_neg c]
theorem hasT_nI {n i : Nat} (hn : n < 2 ^ 31) (hi : i < 2 ^ 31) : hasT (nI n) (nI i) = if i < n then 1 else 0 := by
  unfold hasT
  by_cases c : i < n
  · rw [if_pos c, if_pos ⟨nI_pos' hi, nI_lt c hn⟩]
  · rw [if_neg c, if_neg (fun z => c ((nI_ltI hi hn).mp z.2))]
theorem hasT_m1 {z : Int32} : hasT z (-1) = 0 := by
  unfold hasT
  rw [if_neg (fun q => absurd q.1 (by decide))]
theorem has_ex {x : Int32} {n : Nat} (hn : n < 2 ^ 31) (h : ¬ hasT (nI n) x = 0) : ∃ j, j < n ∧ x = nI j := by
  unfold hasT at h
  by_cases c : 0 ≤ x ∧ x < nI n
  · obtain ⟨j, j1, rfl⟩ := nI_of (Int32.not_lt.mpr c.1)
    exact ⟨j, (nI_ltI j1 hn).mp c.2, rfl⟩
  · rw [if_neg c] at h
    exact absurd rfl h
theorem RLn.answer (R : RLn C D n) (hi : i < n) (hN : 200 < N) : ∃ r, f_X4_answerTo (nI i) C = some r ∧ f_X12_answered N (nI i) D = some r ∧ (r = -1 ∨ ∃ y, y < n ∧ r = nI y) := by
  obtain ⟨r1, r2, r3, r4, r5, r6, r7⟩ := R
  obtain ⟨e1, e2, e3, e4, e5, k, k1, k2⟩ := r5 i hi
  rcases r6 i hi with ⟨q1, q2⟩ | ⟨q1, e, he, q2, q3, q4, q5, q6⟩
  · refine ⟨-1, ?_, ?_, Or.inl rfl⟩
    · unfold f_X4_answerTo
      rw [inb_nI (by omega) (by decide), nI_clamp (by omega), e5, q2, if_pos rfl, hasT_m1, if_pos rfl]
    · unfold f_X12_answered
      rw [inb_nI (by omega) (by decide), nI_clamp (by omega), q2, if_pos rfl, if_pos rfl]
  · refine ⟨ansE (gA D 116) (gA D 117) n e, ?_, d_answered r3 r1 hi he q2 q4 hN, ?_⟩
    · unfold f_X4_answerTo
      rw [inb_nI (by omega) (by decide), nI_clamp (by omega), e5, q2, if_pos rfl, r2, hasT_nI (by omega) (by omega), if_pos (by omega : e < n), if_neg (by decide), inb_nI (by omega) (by decide), nI_clamp (by omega), if_pos rfl, r7 e (by omega) q3]
    · unfold ansE
      by_cases c : gA D 116 e = 0
      · rw [if_pos c]
        rcases ansF_in (kd := gA D 116) (si := gA D 117) (s := gA D 117 e) (m := n - (e + 1)) (i := e + 1) with h | ⟨y, y1, y2, y3⟩
        · left; exact h
        · right; exact ⟨y, by omega, y3⟩
      · rw [if_neg c]; left; rfl
/-- of an entry's line -/
theorem RLn.entry (R : RLn C D n) (hi : i < n) (h5 : gA D 116 i ≠ 5) : ∃ e, e ≤ i ∧ gA D 118 i = nI e ∧ f_X4_kindOfEntry (nI i) C = some (gA D 116 e) := by
  obtain ⟨r1, r2, r3, r4, r5, r6, r7⟩ := R
  rcases r6 i hi with ⟨q1, q2⟩ | ⟨q1, e, he, q2, q3, q4, q5, q6⟩
  · exact absurd q1 h5
  · refine ⟨e, he, q2, ?_⟩
    unfold f_X4_kindOfEntry
    rw [inb_nI (by omega) (by decide), nI_clamp (by omega), (r5 i hi).2.2.2.2.1, q2, if_pos rfl, r2, hasT_nI (by omega) (by omega), if_pos (by omega : e < n), if_neg (by decide), inb_nI (by omega) (by decide), nI_clamp (by omega), if_pos rfl, (r5 e (by omega)).1]
def citF (pg pl : Nat → Int32) (x y : Int32) : Nat → Nat → Option Nat
  | 0, _ => none
  | m + 1, i => if pg i = x ∧ pl i = y then some i else citF pg pl x y m (i + 1)
theorem citF_cg {pg pl pg' pl' : Nat → Int32} {x y : Int32} : ∀ {m i : Nat}, (∀ j, i ≤ j → j < i + m → pg j = pg' j ∧ pl j = pl' j) → citF pg pl x y m i = citF pg' pl' x y m i := by
  intro m
  induction m with
  | zero => intro i h; rfl
  | succ m ih =>
    intro i h
    rw [citF, citF, (h i (Nat.le_refl _) (by omega)).1, (h i (Nat.le_refl _) (by omega)).2, ih (fun j h1 h2 => h j (by omega) (by omega))]
theorem c_citL (h : gI C 6901 = nI n) (hn : n ≤ 200) : ∀ m j z : Nat, j + m = n → m < z → f_X4_standingAt_L2 N x y C z (nI j) = some (match citF (gA C 72) (gA C 73) x y m j with
    | none => .inr ()
    | some k => .inl (nI k)) := by
  intro m
  induction m with
  | zero =>
    intro j z hj hz
    obtain ⟨z, rfl, -⟩ := sc hz
    rw [f_X4_standingAt_L2, h, if_pos (nI_le (by omega) (by omega))]
    rfl
  | succ m ih =>
    intro j z hj hz
    obtain ⟨z, rfl, hz⟩ := sc hz
    rw [f_X4_standingAt_L2, h, if_neg (nI_ge (by omega) (by omega)), inb_nI (by omega) (by decide), nI_clamp (by omega), if_pos rfl, if_pos rfl, nI_1, ih (j + 1) z (by omega) (by omega), citF]
    by_cases c1 : gA C 72 j = x <;> by_cases c2 : gA C 73 j = y <;> simp [c1, c2]
theorem d_citL (h : gI D 11308 = nI n) (hn : n ≤ 200) : ∀ m j z : Nat, j + m = n → m < z → f_X12_cited_L7 N x y D z (nI j) = some (match citF (gA D 119) (gA D 120) x y m j with
    | none => .inr ()
    | some k => .inl (nI k, D)) := by
  intro m
  induction m with
  | zero =>
    intro j z hj hz
    obtain ⟨z, rfl, -⟩ := sc hz
    rw [f_X12_cited_L7, h, if_pos (nI_le (by omega) (by omega))]
    rfl
  | succ m ih =>
    intro j z hj hz
    obtain ⟨z, rfl, hz⟩ := sc hz
    rw [f_X12_cited_L7, h, if_neg (nI_ge (by omega) (by omega)), inb_nI (by omega) (by decide), nI_clamp (by omega), if_pos rfl, if_pos rfl, nI_1, ih (j + 1) z (by omega) (by omega), citF]
    by_cases c1 : gA D 119 j = x <;> by_cases c2 : gA D 120 j = y <;> simp [c1, c2]
theorem RLn.cited (R : RLn C D n) (hN : 200 < N) : ∃ r, f_X11_cited N x y C = some r ∧ f_X12_cited N x y D = some (r, sI D 11300 0) := by
  obtain ⟨r1, r2, r3, r4, r5, r6, r7⟩ := R
  have h3 : gI (sI D 11300 0) 11308 = nI n := r3
  have e : citF (gA C 72) (gA C 73) x y n 0 = citF (gA D 119) (gA D 120) x y n 0 := citF_cg (fun j _ hj => ⟨(r5 j (by omega)).2.2.1, (r5 j (by omega)).2.2.2.1⟩)
  have z1 := c_citL (C := C) (N := N) (x := x) (y := y) r2 r1 n 0 N (by omega) (by omega)
  have z2 := d_citL (D := sI D 11300 0) (N := N) (x := x) (y := y) h3 r1 n 0 N (by omega) (by omega)
  rw [e] at z1
  have e2 : citF (gA (sI D 11300 0) 119) (gA (sI D 11300 0) 120) x y n 0 = citF (gA D 119) (gA D 120) x y n 0 := rfl
  rw [e2] at z2
  unfold f_X11_cited f_X4_standingAt f_X12_cited
  rw [bd_eq, show f_X4_standingAt_L2 N x y C N 0 = f_X4_standingAt_L2 N x y C N (nI 0) from rfl, z1, show f_X12_cited_L7 N x y (sI D 11300 0) N 0 = f_X12_cited_L7 N x y (sI D 11300 0) N (nI 0) from rfl, z2]
  cases citF (gA D 119) (gA D 120) x y n 0 with
  | none => exact ⟨-1, rfl, rfl⟩
  | some k => exact ⟨nI k, rfl, rfl⟩
end PL
/-! rests -/
def vid (nL nR m : Nat) : Prop := m < nL ∨ (200 ≤ m ∧ m < 200 + nR)
def lastR (L : Nat → Int32) (l : Nat) : Nat → Nat
  | 0 => l
  | m + 1 => if L (200 + m) = nI l then 200 + m else lastR L l m
def ro (L Dy : Nat → Int32) (l : Nat) (k : Int32) : Nat → Nat
  | 0 => l
  | m + 1 => if L (200 + m) = nI l ∧ ¬ k < Dy (200 + m) then 200 + m else ro L Dy l k m
def cntR (L : Nat → Int32) (l : Nat) : Nat → Nat
  | 0 => 0
  | m + 1 => if L (200 + m) = nI l then cntR L l m + 1 else cntR L l m
theorem lastR_cs {L : Nat → Int32} {l : Nat} : ∀ m : Nat, (lastR L l m = l ∧ ∀ j, j < m → L (200 + j) ≠ nI l) ∨ ∃ j, j < m ∧ lastR L l m = 200 + j ∧ L (200 + j) = nI l ∧ ∀ t, j < t → t < m → L (200 + t) ≠ nI l := by
  intro m
  induction m with
  | zero => left; exact ⟨rfl, fun j hj => by omega⟩
  | succ m ih =>
    rw [lastR]
    by_cases c : L (200 + m) = nI l
    · rw [if_pos c]
      right
      exact ⟨m, by omega, rfl, c, fun t h1 h2 => by omega⟩
    · rw [if_neg c]
      rcases ih with ⟨h1, h2⟩ | ⟨j, j1, j2, j3, j4⟩
      · left
        refine ⟨h1, fun j hj => ?_⟩
        by_cases e : j = m
        · subst e; exact c
        · exact h2 j (by omega)
      · right
        refine ⟨j, by omega, j2, j3, fun t h1 h2 => ?_⟩
        by_cases e : t = m
        · subst e; exact c
        · exact j4 t h1 (by omega)
theorem ro_skip {L Dy : Nat → Int32} {l a : Nat} {k : Int32} : ∀ m : Nat, a ≤ m → (∀ t, a ≤ t → t < m → L (200 + t) ≠ nI l) → ro L Dy l k m = ro L Dy l k a := by
  intro m
  induction m with
  | zero => intro h _; rw [show a = 0 by omega]
  | succ m ih =>
    intro h1 h2
    by_cases e : a = m + 1
    · rw [e]
    · rw [ro, if_neg (fun z => h2 m (by omega) (by omega) z.1)]
      exact ih (by omega) (fun t t1 t2 => h2 t t1 (by omega))
theorem cntR_skip {L : Nat → Int32} {l a : Nat} : ∀ m : Nat, a ≤ m → (∀ t, a ≤ t → t < m → L (200 + t) ≠ nI l) → cntR L l m = cntR L l a := by
  intro m
  induction m with
  | zero => intro h _; rw [show a = 0 by omega]
  | succ m ih =>
    intro h1 h2
    by_cases e : a = m + 1
    · rw [e]
    · rw [cntR, if_neg (h2 m (by omega) (by omega))]
      exact ih (by omega) (fun t t1 t2 => h2 t t1 (by omega))
theorem cntR_le {L : Nat → Int32} {l : Nat} : ∀ m : Nat, cntR L l m ≤ m := by
  intro m
  induction m with
  | zero => exact Nat.le_refl _
  | succ m ih =>
    rw [cntR]
    split <;> omega
theorem lastR_vid {L : Nat → Int32} {l nL nR m : Nat} (hl : l < nL) (hm : m ≤ nR) : vid nL nR (lastR L l m) := by
  rcases lastR_cs (L := L) (l := l) m with ⟨h1, -⟩ | ⟨j, j1, j2, -⟩
  · rw [h1]; left; exact hl
  · rw [j2]; right; omega
theorem ro_vid {L Dy : Nat → Int32} {l nL nR : Nat} {k : Int32} (hl : l < nL) : ∀ {m : Nat}, m ≤ nR → vid nL nR (ro L Dy l k m) := by
  intro m
  induction m with
  | zero => intro _; left; exact hl
  | succ m ih =>
    intro hm
    rw [ro]
    split
    · right; omega
    · exact ih (by omega)
theorem lastR_cg {L L' : Nat → Int32} {l : Nat} : ∀ {m : Nat}, (∀ j, j < m → L (200 + j) = L' (200 + j)) → lastR L l m = lastR L' l m := by
  intro m
  induction m with
  | zero => intro h; rfl
  | succ m ih =>
    intro h
    rw [lastR, lastR, h m (by omega), ih (fun j hj => h j (by omega))]
theorem cntR_cg {L L' : Nat → Int32} {l : Nat} : ∀ {m : Nat}, (∀ j, j < m → L (200 + j) = L' (200 + j)) → cntR L l m = cntR L' l m := by
  intro m
  induction m with
  | zero => intro h; rfl
  | succ m ih =>
    intro h
    rw [cntR, cntR, h m (by omega), ih (fun j hj => h j (by omega))]
/-- rests on both sides: the model's number of a rest, the class's by cid -/
def RR (C D : CS) (nL nR : Nat) (cid : Nat → Nat) : Prop := nL ≤ 200 ∧ nR ≤ 100 ∧ gI C 7601 = nI (nL + nR) ∧ gI C 7600 = 300 ∧ gI D 11319 = nI nR ∧
  (∀ m, vid nL nR m → cid m < nL + nR) ∧ (∀ m p, vid nL nR m → vid nL nR p → cid m = cid p → m = p) ∧
  (∀ i, i < nL → gA D 122 i = nI i ∧ gA C 80 (cid i) = -1 ∧ gA C 79 i = nI (cid (lastR (gA D 122) i nR)) ∧ gA D 121 i = nI (cntR (gA D 122) i nR)) ∧
  ∀ j, j < nR → ∃ l, l < nL ∧ gA D 122 (200 + j) = nI l ∧ gA C 80 (cid (200 + j)) = nI (cid (lastR (gA D 122) l j)) ∧ gA C 81 (cid (200 + j)) = gA D 123 (200 + j)
section PR
variable {C D : CS} {k : Int32} {nL nR l N : Nat} {cid : Nat → Nat}
theorem c_heldL (R : RR C D nL nR cid) (hl : l < nL) : ∀ m c z : Nat, c + m ≤ nR → m < z → f_X8_heldOn_L10 N k C z (nI (cid (lastR (gA D 122) l m))) (nI c) = some (nI (cid (ro (gA D 122) (gA D 123) l k m))) := by
  obtain ⟨r1, r2, r3, r4, r5, r6, r7, r8, r9⟩ := R
  intro m
  induction m using Nat.strongRecOn with
  | _ m ih =>
    intro c z hc hz
    obtain ⟨z, rfl, hz⟩ := sc hz
    have hv := r6 _ (lastR_vid (L := gA D 122) (m := m) hl (show m ≤ nR by omega))
    rw [f_X8_heldOn_L10, r3, if_neg (nI_ge (by omega) (by omega)), inb_nI (by omega) (by decide), nI_clamp (by omega), if_pos rfl, if_pos rfl, if_pos rfl, nI_1]
    rcases lastR_cs (L := gA D 122) (l := l) m with ⟨h1, h2⟩ | ⟨j, j1, j2, j3, j4⟩
    · rw [h1, (r8 l hl).2.1, if_pos rfl, ro_skip (a := 0) m (by omega) (fun t _ ht => h2 t ht)]
      rfl
    · obtain ⟨l', l1, l2, l3, l4⟩ := r9 j (by omega)
      have el : l' = l := (nI_eq (by omega) (by omega)).mp (l2.symm.trans j3)
      subst el
      have hv2 := r6 _ (lastR_vid (L := gA D 122) (m := j) l1 (show j ≤ nR by omega))
      rw [j2, l3, l4, if_neg (nI_m1 (by omega)), ro_skip (a := j + 1) m (by omega) (fun t h1 h2 => j4 t (by omega) h2), ro]
      by_cases c1 : gA D 123 (200 + j) ≤ k
      · rw [if_pos c1, if_pos ⟨j3, fun z => Int32.not_le.mpr z c1⟩]
      · rw [if_neg c1, if_neg (fun z => z.2 (Int32.not_le.mp c1))]
        exact ih j j1 (c + 1) z (by omega) (by omega)
theorem d_restL (h5 : gI D 11319 = nI nR) (hR : nR ≤ 100) (hl : l < 200) : ∀ m i z : Nat, i + m = nR → m < z → f_X12_restOn_L7 N (nI l) k D z (nI (ro (gA D 122) (gA D 123) l k i)) (nI (200 + i)) = some (nI (ro (gA D 122) (gA D 123) l k nR)) := by
  intro m
  induction m with
  | zero =>
    intro i z hi hz
    obtain ⟨z, rfl, -⟩ := sc hz
    rw [f_X12_restOn_L7, h5, show (200 : Int32) = nI 200 from rfl, nI_add, if_pos (nI_le (by omega) (by omega)), show i = nR by omega]
  | succ m ih =>
    intro i z hi hz
    obtain ⟨z, rfl, hz⟩ := sc hz
    rw [f_X12_restOn_L7, h5, show (200 : Int32) = nI 200 from rfl, nI_add, if_neg (nI_ge (by omega) (by omega)), inb_nI (by omega) (by decide), nI_clamp (by omega), if_pos rfl, if_pos rfl, nI_1]
    have ih := ih (i + 1) z (by omega) (by omega)
    rw [ro, ← Nat.add_assoc] at ih
    by_cases c1 : gA D 122 (200 + i) = nI l
    · rw [if_pos c1]
      by_cases c2 : k < gA D 123 (200 + i)
      · rw [if_pos c2]
        rw [if_neg (fun z => z.2 c2)] at ih
        exact ih
      · rw [if_neg c2]
        rw [if_pos ⟨c1, c2⟩] at ih
        exact ih
    · rw [if_neg c1]
      rw [if_neg (fun z => c1 z.1)] at ih
      exact ih
theorem RR.held (R : RR C D nL nR cid) (hl : l < nL) (hN : 200 < N) : f_X8_heldOn N (nI l) k C = some (nI (cid (ro (gA D 122) (gA D 123) l k nR))) ∧ f_X12_restOn N (nI l) k D = some (nI (ro (gA D 122) (gA D 123) l k nR)) := by
  have z1 := c_heldL (N := N) (k := k) R hl nR 0 N (by omega) (by have := R.2.1; omega)
  obtain ⟨r1, r2, r3, r4, r5, r6, r7, r8, r9⟩ := R
  have z2 := d_restL (D := D) (N := N) (k := k) r5 r2 (by omega : l < 200) nR 0 N (by omega) (by omega)
  constructor
  · unfold f_X8_heldOn
    rw [inb_nI (by omega) (by decide), nI_clamp (by omega), (r8 l hl).2.2.1, if_pos rfl, show (0 : Int32) = nI 0 from rfl, z1, bnd_some]
  · unfold f_X12_restOn
    have e : f_X12_restOn_L7 N (nI l) k D N (nI l) 200 = f_X12_restOn_L7 N (nI l) k D N (nI (ro (gA D 122) (gA D 123) l k 0)) (nI (200 + 0)) := rfl
    rw [e, z2, bnd_some]
theorem c_timesL (R : RR C D nL nR cid) (hl : l < nL) : ∀ m c z : Nat, c + m ≤ nR → m < z → f_X8_timesRighted_L9 N C z (nI (cid (lastR (gA D 122) l m))) (nI c) = some (nI (c + cntR (gA D 122) l m)) := by
  obtain ⟨r1, r2, r3, r4, r5, r6, r7, r8, r9⟩ := R
  intro m
  induction m using Nat.strongRecOn with
  | _ m ih =>
    intro c z hc hz
    obtain ⟨z, rfl, hz⟩ := sc hz
    have hv := r6 _ (lastR_vid (L := gA D 122) (m := m) hl (show m ≤ nR by omega))
    rw [f_X8_timesRighted_L9, r3, if_neg (nI_ge (by omega) (by omega)), inb_nI (by omega) (by decide), nI_clamp (by omega), if_pos rfl, if_pos rfl, nI_1]
    rcases lastR_cs (L := gA D 122) (l := l) m with ⟨h1, h2⟩ | ⟨j, j1, j2, j3, j4⟩
    · rw [h1, (r8 l hl).2.1, if_pos rfl, cntR_skip (a := 0) m (by omega) (fun t _ ht => h2 t ht)]
      rfl
    · obtain ⟨l', l1, l2, l3, l4⟩ := r9 j (by omega)
      have el : l' = l := (nI_eq (by omega) (by omega)).mp (l2.symm.trans j3)
      subst el
      have hv2 := r6 _ (lastR_vid (L := gA D 122) (m := j) l1 (show j ≤ nR by omega))
      rw [j2, l3, if_neg (nI_m1 (by omega)), cntR_skip (a := j + 1) m (by omega) (fun t h1 h2 => j4 t (by omega) h2), cntR, if_pos j3, ih j j1 (c + 1) z (by omega) (by omega)]
      congr 2
      omega
theorem RR.times (R : RR C D nL nR cid) (hl : l < nL) (hN : 200 < N) : f_X8_timesRighted N (nI l) C = some (gA D 121 l) := by
  have z1 := c_timesL (N := N) R hl nR 0 N (by omega) (by have := R.2.1; omega)
  obtain ⟨r1, r2, r3, r4, r5, r6, r7, r8, r9⟩ := R
  unfold f_X8_timesRighted
  rw [inb_nI (by omega) (by decide), nI_clamp (by omega), (r8 l hl).2.2.1, if_pos rfl, show (0 : Int32) = nI 0 from rfl, z1, bnd_some, (r8 l hl).2.2.2, Nat.zero_add]
end PR
