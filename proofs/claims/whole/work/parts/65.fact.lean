/-! reading: facts and mentions -/
/-- an earlier fact: as it was -/
def FRow (C D Cb Db : CS) (f : Nat) : Prop := gA C 85 f = gA Cb 85 f ∧ gA C 86 f = gA Cb 86 f ∧ gA C 87 f = gA Cb 87 f ∧ gA C 88 f = gA Cb 88 f ∧ gA C 89 f = gA Cb 89 f ∧ gA C 90 f = gA Cb 90 f ∧ gA D 126 f = gA Db 126 f ∧ gA D 127 f = gA Db 127 f ∧ gA D 128 f = gA Db 128 f ∧ gA D 129 f = gA Db 129 f ∧ gA D 130 f = gA Db 130 f
/-- a fact of the rest that is read now -/
def FEq (C D : CS) (l m rid f : Nat) : Prop := gA D 126 f = nI m ∧ gA C 86 f = nI rid ∧ gA C 85 f = nI l ∧ gA C 87 f = gA D 130 f ∧ gA C 88 f = gA D 127 f ∧ gA C 89 f = gA D 128 f ∧ gA C 90 f = gA D 129 f
def MEq (C D : CS) (i : Nat) : Prop := gA C 92 i = gA D 131 i ∧ gA C 93 i = gA D 132 i
/-- what has been read: facts and mentions -/
def DQ (C D : CS) (nF0 nM0 nF nM : Nat) (Cb Db : CS) (l m rid : Nat) : Prop := nF0 ≤ nF ∧ nM0 ≤ nM ∧ nF ≤ 150 ∧ nM ≤ 100 ∧ gI C 8401 = nI nF ∧ gI D 11320 = nI nF ∧ gI C 8400 = 150 ∧ gI C 9101 = nI nM ∧ gI D 11321 = nI nM ∧ gI C 9100 = 100 ∧ gI D 11351 = nI l ∧ gI D 11352 = nI m ∧ gI C 7601 = nI rid ∧ (∀ f, f < nF0 → FRow C D Cb Db f) ∧ (∀ f, nF0 ≤ f → f < nF → FEq C D l m rid f) ∧ ∀ i, i < nM → MEq C D i
/-- what a fault leaves -/
def DB (C D : CS) (nF0 nM0 : Nat) (Cb Db : CS) : Prop := (∀ f, f < nF0 → FRow C D Cb Db f) ∧ ∀ i, i < nM0 → MEq C D i
abbrev rC : CS → CS → Prop := Fm [11007, 11009, 11011, 11012, 8401, 9101] [85, 86, 87, 88, 89, 90, 92, 93] []
abbrev rD : CS → CS → Prop := Fm [11346, 11349, 11350, 11320, 11321] [126, 127, 128, 129, 130, 131, 132] []
section PY
variable {C D C1 D1 : CS} {nF0 nM0 nF nM nL nR l m rid en p lim mo N nN nX : Nat} {Cb Db : CS} {rf : Int32}
theorem DQ.db (Q : DQ C D nF0 nM0 nF nM Cb Db l m rid) : DB C D nF0 nM0 Cb Db := by
  obtain ⟨q1, q2, -, -, -, -, -, -, -, -, -, -, -, q3, -, q4⟩ := Q
  exact ⟨q3, fun i hi => q4 i (by omega)⟩
theorem FRow.cg {f : Nat} (h : FRow C D Cb Db f) (a : ∀ r ∈ [85, 86, 87, 88, 89, 90], gA C1 r f = gA C r f) (b : ∀ r ∈ [126, 127, 128, 129, 130], gA D1 r f = gA D r f) : FRow C1 D1 Cb Db f := by
  unfold FRow at h ⊢
  rw [a 85 (by decide), a 86 (by decide), a 87 (by decide), a 88 (by decide), a 89 (by decide), a 90 (by decide), b 126 (by decide), b 127 (by decide), b 128 (by decide), b 129 (by decide), b 130 (by decide)]
  exact h
theorem DQ.pp (Q : DQ C D nF0 nM0 nF nM Cb Db l m rid) (h : pC C C1) (k : pD D D1) : DQ C1 D1 nF0 nM0 nF nM Cb Db l m rid := by
  have a := h.ag (li := [8401, 8400, 9101, 9100, 7601]) (la := [85, 86, 87, 88, 89, 90, 92, 93]) (lb := []) rfl
  have b := k.ag (li := [11320, 11321, 11351, 11352]) (la := [116, 122, 126, 127, 128, 129, 130, 131, 132]) (lb := []) rfl
  unfold DQ FRow FEq MEq at Q ⊢
  rw [a.1 8401 (by decide), a.1 8400 (by decide), a.1 9101 (by decide), a.1 9100 (by decide), a.1 7601 (by decide), b.1 11320 (by decide), b.1 11321 (by decide), b.1 11351 (by decide), b.1 11352 (by decide), a.2.1 85 (by decide), a.2.1 86 (by decide), a.2.1 87 (by decide), a.2.1 88 (by decide), a.2.1 89 (by decide), a.2.1 90 (by decide), a.2.1 92 (by decide), a.2.1 93 (by decide), b.2.1 126 (by decide), b.2.1 127 (by decide), b.2.1 128 (by decide), b.2.1 129 (by decide), b.2.1 130 (by decide), b.2.1 131 (by decide), b.2.1 132 (by decide)]
  exact Q
theorem DB.pp (Q : DB C D nF0 nM0 Cb Db) (h : pC C C1) (k : pD D D1) : DB C1 D1 nF0 nM0 Cb Db := by
  have a := h.ag (li := []) (la := [85, 86, 87, 88, 89, 90, 92, 93]) (lb := []) rfl
  have b := k.ag (li := []) (la := [116, 122, 126, 127, 128, 129, 130, 131, 132]) (lb := []) rfl
  unfold DB FRow MEq at Q ⊢
  rw [a.2.1 85 (by decide), a.2.1 86 (by decide), a.2.1 87 (by decide), a.2.1 88 (by decide), a.2.1 89 (by decide), a.2.1 90 (by decide), a.2.1 92 (by decide), a.2.1 93 (by decide), b.2.1 126 (by decide), b.2.1 127 (by decide), b.2.1 128 (by decide), b.2.1 129 (by decide), b.2.1 130 (by decide), b.2.1 131 (by decide), b.2.1 132 (by decide)]
  exact Q
theorem Fm.pr (h : pC C C1) : rC C C1 := h.sub (by decide)
theorem Fm.prD (h : pD D D1) : rD D D1 := h.sub (by decide)
theorem PP.fm {ei ea eb fi fa fb : List Nat} (P : PP C D en p lim mo) (h : Fm ei ea eb C C1) (k : Fm fi fa fb D D1) (s : (dj [6501, 11006, 11007, 11008, 11011, 11012] ei && (dj [66] ea && dj [] eb)) = true) (t : (dj [11347, 11346, 11348, 11349] fi && (dj [114] fa && dj [] fb)) = true) : PP C1 D1 en p lim mo := by
  have a := h.ag s
  have b := k.ag t
  unfold PP Tx at P ⊢
  rw [a.1 6501 (by decide), a.1 11006 (by decide), a.1 11007 (by decide), a.1 11008 (by decide), a.1 11011 (by decide), a.1 11012 (by decide), a.2.1 66 (by decide), b.1 11347 (by decide), b.1 11346 (by decide), b.1 11348 (by decide), b.1 11349 (by decide), b.2.1 114 (by decide)]
  exact P
/-- the class's half of a new fact -/
def faC (C : CS) (n : Nat) (a b c : Int32) : CS := sI (sA (sA (sA C 85 n a) 86 n b) 87 n c) 8401 (nI (n + 1))
def faN (C : CS) (n : Nat) (a b c : Int32) : CS := sA (sA (sA C 88 n a) 89 n b) 90 n c
def faD (D : CS) (n : Nat) (a s d v q : Int32) : CS := sI (sA (sA (sA (sA (sA D 126 n a) 127 n s) 128 n d) 129 n v) 130 n q) 11320 (nI (n + 1))
theorem c_fadd {a b c : Int32} (h : gI C 8401 = nI nF) (h0 : gI C 8400 = 150) (hn : nF < 150) : f_X3_add a b c C = some (faC C nF a b c) := by
  unfold f_X3_add
  have ii : inb (nI nF) 150 = true := inb_nI hn (by decide)
  have ik : (nI nF).toNatClampNeg = nF := nI_clamp (by omega)
  rw [h, h0, if_pos (show nI nF < 150 from nI_lt (b := 150) hn (by decide)), ii, if_pos rfl]
  simp only [bd_eq, gI_sA, h, ii, ik, nI_1, if_true]
  rfl
theorem c_fset {a b c : Int32} (h : gI C 8401 = nI (nF + 1)) (hn : nF < 150) : f_X3_setNumbers a b c C = some (faN C nF a b c) := by
  unfold f_X3_setNumbers
  have ii : inb (nI nF) 150 = true := inb_nI hn (by decide)
  have ik : (nI nF).toNatClampNeg = nF := nI_clamp (by omega)
  rw [h, if_neg (show ¬ nI (nF + 1) ≤ 0 from nI_nle (by omega) (by omega)), nI_pred, ii, if_pos rfl]
  simp only [bd_eq, gI_sA, h, nI_pred, ii, ik, if_true]
  rfl
/-- a state in which a fact has begun on the class's side -/
def DH (C D : CS) (nF0 nM0 nF nM : Nat) (Cb Db : CS) (l m rid : Nat) (q : Int32) : Prop := nF0 ≤ nF ∧ nM0 ≤ nM ∧ nF < 150 ∧ nM ≤ 100 ∧ gI C 8401 = nI (nF + 1) ∧ gI D 11320 = nI nF ∧ gI C 8400 = 150 ∧ gI C 9101 = nI nM ∧ gI D 11321 = nI nM ∧ gI C 9100 = 100 ∧ gI D 11351 = nI l ∧ gI D 11352 = nI m ∧ gI C 7601 = nI rid ∧ (∀ f, f < nF0 → FRow C D Cb Db f) ∧ (∀ f, nF0 ≤ f → f < nF → FEq C D l m rid f) ∧ (∀ i, i < nM → MEq C D i) ∧ gA C 86 nF = nI rid ∧ gA C 85 nF = nI l ∧ gA C 87 nF = q
theorem DH.pp {q : Int32} (Q : DH C D nF0 nM0 nF nM Cb Db l m rid q) (h : pC C C1) (k : pD D D1) : DH C1 D1 nF0 nM0 nF nM Cb Db l m rid q := by
  have a := h.ag (li := [8401, 8400, 9101, 9100, 7601]) (la := [85, 86, 87, 88, 89, 90, 92, 93]) (lb := []) rfl
  have b := k.ag (li := [11320, 11321, 11351, 11352]) (la := [116, 122, 126, 127, 128, 129, 130, 131, 132]) (lb := []) rfl
  unfold DH FRow FEq MEq at Q ⊢
  rw [a.1 8401 (by decide), a.1 8400 (by decide), a.1 9101 (by decide), a.1 9100 (by decide), a.1 7601 (by decide), b.1 11320 (by decide), b.1 11321 (by decide), b.1 11351 (by decide), b.1 11352 (by decide), a.2.1 85 (by decide), a.2.1 86 (by decide), a.2.1 87 (by decide), a.2.1 88 (by decide), a.2.1 89 (by decide), a.2.1 90 (by decide), a.2.1 92 (by decide), a.2.1 93 (by decide), b.2.1 126 (by decide), b.2.1 127 (by decide), b.2.1 128 (by decide), b.2.1 129 (by decide), b.2.1 130 (by decide), b.2.1 131 (by decide), b.2.1 132 (by decide)]
  exact Q
theorem DH.db {q : Int32} (Q : DH C D nF0 nM0 nF nM Cb Db l m rid q) : DB C D nF0 nM0 Cb Db := by
  obtain ⟨q1, q2, -, -, -, -, -, -, -, -, -, -, -, q3, -, q4, -⟩ := Q
  exact ⟨q3, fun i hi => q4 i (by omega)⟩
theorem DQ.begin {q : Int32} (Q : DQ C D nF0 nM0 nF nM Cb Db l m rid) (h : nF < 150) : DH (faC C nF (nI l) (nI rid) q) D nF0 nM0 nF nM Cb Db l m rid q := by
  obtain ⟨q1, q2, q3, q4, q5, q6, q7, q8, q9, q10, q11, q12, q13, q14, q15, q16⟩ := Q
  have un : ∀ f, f ≠ nF → ∀ r ∈ [85, 86, 87, 88, 89, 90], gA (faC C nF (nI l) (nI rid) q) r f = gA C r f := by
    intro f hf r hr
    simp only [List.mem_cons, List.not_mem_nil, or_false] at hr
    rcases hr with rfl | rfl | rfl | rfl | rfl | rfl
    · show upd (gA C 85) nF (nI l) f = _; exact upd_ne hf
    · show upd (gA C 86) nF (nI rid) f = _; exact upd_ne hf
    · show upd (gA C 87) nF q f = _; exact upd_ne hf
    · rfl
    · rfl
    · rfl
  refine ⟨q1, q2, h, q4, rfl, q6, q7, q8, q9, q10, q11, q12, q13, fun f hf => (q14 f hf).cg (un f (by omega)) (fun _ _ => rfl), fun f h1 h2 => ?_, q16, ?_, ?_, ?_⟩
  · have u := un f (by omega)
    have z := q15 f h1 h2
    unfold FEq at z ⊢
    rw [u 85 (by decide), u 86 (by decide), u 87 (by decide), u 88 (by decide), u 89 (by decide), u 90 (by decide)]
    exact z
  · show upd (gA C 86) nF (nI rid) nF = _; exact upd_eq
  · show upd (gA C 85) nF (nI l) nF = _; exact upd_eq
  · show upd (gA C 87) nF q nF = _; exact upd_eq
theorem DH.num {q a b c : Int32} (Q : DH C D nF0 nM0 nF nM Cb Db l m rid q) : DH (faN C nF a b c) D nF0 nM0 nF nM Cb Db l m rid q ∧ gA (faN C nF a b c) 88 nF = a ∧ gA (faN C nF a b c) 89 nF = b ∧ gA (faN C nF a b c) 90 nF = c := by
  obtain ⟨q1, q2, q3, q4, q5, q6, q7, q8, q9, q10, q11, q12, q13, q14, q15, q16, q17, q18, q19⟩ := Q
  have un : ∀ f, f ≠ nF → ∀ r ∈ [85, 86, 87, 88, 89, 90], gA (faN C nF a b c) r f = gA C r f := by
    intro f hf r hr
    simp only [List.mem_cons, List.not_mem_nil, or_false] at hr
    rcases hr with rfl | rfl | rfl | rfl | rfl | rfl
    · rfl
    · rfl
    · rfl
    · show upd (gA C 88) nF a f = _; exact upd_ne hf
    · show upd (gA C 89) nF b f = _; exact upd_ne hf
    · show upd (gA C 90) nF c f = _; exact upd_ne hf
  refine ⟨⟨q1, q2, q3, q4, q5, q6, q7, q8, q9, q10, q11, q12, q13, fun f hf => (q14 f hf).cg (un f (by omega)) (fun _ _ => rfl), fun f h1 h2 => ?_, q16, q17, q18, q19⟩, ?_, ?_, ?_⟩
  · have u := un f (by omega)
    have z := q15 f h1 h2
    unfold FEq at z ⊢
    rw [u 85 (by decide), u 86 (by decide), u 87 (by decide), u 88 (by decide), u 89 (by decide), u 90 (by decide)]
    exact z
  · show upd (gA C 88) nF a nF = _; exact upd_eq
  · show upd (gA C 89) nF b nF = _; exact upd_eq
  · show upd (gA C 90) nF c nF = _; exact upd_eq
theorem DH.end {q a b c : Int32} (Q : DH C D nF0 nM0 nF nM Cb Db l m rid q) (ha : gA C 88 nF = a) (hb : gA C 89 nF = b) (hc : gA C 90 nF = c) : DQ C (faD D nF (nI m) a b c q) nF0 nM0 (nF + 1) nM Cb Db l m rid := by
  obtain ⟨q1, q2, q3, q4, q5, q6, q7, q8, q9, q10, q11, q12, q13, q14, q15, q16, q17, q18, q19⟩ := Q
  have un : ∀ f, f ≠ nF → ∀ r ∈ [126, 127, 128, 129, 130], gA (faD D nF (nI m) a b c q) r f = gA D r f := by
    intro f hf r hr
    simp only [List.mem_cons, List.not_mem_nil, or_false] at hr
    rcases hr with rfl | rfl | rfl | rfl | rfl
    · show upd (gA D 126) nF (nI m) f = _; exact upd_ne hf
    · show upd (gA D 127) nF a f = _; exact upd_ne hf
    · show upd (gA D 128) nF b f = _; exact upd_ne hf
    · show upd (gA D 129) nF c f = _; exact upd_ne hf
    · show upd (gA D 130) nF q f = _; exact upd_ne hf
  refine ⟨by omega, q2, by omega, q4, q5, rfl, q7, q8, q9, q10, q11, q12, q13, fun f hf => (q14 f hf).cg (fun _ _ => rfl) (un f (by omega)), fun f h1 h2 => ?_, q16⟩
  by_cases e : f = nF
  · subst e
    refine ⟨?_, q17, q18, ?_, ?_, ?_, ?_⟩
    · show upd (gA D 126) f (nI m) f = _; exact upd_eq
    · show _ = upd (gA D 130) f q f; rw [upd_eq]; exact q19
    · show _ = upd (gA D 127) f a f; rw [upd_eq]; exact ha
    · show _ = upd (gA D 128) f b f; rw [upd_eq]; exact hb
    · show _ = upd (gA D 129) f c f; rw [upd_eq]; exact hc
  · have u := un f e
    have z := q15 f h1 (by omega)
    unfold FEq at z ⊢
    rw [u 126 (by decide), u 127 (by decide), u 128 (by decide), u 129 (by decide), u 130 (by decide)]
    exact z
end PY
