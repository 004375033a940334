/-! the model's end of a line -/
section PS
variable {D : CS} {en n k p1 N : Nat} {s : Int32} {E : Option Nat}
def j2 (D : CS) (n : Nat) (k s v : Int32) : CS := sI (sA (sA (sA (sA D 116 n k) 117 n s) 118 n v) 121 n 0) 11308 (nI (n + 1))
theorem d_tail {v : Int32} (hk : Int32) (he : gI D 11347 = nI en) (hp : gI D 11346 = nI p1) (h3 : en ≤ 3000) (h2 : p1 < 2 ^ 20) : ∃ D1, (bnd (f_X12_now0 (j2 D n hk s v)) fun q43 => if q43 = 10 then (bd (sI (j2 D n hk s v) 11346 ((gI (j2 D n hk s v) 11346) + 1)) fun D46 => some D46) else (some (j2 D n hk s v))) = some D1 ∧ Fm [11308, 11346] [116, 117, 118, 121] [] D D1 ∧ gI D1 11308 = nI (n + 1) ∧ gI D1 11346 = (if sgn D en p1 = 10 then nI (p1 + 1) else nI p1) ∧ gA D1 116 = upd (gA D 116) n hk ∧ gA D1 117 = upd (gA D 117) n s ∧ gA D1 118 = upd (gA D 118) n v ∧ gA D1 121 = upd (gA D 121) n 0 := by
  have nw : f_X12_now0 (j2 D n hk s v) = some (sgn (j2 D n hk s v) en p1) := d_now (D := j2 D n hk s v) he hp h3 h2
  have sg : sgn (j2 D n hk s v) en p1 = sgn D en p1 := rfl
  have e46 : gI (j2 D n hk s v) 11346 = nI p1 := hp
  have F : Fm [11308, 11346] [116, 117, 118, 121] [] D (j2 D n hk s v) := ((((Fm.A rfl).trans (Fm.A rfl)).trans (Fm.A rfl)).trans (Fm.A rfl)).trans (Fm.I rfl)
  rw [nw, bnd_some, sg, e46, nI_1, bd_eq]
  by_cases c : sgn D en p1 = 10
  · rw [if_pos c, if_pos c]
    exact ⟨_, rfl, F.trans (Fm.I rfl), rfl, rfl, rfl, rfl, rfl, rfl⟩
  · rw [if_neg c, if_neg c]
    exact ⟨_, rfl, F, rfl, e46, rfl, rfl, rfl, rfl⟩
theorem d_j223 (hk : k ≤ 5) (h8 : gI D 11349 = 0) (h : gI D 11308 = nI n) (hn : n < 200) (hs : gI D 11306 = s) (hv4 : k = 4 → 0 < n ∧ gA D 118 (n - 1) = eV E) (he : gI D 11347 = nI en) (hp : gI D 11346 = nI p1) (h3 : en ≤ 3000) (h2 : p1 < 2 ^ 20) : ∃ D1, f_X12_readLine_J223 N (nI k) D = some D1 ∧ Fm [11308, 11346] [116, 117, 118, 121] [] D D1 ∧ gI D1 11308 = nI (n + 1) ∧ gI D1 11346 = (if sgn D en p1 = 10 then nI (p1 + 1) else nI p1) ∧ gA D1 116 = upd (gA D 116) n (nI k) ∧ gA D1 117 = upd (gA D 117) n s ∧ gA D1 118 = upd (gA D 118) n (fsV (nI k) n E) ∧ gA D1 121 = upd (gA D 121) n 0 := by
  have ii : inb (nI n) 200 = true := inb_nI hn (by decide)
  have ik : (nI n).toNatClampNeg = n := nI_clamp (by omega)
  unfold f_X12_readLine_J223
  rw [h8, if_pos rfl, h, ii, if_pos rfl]
  simp only [bd_eq, gI_sA, h, hs, ii, ik, if_true, nI_1]
  by_cases c5 : k = 5
  · subst c5
    rw [if_pos (show nI 5 = 5 from rfl)]
    exact d_tail (v := -1) (nI 5) he hp h3 h2
  have n5 : ¬ nI k = 5 := fun z => c5 ((nI_eq (b := 5) (by omega) (by decide)).mp z)
  rw [if_neg n5]
  by_cases c4 : k = 4
  · subst c4
    obtain ⟨m, rfl⟩ : ∃ m, n = m + 1 := ⟨n - 1, by have := hv4 rfl; omega⟩
    have v4 := (hv4 rfl).2
    rw [Nat.add_sub_cancel] at v4
    have g : gA (sA (sA D 116 (m + 1) (nI 4)) 117 (m + 1) s) 118 m = eV E := v4
    rw [if_pos (show nI 4 = 4 from rfl), nI_pred, inb_nI (by omega) (by decide), if_pos rfl, nI_clamp (n := m) (by omega), g]
    exact d_tail (v := eV E) (nI 4) he hp h3 h2
  have n4 : ¬ nI k = 4 := fun z => c4 ((nI_eq (b := 4) (by omega) (by decide)).mp z)
  rw [if_neg n4]
  unfold fsV
  rw [if_neg n5, if_neg n4]
  exact d_tail (v := nI n) (nI k) he hp h3 h2
end PS
