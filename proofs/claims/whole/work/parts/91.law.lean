/-! the law's loop, on the functions -/
section PLW
variable {C D : CS} {N : Nat}
theorem Inv.out {v : Int64} (R : Inv C D) : Inv C (sB D 146 0 v) := by
  obtain ⟨nL, nR, nF, nM, nN, nX, nO, nD, t, o, s, w, fp, cid, q1, q2, q3, q4, q5, q6, q7, q8, q9, q10, q11, q12⟩ := R
  have h : Fm [] [] [] C C := Fm.rfl
  have k : Fm [] [] [146] D (sB D 146 0 v) := Fm.B rfl
  exact ⟨nL, nR, nF, nM, nN, nX, nO, nD, t, o, s, w, fp, cid, q1.fm h k rfl rfl, q2.fm h k rfl rfl, q3.fm h k rfl rfl, q4.fm h k rfl rfl, q5.fm h k rfl rfl, q6.fm h k rfl rfl, q7.fm h k rfl rfl, q8.fm h k rfl rfl, q9.fm h k rfl rfl, q10.fm h k rfl rfl, q11.fm h k rfl rfl, q12.fm k rfl⟩
theorem InvN.thr {nL nR nF nM nN nX nO nD t o s w : Nat} {fp : Int32} {cid : Nat → Nat} (R : InvN C D nL nR nF nM nN nX nO nD t o s w fp cid) : InvN (sE C) D nL nR nF nM nN nX nO nD t o s w fp cid := by
  obtain ⟨q1, q2, q3, q4, q5, q6, q7, q8, q9, q10, q11, q12⟩ := R
  have a : ∀ li la lb, Ag li la lb C (sE C) := fun _ _ _ => ⟨fun _ _ => rfl, fun _ _ => rfl, fun _ _ => rfl⟩
  exact ⟨q1.ag (a _ _ _) Ag.rfl, q2.ag (a _ _ _) Ag.rfl, q3.ag (a _ _ _) Ag.rfl, q4.ag (a _ _ _) Ag.rfl, q5.ag (a _ _ _) Ag.rfl, q6.ag (a _ _ _) Ag.rfl, q7.ag (a _ _ _) Ag.rfl, q8.ag (a _ _ _) Ag.rfl, q9.ag (a _ _ _) Ag.rfl, q10.ag (a _ _ _) Ag.rfl, q11.ag (a _ _ _) Ag.rfl, q12⟩
theorem Inv.thr (R : Inv C D) : Inv (sE C) D := by
  obtain ⟨nL, nR, nF, nM, nN, nX, nO, nD, t, o, s, w, fp, cid, R⟩ := R
  exact ⟨nL, nR, nF, nM, nN, nX, nO, nD, t, o, s, w, fp, cid, R.thr⟩
/-- what a wrapped call gives -/
def Wrd (C : CS) (x : Option (Int32 × CS × CS)) (Y : CS → Option (Int32 × CS)) (cv : Int32 → Int64) : Prop := ∃ c C1 D1 b D2, x = some (c, C1, D1) ∧ Y D1 = some (b, D2) ∧ gI D2 11300 = c ∧ (c = 0 → gB D2 146 0 = cv b) ∧ Inv C1 D2 ∧ gE C1 ≤ gE C + 1
theorem kpE {C1 D1 : CS} (k : Kept C D C1 D1) : gE C1 = gE C := congrArg Prod.fst k.2
theorem kpB {C1 D1 : CS} (k : Kept C D C1 D1) : gB D1 146 = gB D 146 := congrArg Prod.snd k.2
variable {X : Option ((String ⊕ Int32) × CS)} {Y : CS → Option (Int32 × CS)} {cv : Int32 → Int64}
theorem w_ok {r : Int32} {C1 D1 : CS} (R : Inv C D) (cN cI : Int32) (op : ∀ D', Inv C D' → Both cN cI (Kept C D') X (Y D')) (h : X = some (.inr r, C1)) (e : D1 = sB D 146 0 (cv r)) (x : Option (Int32 × CS × CS)) (hx : x = some (0, C1, D1)) : Wrd C x Y cv := by
  subst e
  rcases op _ (R.out (v := cv r)) with ⟨r', C1', D2, g1, g2, g3, g4⟩ | ⟨E, C1', b, D2, g1, -⟩
  · rw [h] at g1
    injection g1 with g1
    injection g1 with g0 g1
    injection g0 with g0
    subst g0 g1
    refine ⟨0, C1, _, r, D2, hx, g2, g3, fun _ => ?_, g4.1, by rw [kpE g4]; omega⟩
    rw [kpB g4]
    show vp_updL (gB D 146) 0 (cv r) 0 = cv r
    exact updL_eq
  · rw [h] at g1
    injection g1 with g1
    injection g1 with g0 g1
    cases g0
theorem w_N (R : Inv C D) (op : ∀ (D' : CS) (cI : Int32), Inv C D' → Both 1 cI (Kept C D') X (Y D')) : Wrd C (wr1 eN X D cv) Y cv := by
  rcases op D 2 R with ⟨r, C1, D1, g1, g2, g3, g4⟩ | ⟨E, C1, b, D1, g1, g2, g3, g4⟩
  · exact w_ok R 1 2 (fun D' h => op D' 2 h) g1 rfl _ (by rw [g1]; rfl)
  · have hE : E = eN := by
      rcases g3 with ⟨z, -⟩ | ⟨z, z2⟩
      · exact z
      · rcases op D 3 R with ⟨r', C1', D1', f1, -⟩ | ⟨E', C1', b', D1', f1, f2, f3, -⟩
        · rw [g1] at f1; cases f1
        · rw [g2] at f2
          rw [g1] at f1
          cases f2
          rcases f3 with ⟨u, -⟩ | ⟨-, u⟩
          · have f0 := (Prod.mk.inj (Option.some.inj f1)).1
            injection f0 with f0
            exact f0.trans u
          · rw [z2] at u
            exact absurd u (by decide)
    subst hE
    have c1 : gI D1 11300 = 1 := by
      rcases g3 with ⟨-, z⟩ | ⟨z, -⟩
      · exact z
      · exact absurd z (by decide)
    exact ⟨1, sE C1, D, b, D1, by rw [g1]; rfl, g2, c1, fun z => absurd z (by decide), g4.1.thr, Nat.le_of_eq (congrArg (· + 1) (kpE g4))⟩
theorem w_I (R : Inv C D) (op : ∀ (D' : CS) (cN : Int32), Inv C D' → Both cN 1 (Kept C D') X (Y D')) : Wrd C (wr1 eI X D cv) Y cv := by
  rcases op D 2 R with ⟨r, C1, D1, g1, g2, g3, g4⟩ | ⟨E, C1, b, D1, g1, g2, g3, g4⟩
  · exact w_ok R 2 1 (fun D' h => op D' 2 h) g1 rfl _ (by rw [g1]; rfl)
  · have hE : E = eI := by
      rcases g3 with ⟨z, z2⟩ | ⟨z, -⟩
      · rcases op D 3 R with ⟨r', C1', D1', f1, -⟩ | ⟨E', C1', b', D1', f1, f2, f3, -⟩
        · rw [g1] at f1; cases f1
        · rw [g2] at f2
          rw [g1] at f1
          cases f2
          rcases f3 with ⟨-, u⟩ | ⟨u, -⟩
          · rw [z2] at u
            exact absurd u (by decide)
          · have f0 := (Prod.mk.inj (Option.some.inj f1)).1
            injection f0 with f0
            exact f0.trans u
      · exact z
    subst hE
    have c1 : gI D1 11300 = 1 := by
      rcases g3 with ⟨z, -⟩ | ⟨-, z⟩
      · exact absurd z (by decide)
      · exact z
    exact ⟨1, sE C1, D, b, D1, by rw [g1]; rfl, g2, c1, fun z => absurd z (by decide), g4.1.thr, Nat.le_of_eq (congrArg (· + 1) (kpE g4))⟩
theorem w_2 (R : Inv C D) (op : ∀ D', Inv C D' → Both 1 2 (Kept C D') X (Y D')) : Wrd C (wr2 X D cv) Y cv := by
  rcases op D R with ⟨r, C1, D1, g1, g2, g3, g4⟩ | ⟨E, C1, b, D1, g1, g2, g3, g4⟩
  · exact w_ok R 1 2 op g1 rfl _ (by rw [g1]; rfl)
  · rcases g3 with ⟨rfl, z⟩ | ⟨rfl, z⟩
    · exact ⟨1, sE C1, D, b, D1, by rw [g1]; rfl, g2, z, fun z => absurd z (by decide), g4.1.thr, Nat.le_of_eq (congrArg (· + 1) (kpE g4))⟩
    · exact ⟨2, sE C1, D, b, D1, by rw [g1]; rfl, g2, z, fun z => absurd z (by decide), g4.1.thr, Nat.le_of_eq (congrArg (· + 1) (kpE g4))⟩
theorem wk {β : Type} {D2 : CS} {c b : Int32} {k e1 e2 e3 : Option β} (h : gI D2 11300 = c) (h0 : c = 0 → gB D2 146 0 = Int32.toInt64 b) : (if gI D2 11300 = c then (if c = 0 then (if inb 0 1 = true then (if (lg_cmp (gB D2 146 (Int32.toNatClampNeg 0)) (Int32.toInt64 b)) = 0 then k else e1) else e2) else k) else e3) = k := by
  rw [if_pos h]
  by_cases z : c = 0
  · rw [if_pos z, if_pos (by decide), show Int32.toNatClampNeg 0 = 0 by decide, if_pos (lg0.mpr (h0 z))]
  · rw [if_neg z]
theorem wkB {β : Type} {D2 : CS} {c b : Int32} {k e1 e2 e3 e4 : Option β} (h : gI D2 11300 = c) (h0 : c = 0 → gB D2 146 0 = cvB b) : (if gI D2 11300 = c then (if c = 0 then (if inb 0 1 = true then (if b = 0 then (if (lg_cmp (gB D2 146 (Int32.toNatClampNeg 0)) 0) = 0 then k else e1) else (if (lg_cmp (gB D2 146 (Int32.toNatClampNeg 0)) 1) = 0 then k else e4)) else e2) else k) else e3) = k := by
  rw [if_pos h]
  by_cases z : c = 0
  · have q := h0 z
    unfold cvB at q
    rw [if_pos z, if_pos (by decide)]
    by_cases y : b = 0
    · rw [if_pos y] at q ⊢
      rw [show Int32.toNatClampNeg 0 = 0 by decide, if_pos (lg0.mpr q)]
    · rw [if_neg y] at q ⊢
      rw [show Int32.toNatClampNeg 0 = 0 by decide, if_pos (lg0.mpr q)]
  · rw [if_neg z]
end PLW
section PLX
variable {C D : CS} {N z p : Nat} {g : mm_G}
theorem lawStep (R : Inv C D) (hN : 20000 < N) (hL : mm_sL g ≤ 3072) (hp : p + 6 ≤ mm_sL g) : ∃ C1 D1, f_L_law_L23 g N (z + 1) (nI p) C D = f_L_law_L23 g N z (nI (p + 6)) C1 D1 ∧ Inv C1 D1 ∧ gE C1 ≤ gE C + 1 := by
  have i0 : inb (nI p) (mm_sL g) = true := inb_nI (by omega) (by omega)
  have e1 : nI p + 1 = nI (p + 1) := nI_1 p
  have e2 : nI p + 2 = nI (p + 2) := by rw [show (2 : Int32) = nI 2 from rfl, nI_add]
  have e3 : nI p + 3 = nI (p + 3) := by rw [show (3 : Int32) = nI 3 from rfl, nI_add]
  have e4 : nI p + 4 = nI (p + 4) := by rw [show (4 : Int32) = nI 4 from rfl, nI_add]
  have e5 : nI p + 5 = nI (p + 5) := by rw [show (5 : Int32) = nI 5 from rfl, nI_add]
  have e6 : nI p + 6 = nI (p + 6) := by rw [show (6 : Int32) = nI 6 from rfl, nI_add]
  have i1 : inb (nI p + 1) (mm_sL g) = true := by rw [e1]; exact inb_nI (by omega) (by omega)
  have i2 : inb (nI p + 2) (mm_sL g) = true := by rw [e2]; exact inb_nI (by omega) (by omega)
  have i3 : inb (nI p + 3) (mm_sL g) = true := by rw [e3]; exact inb_nI (by omega) (by omega)
  have i4 : inb (nI p + 4) (mm_sL g) = true := by rw [e4]; exact inb_nI (by omega) (by omega)
  have i5 : inb (nI p + 5) (mm_sL g) = true := by rw [e5]; exact inb_nI (by omega) (by omega)
  have h6 : ¬ nI (mm_sL g) - 6 < nI p := by
    rw [show (6 : Int32) = nI 6 from rfl, pk_sub (by omega)]
    exact nI_nlt (by omega) (by omega)
  rw [f_L_law_L23, if_neg h6, if_pos i0, e6]
  generalize mm_sX g (nI p).toNatClampNeg &&& 31 = w
  generalize mm_sX g (nI p + 1).toNatClampNeg = a1
  generalize mm_sX g (nI p + 2).toNatClampNeg = a2
  generalize mm_sX g (nI p + 3).toNatClampNeg = a3
  generalize mm_sX g (nI p + 4).toNatClampNeg = a4
  generalize mm_sX g (nI p + 5).toNatClampNeg = a5
  clear i0 h6
  by_cases c0 : w = 0
  · rw [if_pos c0]
    simp only [i1, i2, i3, i4, i5, if_true]
    obtain ⟨r, C1, D1, h1, h2, k⟩ := op_feed (N := N) (a := a1) (b := a2) (c := a3) (d := a4) (e := a5) R hN
    rw [h1, bnd_some, h2, bnd_some, if_pos rfl]
    exact ⟨C1, D1, rfl, k.1, by rw [kpE k]; omega⟩
  rw [if_neg c0]
  by_cases c1 : w = 1
  · rw [if_pos c1]
    simp only [i1, if_true]
    obtain ⟨c, C1, D1, b, D2, h1, h2, h3, h4, h5, h7⟩ := w_I (Y := fun D => f_X12_sitting N a1 D) (cv := Int32.toInt64) (X := f_X11_sitting N a1 C) R (fun D' _ h => op_sitting h hN)
    have h1 : f_L_sitting N a1 C D = some (c, C1, D1) := h1
    have h2 : f_X12_sitting N a1 D1 = some (b, D2) := h2
    rw [h1, bnd_some, h2, bnd_some, f_X12_thrown, bnd_some, wk h3 h4]
    exact ⟨C1, D2, rfl, h5, h7⟩
  rw [if_neg c1]
  by_cases c2 : w = 2
  · rw [if_pos c2]
    obtain ⟨r, D1, h1, h2, k⟩ := op_fault R
    rw [h1, bnd_some, h2, bnd_some, if_pos rfl]
    exact ⟨C, D1, rfl, k, by omega⟩
  rw [if_neg c2]
  by_cases c3 : w = 3
  · rw [if_pos c3]
    simp only [i1, i2, if_true]
    obtain ⟨c, C1, D1, b, D2, h1, h2, h3, h4, h5, h7⟩ := w_2 (Y := fun D => f_X12_right N a1 a2 D) (cv := Int32.toInt64) (X := f_X11_right N a1 a2 C) R (fun D' h => op_right h hN)
    have h1 : f_L_right N a1 a2 C D = some (c, C1, D1) := h1
    have h2 : f_X12_right N a1 a2 D1 = some (b, D2) := h2
    rw [h1, bnd_some, h2, bnd_some, f_X12_thrown, bnd_some, wk h3 h4]
    exact ⟨C1, D2, rfl, h5, h7⟩
  rw [if_neg c3]
  by_cases c4 : w = 4
  · rw [if_pos c4]
    simp only [i1, if_true]
    obtain ⟨c, C1, D1, b, D2, h1, h2, h3, h4, h5, h7⟩ := w_I (Y := fun D => f_X12_days a1 D) (cv := Int32.toInt64) (X := f_X11_days a1 C) R (fun D' _ h => op_days h)
    have h1 : f_L_days a1 C D = some (c, C1, D1) := h1
    have h2 : f_X12_days a1 D1 = some (b, D2) := h2
    rw [h1, bnd_some, h2, bnd_some, f_X12_thrown, bnd_some, wk h3 h4]
    exact ⟨C1, D2, rfl, h5, h7⟩
  rw [if_neg c4]
  by_cases c5 : w = 5
  · rw [if_pos c5]
    simp only [i1, i2, if_true]
    obtain ⟨c, C1, D1, b, D2, h1, h2, h3, h4, h5, h7⟩ := w_N (Y := fun D => f_X12_about N a1 a2 D) (cv := Int32.toInt64) (X := f_X11_about N a1 a2 C) R (fun D' _ h => op_about h hN)
    have h1 : f_L_about N a1 a2 C D = some (c, C1, D1) := h1
    have h2 : f_X12_about N a1 a2 D1 = some (b, D2) := h2
    rw [h1, bnd_some, h2, bnd_some, f_X12_thrown, bnd_some, wk h3 h4]
    exact ⟨C1, D2, rfl, h5, h7⟩
  rw [if_neg c5]
  by_cases c6 : w = 6
  · rw [if_pos c6]
    simp only [i1, i2, if_true]
    obtain ⟨r, D1, h1, h2, k⟩ := op_cited (N := N) (x := a1) (y := a2) R hN
    rw [h1, bnd_some, h2, bnd_some, if_pos rfl]
    exact ⟨C, D1, rfl, k, by omega⟩
  rw [if_neg c6]
  by_cases c7 : w = 7
  · rw [if_pos c7]
    simp only [i1, i2, if_true]
    obtain ⟨c, C1, D1, b, D2, h1, h2, h3, h4, h5, h7⟩ := w_N (Y := fun D => f_X12_fact a1 a2 D) (cv := Int32.toInt64) (X := f_X11_fact a1 a2 C) R (fun D' _ h => op_fact h)
    have h1 : f_L_fact a1 a2 C D = some (c, C1, D1) := h1
    have h2 : f_X12_fact a1 a2 D1 = some (b, D2) := h2
    rw [h1, bnd_some, h2, bnd_some, f_X12_thrown, bnd_some, wk h3 h4]
    exact ⟨C1, D2, rfl, h5, h7⟩
  rw [if_neg c7]
  by_cases c8 : w = 8
  · rw [if_pos c8]
    simp only [i1, i2, if_true]
    obtain ⟨c, C1, D1, b, D2, h1, h2, h3, h4, h5, h7⟩ := w_N (Y := fun D => f_X12_stands N a1 a2 D) (cv := Int32.toInt64) (X := f_X11_stands N a1 a2 C) R (fun D' _ h => op_stands h hN)
    have h1 : f_L_stands N a1 a2 C D = some (c, C1, D1) := h1
    have h2 : f_X12_stands N a1 a2 D1 = some (b, D2) := h2
    rw [h1, bnd_some, h2, bnd_some, f_X12_thrown, bnd_some, wk h3 h4]
    exact ⟨C1, D2, rfl, h5, h7⟩
  rw [if_neg c8]
  by_cases c9 : w = 9
  · rw [if_pos c9]
    simp only [i1, if_true]
    obtain ⟨r, C1, D1, h1, h2, k⟩ := op_quarrels (N := N) (k := a1) R hN
    rw [h1, bnd_some, h2, bnd_some, if_pos rfl]
    exact ⟨C1, D1, rfl, k.1, by rw [kpE k]; omega⟩
  rw [if_neg c9]
  by_cases c10 : w = 10
  · rw [if_pos c10]
    simp only [i1, i2, i3, if_true]
    obtain ⟨c, C1, D1, b, D2, h1, h2, h3, h4, h5, h7⟩ := w_N (Y := fun D => f_X12_quarrel N a1 a2 a3 D) (cv := Int32.toInt64) (X := f_X11_quarrel N a1 a2 a3 C) R (fun D' _ h => op_quarrel h hN)
    have h1 : f_L_quarrel N a1 a2 a3 C D = some (c, C1, D1) := h1
    have h2 : f_X12_quarrel N a1 a2 a3 D1 = some (b, D2) := h2
    rw [h1, bnd_some, h2, bnd_some, f_X12_thrown, bnd_some, wk h3 h4]
    exact ⟨C1, D2, rfl, h5, h7⟩
  rw [if_neg c10]
  by_cases c11 : w = 11
  · rw [if_pos c11]
    simp only [i1, i2, if_true]
    obtain ⟨c, C1, D1, b, D2, h1, h2, h3, h4, h5, h7⟩ := w_N (Y := fun D => f_X12_mention a1 a2 D) (cv := Int32.toInt64) (X := f_X11_mention a1 a2 C) R (fun D' _ h => op_mention h)
    have h1 : f_L_mention a1 a2 C D = some (c, C1, D1) := h1
    have h2 : f_X12_mention a1 a2 D1 = some (b, D2) := h2
    rw [h1, bnd_some, h2, bnd_some, f_X12_thrown, bnd_some, wk h3 h4]
    exact ⟨C1, D2, rfl, h5, h7⟩
  rw [if_neg c11]
  by_cases c12 : w = 12
  · rw [if_pos c12]
    simp only [i1, i2, if_true]
    obtain ⟨c, C1, D1, b, D2, h1, h2, h3, h4, h5, h7⟩ := w_N (Y := fun D => f_X12_name_ N a1 a2 D) (cv := Int32.toInt64) (X := f_X11_name N a1 a2 C) R (fun D' _ h => op_name h hN)
    have h1 : f_L_name N a1 a2 C D = some (c, C1, D1) := h1
    have h2 : f_X12_name_ N a1 a2 D1 = some (b, D2) := h2
    rw [h1, bnd_some, h2, bnd_some, f_X12_thrown, bnd_some, wk h3 h4]
    exact ⟨C1, D2, rfl, h5, h7⟩
  rw [if_neg c12]
  by_cases c13 : w = 13
  · rw [if_pos c13]
    simp only [i1, i2, i3, if_true]
    obtain ⟨c, C1, D1, b, D2, h1, h2, h3, h4, h5, h7⟩ := w_N (Y := fun D => f_X12_order a1 a2 a3 D) (cv := Int32.toInt64) (X := f_X11_order a1 a2 a3 C) R (fun D' _ h => op_order h)
    have h1 : f_L_order a1 a2 a3 C D = some (c, C1, D1) := h1
    have h2 : f_X12_order a1 a2 a3 D1 = some (b, D2) := h2
    rw [h1, bnd_some, h2, bnd_some, f_X12_thrown, bnd_some, wk h3 h4]
    exact ⟨C1, D2, rfl, h5, h7⟩
  rw [if_neg c13]
  by_cases c14 : w = 14
  · rw [if_pos c14]
    simp only [i1, if_true]
    obtain ⟨c, C1, D1, b, D2, h1, h2, h3, h4, h5, h7⟩ := w_N (Y := fun D => f_X12_lift a1 D) (cv := cvB) (X := f_X11_lift a1 C) R (fun D' _ h => op_lift h)
    have h1 : f_L_lift a1 C D = some (c, C1, D1) := h1
    have h2 : f_X12_lift a1 D1 = some (b, D2) := h2
    rw [h1, bnd_some, h2, bnd_some, f_X12_thrown, bnd_some, wkB h3 h4]
    exact ⟨C1, D2, rfl, h5, h7⟩
  rw [if_neg c14]
  by_cases c15 : w = 15
  · rw [if_pos c15]
    simp only [i1, i2, i3, if_true]
    obtain ⟨c, C1, D1, b, D2, h1, h2, h3, h4, h5, h7⟩ := w_N (Y := fun D => f_X12_status N a1 a2 a3 D) (cv := Int32.toInt64) (X := f_X11_status N a1 a2 a3 C) R (fun D' _ h => op_status h hN)
    have h1 : f_L_status N a1 a2 a3 C D = some (c, C1, D1) := h1
    have h2 : f_X12_status N a1 a2 a3 D1 = some (b, D2) := h2
    rw [h1, bnd_some, h2, bnd_some, f_X12_thrown, bnd_some, wk h3 h4]
    exact ⟨C1, D2, rfl, h5, h7⟩
  rw [if_neg c15]
  by_cases c16 : w = 16
  · rw [if_pos c16]
    simp only [i1, i2, i3, i4, if_true]
    obtain ⟨c, C1, D1, b, D2, h1, h2, h3, h4, h5, h7⟩ := w_2 (Y := fun D => f_X12_read N a1 a2 a3 a4 D) (cv := Int32.toInt64) (X := f_X11_read N a1 a2 a3 a4 C) R (fun D' h => op_read h hN)
    have h1 : f_L_read N a1 a2 a3 a4 C D = some (c, C1, D1) := h1
    have h2 : f_X12_read N a1 a2 a3 a4 D1 = some (b, D2) := h2
    rw [h1, bnd_some, h2, bnd_some, f_X12_thrown, bnd_some, wk h3 h4]
    exact ⟨C1, D2, rfl, h5, h7⟩
  rw [if_neg c16]
  by_cases c17 : w = 17
  · rw [if_pos c17]
    simp only [i1, if_true]
    obtain ⟨c, C1, D1, b, D2, h1, h2, h3, h4, h5, h7⟩ := w_N (Y := fun D => f_X12_told a1 D) (cv := Int32.toInt64) (X := f_X11_told a1 C) R (fun D' _ h => op_told h)
    have h1 : f_L_told a1 C D = some (c, C1, D1) := h1
    have h2 : f_X12_told a1 D1 = some (b, D2) := h2
    rw [h1, bnd_some, h2, bnd_some, f_X12_thrown, bnd_some, wk h3 h4]
    exact ⟨C1, D2, rfl, h5, h7⟩
  rw [if_neg c17]
  by_cases c18 : w = 18
  · rw [if_pos c18]
    simp only [i1, i2, i3, if_true]
    obtain ⟨r, C1, D1, h1, h2, k⟩ := op_digest (x := a1) (y := a2) (v := a3) R
    rw [h1, bnd_some, h2, bnd_some, if_pos rfl]
    exact ⟨C1, D1, rfl, k.1, by rw [kpE k]; omega⟩
  rw [if_neg c18]
  by_cases c19 : w = 19
  · rw [if_pos c19]
    simp only [i1, i2, if_true]
    obtain ⟨c, C1, D1, b, D2, h1, h2, h3, h4, h5, h7⟩ := w_N (Y := fun D => f_X12_cite N a1 a2 D) (cv := Int32.toInt64) (X := f_X11_cite N a1 a2 C) R (fun D' _ h => op_cite h hN)
    have h1 : f_L_cite N a1 a2 C D = some (c, C1, D1) := h1
    have h2 : f_X12_cite N a1 a2 D1 = some (b, D2) := h2
    rw [h1, bnd_some, h2, bnd_some, f_X12_thrown, bnd_some, wk h3 h4]
    exact ⟨C1, D2, rfl, h5, h7⟩
  rw [if_neg c19]
  by_cases c20 : w = 20
  · rw [if_pos c20]
    simp only [i1, i2, if_true]
    obtain ⟨c, C1, D1, b, D2, h1, h2, h3, h4, h5, h7⟩ := w_N (Y := fun D => f_X12_shown N a1 a2 D) (cv := Int32.toInt64) (X := f_X11_shown N a1 a2 C) R (fun D' _ h => op_shown h hN)
    have h1 : f_L_shown N a1 a2 C D = some (c, C1, D1) := h1
    have h2 : f_X12_shown N a1 a2 D1 = some (b, D2) := h2
    rw [h1, bnd_some, h2, bnd_some, f_X12_thrown, bnd_some, wk h3 h4]
    exact ⟨C1, D2, rfl, h5, h7⟩
  rw [if_neg c20]
  by_cases c21 : w = 21
  · rw [if_pos c21]
    simp only [i1, if_true]
    obtain ⟨c, C1, D1, b, D2, h1, h2, h3, h4, h5, h7⟩ := w_N (Y := fun D => f_X12_count a1 D) (cv := Int32.toInt64) (X := f_X11_count N a1 C) R (fun D' _ h => op_count h hN)
    have h1 : f_L_count N a1 C D = some (c, C1, D1) := h1
    have h2 : f_X12_count a1 D1 = some (b, D2) := h2
    rw [h1, bnd_some, h2, bnd_some, f_X12_thrown, bnd_some, wk h3 h4]
    exact ⟨C1, D2, rfl, h5, h7⟩
  rw [if_neg c21]
  exact ⟨C, D, rfl, R, by omega⟩
theorem lawLoop (hN : 20000 < N) (hL : mm_sL g ≤ 3072) : ∀ (j p z : Nat) (C D : CS), mm_sL g < p + 6 * j + 6 → p ≤ 3072 → j < z → Inv C D → ∃ C1 D1, f_L_law_L23 g N z (nI p) C D = some (.inr (C1, D1)) ∧ Inv C1 D1 ∧ gE C1 ≤ gE C + j := by
  have out : ∀ (p z : Nat) (C D : CS), mm_sL g < p + 6 → p ≤ 3072 → f_L_law_L23 g N (z + 1) (nI p) C D = some (.inr (C, D)) := by
    intro p z C D h hp
    rw [f_L_law_L23, if_pos]
    rcases Nat.lt_or_ge (mm_sL g) 6 with q | q
    · refine Int32.lt_of_lt_of_le (b := 0) ?_ (Int32.not_lt.mp (nI_pos (by omega)))
      generalize mm_sL g = u at q
      have : u = 0 ∨ u = 1 ∨ u = 2 ∨ u = 3 ∨ u = 4 ∨ u = 5 := by omega
      rcases this with rfl | rfl | rfl | rfl | rfl | rfl <;> decide
    · rw [show (6 : Int32) = nI 6 from rfl, pk_sub q]
      exact nI_lt (by omega) (by omega)
  intro j
  induction j with
  | zero =>
    intro p z C D h hp hz R
    obtain ⟨z, rfl, -⟩ := sc hz
    exact ⟨C, D, out p z C D (by omega) hp, R, by omega⟩
  | succ j ih =>
    intro p z C D h hp hz R
    obtain ⟨z, rfl, hz⟩ := sc hz
    by_cases c : mm_sL g < p + 6
    · exact ⟨C, D, out p z C D c hp, R, by omega⟩
    · obtain ⟨C1, D1, h1, h2, h3⟩ := lawStep (N := N) (z := z) R hN hL (show p + 6 ≤ mm_sL g by omega)
      obtain ⟨C2, D2, k1, k2, k3⟩ := ih (p + 6) z C1 D1 (by omega) (by omega) (by omega) h2
      exact ⟨C2, D2, h1.trans k1, k2, by omega⟩
theorem Inv0 : Inv C0 D0 := by
  refine ⟨0, 0, 0, 0, 0, 0, 0, 0, 0, 0, 0, 0, -1, id, ⟨by omega, rfl, rfl, rfl, fun i hi => by omega, fun i hi => by omega, fun i hi => by omega⟩, ⟨by omega, by omega, rfl, rfl, rfl, fun m hm => by unfold vid at hm; omega, fun m q hm _ _ => by unfold vid at hm; omega, fun i hi => by omega, fun i hi => by omega⟩, ⟨by omega, rfl, rfl, rfl, fun i hi => by omega⟩, ⟨by omega, rfl, rfl, rfl, fun i hi => by omega⟩, ⟨0, by omega, rfl, fun m hm => by unfold vid at hm; omega⟩, ⟨by omega, rfl, rfl, rfl, fun i hi => by omega⟩, ⟨by omega, by omega, rfl, rfl, rfl, rfl, fun i hi => by omega, ⟨fun m hm x y _ h2 => ?_, fun k hk => by omega⟩, fun k hk => by omega, Or.inl rfl, fun j k h1 h2 => by omega⟩, ⟨by omega, rfl, rfl, rfl, fun d hd => by omega, fun d h1 h2 => rfl⟩, ⟨by omega, rfl, rfl, fun i hi => by omega⟩, ⟨by decide, rfl, rfl, fun i hi => by omega⟩, ⟨by omega, by omega, rfl, rfl, rfl, rfl, rfl, rfl⟩, ⟨by omega, fun i hi => by omega, fun i hi => by omega⟩⟩
  have : m = 0 := by omega
  subst this
  exact absurd rfl h2
/-- the pure statement -/
theorem lawOk (hN : 20000 < N) (hL : mm_sL g ≤ 3072) : ∃ r, f_L_law g N C0 D0 = some r ∧ r.1 = 1 ∧ gE r.2.1 ≤ 512 := by
  obtain ⟨C1, D1, h1, h2, h3⟩ := lawLoop (N := N) hN hL 512 0 N C0 D0 (by omega) (by omega) (by omega) Inv0
  unfold f_L_law
  rw [show f_L_law_L23 g N N 0 C0 D0 = f_L_law_L23 g N N (nI 0) C0 D0 from rfl, h1]
  exact ⟨_, rfl, rfl, h3⟩
end PLX
