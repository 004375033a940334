/-! reading: an exhibit's line -/
abbrev nC : CS → CS → Prop := Fm [11007, 11009, 11011, 11012, 9401] [95, 96] [97]
abbrev aC : CS → CS → Prop := Fm [9401] [95, 96] [97]
abbrev aD : CS → CS → Prop := Fm [11323, 11322] [133, 134] [135]
abbrev nD : CS → CS → Prop := Fm [11346, 11349, 11350, 11323, 11322] [133, 134] [135]
/-- the first n names are as they were -/
def nbC (n : Nat) (C C1 : CS) : Prop := ∀ k, k < n → gA C1 95 k = gA C 95 k ∧ gA C1 96 k = gA C 96 k ∧ gB C1 97 k = gB C 97 k
def nbD (n : Nat) (D D1 : CS) : Prop := ∀ k, k < n → gA D1 134 k = gA D 134 k ∧ gA D1 133 k = gA D 133 k ∧ gB D1 135 k = gB D 135 k
def naC (C : CS) (n : Nat) (l x : Int32) (w : Int64) : CS := sI (sB (sA (sA C 95 n l) 96 n x) 97 n w) 9401 (nI (n + 1))
def naD (D : CS) (n : Nat) (l x : Int32) (w : Int64) : CS := sI (sB (sA (sA D 133 n x) 134 n l) 135 n w) 11323 (nI (n + 1))
theorem updL_eq {f : Nat → Int64} {n : Nat} {x : Int64} : vp_updL f n x n = x := if_pos rfl
theorem updL_ne {f : Nat → Int64} {n i : Nat} {x : Int64} (h : i ≠ n) : vp_updL f n x i = f i := if_neg h
section PB
variable {C D C1 D1 C2 D2 : CS} {n nX nN l en p lim mo N : Nat} {w : Int64} {x : Int32}
theorem nbC.rfl : nbC n C C := fun _ _ => ⟨Eq.refl _, Eq.refl _, Eq.refl _⟩
theorem nbD.rfl : nbD n D D := fun _ _ => ⟨Eq.refl _, Eq.refl _, Eq.refl _⟩
theorem nbC.trans (h : nbC n C C1) (k : nbC n C1 C2) : nbC n C C2 := fun i hi => ⟨(k i hi).1.trans (h i hi).1, (k i hi).2.1.trans (h i hi).2.1, (k i hi).2.2.trans (h i hi).2.2⟩
theorem nbD.trans (h : nbD n D D1) (k : nbD n D1 D2) : nbD n D D2 := fun i hi => ⟨(k i hi).1.trans (h i hi).1, (k i hi).2.1.trans (h i hi).2.1, (k i hi).2.2.trans (h i hi).2.2⟩
theorem nbC.le {m : Nat} (h : nbC n C C1) (hm : m ≤ n) : nbC m C C1 := fun i hi => h i (by omega)
theorem nbD.le {m : Nat} (h : nbD n D D1) (hm : m ≤ n) : nbD m D D1 := fun i hi => h i (by omega)
theorem nbC.fm {ei ea eb : List Nat} (h : Fm ei ea eb C C1) (s : (dj [] ei && (dj [95, 96] ea && dj [97] eb)) = true) : nbC n C C1 := fun i _ => by
  have a := h.ag s
  rw [a.2.1 95 (by decide), a.2.1 96 (by decide), a.2.2 97 (by decide)]
  exact ⟨Eq.refl _, Eq.refl _, Eq.refl _⟩
theorem nbD.fm {ei ea eb : List Nat} (h : Fm ei ea eb D D1) (s : (dj [] ei && (dj [133, 134] ea && dj [135] eb)) = true) : nbD n D D1 := fun i _ => by
  have a := h.ag s
  rw [a.2.1 133 (by decide), a.2.1 134 (by decide), a.2.2 135 (by decide)]
  exact ⟨Eq.refl _, Eq.refl _, Eq.refl _⟩
theorem na_C {li : Int32} : nbC n C (naC C n li x w) ∧ aC C (naC C n li x w) := by
  refine ⟨fun k hk => ⟨?_, ?_, ?_⟩, (((Fm.A rfl).trans (Fm.A rfl)).trans (Fm.B rfl)).trans (Fm.I rfl)⟩
  · show upd (gA C 95) n li k = _; exact upd_ne (by omega)
  · show upd (gA C 96) n x k = _; exact upd_ne (by omega)
  · show vp_updL (gB C 97) n w k = _; exact updL_ne (by omega)
theorem na_D {li : Int32} : nbD n D (naD D n li x w) ∧ aD D (naD D n li x w) := by
  refine ⟨fun k hk => ⟨?_, ?_, ?_⟩, (((Fm.A rfl).trans (Fm.A rfl)).trans (Fm.B rfl)).trans (Fm.I rfl)⟩
  · show upd (gA D 134) n li k = _; exact upd_ne (by omega)
  · show upd (gA D 133) n x k = _; exact upd_ne (by omega)
  · show vp_updL (gB D 135) n w k = _; exact updL_ne (by omega)
theorem c_nadd {li : Int32} (h : gI C 9401 = nI n) (h0 : gI C 9400 = 200) (hn : n < 200) : f_X6_add li x w C = some (naC C n li x w) := by
  unfold f_X6_add
  have ii : inb (nI n) 200 = true := inb_nI hn (by decide)
  have ik : (nI n).toNatClampNeg = n := nI_clamp (by omega)
  rw [h, h0, if_pos (show nI n < 200 from nI_lt (b := 200) hn (by decide)), ii, if_pos rfl]
  simp only [bd_eq, gI_sA, gI_sB, h, ii, ik, nI_1, if_true]
  rfl
theorem d_nadd {li : Int32} (h : gI D 11323 = nI n) (h0 : gI D 11351 = li) (hn : n < 200) : f_X12_name x w D = some (naD D n li x w) := by
  unfold f_X12_name
  have ii : inb (nI n) 220 = true := inb_nI (by omega) (by decide)
  have ik : (nI n).toNatClampNeg = n := nI_clamp (by omega)
  rw [h, ii, if_pos rfl]
  simp only [bd_eq, gI_sA, gI_sB, h, h0, ii, ik, nI_1, if_true]
  rfl
/-- a new name on both sides -/
theorem RN.add {y nX1 : Nat} (K : RN C D n nX) (hn : n < 200) (hl : ∀ k, k < n → gA D 134 k ≤ nI l) (hw : w ≠ 0) (hd : hdF (gA D 133) (gB D 135) w n = -1) (h1 : y < nX1) (h2 : nX ≤ nX1) (h3 : nX1 ≤ 20) (h4 : nX1 = nX ∨ y + 1 = nX1) (h5 : gI D1 11322 = nI nX1) (hf : Fm [11322] [] [] D D1) : RN (naC C n (nI l) (nI y) w) (naD D1 n (nI l) (nI y) w) (n + 1) nX1 := by
  obtain ⟨r1, r2, r3, r4, r5, r0, r6, r7, r8, r9, r10⟩ := K
  have g := hf.ag (li := []) (la := [133, 134]) (lb := [135]) rfl
  have g3 := g.2.1 133 (by decide)
  have g4 := g.2.1 134 (by decide)
  have g5 := g.2.2 135 (by decide)
  have a1 := (na_C (C := C) (n := n) (x := nI y) (w := w) (li := nI l)).1
  have a2 := (na_D (D := D1) (n := n) (x := nI y) (w := w) (li := nI l)).1
  have n95 : gA (naC C n (nI l) (nI y) w) 95 n = nI l := by show upd (gA C 95) n (nI l) n = _; exact upd_eq
  have n96 : gA (naC C n (nI l) (nI y) w) 96 n = nI y := by show upd (gA C 96) n (nI y) n = _; exact upd_eq
  have n97 : gB (naC C n (nI l) (nI y) w) 97 n = w := by show vp_updL (gB C 97) n w n = _; exact updL_eq
  have m34 : gA (naD D1 n (nI l) (nI y) w) 134 n = nI l := by show upd (gA D1 134) n (nI l) n = _; exact upd_eq
  have m33 : gA (naD D1 n (nI l) (nI y) w) 133 n = nI y := by show upd (gA D1 133) n (nI y) n = _; exact upd_eq
  have m35 : gB (naD D1 n (nI l) (nI y) w) 135 n = w := by show vp_updL (gB D1 135) n w n = _; exact updL_eq
  have eq : ∀ j, j < n → gA D 133 j = gA (naD D1 n (nI l) (nI y) w) 133 j ∧ gB D 135 j = gB (naD D1 n (nI l) (nI y) w) 135 j := fun j hj => by
    rw [(a2 j hj).2.1, (a2 j hj).2.2, g3, g5]
    exact ⟨rfl, rfl⟩
  refine ⟨by omega, h3, rfl, rfl, h5, r0, fun i hi => ?_, (r7.cg eq).add ?_ ?_ ?_, fun k hk => ?_, Or.inr ?_, fun j k hjk hk => ?_⟩
  · by_cases e : i = n
    · subst e
      rw [n95, n96, n97, m34, m33, m35]
      exact ⟨rfl, rfl, rfl⟩
    · have b1 := a1 i (by omega)
      have b2 := a2 i (by omega)
      rw [b1.1, b1.2.1, b1.2.2, b2.1, b2.2.1, b2.2.2, g3, g4, g5]
      exact r6 i (by omega)
  · rw [m35]; exact hw
  · rw [m33]; exact nI_m1 (by omega)
  · rw [m35, ← hdF_cg eq]; exact hd
  · by_cases e : k = n
    · subst e
      exact ⟨y, h1, m33⟩
    · obtain ⟨z, z1, z2⟩ := r8 k (by omega)
      exact ⟨z, by omega, by rw [(a2 k (by omega)).2.1, g3]; exact z2⟩
  · rcases h4 with h4 | h4
    · rcases r9 with r9 | ⟨k, k1, k2⟩
      · omega
      · exact ⟨k, by omega, by rw [(a2 k k1).2.1, g3, h4]; exact k2⟩
    · exact ⟨n, by omega, by rw [m33, ← h4]; rfl⟩
  · by_cases e : k = n
    · subst e
      by_cases e2 : j = k
      · rw [e2]; exact Int32.le_refl _
      · rw [m34, (a2 j (by omega)).1, g4]
        exact hl j (by omega)
    · rw [(a2 k (by omega)).1, (a2 j (by omega)).1, g4]
      exact r10 j k hjk (by omega)
theorem hdr_all {li r : Int32} (h : hdr D n w li r) (hl : ∀ k, k < n → gA D 134 k ≤ li) : r = hdF (gA D 133) (gB D 135) w n := by
  obtain ⟨p, p1, p2, p3⟩ := h
  have : p = n := by
    by_cases c : p < n
    · have := (p2 p c).mpr (fun z => by have h1 := i_le.mp (hl p c); have h2 := i_lt.mp z; omega)
      omega
    · omega
  rw [p3, this]
/-- an exhibit's line: both went on, or found the same fault -/
def Named (C D : CS) (nN nX l en p lim : Nat) (x : Option (Int32 × CS)) (y : Option CS) : Prop :=
  (∃ C1 D1 p1 nX1, x = some (1, C1) ∧ y = some D1 ∧ PP C1 D1 en p1 lim 60 ∧ p ≤ p1 ∧ (sgn D1 en p1 = -1 ∨ sgn D1 en p1 = 10) ∧ RN C1 D1 (nN + 1) nX1 ∧ gA D1 134 nN = nI l ∧ Int64.toInt32 (nby (gB D1 135 nN) 0) ≠ 0 ∧ nbC nN C C1 ∧ nbD nN D D1 ∧ nC C C1 ∧ nD D D1 ∧ (∀ i, p ≤ i → i < p1 → sgn D en i ≠ 10) ∧ p1 ≤ en) ∨
  ∃ C1 D1, x = some (0, C1) ∧ y = some D1 ∧ PF C1 D1 ∧ nbC nN C C1 ∧ nbD nN D D1 ∧ nC C C1 ∧ nD D D1
theorem Fm.pn (h : pC C C1) : nC C C1 := h.sub (by decide)
theorem Fm.pnD (h : pD D D1) : nD D D1 := h.sub (by decide)
theorem sgn_n (k : nD D D1) (i : Nat) : sgn D1 en i = sgn D en i := sgn_cg ((k.ag (li := []) (la := [114]) (lb := []) rfl).2.1 114 (by decide))
theorem d_e238 {x4 : Int32} (h : gI D 11349 ≠ 0) : f_X12_readExhibit_J238 N x4 D = some D := by
  unfold f_X12_readExhibit_J238
  rw [if_neg h]
theorem d_e205 {x4 : Int32} (h : gI D 11349 ≠ 0) : f_X12_readExhibit_J205 N x4 D = some D := by
  unfold f_X12_readExhibit_J205
  rw [if_neg h, d_e238 h]
theorem d_e158 {x4 : Int32} (h : gI D 11349 ≠ 0) : f_X12_readExhibit_J158 N x4 D = some D := by
  unfold f_X12_readExhibit_J158
  rw [if_neg h]
theorem d_e145 {x4 : Int32} (h : gI D 11349 ≠ 0) : f_X12_readExhibit_J145 N x4 D = some D := by
  unfold f_X12_readExhibit_J145
  rw [if_neg h, d_e158 h]
theorem d_e103 (h : gI D 11349 ≠ 0) : f_X12_readExhibit_J103 N w D = some D := by
  unfold f_X12_readExhibit_J103
  rw [if_neg h]
theorem d_e70 (h : gI D 11349 ≠ 0) : f_X12_readExhibit_J70 N w D = some D := by
  unfold f_X12_readExhibit_J70
  rw [if_neg h, d_e103 h]
/-- the end of an exhibit's line: the class adds the name, then looks for the end; the model looks first -/
theorem namEnd {y nX1 p0 : Nat} {J : CS → Option CS} (P : PP C D en p lim 60) (K : RN C D nN nX) (hn : nN < 200) (hl : ∀ k, k < nN → gA D 134 k ≤ nI l) (hw : Int64.toInt32 (nby w 0) ≠ 0) (hd : hdF (gA D 133) (gB D 135) w nN = -1) (h1 : y < nX1) (h2 : nX ≤ nX1) (h3 : nX1 ≤ 20) (h4 : nX1 = nX ∨ y + 1 = nX1) (hp : p0 < p) (hno : ∀ i, p0 ≤ i → i < p → sgn D en i ≠ 10) (hpe : p ≤ en) (hJB : ∀ D, gI D 11349 ≠ 0 → J D = some D)
    (hJ : ∃ D1, Fm [11322] [] [] D D1 ∧ gI D1 11322 = nI nX1 ∧ J D = some (naD D1 nN (nI l) (nI y) w)) :
    Named C D nN nX l en p0 lim (bnd (f_X6_add (nI l) (nI y) w C) fun q13 => bnd (f_X10_lineEnds q13) fun q15 => if q15 = 0 then (bnd (f_X10_refuse 1 (gI q13 11007) q13) fun q18 => if q18.1 = 0 then (some (0, q18.2)) else (some (1, q18.2))) else (some (1, q13)))
      (bnd (f_X12_now0 D) fun q44 => if q44 = (-1) then (J D) else (bnd (f_X12_now0 D) fun q47 => if q47 = 10 then (J D) else (bnd (f_X12_wrong 1 (gI D 11346) D) fun q50 => J q50))) := by
  have h8 := P.2.2.2.2.2.2.2.2.1
  have e46 : gI D 11346 = nI p := P.2.2.2.2.1
  have e7 : gI C 11007 = nI p := P.2.2.2.1
  obtain ⟨D1, d1, d2, d3⟩ := hJ
  have P1 : PP (naC C nN (nI l) (nI y) w) D en p lim 60 := P.fm na_C.2 (Fm.rfl (ei := []) (ea := []) (eb := [])) rfl rfl
  rw [c_nadd K.2.2.1 K.2.2.2.2.2.1 hn, bnd_some, c_ends P1, bnd_some, P.now, bnd_some, bnd_some]
  by_cases ce : sgn D en p = -1 ∨ sgn D en p = 10
  · rw [if_pos ce, if_neg (show ¬ (1 : Int32) = 0 by decide)]
    left
    have nd : aD D (naD D1 nN (nI l) (nI y) w) := (d1.sub (by decide)).trans na_D.2
    refine ⟨_, naD D1 nN (nI l) (nI y) w, p, nX1, rfl, ?_, P1.fm (Fm.rfl (ei := []) (ea := []) (eb := [])) nd rfl rfl, by omega, ?_, K.add hn hl (low_ne hw) hd h1 h2 h3 h4 d2 d1, ?_, ?_, na_C.1, (nbD.fm d1 rfl).trans na_D.1, na_C.2.sub (by decide), nd.sub (by decide), hno, hpe⟩
    · rcases ce with c | c
      · rw [if_pos c, d3]
      · rw [if_neg (by rw [c]; decide), if_pos c, d3]
    · rw [sgn_n (nd.sub (by decide))]
      exact ce
    · show upd (gA D1 134) nN (nI l) nN = _; exact upd_eq
    · have : gB (naD D1 nN (nI l) (nI y) w) 135 nN = w := by show vp_updL (gB D1 135) nN w nN = _; exact updL_eq
      rw [this]
      exact hw
  · have e77 : gI (naC C nN (nI l) (nI y) w) 11007 = nI p := P1.2.2.2.1
    have b : gI (sI (sI D 11349 1) 11350 (nI p)) 11349 ≠ 0 := show (1 : Int32) ≠ 0 by decide
    rw [if_neg ce, if_pos rfl, c_ref, bnd_some, if_pos rfl, if_neg (fun z => ce (Or.inl z)), if_neg (fun z => ce (Or.inr z)), d_wr h8, bnd_some, e77, e46, hJB _ b]
    right
    exact ⟨_, _, rfl, rfl, pf_mk (k := 1) (q := nI p) (by decide), na_C.1.trans (nbC.fm pc_ref rfl), nbD.fm pd_wr rfl, (na_C.2.sub (by decide)).trans (Fm.pn pc_ref), Fm.pnD pd_wr⟩
theorem named_w {x : Option (Int32 × CS)} {y : Option CS} (H : Named C D nN nX l en p lim x y) : Named C D nN nX l en p lim (bnd x fun q28 => if q28.1 &&& 1 = q28.1 then some (q28.1, q28.2) else none) y := by
  rcases H with ⟨C2, D2, p2, nX1, rfl, b2⟩ | ⟨C2, D2, rfl, b2⟩
  · left
    exact ⟨C2, D2, p2, nX1, by rw [bnd_some]; exact if_pos (show (1 : Int32) &&& 1 = 1 by decide), b2⟩
  · right
    exact ⟨C2, D2, by rw [bnd_some]; exact if_pos (show (0 : Int32) &&& 1 = 0 by decide), b2⟩
theorem rdNaming (P : PP C D en p lim 60) (K : RN C D nN nX) (hn : nN < 200) (hl : ∀ k, k < nN → gA D 134 k ≤ nI l) (h51 : gI D 11351 = nI l) (hlim : p + 58 ≤ lim) (hN : 20000 < N) : Named C D nN nX l en p lim (f_X10_takeNaming N (nI l) C) (f_X12_readExhibit N D) := by
  have e7 : gI C 11007 = nI p := P.2.2.2.1
  unfold f_X10_takeNaming f_X12_readExhibit
  rw [show (60 : Int32) = nI 60 from rfl]
  rcases P.nam (N := N) hN with ⟨C1, D1, p1, w, a1, a2, a3, a4, a5, a6, a7, a8, a9, a10, a11⟩ | ⟨C1, D1, a1, a2, a3, a4, a5⟩
  · have h8 : gI D1 11349 = 0 := a3.2.2.2.2.2.2.2.2.1
    have K1 : RN C1 D1 nN nX := K.fm a9 a10 rfl rfl
    have g := a10.ag (li := [11351]) (la := [114, 134]) (lb := []) rfl
    have h51' : gI D1 11351 = nI l := (g.1 11351 (by decide)).trans h51
    have hl1 : ∀ k, k < nN → gA D1 134 k ≤ nI l := fun k hk => by rw [g.2.1 134 (by decide)]; exact hl k hk
    have sg : ∀ i, sgn D1 en i = sgn D en i := fun i => sgn_cg (g.2.1 114 (by decide))
    obtain ⟨r, r1, r2, r3, r4⟩ := K1.holder (N := N) (l := nI l) (low_ne a8) (by omega)
    have r5 := hdr_all r3 hl1
    rw [a1, a2, bnd_some, bnd_some, if_neg (show ¬ (1 : Int32) = 0 by decide), h8, if_pos rfl, a6, a7, h51', r1, r2, bnd_some, bnd_some, c_sign a3, a3.now, bnd_some, bnd_some]
    have fault : ∀ (k : Int32) (J : CS → Option CS), k ≠ 0 → (∀ D, gI D 11349 ≠ 0 → J D = some D) → Named C D nN nX l en p lim (bnd (f_X10_refuse k (gI C 11007) C1) fun q31 => if q31.1 &&& 1 = q31.1 then some (q31.1, q31.2) else none) (bnd (f_X12_wrong k (nI p) D1) fun q34 => J q34) := by
      intro k J hk hJ
      have b : gI (sI (sI D1 11349 k) 11350 (nI p)) 11349 ≠ 0 := hk
      rw [c_ref, bnd_some, d_wr h8, bnd_some, hJ _ b, e7]
      right
      exact ⟨_, _, if_pos (show (0 : Int32) &&& 1 = 0 by decide), rfl, pf_mk hk, nbC.fm (a9.trans pc_ref) rfl, nbD.fm (a10.trans pd_wr) rfl, Fm.pn (a9.trans pc_ref), Fm.pnD (a10.trans pd_wr)⟩
    have lift : ∀ {C1' D1' : CS} {q : Nat} {x : Option (Int32 × CS)} {y : Option CS}, p ≤ q → pC C C1' → pD D D1' → (∀ i, p ≤ i → i < q → sgn D en i ≠ 10) → Named C1' D1' nN nX l en q lim x y → Named C D nN nX l en p lim x y := by
      intro C1' D1' q x y hq f1 f2 hno H
      rcases H with ⟨C2, D2, p2, nX1, b1, b2, b3, b4, b5, b6, b7, b8, b9, b10, b11, b12, b13, b14⟩ | ⟨C2, D2, b1, b2, b3, b4, b5, b6, b7⟩
      · left
        refine ⟨C2, D2, p2, nX1, b1, b2, b3, by omega, b5, b6, b7, b8, (nbC.fm f1 rfl).trans b9, (nbD.fm f2 rfl).trans b10, (Fm.pn f1).trans b11, (Fm.pnD f2).trans b12, fun i h1 h2 => ?_, b14⟩
        by_cases c : i < q
        · exact hno i h1 c
        · have := b13 i (by omega) h2
          rw [sgn_n (Fm.pnD f2)] at this
          exact this
      · right
        exact ⟨C2, D2, b1, b2, b3, (nbC.fm f1 rfl).trans b4, (nbD.fm f2 rfl).trans b5, (Fm.pn f1).trans b6, (Fm.pnD f2).trans b7⟩
    by_cases c32 : sgn D1 en p1 = 32
    · rw [if_pos c32, if_pos c32]
      by_cases cr : r = -1
      · rw [if_pos cr, if_pos cr]
        exact fault 4 _ (by decide) (fun D h => d_e145 h)
      · rw [if_neg cr, if_neg cr]
        rcases r4 with r4 | ⟨y, y1, y2⟩
        · exact absurd r4 cr
        subst y2
        refine named_w ?_
        obtain ⟨s1, s2, s3⟩ := a3.stepY (by omega)
        have e77 : gI C1 11007 = nI p1 := a3.2.2.2.1
        have f1 : pC C (sI C1 11007 (nI (p1 + 1))) := a9.trans (Fm.I rfl)
        have f2 : pD D (sI D1 11346 (nI (p1 + 1))) := a10.trans (Fm.I rfl)
        have b8 : gI (sI D1 11346 (nI (p1 + 1))) 11349 = 0 := h8
        unfold f_X10_takeNewName f_X12_readExhibit_J145 f_X12_readExhibit_J158
        rw [bd_eq, e77, nI_1, h8, if_pos rfl, show (60 : Int32) = nI 60 from rfl, s2, bnd_some, b8, if_pos rfl]
        have no1 : ∀ i, p ≤ i → i < p1 + 1 → sgn D en i ≠ 10 := fun i h1 h2 => by
          by_cases c : i < p1
          · exact (a11 i h1 c).1
          · rw [show i = p1 by omega, ← sg, c32]; decide
        rcases s3.nam (N := N) hN with ⟨C2, D2, p2, w2, b1, b2, b3, b4, b5, b6, b7, b9, b10, b11, b12⟩ | ⟨C2, D2, b1, b2, b3, b4, b5⟩
        · have i8 : gI D2 11349 = 0 := b3.2.2.2.2.2.2.2.2.1
          have K2 : RN C2 D2 nN nX := K.fm (f1.trans b10) (f2.trans b11) rfl rfl
          have g2 := (f2.trans b11).ag (li := [11351]) (la := [114, 134]) (lb := []) rfl
          have h52' : gI D2 11351 = nI l := (g2.1 11351 (by decide)).trans h51
          have hl2 : ∀ k, k < nN → gA D2 134 k ≤ nI l := fun k hk => by rw [g2.2.1 134 (by decide)]; exact hl k hk
          have sg2 : ∀ i, sgn D2 en i = sgn D en i := fun i => sgn_cg (g2.2.1 114 (by decide))
          obtain ⟨t, t1, t2, t3, t4⟩ := K2.holder (N := N) (l := nI l) (low_ne b9) (by omega)
          have t5 := hdr_all t3 hl2
          have no2 : ∀ i, p ≤ i → i < p2 → sgn D en i ≠ 10 := fun i h1 h2 => by
            by_cases c : i < p1 + 1
            · exact no1 i h1 c
            · have := (b12 i (by omega) h2).1
              rw [sgn_cg (show gA (sI D1 11346 (nI (p1 + 1))) 114 = gA D1 114 from rfl), sg] at this
              exact this
          rw [b1, b2, bnd_some, bnd_some, if_neg (show ¬ (1 : Int32) = 0 by decide), i8, if_pos rfl, b6, b7, h52', t1, t2, bnd_some, bnd_some]
          by_cases ct : t = -1
          · rw [if_pos ct, if_pos ct]
            unfold f_X12_readExhibit_J205
            rw [i8, if_pos rfl]
            refine lift (q := p) (Nat.le_refl _) (f1.trans b10) (f2.trans b11) (fun i h1 h2 => by exfalso; omega) (namEnd (p0 := p) (nX1 := nX) (J := f_X12_readExhibit_J238 N (nI y)) b3 K2 hn hl2 b9 (t5.symm.trans ct) y1 (Nat.le_refl _) K2.2.1 (Or.inl rfl) (by omega) (fun i h1 h2 => by rw [sg2]; exact no2 i h1 h2) ?_ (fun D h => d_e238 h) ⟨D2, Fm.rfl, K2.2.2.2.2.1, ?_⟩)
            · have := (b12 (p2 - 1) (by omega) (by omega)).2
              omega
            · unfold f_X12_readExhibit_J238
              rw [i8, if_pos rfl, b7, d_nadd K2.2.2.2.1 h52' hn, bnd_some]
          · rw [if_neg ct, if_neg ct]
            have b : gI (sI (sI D2 11349 4) 11350 (nI (p1 + 1))) 11349 ≠ 0 := show (4 : Int32) ≠ 0 by decide
            rw [c_ref, bnd_some, d_wr i8, bnd_some, d_e205 b]
            right
            exact ⟨_, _, if_pos (show (0 : Int32) &&& 1 = 0 by decide), rfl, pf_mk (k := 4) (q := nI (p1 + 1)) (by decide), nbC.fm ((f1.trans b10).trans pc_ref) rfl, nbD.fm ((f2.trans b11).trans pd_wr) rfl, Fm.pn ((f1.trans b10).trans pc_ref), Fm.pnD ((f2.trans b11).trans pd_wr)⟩
        · rw [b1, b2, bnd_some, bnd_some, if_pos rfl, if_neg b3.bad]
          right
          exact ⟨_, _, rfl, rfl, b3, nbC.fm (f1.trans b4) rfl, nbD.fm (f2.trans b5) rfl, Fm.pn (f1.trans b4), Fm.pnD (f2.trans b5)⟩
    · rw [if_neg c32, if_neg c32]
      by_cases cr : r = -1
      · have kx : gI D1 11322 = nI nX := K1.2.2.2.2.1
        have kx20 := K1.2.1
        rw [if_pos cr, if_pos cr, K1.ex (by omega), bnd_some, kx]
        by_cases c20 : nX < 20
        · rw [if_pos (show nI nX < 20 from nI_lt (b := 20) c20 (by decide)), if_neg (fun z => by have := (nI_eq (b := 20) (by omega) (by decide)).mp z; omega)]
          unfold f_X12_readExhibit_J70
          rw [h8, if_pos rfl]
          refine lift (q := p) (Nat.le_refl _) a9 a10 (fun i h1 h2 => by exfalso; omega) (namEnd (p0 := p) (nX1 := nX + 1) (J := f_X12_readExhibit_J103 N w) a3 K1 hn hl1 a8 (r5.symm.trans cr) (Nat.lt_succ_self _) (by omega) (by omega) (Or.inr rfl) (by omega) (fun i h1 h2 => by rw [sg]; exact (a11 i h1 h2).1) ?_ (fun D h => d_e103 h) ⟨sI D1 11322 (nI (nX + 1)), Fm.I rfl, rfl, ?_⟩)
          · have := (a11 (p1 - 1) (by omega) (by omega)).2
            omega
          · have q1 : gI (sI D1 11322 (nI (nX + 1))) 11322 = nI (nX + 1) := rfl
            have q2 : gI (sI D1 11322 (nI (nX + 1))) 11323 = nI nN := K1.2.2.2.1
            have q3 : gI (sI D1 11322 (nI (nX + 1))) 11351 = nI l := h51'
            unfold f_X12_readExhibit_J103
            rw [h8, if_pos rfl, kx, nI_1, bd_eq, q1, nI_pred, d_nadd q2 q3 hn, bnd_some]
        · rw [if_neg (show ¬ nI nX < 20 from nI_nlt (a := nX) (b := 20) (by omega) (by omega)), if_pos (show nI nX = 20 by rw [show nX = 20 by omega]; rfl)]
          exact fault 5 _ (by decide) (fun D h => d_e70 h)
      · rw [if_neg cr, if_neg cr]
        exact fault 4 _ (by decide) (fun D h => d_e70 h)
  · rw [a1, a2, bnd_some, bnd_some, if_pos rfl, if_neg a3.bad]
    right
    exact ⟨_, _, rfl, rfl, a3, nbC.fm a4 rfl, nbD.fm a5 rfl, Fm.pn a4, Fm.pnD a5⟩
end PB
