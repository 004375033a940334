/-! OUT: what is said -/
abbrev oC : CS → CS → Prop := Fm [6701] [68] []
abbrev oD : CS → CS → Prop := Fm [11304] [115] []
theorem and255 {b : Nat} (h : b < 256) : nI b &&& 255 = nI b := by
  rw [pk_andN (by omega) (m := 255) 8 rfl, Nat.mod_eq_of_lt h]
section PT
variable {C D : CS} {x y k v : Int32} {o b N : Nat} {nL nR nF nO l i : Nat} {cid : Nat → Nat}
theorem ROt.say (R : ROt C D o) (hb : b < 256) (ho : o + 1 < 2 ^ 30) : ∃ D1, f_X12_say (nI b) D = some D1 ∧ ROt (badd 67 (nI b) C) D1 (o + 1) ∧ oC C (badd 67 (nI b) C) ∧ oD D D1 := by
  obtain ⟨r1, r2, r3, r4⟩ := R
  unfold f_X12_say badd
  rw [r2, show 100 * 67 + 1 = 6701 from rfl, show 67 + 1 = 68 from rfl, r3, show mo 67 = 3000 from rfl, and255 hb, nI_1]
  by_cases c : o < 3000
  · have m1 : min o 3000 = o := by omega
    rw [if_neg (show ¬ (3000 : Int32) ≤ nI o from nI_ge (a := o) (b := 3000) c (by decide)), m1, if_pos (nI_lt c (by decide)), inb_nI c (by decide), if_pos rfl, nI_clamp (by omega)]
    simp only [bd_eq, gI_sA, r2, nI_1]
    refine ⟨_, rfl, ⟨ho, rfl, ?_, fun i hi => ?_⟩, (Fm.A rfl).trans (Fm.I rfl), (Fm.A rfl).trans (Fm.I rfl)⟩
    · rw [show min (o + 1) 3000 = o + 1 by omega]
      rfl
    · show upd (gA C 68) o (nI b) i = upd (gA D 115) o (nI b) i
      by_cases e : i = o
      · subst e
        rw [upd_eq, upd_eq]
      · rw [upd_ne e, upd_ne e]
        exact r4 i (by omega)
  · have m1 : min o 3000 = 3000 := by omega
    rw [if_pos (show (3000 : Int32) ≤ nI o from nI_le (a := 3000) (by omega) (by omega)), m1, if_neg (nI_nlt (Nat.le_refl _) (by decide)), bd_eq]
    refine ⟨_, rfl, ⟨ho, rfl, ?_, fun i hi => ?_⟩, Fm.rfl, Fm.I rfl⟩
    · rw [show min (o + 1) 3000 = 3000 by omega, r3, m1]
    · exact r4 i (by omega)
theorem ch_byte : ∀ j, 1 ≤ j → j ≤ 3 → ∀ i, i < sl j → ∃ b, b < 256 ∧ chOf j i = nI b := by
  intro j h1 h3
  have : j = 1 ∨ j = 2 ∨ j = 3 := by omega
  rcases this with rfl | rfl | rfl
  · intro i hi
    have hi : i < 6 := hi
    have : i = 0 ∨ i = 1 ∨ i = 2 ∨ i = 3 ∨ i = 4 ∨ i = 5 := by omega
    rcases this with rfl | rfl | rfl | rfl | rfl | rfl
    · exact ⟨81, by decide, rfl⟩
    · exact ⟨65, by decide, rfl⟩
    · exact ⟨89, by decide, rfl⟩
    · exact ⟨78, by decide, rfl⟩
    · exact ⟨32, by decide, rfl⟩
    · exact ⟨33, by decide, rfl⟩
  · intro i hi
    have hi : i < 8 := hi
    have : i = 0 ∨ i = 1 ∨ i = 2 ∨ i = 3 ∨ i = 4 ∨ i = 5 ∨ i = 6 ∨ i = 7 := by omega
    rcases this with rfl | rfl | rfl | rfl | rfl | rfl | rfl | rfl
    · exact ⟨45, by decide, rfl⟩
    · exact ⟨32, by decide, rfl⟩
    · exact ⟨115, by decide, rfl⟩
    · exact ⟨116, by decide, rfl⟩
    · exact ⟨114, by decide, rfl⟩
    · exact ⟨117, by decide, rfl⟩
    · exact ⟨99, by decide, rfl⟩
    · exact ⟨107, by decide, rfl⟩
  · intro i hi
    have hi : i < 8 := hi
    have : i = 0 ∨ i = 1 ∨ i = 2 ∨ i = 3 ∨ i = 4 ∨ i = 5 ∨ i = 6 ∨ i = 7 := by omega
    rcases this with rfl | rfl | rfl | rfl | rfl | rfl | rfl | rfl
    · exact ⟨45, by decide, rfl⟩
    · exact ⟨32, by decide, rfl⟩
    · exact ⟨115, by decide, rfl⟩
    · exact ⟨101, by decide, rfl⟩
    · exact ⟨97, by decide, rfl⟩
    · exact ⟨108, by decide, rfl⟩
    · exact ⟨101, by decide, rfl⟩
    · exact ⟨100, by decide, rfl⟩
theorem hidL3 : ∀ (m i z z' o : Nat) (C D : CS), i + m = 8 → m < z → m < z' → ROt C D o → o + m < 2 ^ 30 → ∃ C1 D1, f_X1_addText_67_3_L2 N z (nI i) C = some C1 ∧ f_X12_sayHidden_L16 N z' (nI i) D = some D1 ∧ ROt C1 D1 (o + m) ∧ oC C C1 ∧ oD D D1 := by
  intro m
  induction m with
  | zero =>
    intro i z z' o C D hi hz hz' R ho
    obtain ⟨z, rfl, -⟩ := sc hz
    obtain ⟨z', rfl, -⟩ := sc hz'
    refine ⟨C, D, ?_, ?_, R, Fm.rfl, Fm.rfl⟩
    · rw [f_X1_addText_67_3_L2, show sl 3 = 8 from rfl, if_pos (nI_le (by omega) (by omega))]
    · rw [f_X12_sayHidden_L16, show sl 3 = 8 from rfl, if_pos (nI_le (by omega) (by omega))]
  | succ m ih =>
    intro i z z' o C D hi hz hz' R ho
    obtain ⟨z, rfl, hz⟩ := sc hz
    obtain ⟨z', rfl, hz'⟩ := sc hz'
    obtain ⟨b, b1, b2⟩ := ch_byte 3 (by decide) (by decide) i (show i < 8 by omega)
    obtain ⟨D1, s1, s2, s3, s4⟩ := R.say b1 (by omega)
    obtain ⟨C2, D2, t1, t2, t3, t4, t5⟩ := ih (i + 1) z z' (o + 1) _ D1 (by omega) (by omega) (by omega) s2 (by omega)
    refine ⟨C2, D2, ?_, ?_, by rw [show o + (m + 1) = o + 1 + m by omega]; exact t3, s3.trans t4, s4.trans t5⟩
    · rw [f_X1_addText_67_3_L2, show sl 3 = 8 from rfl, if_neg (nI_ge (by omega) (by omega)), inb_nI (by omega) (by decide), if_pos rfl, nI_clamp (by omega), b2, bd_eq, nI_1]
      exact t1
    · rw [f_X12_sayHidden_L16, show sl 3 = 8 from rfl, if_neg (nI_ge (by omega) (by omega)), inb_nI (by omega) (by decide), if_pos rfl, nI_clamp (by omega), b2, s1, bnd_some, nI_1]
      exact t2
theorem hidL2 : ∀ (m i z z' o : Nat) (C D : CS), i + m = 8 → m < z → m < z' → ROt C D o → o + m < 2 ^ 30 → ∃ C1 D1, f_X1_addText_67_2_L2 N z (nI i) C = some C1 ∧ f_X12_sayHidden_L16_1 N z' (nI i) D = some D1 ∧ ROt C1 D1 (o + m) ∧ oC C C1 ∧ oD D D1 := by
  intro m
  induction m with
  | zero =>
    intro i z z' o C D hi hz hz' R ho
    obtain ⟨z, rfl, -⟩ := sc hz
    obtain ⟨z', rfl, -⟩ := sc hz'
    refine ⟨C, D, ?_, ?_, R, Fm.rfl, Fm.rfl⟩
    · rw [f_X1_addText_67_2_L2, show sl 2 = 8 from rfl, if_pos (nI_le (by omega) (by omega))]
    · rw [f_X12_sayHidden_L16_1, show sl 2 = 8 from rfl, if_pos (nI_le (by omega) (by omega))]
  | succ m ih =>
    intro i z z' o C D hi hz hz' R ho
    obtain ⟨z, rfl, hz⟩ := sc hz
    obtain ⟨z', rfl, hz'⟩ := sc hz'
    obtain ⟨b, b1, b2⟩ := ch_byte 2 (by decide) (by decide) i (show i < 8 by omega)
    obtain ⟨D1, s1, s2, s3, s4⟩ := R.say b1 (by omega)
    obtain ⟨C2, D2, t1, t2, t3, t4, t5⟩ := ih (i + 1) z z' (o + 1) _ D1 (by omega) (by omega) (by omega) s2 (by omega)
    refine ⟨C2, D2, ?_, ?_, by rw [show o + (m + 1) = o + 1 + m by omega]; exact t3, s3.trans t4, s4.trans t5⟩
    · rw [f_X1_addText_67_2_L2, show sl 2 = 8 from rfl, if_neg (nI_ge (by omega) (by omega)), inb_nI (by omega) (by decide), if_pos rfl, nI_clamp (by omega), b2, bd_eq, nI_1]
      exact t1
    · rw [f_X12_sayHidden_L16_1, show sl 2 = 8 from rfl, if_neg (nI_ge (by omega) (by omega)), inb_nI (by omega) (by decide), if_pos rfl, nI_clamp (by omega), b2, s1, bnd_some, nI_1]
      exact t2
theorem hid3 (R : ROt C D o) (ho : o + 8 < 2 ^ 30) (hN : 20000 < N) : ∃ C1 D1, f_X1_addText_67_3 N C = some (8, C1) ∧ f_X12_sayHidden N 0 D = some D1 ∧ ROt C1 D1 (o + 8) ∧ oC C C1 ∧ oD D D1 := by
  obtain ⟨C1, D1, t1, t2, t3⟩ := hidL3 (N := N) 8 0 N N o C D rfl (by omega) (by omega) R ho
  refine ⟨C1, D1, ?_, ?_, t3⟩
  · unfold f_X1_addText_67_3
    rw [show f_X1_addText_67_3_L2 N N 0 C = f_X1_addText_67_3_L2 N N (nI 0) C from rfl, t1, bnd_some]
    rfl
  · unfold f_X12_sayHidden
    rw [if_pos rfl, show f_X12_sayHidden_L16 N N 0 D = f_X12_sayHidden_L16 N N (nI 0) D from rfl, t2, bnd_some]
theorem hid2 (R : ROt C D o) (ho : o + 8 < 2 ^ 30) (hN : 20000 < N) : ∃ C1 D1, f_X1_addText_67_2 N C = some (8, C1) ∧ f_X12_sayHidden N 1 D = some D1 ∧ ROt C1 D1 (o + 8) ∧ oC C C1 ∧ oD D D1 := by
  obtain ⟨C1, D1, t1, t2, t3⟩ := hidL2 (N := N) 8 0 N N o C D rfl (by omega) (by omega) R ho
  refine ⟨C1, D1, ?_, ?_, t3⟩
  · unfold f_X1_addText_67_2
    rw [show f_X1_addText_67_2_L2 N N 0 C = f_X1_addText_67_2_L2 N N (nI 0) C from rfl, t1, bnd_some]
    rfl
  · unfold f_X12_sayHidden
    rw [if_neg (by decide), show f_X12_sayHidden_L16_1 N N 0 D = f_X12_sayHidden_L16_1 N N (nI 0) D from rfl, t2, bnd_some]
/-- what reading back rests on -/
def RRd (C D : CS) (nL nR nF nO : Nat) (cid : Nat → Nat) : Prop := RBe C D nL nR nF nO cid ∧ RT C D nL nR cid
theorem RRd.ou {C1 D1 : CS} (R : RRd C D nL nR nF nO cid) (h : oC C C1) (k : oD D D1) : RRd C1 D1 nL nR nF nO cid := ⟨⟨R.1.1.fm h k rfl rfl, R.1.2.1.fm h k rfl rfl, R.1.2.2.1.fm h k rfl rfl, R.1.2.2.2.fm h k rfl rfl⟩, R.2.fm h k rfl rfl⟩
theorem bat_in {q s i : Nat} (h : gI C (100 * q + 1) = nI s) (hs : s < 2 ^ 31) (hi : i < s) : bat q (nI i) C = gA C (q + 1) i := by
  unfold bat
  rw [h, if_pos ⟨nI_pos' (by omega), nI_lt hi hs⟩, nI_clamp (by omega)]
theorem tellL {a b lv k c m ln fr ts : Nat} {x1 x2 x3 x4 x5 : Int32} (hln : ln ≤ 58) (hc : c < 300) (hm : m < 300) (hts : ts ≤ 17400) (hfr : fr + ln ≤ ts) : ∀ (j i z z' o : Nat) (C D : CS), i + j = ln → j < z → j < z' → gI C 7701 = nI ts → gA C 83 c = nI ln → gA C 82 c = nI fr → gA D 124 m = nI (ln + 2) → (∀ t, t < ln → ∃ b, b < 256 ∧ gA C 78 (fr + t) = nI b ∧ gA D 125 (60 * m + 2 + t) = nI b) → ROt C D o → o + j < 2 ^ 30 → ∃ C1 D1, f_X8_tell_L2 N (nI c) z (nI i) C = some C1 ∧ f_X12_read_L124 N x1 x2 x3 x4 x5 (nI m) z' (nI (i + 2)) D = some D1 ∧ ROt C1 D1 (o + j) ∧ oC C C1 ∧ oD D D1 := by
  intro j
  induction j with
  | zero =>
    intro i z z' o C D hi hz hz' h1 h2 h3 h4 h5 R ho
    obtain ⟨z, rfl, -⟩ := sc hz
    obtain ⟨z', rfl, -⟩ := sc hz'
    refine ⟨C, D, ?_, ?_, R, Fm.rfl, Fm.rfl⟩
    · rw [f_X8_tell_L2, inb_nI hc (by decide), if_pos rfl, nI_clamp (by omega), h2, if_pos (nI_le (by omega) (by omega))]
    · rw [f_X12_read_L124, inb_nI hm (by decide), if_pos rfl, nI_clamp (by omega), h4, if_pos (nI_le (by omega) (by omega))]
  | succ j ih =>
    intro i z z' o C D hi hz hz' h1 h2 h3 h4 h5 R ho
    obtain ⟨z, rfl, hz⟩ := sc hz
    obtain ⟨z', rfl, hz'⟩ := sc hz'
    obtain ⟨b, b1, b2, b3⟩ := h5 i (by omega)
    obtain ⟨D1, s1, s2, s3, s4⟩ := R.say b1 (by omega)
    have g := s3.ag (li := [7701]) (la := [78, 82, 83]) (lb := []) rfl
    have g' := s4.ag (li := []) (la := [124, 125]) (lb := []) rfl
    obtain ⟨C2, D2, t1, t2, t3, t4, t5⟩ := ih (i + 1) z z' (o + 1) _ D1 (by omega) (by omega) (by omega) ((g.1 7701 (by decide)).trans h1) (by rw [g.2.1 83 (by decide)]; exact h2) (by rw [g.2.1 82 (by decide)]; exact h3) (by rw [g'.2.1 124 (by decide)]; exact h4) (by rw [g.2.1 78 (by decide), g'.2.1 125 (by decide)]; exact h5) s2 (by omega)
    refine ⟨C2, D2, ?_, ?_, by rw [show o + (j + 1) = o + 1 + j by omega]; exact t3, s3.trans t4, s4.trans t5⟩
    · rw [f_X8_tell_L2, inb_nI hc (by decide), if_pos rfl, if_pos rfl, nI_clamp (by omega), h2, h3, if_neg (nI_ge (by omega) (by omega)), nI_add, bat_in (q := 77) h1 (by omega) (by omega), show 77 + 1 = 78 from rfl, b2, bd_eq, nI_1]
      exact t1
    · rw [f_X12_read_L124, inb_nI hm (by decide), if_pos rfl, nI_clamp (by omega), h4, if_neg (nI_ge (by omega) (by omega)), show (60 : Int32) = nI 60 from rfl, nI_mul, nI_add, inb_nI (by omega) (by decide), if_pos rfl, nI_clamp (by omega), show 60 * m + (i + 2) = 60 * m + 2 + i by omega, b3, s1, bnd_some, nI_1, show i + 2 + 1 = i + 1 + 2 by omega]
      exact t2
/-- one line, read back -/
theorem RRd.line {x1 x2 : Int32} (R : RRd C D nL nR nF nO cid) (O : ROt C D o) (ho : o + 100 < 2 ^ 30) (hl : l < nL) (hN : 20000 < N) : ∃ n C1 D1, n ≤ 60 ∧ f_X11_readBack N (nI l) v k C = some (nI n, C1) ∧
    (bnd (f_X12_isStruck N (nI l) k D) fun q22 => if q22 = 0 then (bnd (f_X12_level N (nI l) k D) fun q29 => if q29 ≤ v then (bnd (f_X12_restOn N (nI l) k D) fun q32 => bnd (f_X12_read_L124 N x1 x2 v k (nI l) q32 N 0 D) fun q39 => some q39) else (bnd (f_X12_isStruck N (nI l) k D) fun q41 => bnd (f_X12_sayHidden N q41 D) fun q43 => some q43)) else (bnd (f_X12_isStruck N (nI l) k D) fun q25 => bnd (f_X12_sayHidden N q25 D) fun q27 => some q27)) = some D1 ∧ ROt C1 D1 (o + n) ∧ oC C C1 ∧ oD D D1 := by
  obtain ⟨⟨L, Q, F, OO⟩, T⟩ := id R
  obtain ⟨s1, s2⟩ := OO.strike (N := N) (l := nI l) (k := k) (by omega)
  obtain ⟨l1, l2⟩ := OO.level (N := N) (l := nI l) (k := k) (by omega)
  have hL := L.1
  have hR := Q.2.1
  unfold f_X11_readBack
  rw [s1, s2, l1, l2]
  simp only [bnd_some]
  cases sk D nO (nI l) k
  · rw [if_pos (b2_0.mpr rfl), if_pos (b2_0.mpr rfl)]
    by_cases c1 : lvl D nO (nI l) k ≤ v
    · rw [if_pos c1, if_pos c1]
      obtain ⟨h1, h2⟩ := Q.held (N := N) (k := k) hl (by omega)
      have hv := ro_vid (L := gA D 122) (Dy := gA D 123) (k := k) hl (Nat.le_refl nR)
      obtain ⟨ts, t1, t2, t3⟩ := T
      obtain ⟨ln, fr, l', kd, a1, a2, a3, a4, a5, a6, a7, a8, a9, a10, a11, a12⟩ := t3 _ hv
      have hm : ro (gA D 122) (gA D 123) l k nR < 300 := by rcases hv with h | h <;> omega
      have hcid := Q.2.2.2.2.2.1 _ hv
      have el : l' = l := by
        have hr : gA D 122 (ro (gA D 122) (gA D 123) l k nR) = nI l := by
          have : ∀ m, m ≤ nR → gA D 122 (ro (gA D 122) (gA D 123) l k m) = nI l := by
            intro m
            induction m with
            | zero => intro _; exact (Q.2.2.2.2.2.2.2.1 l hl).1
            | succ m ih =>
              intro hm
              rw [ro]
              by_cases c : gA D 122 (200 + m) = nI l ∧ ¬ k < gA D 123 (200 + m)
              · rw [if_pos c]; exact c.1
              · rw [if_neg c]; exact ih (by omega)
          exact this nR (Nat.le_refl _)
        exact (nI_eq (by omega) (by omega)).mp (a7.symm.trans hr)
      subst el
      obtain ⟨b, b1, b2⟩ := ch_byte 1 (by decide) (by decide) kd (show kd < 6 by omega)
      obtain ⟨D1, p1, p2, p3, p4⟩ := O.say b1 (by omega)
      obtain ⟨D2, u1, u2, u3, u4⟩ := p2.say (b := 32) (by decide) (by omega)
      have F1 : oC C (badd 67 (nI 32) (badd 67 (nI b) C)) := p3.trans u3
      have F2 : oD D D2 := p4.trans u4
      have R2 := R.ou F1 F2
      have g := F1.ag (li := [7701]) (la := [78, 82, 83]) (lb := []) rfl
      have g' := F2.ag (li := []) (la := [124, 125]) (lb := []) rfl
      have e124 : gA D2 124 (ro (gA D 122) (gA D 123) l' k nR) = nI (ln + 2) := by rw [g'.2.1 124 (by decide)]; exact a3
      have g1 := p4.ag (li := []) (la := [124, 125]) (lb := []) rfl
      obtain ⟨n1, rfl, hn1⟩ := sc (show 1 < N by omega)
      obtain ⟨n2, rfl, hn2⟩ := sc (show 0 < n1 by omega)
      obtain ⟨C3, D3, w1, w2, w3, w4, w5⟩ := tellL (N := n2 + 1 + 1) (a := 0) (b := 0) (lv := 0) (k := 0) (x1 := x1) (x2 := x2) (x3 := v) (x4 := k) (x5 := nI l') a1 (show cid (ro (gA D 122) (gA D 123) l' k nR) < 300 by omega) hm (show ts ≤ 17400 by omega) a2 ln 0 (n2 + 1 + 1) n2 (o + 1 + 1) _ D2 (by omega) (by omega) (by omega) ((g.1 7701 (by decide)).trans t2) (by rw [g.2.1 83 (by decide)]; exact a4) (by rw [g.2.1 82 (by decide)]; exact a5) e124 (by rw [g.2.1 78 (by decide), g'.2.1 125 (by decide)]; exact a6) u2 (by omega)
      have hh := (R2.1.2.1.held (N := n2 + 1 + 1) (k := k) hl (by omega)).1
      have e1 : ro (gA D2 122) (gA D2 123) l' k nR = ro (gA D 122) (gA D 123) l' k nR := by
        have g2 := F2.ag (li := []) (la := [122, 123]) (lb := []) rfl
        rw [g2.2.1 122 (by decide), g2.2.1 123 (by decide)]
      rw [e1] at hh
      refine ⟨2 + ln, C3, D3, by omega, ?_, ?_, by rw [show o + (2 + ln) = o + 1 + 1 + ln by omega]; exact w3, F1.trans w4, F2.trans w5⟩
      · have k0 : ¬ gA C 70 l' < 0 := by rw [(L.2.2.2.2.1 l' hl).1, a10]; exact nI_pos (by omega)
        have k1 : ¬ nI (sl 1) ≤ gA C 70 l' := by rw [(L.2.2.2.2.1 l' hl).1, a10]; exact nI_ge (show kd < 6 by omega) (by decide)
        rw [inb_nI (by omega) (by decide), if_pos rfl, nI_clamp (by omega), if_neg k0, if_neg k1, (L.2.2.2.2.1 l' hl).1, a10, inb_nI (show kd < sl 1 from show kd < 6 by omega) (by decide), if_pos rfl, nI_clamp (by omega), b2]
        simp only [bd_eq]
        rw [show (32 : Int32) = nI 32 from rfl, hh, bnd_some]
        unfold f_X8_tell
        rw [show f_X8_tell_L2 (n2 + 1 + 1) (nI (cid (ro (gA D 122) (gA D 123) l' k nR))) (n2 + 1 + 1) 0 (badd 67 (nI 32) (badd 67 (nI b) C)) = f_X8_tell_L2 (n2 + 1 + 1) (nI (cid (ro (gA D 122) (gA D 123) l' k nR))) (n2 + 1 + 1) (nI 0) (badd 67 (nI 32) (badd 67 (nI b) C)) from rfl, w1, bnd_some, inb_nI (by omega) (by decide), if_pos rfl, nI_clamp (by omega), bnd_some]
        have g3 := (F1.trans w4).ag (li := []) (la := [83]) (lb := []) rfl
        rw [g3.2.1 83 (by decide), a4, show (2 : Int32) = nI 2 from rfl, nI_add]
      · rw [h2]
        simp only [bnd_some]
        have v0 : f_X12_read_L124 (n2 + 1 + 1) x1 x2 v k (nI l') (nI (ro (gA D 122) (gA D 123) l' k nR)) (n2 + 1 + 1) 0 D = some D3 := by
          rw [f_X12_read_L124, inb_nI hm (by decide), if_pos rfl, nI_clamp (by omega), a3, show (0 : Int32) = nI 0 from rfl, if_neg (nI_ge (by omega) (by omega)), show (60 : Int32) = nI 60 from rfl, nI_mul, nI_add, inb_nI (by omega) (by decide), if_pos rfl, nI_clamp (by omega), show 60 * ro (gA D 122) (gA D 123) l' k nR + 0 = 60 * ro (gA D 122) (gA D 123) l' k nR from rfl, a11, b2, p1, bnd_some, nI_1]
          rw [f_X12_read_L124, inb_nI hm (by decide), if_pos rfl, nI_clamp (by omega), g1.2.1 124 (by decide), a3, if_neg (nI_ge (by omega) (by omega)), show (60 : Int32) = nI 60 from rfl, nI_mul, nI_add, inb_nI (by omega) (by decide), if_pos rfl, nI_clamp (by omega), g1.2.1 125 (by decide), a12, show (32 : Int32) = nI 32 from rfl, u1, bnd_some, nI_1]
          exact w2
        rw [v0, bnd_some]
    · rw [if_neg c1, if_neg c1]
      obtain ⟨C1, D1, h1, h2, h3, h4, h5⟩ := hid3 (N := N) O (by omega) hN
      refine ⟨8, C1, D1, by decide, ?_, ?_, h3, h4, h5⟩
      · rw [h1, bnd_some]
        rfl
      · rw [show b2 false = 0 from rfl, h2, bnd_some]
  · rw [if_neg (show ¬ b2 true = 0 by decide), if_neg (show ¬ b2 true = 0 by decide)]
    obtain ⟨C1, D1, h1, h2, h3, h4, h5⟩ := hid2 (N := N) O (by omega) hN
    refine ⟨8, C1, D1, by decide, ?_, ?_, h3, h4, h5⟩
    · rw [h1, bnd_some]
      rfl
    · rw [show b2 true = 1 from rfl, h2, bnd_some]
end PT
