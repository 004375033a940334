/-! a line's rest, added on both sides -/
section PQ
variable {C D C1 D1 : CS} {en l p0 p1 N nL nR : Nat} {cid : Nat → Nat}
theorem c_radd {r t fr q : Nat} (T : Tx C D en) (h : gI C 7601 = nI r) (h0 : gI C 7600 = 300) (ht : gI C 7701 = nI t) (hr : r < 300) (hl : l < 200) (hfq : fr ≤ q) (hq : q ≤ en) (h58 : t + (q - fr) ≤ 17400) (hN : 20000 < N) : ∃ C1, f_X8_addFirst N (nI l) (nI fr) (nI q) C = some C1 ∧ Fm [7601, 7701] [78, 79, 80, 81, 82, 83] [] C C1 ∧ gI C1 7601 = nI (r + 1) ∧ gI C1 7701 = nI (t + (q - fr)) ∧ gA C1 79 = upd (gA C 79) l (nI r) ∧ gA C1 80 = upd (gA C 80) r (-1) ∧ gA C1 81 = upd (gA C 81) r 0 ∧ gA C1 82 = upd (gA C 82) r (nI t) ∧ gA C1 83 = upd (gA C 83) r (nI (q - fr)) ∧ (∀ u, u < q - fr → gA C1 78 (t + u) = gA C 66 (fr + u)) ∧ ∀ v, v < t → gA C1 78 v = gA C 78 v := by
  have he := T.1
  have ii : inb (nI r) 300 = true := inb_nI hr (by decide)
  have ik : (nI r).toNatClampNeg = r := nI_clamp (by omega)
  unfold f_X8_addFirst f_X8_add
  rw [h, h0, if_pos (show nI r < 300 from nI_lt (b := 300) hr (by decide)), ii, if_pos rfl]
  simp only [bd_eq, gI_sA, h, ht, ii, ik, if_true]
  rw [pk_sub hfq]
  have F : Fm [7601, 7701] [78, 79, 80, 81, 82, 83] [] C (sA (sA (sA (sA C 80 r (-1)) 81 r 0) 82 r (nI t)) 83 r (nI (q - fr))) := (((Fm.A rfl).trans (Fm.A rfl)).trans (Fm.A rfl)).trans (Fm.A rfl)
  obtain ⟨C1, q1, q2, q3, q4, q5⟩ := c_copyL (D := D) (N := N) (x1 := nI l) hq (q - fr) fr t N _ (by omega) (by omega) (T.fm F (Fm.rfl (ei := []) (ea := []) (eb := [])) rfl rfl) ht h58
  have ag := q2.ag (li := [7601]) (la := [79, 80, 81, 82, 83]) (lb := []) rfl
  have g1 : gI C1 7601 = nI r := (ag.1 7601 (by decide)).trans h
  rw [q1, bnd_some, inb_nI hl (by decide), if_pos rfl, nI_clamp (by omega), g1, nI_1, bnd_some]
  refine ⟨_, rfl, ((F.trans (q2.sub (by decide))).trans (Fm.A rfl)).trans (Fm.I rfl), rfl, q3, ?_, ag.2.1 80 (by decide), ag.2.1 81 (by decide), ag.2.1 82 (by decide), ag.2.1 83 (by decide), q4, q5⟩
  show upd (gA C1 79) l (nI r) = _
  rw [ag.2.1 79 (by decide)]
  rfl
theorem d_keep (hl : l < 200) (h08 : gI D 11308 = nI (l + 1)) (hp : p1 ≤ en) (he : en ≤ 3000) (h01 : p0 ≤ p1) (h60 : p1 ≤ p0 + 60) (hD : gI D 11346 = nI p1 ∨ (gI D 11346 = nI (p1 + 1) ∧ p1 < 3000 ∧ gA D 114 p1 = 10)) (hno : ∀ i, p0 ≤ i → i < p1 → gA D 114 i ≠ 10) (hN : 20000 < N) : ∃ D1, f_X12_keepLine N (nI p0) D = some D1 ∧ Fm [] [122, 123, 124, 125] [] D D1 ∧ gA D1 122 = upd (gA D 122) l (nI l) ∧ gA D1 123 = upd (gA D 123) l (-2000000000) ∧ gA D1 124 = upd (gA D 124) l (nI (p1 - p0)) ∧ (∀ u, u < p1 - p0 → gA D1 125 (60 * l + u) = gA D 114 (p0 + u)) ∧ ∀ v, (v < 60 * l ∨ 60 * l + (p1 - p0) ≤ v) → gA D1 125 v = gA D 125 v := by
  unfold f_X12_keepLine f_X12_keepLine_J60
  have ii : inb (nI l) 300 = true := inb_nI (by omega) (by decide)
  have ik : (nI l).toNatClampNeg = l := nI_clamp (by omega)
  obtain ⟨D1, q1, q2, q3, q4⟩ := d_copyL (N := N) (l := l) (by omega) hp he h60 (p1 - p0) 0 N D (by omega) (by omega) hD hno
  rw [h08, nI_pred, show (0 : Int32) = nI 0 from rfl, show nI p0 = nI (p0 + 0) from rfl, q1, bnd_some, ii, if_pos rfl]
  simp only [bd_eq, ii, ik, if_true]
  have ag := q2.ag (li := []) (la := [122, 123, 124]) (lb := []) rfl
  refine ⟨_, rfl, (((q2.sub (by decide)).trans (Fm.A rfl)).trans (Fm.A rfl)).trans (Fm.A rfl), ?_, ?_, ?_, q3, q4⟩
  · show upd (gA D1 122) l (nI l) = _; rw [ag.2.1 122 (by decide)]
  · show upd (gA D1 123) l (-2000000000) = _; rw [ag.2.1 123 (by decide)]
  · show upd (gA D1 124) l (nI (p1 - p0)) = _; rw [ag.2.1 124 (by decide)]
end PQ
