/-! the lines of a sitting that is being read -/
theorem ansF_cg {kd kd' si si' : Nat → Int32} {s : Int32} : ∀ {m i : Nat}, (∀ j, i ≤ j → j < i + m → kd' j = kd j ∧ si' j = si j) → ansF kd' si' s m i = ansF kd si s m i := by
  intro m
  induction m with
  | zero => intro i h; rfl
  | succ m ih =>
    intro i h
    rw [ansF, ansF, (h i (Nat.le_refl _) (by omega)).1, (h i (Nat.le_refl _) (by omega)).2, ih (fun j h1 h2 => h j (by omega) (by omega))]
/-- lines on both sides while a sitting is read: it began at line f -/
def SL (C D : CS) (f n : Nat) (s : Int32) (E : Option Nat) (pv : Int32) : Prop := n ≤ 200 ∧ f ≤ n ∧ gI C 6901 = nI n ∧ gI D 11308 = nI n ∧ gI C 6900 = 200 ∧
  (∀ i, i < n → gA C 70 i = gA D 116 i ∧ gA C 71 i = gA D 117 i ∧ gA C 74 i = gA D 118 i ∧ ∃ k, k ≤ 5 ∧ gA D 116 i = nI k) ∧
  (∀ i, i < n → (gA D 116 i = 5 ∧ gA D 118 i = -1) ∨ (gA D 116 i ≠ 5 ∧ ∃ e, e ≤ i ∧ gA D 118 i = nI e ∧ gA D 118 e = nI e ∧ gA D 117 e = gA D 117 i ∧ gA D 116 e ≠ 5 ∧ gA D 116 e ≠ 4)) ∧
  (∀ e, e < n → gA D 118 e = nI e → gA C 75 e = ansE (gA D 116) (gA D 117) n e) ∧
  (∀ i, f ≤ i → i < n → gA D 117 i = s) ∧ (∀ i, i < f → gA D 117 i ≠ s) ∧ Last (gA D 116) (gA D 118) f n E ∧
  (∀ i, i < f → gA C 72 i = gA D 119 i ∧ gA C 73 i = gA D 120 i) ∧
  (∀ i, f ≤ i → i < n → gA C 72 i = pv + nI ((i - f) / 10) ∧ gA C 73 i = nI (1 + (i - f) % 10)) ∧
  (f = 0 → pv = 1) ∧ (0 < f → pv = gA D 119 (f - 1) + 1)
section PH
variable {C D C1 D1 : CS} {f n : Nat} {s k pv : Int32} {E : Option Nat}
theorem SL.four (S : SL C D f n s E pv) (h : f < n) (h5 : gA D 116 (n - 1) ≠ 5) : ∃ e, E = some e ∧ gA D 118 (n - 1) = nI e := by
  have L := S.2.2.2.2.2.2.2.2.2.2.1
  cases E with
  | none => exact absurd (L (n - 1) (by omega) (by omega)) h5
  | some e =>
    refine ⟨e, rfl, ?_⟩
    by_cases c : e = n - 1
    · rw [← c]; exact L.2.2.2.2.1
    · have := L.2.1
      rcases L.2.2.2.2.2 (n - 1) (by omega) (by omega) with q | q
      · exact absurd q h5
      · exact q.2
theorem SL.add (S : SL C D f n s E pv) (hn : n < 200) (hk : ∃ kk, kk ≤ 5 ∧ k = nI kk) (h4 : k = 4 → f < n ∧ gA D 116 (n - 1) ≠ 5)
    (c01 : gI C1 6901 = nI (n + 1)) (c00 : gI C1 6900 = 200) (c70 : gA C1 70 = upd (gA C 70) n k) (c71 : gA C1 71 = upd (gA C 71) n s) (c72 : gA C1 72 = upd (gA C 72) n (pv + nI ((n - f) / 10))) (c73 : gA C1 73 = upd (gA C 73) n (nI (1 + (n - f) % 10))) (c74 : gA C1 74 = upd (gA C 74) n (fsV k n E)) (c75 : gA C1 75 = an75 (upd (gA C 75) n (-1)) (gA C 70) n k E)
    (d08 : gI D1 11308 = nI (n + 1)) (d16 : gA D1 116 = upd (gA D 116) n k) (d17 : gA D1 117 = upd (gA D 117) n s) (d18 : gA D1 118 = upd (gA D 118) n (fsV k n E)) (d19 : gA D1 119 = gA D 119) (d20 : gA D1 120 = gA D 120) :
    SL C1 D1 f (n + 1) s (if k = 5 ∨ k = 4 then E else some n) pv ∧ ∀ i, i < f → ∀ r ∈ [70, 71, 72, 73, 74, 75], gA C1 r i = gA C r i := by
  have S' := S
  obtain ⟨s1, s2, s3, s4, s5, sa, sb, sc', sd, se, sf, sg, sh, si1, si2⟩ := S
  have u16 : ∀ j, j < n → gA D1 116 j = gA D 116 j := fun j hj => by rw [d16, upd_ne (by omega)]
  have u17 : ∀ j, j < n → gA D1 117 j = gA D 117 j := fun j hj => by rw [d17, upd_ne (by omega)]
  have u18 : ∀ j, j < n → gA D1 118 j = gA D 118 j := fun j hj => by rw [d18, upd_ne (by omega)]
  have n16 : gA D1 116 n = k := by rw [d16, upd_eq]
  have n17 : gA D1 117 n = s := by rw [d17, upd_eq]
  have n18 : gA D1 118 n = fsV k n E := by rw [d18, upd_eq]
  have lt : ∀ e, E = some e → f ≤ e ∧ e < n := fun e he => by subst he; exact ⟨sf.1, sf.2.1⟩
  have v5 : k = 5 → fsV k n E = -1 := fun h => by unfold fsV; rw [if_pos h]
  have v4 : k = 4 → fsV k n E = eV E := fun h => by unfold fsV; rw [if_neg (by rw [h]; decide), if_pos h]
  have v0 : k ≠ 5 → k ≠ 4 → fsV k n E = nI n := fun h h' => by unfold fsV; rw [if_neg h, if_neg h']
  -- the answers' row
  have r75 : ∀ j, j < n → (E = some j ∧ k ≠ 5 ∧ k ≠ 4 ∧ k ≠ 0 ∧ gA D 116 j = 0 ∧ gA C1 75 j = nI n) ∨ (¬ (E = some j ∧ k ≠ 5 ∧ k ≠ 4 ∧ k ≠ 0 ∧ gA D 116 j = 0) ∧ gA C1 75 j = gA C 75 j) := by
    intro j hj
    rw [c75]
    cases E with
    | none => right; exact ⟨fun z => (by cases z.1), upd_ne (by omega)⟩
    | some e =>
      have he := (lt e rfl).2
      unfold an75
      simp only []
      rw [(sa e he).1]
      by_cases c : k ≠ 5 ∧ k ≠ 4 ∧ k ≠ 0 ∧ gA D 116 e = 0
      · rw [if_pos c]
        by_cases ej : j = e
        · subst ej
          left
          exact ⟨rfl, c.1, c.2.1, c.2.2.1, c.2.2.2, upd_eq⟩
        · right
          exact ⟨fun z => (by injection z.1 with z; exact ej z.symm), by rw [upd_ne ej, upd_ne (by omega)]⟩
      · rw [if_neg c]
        right
        refine ⟨fun z => ?_, upd_ne (by omega)⟩
        have := z.1
        injection this with this
        subst this
        exact c z.2
  have n75 : gA C1 75 n = -1 := by
    rw [c75]
    cases E with
    | none => exact upd_eq
    | some e =>
      have he := (lt e rfl).2
      unfold an75
      simp only []
      by_cases c : k ≠ 5 ∧ k ≠ 4 ∧ k ≠ 0 ∧ gA C 70 e = 0
      · rw [if_pos c, upd_ne (by omega), upd_eq]
      · rw [if_neg c, upd_eq]
  refine ⟨⟨by omega, by omega, c01, d08, c00, fun i hi => ?_, fun i hi => ?_, fun e he h18 => ?_, fun i h1 h2 => ?_, fun i hi => ?_, ?_, fun i hi => ?_, fun i h1 h2 => ?_, si1, fun h => by rw [d19]; exact si2 h⟩, fun i hi r hr => ?_⟩
  · by_cases e : i = n
    · subst e
      rw [c70, c71, c74, d16, d17, d18, upd_eq, upd_eq, upd_eq, upd_eq, upd_eq, upd_eq]
      exact ⟨rfl, rfl, rfl, hk⟩
    · rw [c70, c71, c74, u16 i (by omega), u17 i (by omega), u18 i (by omega), upd_ne e, upd_ne e, upd_ne e]
      exact sa i (by omega)
  · by_cases e : i = n
    · subst e
      rw [n16, n18, n17]
      by_cases k5 : k = 5
      · left; exact ⟨k5, v5 k5⟩
      · right
        refine ⟨k5, ?_⟩
        by_cases k4 : k = 4
        · obtain ⟨e, e1, e2⟩ := S'.four (h4 k4).1 (h4 k4).2
          subst e1
          have := lt e rfl
          refine ⟨e, by omega, v4 k4, ?_, ?_, ?_, ?_⟩
          · rw [u18 e (by omega)]; exact sf.2.2.2.2.1
          · rw [u17 e (by omega)]; exact sd e (by omega) (by omega)
          · rw [u16 e (by omega)]; exact sf.2.2.1
          · rw [u16 e (by omega)]; exact sf.2.2.2.1
        · exact ⟨i, Nat.le_refl _, v0 k5 k4, n18.trans (v0 k5 k4), n17, by rw [n16]; exact k5, by rw [n16]; exact k4⟩
    · rw [u16 i (by omega), u17 i (by omega), u18 i (by omega)]
      rcases sb i (by omega) with h | ⟨h1, e', h2, h3, h4, h5, h6, h7⟩
      · left; exact h
      · right
        refine ⟨h1, e', h2, h3, ?_, ?_, ?_, ?_⟩
        · rw [u18 e' (by omega)]; exact h4
        · rw [u17 e' (by omega)]; exact h5
        · rw [u16 e' (by omega)]; exact h6
        · rw [u16 e' (by omega)]; exact h7
  · by_cases c : e = n
    · subst c
      rw [n75]
      unfold ansE
      rw [Nat.sub_self]
      split <;> rfl
    · have en : e < n := by omega
      rw [u18 e en] at h18
      have old := sc' e en h18
      have cg : ∀ s', ansF (gA D1 116) (gA D1 117) s' (n - (e + 1)) (e + 1) = ansF (gA D 116) (gA D 117) s' (n - (e + 1)) (e + 1) := fun s' => ansF_cg (fun j h1 h2 => ⟨u16 j (by omega), u17 j (by omega)⟩)
      have tot : e + 1 + (n - (e + 1)) = n := by omega
      unfold ansE at old ⊢
      rw [u16 e en, u17 e en, show n + 1 - (e + 1) = n - (e + 1) + 1 by omega]
      by_cases k0 : gA D 116 e = 0
      · rw [if_pos k0] at old ⊢
        by_cases ef : e < f
        · rw [ans_other (by rw [tot, n17]; exact fun z => se e ef z.symm), cg, ← old]
          rcases r75 e en with ⟨q, -⟩ | ⟨-, q⟩
          · have := (lt e q).1; omega
          · exact q
        · cases E with
          | none => exact absurd (sf e (by omega) en) (by rw [k0]; decide)
          | some e' =>
            have he' := lt e' rfl
            by_cases ee : e = e'
            · subst ee
              have run := ans_run (kd := gA D1 116) (si := gA D1 117) (s := gA D 117 e) (m := n - (e + 1)) (i := e + 1) (fun j h1 h2 => by
                refine ⟨by rw [u17 j (by omega), sd j (by omega) (by omega), sd e (by omega) en], ?_⟩
                rw [u16 j (by omega)]
                rcases sf.2.2.2.2.2 j (by omega) (by omega) with q | q
                · exact Or.inl q
                · exact Or.inr q.1)
              rw [run.2 (by rw [tot, n17, sd e (by omega) en]), tot, n16]
              rw [cg] at run
              rw [run.1] at old
              rcases r75 e en with ⟨-, q1, q2, q3, -, q5⟩ | ⟨q1, q2⟩
              · rw [q5, if_neg q1, if_neg q2, if_neg q3]
              · rw [q2, old]
                by_cases z5 : k = 5
                · rw [if_pos z5]
                rw [if_neg z5]
                by_cases z4 : k = 4
                · rw [if_pos z4]
                rw [if_neg z4]
                by_cases z0 : k = 0
                · rw [if_pos z0]
                · exact absurd ⟨rfl, z5, z4, z0, k0⟩ q1
            · have : e < e' := by
                rcases Nat.lt_or_ge e e' with q | q
                · exact q
                · rcases sf.2.2.2.2.2 e (by omega) en with q | q
                  · rw [k0] at q; exact absurd q (by decide)
                  · rw [k0] at q; exact absurd q.1 (by decide)
              rw [ans_stop (j := e') (by omega) (by omega) (by rw [u16 e' he'.2]; exact sf.2.2.1) (by rw [u16 e' he'.2]; exact sf.2.2.2.1), cg, ← old]
              rcases r75 e en with ⟨q, -⟩ | ⟨-, q⟩
              · injection q with q; exact absurd q.symm ee
              · exact q
      · rw [if_neg k0] at old ⊢
        rcases r75 e en with ⟨-, -, -, -, q, -⟩ | ⟨-, q⟩
        · exact absurd q k0
        · exact q.trans old
  · by_cases e : i = n
    · rw [e]; exact n17
    · rw [u17 i (by omega)]; exact sd i h1 (by omega)
  · rw [u17 i (by omega)]; exact se i hi
  · by_cases kk : k = 5 ∨ k = 4
    · rw [if_pos kk]
      cases E with
      | none =>
        intro j h1 h2
        by_cases e : j = n
        · rw [e, n16]
          rcases kk with q | q
          · exact q
          · obtain ⟨e, e1, -⟩ := S'.four (h4 q).1 (h4 q).2
            cases e1
        · rw [u16 j (by omega)]; exact sf j h1 (by omega)
      | some e =>
        have he := lt e rfl
        refine ⟨he.1, by omega, by rw [u16 e he.2]; exact sf.2.2.1, by rw [u16 e he.2]; exact sf.2.2.2.1, by rw [u18 e he.2]; exact sf.2.2.2.2.1, fun j h1 h2 => ?_⟩
        by_cases ej : j = n
        · rw [ej, n16, n18]
          rcases kk with q | q
          · exact Or.inl q
          · exact Or.inr ⟨q, v4 q⟩
        · rw [u16 j (by omega), u18 j (by omega)]
          exact sf.2.2.2.2.2 j h1 (by omega)
    · have k5 : k ≠ 5 := fun z => kk (Or.inl z)
      have k4 : k ≠ 4 := fun z => kk (Or.inr z)
      rw [if_neg kk]
      exact ⟨s2, by omega, by rw [n16]; exact k5, by rw [n16]; exact k4, n18.trans (v0 k5 k4), fun j h1 h2 => by omega⟩
  · rw [c72, c73, d19, d20, upd_ne (by omega), upd_ne (by omega)]
    exact sg i hi
  · rw [c72, c73]
    by_cases e : i = n
    · rw [e, upd_eq, upd_eq]; exact ⟨rfl, rfl⟩
    · rw [upd_ne e, upd_ne e]; exact sh i h1 (by omega)
  · simp only [List.mem_cons, List.not_mem_nil, or_false] at hr
    rcases hr with rfl | rfl | rfl | rfl | rfl | rfl
    · rw [c70, upd_ne (by omega)]
    · rw [c71, upd_ne (by omega)]
    · rw [c72, upd_ne (by omega)]
    · rw [c73, upd_ne (by omega)]
    · rw [c74, upd_ne (by omega)]
    · rcases r75 i (by omega) with ⟨q, -⟩ | ⟨-, q⟩
      · have := (lt i q).1; omega
      · exact q
end PH
