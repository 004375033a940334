/-! a new line -/
section PC
variable {kd si fs : Nat → Int32} {s : Int32}
theorem ans_other : ∀ {m i : Nat}, si (i + m) ≠ s → ansF kd si s (m + 1) i = ansF kd si s m i := by
  intro m
  induction m with
  | zero => intro i h; exact if_neg (show ¬ si i = s from h)
  | succ m ih =>
    intro i h
    have := @ih (i + 1) (by rw [show i + 1 + m = i + (m + 1) by omega]; exact h)
    rw [ansF, this]
    rfl
theorem ans_stop : ∀ {m i j : Nat}, i ≤ j → j < i + m → kd j ≠ 5 → kd j ≠ 4 → ansF kd si s (m + 1) i = ansF kd si s m i := by
  intro m
  induction m with
  | zero => intro i j h1 h2; omega
  | succ m ih =>
    intro i j h1 h2 h3 h4
    by_cases e : j = i
    · subst e
      rw [ansF, if_neg h3, if_neg h4, ansF, if_neg h3, if_neg h4]
    · have := @ih (i + 1) j (by omega) (by omega) h3 h4
      rw [ansF, this]
      rfl
theorem ans_run : ∀ {m i : Nat}, (∀ j, i ≤ j → j < i + m → si j = s ∧ (kd j = 5 ∨ kd j = 4)) → ansF kd si s m i = -1 ∧ (si (i + m) = s → ansF kd si s (m + 1) i = if kd (i + m) = 5 then -1 else if kd (i + m) = 4 then -1 else if kd (i + m) = 0 then -1 else nI (i + m)) := by
  intro m
  induction m with
  | zero =>
    intro i h
    refine ⟨rfl, fun h => ?_⟩
    exact if_pos (show si i = s from h)
  | succ m ih =>
    intro i h
    have ih := @ih (i + 1) (fun j h1 h2 => h j (by omega) (by omega))
    have hi := h i (Nat.le_refl _) (by omega)
    rw [show i + 1 + m = i + (m + 1) by omega] at ih
    have st : ∀ k, ansF kd si s (k + 1) i = ansF kd si s k (i + 1) := by
      intro k
      rw [ansF, if_pos hi.1]
      rcases hi.2 with h5 | h4
      · rw [if_pos h5]
      · rw [if_neg (by rw [h4]; decide), if_pos h4]
    rw [st, st]
    exact ih
/-- the last entry of the sitting that began at line f: none, or e -/
def Last (kd fs : Nat → Int32) (f n : Nat) (E : Option Nat) : Prop := match E with
  | none => ∀ j, f ≤ j → j < n → kd j = 5
  | some e => f ≤ e ∧ e < n ∧ kd e ≠ 5 ∧ kd e ≠ 4 ∧ fs e = nI e ∧ ∀ j, e < j → j < n → kd j = 5 ∨ (kd j = 4 ∧ fs j = nI e)
def eV (E : Option Nat) : Int32 := match E with
  | none => -1
  | some e => nI e
end PC
section PE
variable {C D : CS} {s k : Int32} {n f N : Nat} {E : Option Nat}
theorem c_ebL (hn : n < 200) (hs : ∀ j, f ≤ j → j < n → gA C 71 j = gA C 71 n) (hf : ∀ j, j < f → gA C 71 j ≠ gA C 71 n) (hE : Last (gA C 70) (gA C 74) f n E) : ∀ (m z : Nat), m ≤ n → f ≤ m → (∀ e, E = some e → e < m) → m < z → (f_X4_entryBefore_L4 N (nI n) C z (nI m - 1) = some (.inr ()) ∧ E = none) ∨ ∃ e, f_X4_entryBefore_L4 N (nI n) C z (nI m - 1) = some (.inl (nI e)) ∧ E = some e := by
  intro m
  induction m with
  | zero =>
    intro z h1 h2 h3 hz
    obtain ⟨z, rfl, -⟩ := sc hz
    left
    rw [f_X4_entryBefore_L4, if_pos (by decide)]
    refine ⟨rfl, ?_⟩
    cases E with
    | none => rfl
    | some e => have := h3 e rfl; omega
  | succ m ih =>
    intro z h1 h2 h3 hz
    obtain ⟨z, rfl, hz⟩ := sc hz
    rw [f_X4_entryBefore_L4, nI_pred, if_neg (show ¬ nI m < 0 from nI_nlt (b := 0) (by omega) (by omega)), inb_nI (i := m) (by omega) (by decide), inb_nI (i := n) (by omega) (by decide), nI_clamp (n := m) (by omega), nI_clamp (n := n) (by omega), if_pos rfl, if_pos rfl, if_pos rfl, if_pos rfl]
    by_cases cf : f ≤ m
    · rw [if_pos (hs m cf (by omega))]
      by_cases c5 : gA C 70 m = 5
      · rw [if_pos c5, show nI m + -1 = nI m - 1 from (Int32.sub_eq_add_neg _ _).symm]
        refine ih z (by omega) cf (fun e he => ?_) (by omega)
        have := h3 e he
        by_cases c : e = m
        · subst c
          subst he
          exact absurd c5 hE.2.2.1
        · omega
      · rw [if_neg c5]
        right
        cases E with
        | none => exact absurd (hE m cf (by omega)) c5
        | some e =>
          have he := h3 e rfl
          refine ⟨e, ?_, rfl⟩
          by_cases c : e = m
          · subst c
            rw [hE.2.2.2.2.1]
          · rcases hE.2.2.2.2.2 m (by omega) (by omega) with q | q
            · exact absurd q c5
            · rw [q.2]
    · have : f = m + 1 := by omega
      rw [if_neg (hf m (by omega))]
      left
      refine ⟨rfl, ?_⟩
      cases E with
      | none => rfl
      | some e => have := h3 e rfl; have := hE.1; omega
theorem c_eb (hn : n < 200) (hfn : f ≤ n) (hs : ∀ j, f ≤ j → j < n → gA C 71 j = gA C 71 n) (hf : ∀ j, j < f → gA C 71 j ≠ gA C 71 n) (hE : Last (gA C 70) (gA C 74) f n E) (hN : 200 < N) : f_X4_entryBefore N (nI n) C = some (eV E) := by
  unfold f_X4_entryBefore
  rcases c_ebL (N := N) hn hs hf hE n N (Nat.le_refl _) hfn (fun e he => by subst he; exact hE.2.1) (by omega) with ⟨h1, h2⟩ | ⟨e, h1, h2⟩
  · rw [h1, bns_r, h2]; rfl
  · rw [h1, bns_l, h2]; rfl
theorem Last.cg {kd kd' fs fs' : Nat → Int32} (h : Last kd fs f n E) (a : ∀ j, j < n → kd' j = kd j) (b : ∀ j, j < n → fs' j = fs j) : Last kd' fs' f n E := by
  cases E with
  | none => exact fun j h1 h2 => (a j h2).trans (h j h1 h2)
  | some e =>
    obtain ⟨h1, h2, h3, h4, h5, h6⟩ := h
    refine ⟨h1, h2, by rw [a e h2]; exact h3, by rw [a e h2]; exact h4, (b e h2).trans h5, fun j j1 j2 => ?_⟩
    rw [a j j2, b j j2]
    exact h6 j j1 j2
theorem c_page {pg pl : Int32} (hn : n < 200) (h0 : n = 0 → pg = 1 ∧ pl = 1) (h1 : 0 < n → gA C 71 (n - 1) = gA C 71 n → gA C 73 (n - 1) ≠ 10 → pg = gA C 72 (n - 1) ∧ pl = gA C 73 (n - 1) + 1) (h2 : 0 < n → (gA C 71 (n - 1) ≠ gA C 71 n ∨ gA C 73 (n - 1) = 10) → pg = gA C 72 (n - 1) + 1 ∧ pl = 1) : f_X4_setPage (nI n) C = some (sA (sA C 72 n pg) 73 n pl) := by
  have ii : inb (nI n) 200 = true := inb_nI hn (by decide)
  have ik : (nI n).toNatClampNeg = n := nI_clamp (by omega)
  unfold f_X4_setPage f_X4_setPage_J51
  by_cases c : n = 0
  · obtain ⟨a, b⟩ := h0 c
    subst c
    rw [a, b, if_pos (show nI 0 = 0 from rfl), ii, ik, if_pos rfl]
    rfl
  · obtain ⟨m, rfl⟩ : ∃ m, n = m + 1 := ⟨n - 1, by omega⟩
    have mi : inb (nI m) 200 = true := inb_nI (by omega) (by decide)
    have mk : (nI m).toNatClampNeg = m := nI_clamp (by omega)
    have g3 : ∀ v : Int32, gA (sA C 72 (m + 1) v) 73 m = gA C 73 m := fun v => rfl
    rw [if_neg (show ¬ nI (m + 1) = 0 from nI_ne0 (by omega) (by omega)), nI_pred, mi, ii, mk, ik, if_pos rfl, if_pos rfl, if_pos rfl, if_pos rfl, if_pos rfl, if_pos rfl]
    rw [Nat.add_sub_cancel] at h1 h2
    by_cases c1 : gA C 71 m = gA C 71 (m + 1)
    · rw [if_pos c1]
      by_cases c2 : gA C 73 m = 10
      · obtain ⟨a, b⟩ := h2 (by omega) (Or.inr c2)
        rw [if_pos c2, a, b]
        rfl
      · obtain ⟨a, b⟩ := h1 (by omega) c1 c2
        rw [if_neg c2, a, b]
        rfl
    · obtain ⟨a, b⟩ := h2 (by omega) (Or.inl c1)
      rw [if_neg c1, a, b]
      rfl
def fsV (k : Int32) (n : Nat) (E : Option Nat) : Int32 := if k = 5 then -1 else if k = 4 then eV E else nI n
def an75 (a kd : Nat → Int32) (n : Nat) (k : Int32) (E : Option Nat) : Nat → Int32 := match E with
  | none => a
  | some e => if k ≠ 5 ∧ k ≠ 4 ∧ k ≠ 0 ∧ kd e = 0 then upd a e (nI n) else a
theorem c_entry (hn : n < 200) (hk : gA C 70 n = k) (he : f_X4_entryBefore N (nI n) C = some (eV E)) (hE : ∀ e, E = some e → e < n) : ∃ C1, f_X4_setEntry N (nI n) C = some C1 ∧ Fm [] [74, 75] [] C C1 ∧ gA C1 74 = upd (gA C 74) n (fsV k n E) ∧ gA C1 75 = an75 (gA C 75) (gA C 70) n k E := by
  have ii : inb (nI n) 200 = true := inb_nI hn (by decide)
  have ik : (nI n).toNatClampNeg = n := nI_clamp (by omega)
  have F : ∀ v, Fm [] [74, 75] [] C (sA C 74 n v) := fun v => Fm.A rfl
  unfold f_X4_setEntry fsV
  rw [he, bnd_some, ii, ik, if_pos rfl, hk, if_pos rfl, if_pos rfl, if_pos rfl, if_pos rfl]
  by_cases c5 : k = 5
  · rw [if_pos c5, if_pos c5]
    refine ⟨_, rfl, F _, rfl, ?_⟩
    cases E with
    | none => rfl
    | some e => unfold an75; simp only []; rw [if_neg (fun z => z.1 c5)]; rfl
  rw [if_neg c5, if_neg c5]
  by_cases c4 : k = 4
  · rw [if_pos c4, if_pos c4]
    refine ⟨_, rfl, F _, rfl, ?_⟩
    cases E with
    | none => rfl
    | some e => unfold an75; simp only []; rw [if_neg (fun z => z.2.1 c4)]; rfl
  rw [if_neg c4, if_neg c4, bd_eq]
  cases E with
  | none =>
    rw [show eV none = -1 from rfl, if_pos rfl]
    exact ⟨_, rfl, F _, rfl, rfl⟩
  | some e =>
    have en := hE e rfl
    have g7 : gA (sA C 74 n (nI n)) 70 = gA C 70 := rfl
    rw [show eV (some e) = nI e from rfl, if_neg (nI_m1 (by omega)), inb_nI (i := e) (by omega) (by decide), nI_clamp (n := e) (by omega), if_pos rfl, g7, hk, if_pos rfl]
    unfold an75
    simp only []
    by_cases c0 : gA C 70 e = 0
    · rw [if_pos c0]
      by_cases ck : k = 0
      · rw [if_pos ck, if_neg (fun z => z.2.2.1 ck)]
        exact ⟨_, rfl, F _, rfl, rfl⟩
      · rw [if_neg ck, if_pos (show k ≠ 5 ∧ k ≠ 4 ∧ k ≠ 0 ∧ gA C 70 e = 0 from ⟨c5, c4, ck, c0⟩), if_pos trivial]
        exact ⟨_, rfl, (F _).trans (Fm.A rfl), rfl, rfl⟩
    · rw [if_neg c0, if_neg (fun z => c0 z.2.2.2)]
      exact ⟨_, rfl, F _, rfl, rfl⟩
theorem c_ladd {pg pl : Int32} (h : gI C 6901 = nI n) (h2 : gI C 6900 = 200) (hn : n < 200) (hfn : f ≤ n) (hs : ∀ j, f ≤ j → j < n → gA C 71 j = s) (hf : ∀ j, j < f → gA C 71 j ≠ s) (hE : Last (gA C 70) (gA C 74) f n E) (hN : 200 < N) (p0 : n = 0 → pg = 1 ∧ pl = 1) (p1 : 0 < n → gA C 71 (n - 1) = s → gA C 73 (n - 1) ≠ 10 → pg = gA C 72 (n - 1) ∧ pl = gA C 73 (n - 1) + 1) (p2 : 0 < n → (gA C 71 (n - 1) ≠ s ∨ gA C 73 (n - 1) = 10) → pg = gA C 72 (n - 1) + 1 ∧ pl = 1) :
    ∃ C1, f_X4_add N k s C = some C1 ∧ Fm [6901] [70, 71, 72, 73, 74, 75] [] C C1 ∧ gI C1 6901 = nI (n + 1) ∧ gA C1 70 = upd (gA C 70) n k ∧ gA C1 71 = upd (gA C 71) n s ∧ gA C1 72 = upd (gA C 72) n pg ∧ gA C1 73 = upd (gA C 73) n pl ∧ gA C1 74 = upd (gA C 74) n (fsV k n E) ∧ gA C1 75 = an75 (upd (gA C 75) n (-1)) (gA C 70) n k E := by
  have ii : inb (nI n) 200 = true := inb_nI hn (by decide)
  have ik : (nI n).toNatClampNeg = n := nI_clamp (by omega)
  have lt : ∀ e, E = some e → e < n := fun e he => by subst he; exact hE.2.1
  unfold f_X4_add
  rw [h, h2, if_pos (show nI n < 200 from nI_lt (b := 200) hn (by decide)), ii, ik, if_pos rfl]
  simp only [bd_eq, gI_sA, h, ii, ik, if_true]
  have pgE : f_X4_setPage (nI n) (sA (sA (sA C 70 n k) 71 n s) 75 n (-1)) = some (sA (sA (sA (sA (sA C 70 n k) 71 n s) 75 n (-1)) 72 n pg) 73 n pl) := by
    have e71 : gA (sA (sA (sA C 70 n k) 71 n s) 75 n (-1)) 71 = upd (gA C 71) n s := rfl
    have e73 : gA (sA (sA (sA C 70 n k) 71 n s) 75 n (-1)) 73 = gA C 73 := rfl
    have e72 : gA (sA (sA (sA C 70 n k) 71 n s) 75 n (-1)) 72 = gA C 72 := rfl
    refine c_page hn p0 (fun q => ?_) (fun q => ?_) <;> rw [e71, e72, e73, upd_eq, upd_ne (show n - 1 ≠ n by omega)]
    · exact p1 q
    · exact p2 q
  rw [pgE, bnd_some]
  have h' : gI (sA (sA (sA (sA (sA C 70 n k) 71 n s) 75 n (-1)) 72 n pg) 73 n pl) 6901 = nI n := h
  have k70 : gA (sA (sA (sA (sA (sA C 70 n k) 71 n s) 75 n (-1)) 72 n pg) 73 n pl) 70 = upd (gA C 70) n k := rfl
  have k71 : gA (sA (sA (sA (sA (sA C 70 n k) 71 n s) 75 n (-1)) 72 n pg) 73 n pl) 71 = upd (gA C 71) n s := rfl
  have k74 : gA (sA (sA (sA (sA (sA C 70 n k) 71 n s) 75 n (-1)) 72 n pg) 73 n pl) 74 = gA C 74 := rfl
  have eb : f_X4_entryBefore N (nI n) (sA (sA (sA (sA (sA C 70 n k) 71 n s) 75 n (-1)) 72 n pg) 73 n pl) = some (eV E) := by
    refine c_eb (f := f) hn hfn (fun j a b => ?_) (fun j a => ?_) (hE.cg (fun j a => ?_) (fun j a => ?_)) hN
    · rw [k71, upd_eq, upd_ne (by omega)]; exact hs j a b
    · rw [k71, upd_eq, upd_ne (by omega)]; exact hf j a
    · rw [k70, upd_ne (by omega)]
    · rw [k74]
  obtain ⟨C1, q1, q2, q3, q4⟩ := c_entry hn (by rw [k70, upd_eq]) eb lt
  rw [h', q1, bnd_some]
  have ag := q2.ag (li := [6901]) (la := [70, 71, 72, 73]) (lb := []) rfl
  have g1 : gI C1 6901 = nI n := (ag.1 6901 (by decide)).trans h'
  refine ⟨_, rfl, ?_, ?_, (ag.2.1 70 (by decide)).trans k70, (ag.2.1 71 (by decide)).trans k71, ag.2.1 72 (by decide), ag.2.1 73 (by decide), q3, ?_⟩
  · exact ((((((Fm.A rfl).trans (Fm.A rfl)).trans (Fm.A rfl)).trans (Fm.A rfl)).trans (Fm.A rfl)).trans (q2.sub (by decide))).trans (Fm.I rfl)
  · rw [g1, nI_1]; rfl
  · refine q4.trans ?_
    cases E with
    | none => rfl
    | some e =>
      have := lt e rfl
      show (if k ≠ 5 ∧ k ≠ 4 ∧ k ≠ 0 ∧ upd (gA C 70) n k e = 0 then _ else _) = _
      rw [upd_ne (by omega)]
      rfl
end PE
