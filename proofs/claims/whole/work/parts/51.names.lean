/-! names -/
theorem lg0 {a b : Int64} : lg_cmp a b = 0 ↔ a = b := by
  unfold lg_cmp
  constructor
  · intro h
    by_cases c : a = b
    · exact c
    · exfalso
      revert h
      by_cases c1 : a > b
      · rw [if_pos c1]; decide
      · rw [if_neg c1, if_neg c]; decide
  · intro h
    subst h
    simp
theorem i_le {a b : Int32} : a ≤ b ↔ a.toInt ≤ b.toInt := Int32.le_iff_toInt_le
theorem i_lt {a b : Int32} : a < b ↔ a.toInt < b.toInt := Int32.lt_iff_toInt_lt
theorem i_eq {a b : Int32} : a = b ↔ a.toInt = b.toInt := Int32.toInt_inj.symm
theorem m1 : (-1 : Int32).toInt = -1 := by decide
theorem nI_m1 {n : Nat} (h : n < 2 ^ 31) : nI n ≠ -1 := by
  intro z
  have := i_eq.mp z
  rw [nI_toInt h, m1] at this
  omega
theorem nI_m1' {n : Nat} (h : n < 2 ^ 31) : ¬ nI n = -1 := nI_m1 h
def nmF (X : Nat → Int32) (W : Nat → Int64) (x : Int32) : Nat → Int64
  | 0 => 0
  | m + 1 => if X m = x then W m else nmF X W x m
def hdF (X : Nat → Int32) (W : Nat → Int64) (w : Int64) : Nat → Int32
  | 0 => -1
  | m + 1 => if W m = w then X m else if X m = hdF X W w m then -1 else hdF X W w m
theorem nmF_cg {X X' : Nat → Int32} {W W' : Nat → Int64} {x : Int32} : ∀ {m : Nat}, (∀ j, j < m → X j = X' j ∧ W j = W' j) → nmF X W x m = nmF X' W' x m := by
  intro m
  induction m with
  | zero => intro h; rfl
  | succ m ih =>
    intro h
    rw [nmF, nmF, (h m (by omega)).1, (h m (by omega)).2, ih (fun j hj => h j (by omega))]
theorem hdF_cg {X X' : Nat → Int32} {W W' : Nat → Int64} {w : Int64} : ∀ {m : Nat}, (∀ j, j < m → X j = X' j ∧ W j = W' j) → hdF X W w m = hdF X' W' w m := by
  intro m
  induction m with
  | zero => intro h; rfl
  | succ m ih =>
    intro h
    rw [hdF, hdF, (h m (by omega)).1, (h m (by omega)).2, ih (fun j hj => h j (by omega))]
/-- names are had by one each, at every time; they are names, of exhibits -/
def nmU (X : Nat → Int32) (W : Nat → Int64) (n : Nat) : Prop := (∀ m, m ≤ n → ∀ x y, nmF X W x m = nmF X W y m → nmF X W x m ≠ 0 → x = y) ∧ ∀ k, k < n → W k ≠ 0 ∧ X k ≠ -1
theorem nmU.le {X : Nat → Int32} {W : Nat → Int64} {n m : Nat} (h : nmU X W n) (hm : m ≤ n) : nmU X W m := ⟨fun k hk => h.1 k (by omega), fun k hk => h.2 k (by omega)⟩
theorem nmU.cg {X X' : Nat → Int32} {W W' : Nat → Int64} {n : Nat} (h : nmU X W n) (e : ∀ j, j < n → X j = X' j ∧ W j = W' j) : nmU X' W' n := by
  refine ⟨fun m hm x y h1 h2 => ?_, fun k hk => ?_⟩
  · have e' : ∀ z, nmF X W z m = nmF X' W' z m := fun z => nmF_cg (fun j hj => e j (by omega))
    rw [← e', ← e'] at h1
    rw [← e'] at h2
    exact h.1 m hm x y h1 h2
  · rw [← (e k hk).1, ← (e k hk).2]
    exact h.2 k hk
theorem hd_iff {X : Nat → Int32} {W : Nat → Int64} {w : Int64} (hw : w ≠ 0) : ∀ {n : Nat}, nmU X W n → ∀ x, x ≠ -1 → (hdF X W w n = x ↔ nmF X W x n = w) := by
  intro n
  induction n with
  | zero =>
    intro h x hx
    rw [hdF, nmF]
    exact ⟨fun z => absurd z.symm hx, fun z => absurd z.symm hw⟩
  | succ n ih =>
    intro h x hx
    have ih := ih (h.le (Nat.le_succ n))
    have hn := h.2 n (Nat.lt_succ_self n)
    rw [hdF]
    by_cases c1 : W n = w
    · rw [if_pos c1]
      constructor
      · intro z
        rw [nmF, if_pos z]
        exact c1
      · intro z
        have e1 : nmF X W (X n) (n + 1) = W n := by rw [nmF, if_pos rfl]
        exact h.1 (n + 1) (Nat.le_refl _) _ _ (e1.trans (c1.trans z.symm)) (by rw [e1]; exact hn.1)
    · rw [if_neg c1]
      by_cases c2 : X n = hdF X W w n
      · rw [if_pos c2]
        constructor
        · intro z; exact absurd z.symm hx
        · intro z
          rw [nmF] at z
          by_cases c3 : X n = x
          · rw [if_pos c3] at z; exact absurd z c1
          · rw [if_neg c3] at z
            exact absurd (c2.trans ((ih x hx).mpr z)) c3
      · rw [if_neg c2, ih x hx, nmF]
        by_cases c3 : X n = x
        · rw [if_pos c3]
          constructor
          · intro z; exact absurd (c3.trans ((ih x hx).mpr z).symm) c2
          · intro z; exact absurd z c1
        · rw [if_neg c3]
theorem hd_in {X : Nat → Int32} {W : Nat → Int64} {w : Int64} : ∀ {n : Nat}, hdF X W w n ≠ -1 → ∃ k, k < n ∧ hdF X W w n = X k := by
  intro n
  induction n with
  | zero => intro h; exact absurd rfl h
  | succ n ih =>
    intro h
    rw [hdF] at h ⊢
    by_cases c1 : W n = w
    · rw [if_pos c1]; exact ⟨n, Nat.lt_succ_self n, rfl⟩
    · rw [if_neg c1] at h ⊢
      by_cases c2 : X n = hdF X W w n
      · rw [if_pos c2] at h; exact absurd rfl h
      · rw [if_neg c2] at h ⊢
        obtain ⟨k, k1, k2⟩ := ih h
        exact ⟨k, by omega, k2⟩
/-- a new name -/
theorem nmU.add {X : Nat → Int32} {W : Nat → Int64} {n : Nat} (h : nmU X W n) (h0 : W n ≠ 0) (h1 : X n ≠ -1) (h2 : hdF X W (W n) n = -1) : nmU X W (n + 1) := by
  refine ⟨fun m hm x y e1 e2 => ?_, fun k hk => ?_⟩
  · rcases Nat.lt_or_ge m (n + 1) with c | c
    · exact h.1 m (by omega) x y e1 e2
    · have : m = n + 1 := by omega
      subst this
      have no : ∀ z, nmF X W z n = W n → z = -1 := by
        intro z hz
        by_cases c1 : z = -1
        · exact c1
        · exact ((hd_iff h0 h z c1).mpr hz).symm.trans h2
      rw [nmF, nmF] at e1
      rw [nmF] at e2
      have nm1 : nmF X W (-1) n = 0 := by
        have : ∀ m, m ≤ n → nmF X W (-1) m = 0 := by
          intro m
          induction m with
          | zero => intro _; rfl
          | succ m ih =>
            intro hm
            rw [nmF, if_neg (h.2 m (by omega)).2]
            exact ih (by omega)
        exact this n (Nat.le_refl _)
      by_cases c1 : X n = x <;> by_cases c2 : X n = y
      · exact c1.symm.trans c2
      · rw [if_pos c1, if_neg c2] at e1
        have := no y e1.symm
        rw [this, nm1] at e1
        exact absurd e1 h0
      · rw [if_neg c1, if_pos c2] at e1
        have := no x e1
        rw [this, nm1] at e1
        exact absurd e1.symm h0
      · rw [if_neg c1, if_neg c2] at e1
        rw [if_neg c1] at e2
        exact h.1 n (Nat.le_refl _) x y e1 e2
  · rcases Nat.lt_or_ge k n with c | c
    · exact h.2 k c
    · have : k = n := by omega
      subst this
      exact ⟨h0, h1⟩
/-- the first p of sorted lines are those up to l -/
theorem pre_ex {L : Nat → Int32} {l : Int32} : ∀ {n : Nat}, (∀ j k, j ≤ k → k < n → L j ≤ L k) → ∃ p, p ≤ n ∧ ∀ k, k < n → (k < p ↔ ¬ l < L k) := by
  intro n
  induction n with
  | zero => intro _; exact ⟨0, Nat.le_refl _, fun k hk => by omega⟩
  | succ n ih =>
    intro h
    by_cases c : l < L n
    · obtain ⟨p, p1, p2⟩ := ih (fun j k h1 h2 => h j k h1 (by omega))
      refine ⟨p, by omega, fun k hk => ?_⟩
      by_cases e : k = n
      · subst e
        exact ⟨fun z => by omega, fun z => absurd c z⟩
      · exact p2 k (by omega)
    · refine ⟨n + 1, Nat.le_refl _, fun k hk => ⟨fun _ z => c ?_, fun _ => hk⟩⟩
      have := h k n (by omega) (by omega)
      rw [i_lt] at z ⊢
      rw [i_le] at this
      omega
section PN
variable {C D : CS} {l x : Int32} {w : Int64} {n p N : Nat}
theorem c_holderL (h : gI C 9401 = nI n) (hn : n ≤ 200) (hp : p ≤ n) (hq : ∀ k, k < n → (k < p ↔ ¬ l < gA C 95 k)) : ∀ m i z : Nat, i + m = n → i ≤ p → m < z → f_X6_holder_L6 N w l C z (hdF (gA C 96) (gB C 97) w i) (nI i) = some (hdF (gA C 96) (gB C 97) w p) := by
  intro m
  induction m with
  | zero =>
    intro i z hi hip hz
    obtain ⟨z, rfl, -⟩ := sc hz
    have : i = p := by omega
    rw [f_X6_holder_L6, h, if_pos (nI_le (by omega) (by omega)), this]
  | succ m ih =>
    intro i z hi hip hz
    obtain ⟨z, rfl, hz⟩ := sc hz
    rw [f_X6_holder_L6, h, if_neg (nI_ge (by omega) (by omega)), inb_nI (by omega) (by decide), nI_clamp (by omega), if_pos rfl, if_pos rfl, if_pos rfl, if_pos rfl, nI_1]
    by_cases c : l < gA C 95 i
    · rw [if_pos c]
      have : ¬ i < p := fun z => ((hq i (by omega)).mp z) c
      rw [show i = p by omega]
    · rw [if_neg c]
      have c' := (hq i (by omega)).mpr c
      have ih := ih (i + 1) z (by omega) (by omega) (by omega)
      rw [hdF] at ih
      by_cases c1 : gB C 97 i = w
      · rw [if_pos (lg0.mpr c1)]
        rw [if_pos c1] at ih
        exact ih
      · rw [if_neg (fun z => c1 (lg0.mp z))]
        rw [if_neg c1] at ih
        by_cases c2 : gA C 96 i = hdF (gA C 96) (gB C 97) w i
        · rw [if_pos c2]
          rw [if_pos c2] at ih
          exact ih
        · rw [if_neg c2]
          rw [if_neg c2] at ih
          exact ih
theorem c_holder (h : gI C 9401 = nI n) (hn : n ≤ 200) (hp : p ≤ n) (hq : ∀ k, k < n → (k < p ↔ ¬ l < gA C 95 k)) (hN : 200 < N) : f_X6_holder N w l C = some (hdF (gA C 96) (gB C 97) w p) := by
  unfold f_X6_holder
  rw [show f_X6_holder_L6 N w l C N (-1) 0 = f_X6_holder_L6 N w l C N (hdF (gA C 96) (gB C 97) w 0) (nI 0) from rfl, c_holderL h hn hp hq n 0 N (by omega) (by omega) (by omega), bnd_some]
theorem c_nameL (h : gI C 9401 = nI n) (hn : n ≤ 200) (hp : p ≤ n) (hq : ∀ k, k < n → (k < p ↔ ¬ l < gA C 95 k)) : ∀ m i z : Nat, i + m = n → i ≤ p → m < z → f_X6_nameOf_L5 N x l C z (nmF (gA C 96) (gB C 97) x i) (nI i) = some (nmF (gA C 96) (gB C 97) x p) := by
  intro m
  induction m with
  | zero =>
    intro i z hi hip hz
    obtain ⟨z, rfl, -⟩ := sc hz
    have : i = p := by omega
    rw [f_X6_nameOf_L5, h, if_pos (nI_le (by omega) (by omega)), this]
  | succ m ih =>
    intro i z hi hip hz
    obtain ⟨z, rfl, hz⟩ := sc hz
    rw [f_X6_nameOf_L5, h, if_neg (nI_ge (by omega) (by omega)), inb_nI (by omega) (by decide), nI_clamp (by omega), if_pos rfl, if_pos rfl, if_pos rfl, nI_1]
    by_cases c : l < gA C 95 i
    · rw [if_pos c]
      have : ¬ i < p := fun z => ((hq i (by omega)).mp z) c
      rw [show i = p by omega]
    · rw [if_neg c]
      have c' := (hq i (by omega)).mpr c
      have ih := ih (i + 1) z (by omega) (by omega) (by omega)
      rw [nmF] at ih
      by_cases c1 : gA C 96 i = x
      · rw [if_pos c1]
        rw [if_pos c1] at ih
        exact ih
      · rw [if_neg c1]
        rw [if_neg c1] at ih
        exact ih
theorem c_nameOf (h : gI C 9401 = nI n) (hn : n ≤ 200) (hp : p ≤ n) (hq : ∀ k, k < n → (k < p ↔ ¬ l < gA C 95 k)) (hN : 200 < N) : f_X6_nameOf N x l C = some (nmF (gA C 96) (gB C 97) x p) := by
  unfold f_X6_nameOf
  rw [show f_X6_nameOf_L5 N x l C N 0 0 = f_X6_nameOf_L5 N x l C N (nmF (gA C 96) (gB C 97) x 0) (nI 0) from rfl, c_nameL h hn hp hq n 0 N (by omega) (by omega) (by omega), bnd_some]
theorem d_nameAtL (h : gI D 11323 = nI n) (hn : n ≤ 200) (hp : p ≤ n) (hq : ∀ k, k < n → (k < p ↔ ¬ l < gA D 134 k)) : ∀ m i z : Nat, i + m = n → m < z → f_X12_nameAt_L5 N x l D z (nmF (gA D 133) (gB D 135) x (min i p)) (nI i) = some (nmF (gA D 133) (gB D 135) x p) := by
  intro m
  induction m with
  | zero =>
    intro i z hi hz
    obtain ⟨z, rfl, -⟩ := sc hz
    rw [f_X12_nameAt_L5, h, if_pos (nI_le (by omega) (by omega)), show min i p = p by omega]
  | succ m ih =>
    intro i z hi hz
    obtain ⟨z, rfl, hz⟩ := sc hz
    rw [f_X12_nameAt_L5, h, if_neg (nI_ge (by omega) (by omega)), inb_nI (by omega) (by decide), nI_clamp (by omega), if_pos rfl, if_pos rfl, if_pos rfl, nI_1]
    have ih := ih (i + 1) z (by omega) (by omega)
    have q := hq i (by omega)
    by_cases c : l < gA D 134 i
    · have : ¬ i < p := fun z => (q.mp z) c
      rw [show min (i + 1) p = p by omega] at ih
      rw [show min i p = p by omega, if_pos c, ih]
      split <;> rfl
    · have c' := q.mpr c
      rw [show min (i + 1) p = i + 1 by omega, nmF] at ih
      rw [show min i p = i by omega, if_neg c]
      by_cases c1 : gA D 133 i = x
      · rw [if_pos c1] at ih ⊢
        exact ih
      · rw [if_neg c1] at ih ⊢
        exact ih
theorem d_nameAt (h : gI D 11323 = nI n) (hn : n ≤ 200) (hp : p ≤ n) (hq : ∀ k, k < n → (k < p ↔ ¬ l < gA D 134 k)) (hN : 200 < N) : f_X12_nameAt N x l D = some (nmF (gA D 133) (gB D 135) x p) := by
  unfold f_X12_nameAt
  have := d_nameAtL (N := N) (x := x) h hn hp hq n 0 N (by omega) (by omega)
  rw [show min 0 p = 0 by omega] at this
  rw [show f_X12_nameAt_L5 N x l D N 0 0 = f_X12_nameAt_L5 N x l D N (nmF (gA D 133) (gB D 135) x 0) (nI 0) from rfl, this, bnd_some]
theorem d_namedL {nX : Nat} (h : gI D 11323 = nI n) (hX : gI D 11322 = nI nX) (hx20 : nX ≤ 20) (hn : n ≤ 200) (hp : p ≤ n) (hq : ∀ k, k < n → (k < p ↔ ¬ l < gA D 134 k)) (hU : nmU (gA D 133) (gB D 135) n) (hx : ∀ k, k < n → ∃ y, y < nX ∧ gA D 133 k = nI y) (hw : w ≠ 0) (hN : 200 < N) : ∀ m i z : Nat, i + m = nX → (∀ j, j < i → nmF (gA D 133) (gB D 135) (nI j) p ≠ w) → m < z → f_X12_named_L3 N w l D z (nI i) = some (if hdF (gA D 133) (gB D 135) w p = -1 then .inr () else .inl (hdF (gA D 133) (gB D 135) w p)) := by
  intro m
  induction m with
  | zero =>
    intro i z hi hj hz
    obtain ⟨z, rfl, -⟩ := sc hz
    rw [f_X12_named_L3, hX, if_pos (nI_le (by omega) (by omega))]
    by_cases c : hdF (gA D 133) (gB D 135) w p = -1
    · rw [if_pos c]
    · exfalso
      obtain ⟨k, k1, k2⟩ := hd_in c
      obtain ⟨y, y1, y2⟩ := hx k (by omega)
      have := (hd_iff hw (hU.le hp) (nI y) (nI_m1 (by omega))).mp (k2.trans y2)
      exact hj y (by omega) this
  | succ m ih =>
    intro i z hi hj hz
    obtain ⟨z, rfl, hz⟩ := sc hz
    rw [f_X12_named_L3, hX, if_neg (nI_ge (by omega) (by omega)), d_nameAt h hn hp hq hN, bnd_some, nI_1]
    by_cases c : nmF (gA D 133) (gB D 135) (nI i) p = w
    · have := (hd_iff hw (hU.le hp) (nI i) (nI_m1 (by omega))).mpr c
      rw [if_pos (lg0.mpr c), this, if_neg (nI_m1 (by omega))]
    · rw [if_neg (fun z => c (lg0.mp z)), ih (i + 1) z (by omega) (fun j h1 => ?_) (by omega)]
      by_cases e : j = i
      · subst e; exact c
      · exact hj j (by omega)
theorem d_named {nX : Nat} (h : gI D 11323 = nI n) (hX : gI D 11322 = nI nX) (hx20 : nX ≤ 20) (hn : n ≤ 200) (hp : p ≤ n) (hq : ∀ k, k < n → (k < p ↔ ¬ l < gA D 134 k)) (hU : nmU (gA D 133) (gB D 135) n) (hx : ∀ k, k < n → ∃ y, y < nX ∧ gA D 133 k = nI y) (hw : w ≠ 0) (hN : 200 < N) : f_X12_named N w l D = some (hdF (gA D 133) (gB D 135) w p) := by
  unfold f_X12_named
  rw [show f_X12_named_L3 N w l D N 0 = f_X12_named_L3 N w l D N (nI 0) from rfl, d_namedL h hX hx20 hn hp hq hU hx hw hN nX 0 N (by omega) (fun j hj => by omega) (by omega)]
  by_cases c : hdF (gA D 133) (gB D 135) w p = -1
  · rw [if_pos c, bns_r, c]
  · rw [if_neg c, bns_l]
/-- how many exhibits there are -/
theorem c_exL {nX : Nat} (h : gI C 9401 = nI n) (hn : n ≤ 200) (h20 : nX ≤ 20) (hx : ∀ k, k < n → ∃ y, y < nX ∧ gA C 96 k = nI y) : ∀ m i z v : Nat, i + m = n → v ≤ nX → (v = nX ∨ ∃ k, i ≤ k ∧ k < n ∧ gA C 96 k = nI (nX - 1)) → m < z → f_X6_exhibits_L4 N C z (nI v) (nI i) = some (nI nX) := by
  intro m
  induction m with
  | zero =>
    intro i z v hi h1 h2 hz
    obtain ⟨z, rfl, -⟩ := sc hz
    rw [f_X6_exhibits_L4, h, if_pos (nI_le (by omega) (by omega))]
    rcases h2 with h2 | ⟨k, k1, k2, -⟩
    · rw [h2]
    · omega
  | succ m ih =>
    intro i z v hi h1 h2 hz
    obtain ⟨z, rfl, hz⟩ := sc hz
    rw [f_X6_exhibits_L4, h, if_neg (nI_ge (by omega) (by omega)), inb_nI (by omega) (by decide), nI_clamp (by omega), if_pos rfl, nI_1]
    obtain ⟨y, y1, y2⟩ := hx i (by omega)
    rw [y2, nI_1]
    by_cases c : v < y + 1
    · rw [if_pos (nI_lt c (by omega))]
      refine ih (i + 1) z (y + 1) (by omega) (by omega) ?_ (by omega)
      rcases h2 with h2 | ⟨k, k1, k2, k3⟩
      · left; omega
      · by_cases e : k = i
        · subst e
          left
          have := (nI_eq (by omega) (by omega)).mp (y2.symm.trans k3)
          omega
        · right; exact ⟨k, by omega, k2, k3⟩
    · rw [if_neg (nI_nlt (by omega) (by omega))]
      refine ih (i + 1) z v (by omega) h1 ?_ (by omega)
      rcases h2 with h2 | ⟨k, k1, k2, k3⟩
      · left; exact h2
      · by_cases e : k = i
        · subst e
          left
          have := (nI_eq (by omega) (by omega)).mp (y2.symm.trans k3)
          omega
        · right; exact ⟨k, by omega, k2, k3⟩
theorem c_ex {nX : Nat} (h : gI C 9401 = nI n) (hn : n ≤ 200) (h20 : nX ≤ 20) (hx : ∀ k, k < n → ∃ y, y < nX ∧ gA C 96 k = nI y) (h0 : nX = 0 ∨ ∃ k, k < n ∧ gA C 96 k = nI (nX - 1)) (hN : 200 < N) : f_X6_exhibits N C = some (nI nX) := by
  unfold f_X6_exhibits
  rw [show f_X6_exhibits_L4 N C N 0 0 = f_X6_exhibits_L4 N C N (nI 0) (nI 0) from rfl, c_exL h hn h20 hx n 0 N 0 (by omega) (by omega) ?_ (by omega), bnd_some]
  rcases h0 with h0 | ⟨k, k1, k2⟩
  · left; omega
  · right; exact ⟨k, by omega, k1, k2⟩
/-- names on both sides: n of them, of nX exhibits -/
def RN (C D : CS) (n nX : Nat) : Prop := n ≤ 200 ∧ nX ≤ 20 ∧ gI C 9401 = nI n ∧ gI D 11323 = nI n ∧ gI D 11322 = nI nX ∧ gI C 9400 = 200 ∧ (∀ i, i < n → gA C 95 i = gA D 134 i ∧ gA C 96 i = gA D 133 i ∧ gB C 97 i = gB D 135 i) ∧ nmU (gA D 133) (gB D 135) n ∧ (∀ k, k < n → ∃ y, y < nX ∧ gA D 133 k = nI y) ∧ (nX = 0 ∨ ∃ k, k < n ∧ gA D 133 k = nI (nX - 1)) ∧ ∀ j k, j ≤ k → k < n → gA D 134 j ≤ gA D 134 k
/-- who has a name behind a line -/
def hdr (D : CS) (n : Nat) (w : Int64) (l : Int32) (r : Int32) : Prop := ∃ p, p ≤ n ∧ (∀ k, k < n → (k < p ↔ ¬ l < gA D 134 k)) ∧ r = hdF (gA D 133) (gB D 135) w p
theorem RN.holder {nX : Nat} (R : RN C D n nX) (hw : w ≠ 0) (hN : 200 < N) : ∃ r, f_X6_holder N w l C = some r ∧ f_X12_named N w l D = some r ∧ hdr D n w l r ∧ (r = -1 ∨ ∃ y, y < nX ∧ r = nI y) := by
  obtain ⟨r1, r2, r3, r4, r5, -, r6, r7, r8, r9, r10⟩ := R
  obtain ⟨p, p1, p2⟩ := pre_ex (l := l) r10
  refine ⟨hdF (gA D 133) (gB D 135) w p, ?_, d_named r4 r5 r2 r1 p1 p2 r7 r8 hw hN, ⟨p, p1, p2, rfl⟩, ?_⟩
  · rw [c_holder (p := p) r3 r1 p1 (fun k hk => by rw [(r6 k hk).1]; exact p2 k hk) hN]
    rw [hdF_cg (fun j hj => (r6 j (by omega)).2)]
  · by_cases c : hdF (gA D 133) (gB D 135) w p = -1
    · left; exact c
    · right
      obtain ⟨k, k1, k2⟩ := hd_in c
      obtain ⟨y, y1, y2⟩ := r8 k (by omega)
      exact ⟨y, y1, k2.trans y2⟩
theorem RN.ex {nX : Nat} (R : RN C D n nX) (hN : 200 < N) : f_X6_exhibits N C = some (nI nX) := by
  obtain ⟨r1, r2, r3, r4, r5, -, r6, r7, r8, r9, r10⟩ := R
  refine c_ex r3 r1 r2 (fun k hk => ?_) ?_ hN
  · rw [(r6 k hk).2.1]; exact r8 k hk
  · rcases r9 with r9 | ⟨k, k1, k2⟩
    · left; exact r9
    · right; exact ⟨k, k1, by rw [(r6 k k1).2.1]; exact k2⟩
theorem nm_in {X : Nat → Int32} {W : Nat → Int64} : ∀ {m : Nat}, nmF X W x m = 0 ∨ ∃ k, k < m ∧ nmF X W x m = W k := by
  intro m
  induction m with
  | zero => left; rfl
  | succ m ih =>
    rw [nmF]
    by_cases c : X m = x
    · rw [if_pos c]; right; exact ⟨m, by omega, rfl⟩
    · rw [if_neg c]
      rcases ih with h | ⟨k, k1, k2⟩
      · left; exact h
      · right; exact ⟨k, by omega, k2⟩
theorem RN.name {nX : Nat} (R : RN C D n nX) (hN : 200 < N) : ∃ w, f_X6_nameOf N x l C = some w ∧ f_X12_nameAt N x l D = some w ∧ (w = 0 ∨ ∃ k, k < n ∧ w = gB D 135 k) := by
  obtain ⟨r1, r2, r3, r4, r5, -, r6, r7, r8, r9, r10⟩ := R
  obtain ⟨p, p1, p2⟩ := pre_ex (l := l) r10
  refine ⟨nmF (gA D 133) (gB D 135) x p, ?_, d_nameAt r4 r1 p1 p2 hN, ?_⟩
  · rw [c_nameOf (p := p) r3 r1 p1 (fun k hk => by rw [(r6 k hk).1]; exact p2 k hk) hN]
    rw [nmF_cg (fun j hj => (r6 j (by omega)).2)]
  · rcases nm_in (x := x) (X := gA D 133) (W := gB D 135) (m := p) with h | ⟨k, k1, k2⟩
    · left; exact h
    · right; exact ⟨k, by omega, k2⟩
end PN
