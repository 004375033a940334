/-! the rows of the small machine that read or change cells -/
def mm_at (h : mm_Hp) (r : Nat) (x : va_E) : Prop := 64 ≤ r ∧ r < h.2.1 + 64 ∧ h.1 r = x
abbrev mm_up (h : mm_Hp) (r : Nat) (x : va_E) : mm_Hp := (va_up h.1 r x, h.2)
abbrev mm_add (h : mm_Hp) (x : va_E) (N : Nat) : mm_Hp := (va_up h.1 (h.2.1 + 64) x, h.2.1 + 1, h.2.2 + N)
theorem mm_at.up {h : mm_Hp} {r : Nat} {x y : va_E} (a : mm_at h r x) : mm_at (mm_up h r y) r y := ⟨a.1, a.2.1, by simp [va_up]⟩
theorem mm_at.ne {h : mm_Hp} {r q : Nat} {x y : va_E} (a : mm_at h r x) (n : r ≠ q) : mm_at (mm_up h q y) r x := ⟨a.1, a.2.1, by simp [va_up, n, a.2.2]⟩
theorem mm_at.add {h : mm_Hp} {r N : Nat} {x y : va_E} (a : mm_at h r x) : mm_at (mm_add h y N) r x := ⟨a.1, by show r < h.2.1 + 1 + 64; have := a.2.1; omega, by have := a.2.1; simp [va_up, show ¬ r = h.2.1 + 64 by omega, a.2.2]⟩
theorem mm_at.new {h : mm_Hp} {N : Nat} {y : va_E} : mm_at (mm_add h y N) (h.2.1 + 64) y := ⟨by omega, by show h.2.1 + 64 < h.2.1 + 1 + 64; omega, by simp [va_up]⟩
theorem mm_at.inj {h : mm_Hp} {r : Nat} {x y : va_E} (a : mm_at h r x) (b : mm_at h r y) : x = y := a.2.2.symm.trans b.2.2
section MMH
variable {g : mm_G} {d : Nat} {M : mm_Me} {pc : Nat} {ls : List (Option Value)} {st : List Value} {h : mm_Hp} {Post : mm_Ou → mm_Hp → Prop}
theorem mm_at.ad {r : Nat} {x : va_E} (a : mm_at h r x) : ∃ k, r = k + 64 ∧ k < h.2.1 ∧ mm_ad g r = mm_B g + k := by
  obtain ⟨a1, a2, -⟩ := a
  exact ⟨r - 64, by omega, by omega, by simp [mm_ad, show ¬ r < 64 by omega]⟩
theorem mm_at.ws {r : Nat} {x : va_E} (a : mm_at h r x) : ∃ k, r = k + 64 ∧ k < h.2.1 ∧ (mm_ws g h.1 h.2.1)[k]? = some (mm_ad g r, mm_c g x) := by
  obtain ⟨k, h1, h2, h3⟩ := mm_at.ad (g := g) a
  refine ⟨k, h1, h2, ?_⟩
  rw [mm_ws_at h2, h3, ← h1, a.2.2]
theorem mm_set {r k : Nat} {y : va_E} (hr : r = k + 64) (hk : k < h.2.1) {n : Nat} (hn : h.2.1 = n) : (mm_ws g h.1 n).set k (mm_ad g r, mm_c g y) = mm_ws g (va_up h.1 r y) n := by
  subst hn
  subst hr
  have : mm_ad g (k + 64) = mm_B g + k := by simp [mm_ad, show ¬ k + 64 < 64 by omega]
  rw [this, mm_ws_set hk]
/-- the heap's size is told by what lies in it and by what was made -/
theorem mm_sz {p : Program} {l : Launch} {e : Env} {R : Room} {s : State} {m : MethodId} {args : Array Value} {below : List Frame} {meth : Method} {c : Code} {H : Heap} {locs : List Loc} {cells slots n : Nat} {Q : State → Prop} {fr : JFrame} {w : Nat → va_E}
    (hB : mm_B g ≤ s.heap.size) (hc : s.heap.size + cells = mm_B g + n) (hP : va_P (mm_K g) mm_cl (mm_ws g w n) H) (hS : va_S (mm_A g) s.heap H locs)
    (k : H.size = mm_B g + n → W p l e R s m args below meth c H locs cells slots Q fr) : W p l e R s m args below meth c H locs cells slots Q fr := by
  intro T hT X
  have h1 := X.heapSize
  rw [hT] at h1
  refine k ?_ T hT X
  have h2 := hS.1
  cases n with
  | zero => omega
  | succ j =>
    have h3 := (hP j _ (mm_ws_at (by omega))).lt
    simp only at h3
    omega
theorem mm_heap {w1 : Nat → va_E} {pc' : Nat} {st' : List Value}
    (hk : ∀ (h' : mm_Hp) (p : Program) (e : Env) (R : Room) (s : State) (m : MethodId) (args : Array Value) (below : List Frame) (meth : Method) (c : Code) (H : Heap) (locs : List Loc) (cells slots : Nat) (LS : Array Slot) (Q : State → Prop),
      mm_X g d M h h' ls p R s m args meth c H locs cells slots LS → (∀ (H1 : Heap) (locs1 : List Loc), va_P (mm_K g) mm_cl (mm_ws g w1 h.2.1) H1 → va_S (mm_A g) s.heap H1 locs1 → W p (mm_l g) e R s m args below meth c H1 locs1 cells slots Q (F0 m pc' LS (st'.map (mm_v g)))) → W p (mm_l g) e R s m args below meth c H locs cells slots Q (F0 m pc LS (st.map (mm_v g))))
    (k : mm_P g d M pc' ls st' (w1, h.2) Post) : mm_P g d M pc ls st h Post := by
  obtain ⟨o, h', hp, k1, k2, k⟩ := k
  refine ⟨o, h', hp, k1, k2, fun p e R s m args below meth c H locs cells slots LS X => ?_⟩
  refine hk h' p e R s m args below meth c H locs cells slots LS _ X (fun H1 locs1 hP1 hS1 => ?_)
  refine mm_sz X.2.2.1.1 X.2.2.1.2 hP1 hS1 (fun hz => ?_)
  exact k p e R s m args below meth c H1 locs1 cells slots LS ⟨X.1, X.2.1, X.2.2.1, X.2.2.2.1, ⟨hz, hP1⟩, hS1, X.2.2.2.2.2.2⟩
def mm_kc (ci : Nat) (C : String) (T : u_T) (N : Nat) (ty : Nat → FieldType) : Prop :=
  mm_cl[ci]? = some (C, T, N) ∧ (∀ w ∈ u_ws C T N, w ∈ mm_tb) ∧ (∀ k, k < N → parseFieldDescriptor (T k).2.2.1 = some (ty k)) ∧ ∀ a, a < N → ∀ b, b < N → a ≠ b → (T a).2.1 ≠ (T b).2.1
def mm_lk (own : String) (index ci k : Nat) (C : String) (T : u_T) (N : Nat) (ty : Nat → FieldType) : Prop :=
  mm_kc ci C T N ty ∧ k < N ∧ ∃ ref, Cond.fieldLink own index ref (T k).2.1 (T k).2.2.1 ∈ mm_tb ∧ (ref = (T k).1 ∨ Cond.sameField ref (T k).1 (T k).2.1 (T k).2.2.1 ∈ mm_tb)
theorem mm_lk.same {own : String} {index ci k : Nat} {C : String} {T : u_T} {N : Nat} {ty : Nat → FieldType} {s : State} {args : Array Value} (hts : ∀ w ∈ mm_tb, w.before args s = true) {ref : String}
    (h : ref = (T k).1 ∨ Cond.sameField ref (T k).1 (T k).2.1 (T k).2.2.1 ∈ mm_tb) : ∀ x, s.fieldFound? (T k).1 (T k).2.1 (T k).2.2.1 = some x → s.fieldFound? ref (T k).2.1 (T k).2.2.1 = some x := by
  rcases h with h | h
  · rw [h]; exact fun _ q => q
  · exact fun x hx => u_same (hts _ h) x hx
theorem mm_get {r index ci k : Nat} {C : String} {T : u_T} {N : Nat} {ty : Nat → FieldType} {fs : List Value} {v : Value} (hl : mm_lk M.1.cls index ci k C T N ty) (hd : decode M.2.1 pc = .ok (.getfield index, 3)) (a : mm_at h r (.inr (ci, fs))) (hv : fs[k]? = some v)
    (kk : mm_P g d M (pc + 3) ls (v :: st) h Post) : mm_P g d M pc ls (.ref r :: st) h Post := by
  refine mm_same (fun h' p e R s m args below meth c H locs cells slots LS Q X hx hb hL kk => ?_) kk
  obtain ⟨q, h1, h2, h3⟩ := a.ws (g := g)
  obtain ⟨⟨c1, c2, c3, c4⟩, hkN, ref, l1, l2⟩ := hl
  have hts := X.1.2.2.2.2.2.2.2.1
  exact va_get (D := mm_K g) (ci := ci) (v := mm_v g v) (C := C) (T := T) (N := N) hx hb hts c2 X.1.2.2.2.2.1 X.1.2.2.2.2.2.2.2.2.1 X.2.2.2.2.1.2 q h3 c1 k hkN (hts _ l1) (mm_lk.same (own := M.1.cls) (index := index) (ci := ci) (C := C) (N := N) (ty := ty) hts l2) (by simp [hv]) hd (kk LS hL)
theorem mm_put {r index ci k : Nat} {C : String} {T : u_T} {N : Nat} {ty : Nat → FieldType} {fs : List Value} {v : Value} (hl : mm_lk M.1.cls index ci k C T N ty) (hfin : (T k).2.2.2 = false) (hd : decode M.2.1 pc = .ok (.putfield index, 3)) (a : mm_at h r (.inr (ci, fs))) (hn : ∀ v', v' = mm_v g v → narrow (ty k) v' = v') (hfit : ∀ v', v' = mm_v g v → fits (ty k) v' = true) (hlen : k < fs.length)
    (kk : mm_P g d M (pc + 3) ls st (mm_up h r (.inr (ci, fs.set k v))) Post) : mm_P g d M pc ls (v :: .ref r :: st) h Post := by
  refine mm_heap (fun h' p e R s m args below meth c H locs cells slots LS Q X kk => ?_) kk
  obtain ⟨q, h1, h2, h3⟩ := a.ws (g := g)
  obtain ⟨⟨c1, c2, c3, c4⟩, hkN, ref, l1, l2⟩ := hl
  have hts := X.1.2.2.2.2.2.2.2.1
  refine va_put (D := mm_K g) (ci := ci) (v := mm_v g v) (ty := ty k) (C := C) (T := T) (N := N) X.1.1 X.1.2.1 hts c2 ty c3 c4 X.1.2.2.2.2.1 X.1.2.2.2.2.2.2.2.2.1 X.2.2.2.2.1.2 (mm_D g h.1 h.2.1) X.2.2.2.2.2.1 q h3 c1 k hkN (hts _ l1) (mm_lk.same (own := M.1.cls) (index := index) (ci := ci) (C := C) (N := N) (ty := ty) hts l2) hfin (c3 k hkN) (hn _ rfl) (hfit _ rfl) (by simpa using hlen) hd (fun H1 locs1 hP1 hD1 hS1 => kk H1 locs1 ?_ hS1)
  have hs := mm_set (g := g) (y := .inr (ci, fs.set k v)) h1 h2 rfl
  rw [← hs]
  simpa [mm_c, List.map_set] using hP1
theorem mm_putF {r index ci k : Nat} {C : String} {T : u_T} {N : Nat} {ty : Nat → FieldType} {fs : List Value} {v : Value} (hl : mm_lk M.1.cls index ci k C T N ty) (hfin : (T k).2.2.2 = true) (hin : M.1.name = "<init>") (hown : (T k).1 = M.1.cls) (hd : decode M.2.1 pc = .ok (.putfield index, 3)) (a : mm_at h r (.inr (ci, fs))) (hn : ∀ v', v' = mm_v g v → narrow (ty k) v' = v') (hfit : ∀ v', v' = mm_v g v → fits (ty k) v' = true) (hlen : k < fs.length)
    (kk : mm_P g d M (pc + 3) ls st (mm_up h r (.inr (ci, fs.set k v))) Post) : mm_P g d M pc ls (v :: .ref r :: st) h Post := by
  refine mm_heap (fun h' p e R s m args below meth c H locs cells slots LS Q X kk => ?_) kk
  obtain ⟨q, h1, h2, h3⟩ := a.ws (g := g)
  obtain ⟨⟨c1, c2, c3, c4⟩, hkN, ref, l1, l2⟩ := hl
  have hts := X.1.2.2.2.2.2.2.2.1
  refine va_putF (D := mm_K g) (ci := ci) (v := mm_v g v) (ty := ty k) (C := C) (T := T) (N := N) X.1.1 X.1.2.1 hts c2 ty c3 c4 X.1.2.2.2.2.1 X.1.2.2.2.2.2.2.2.2.1 X.2.2.2.2.1.2 (mm_D g h.1 h.2.1) X.2.2.2.2.2.1 q h3 c1 k hkN (hts _ l1) (mm_lk.same (own := M.1.cls) (index := index) (ci := ci) (C := C) (N := N) (ty := ty) hts l2) hfin (X.1.2.2.2.2.2.2.1.trans hin) hown (c3 k hkN) (hn _ rfl) (hfit _ rfl) (by simpa using hlen) hd (fun H1 locs1 hP1 hD1 hS1 => kk H1 locs1 ?_ hS1)
  have hs := mm_set (g := g) (y := .inr (ci, fs.set k v)) h1 h2 rfl
  rw [← hs]
  simpa [mm_c, List.map_set] using hP1
theorem mm_iald {r n : Nat} {f : Nat → Int32} {i : Int32} (hd : decode M.2.1 pc = .ok (.iaload, 1)) (a : mm_at h r (.inl (0, n, .inl f))) (hi : vp_in i n) (kk : mm_P g d M (pc + 1) ls (.int (f i.toNatClampNeg) :: st) h Post) : mm_P g d M pc ls (.int i :: .ref r :: st) h Post := by
  refine mm_same (fun h' p e R s m args below meth c H locs cells slots LS Q X hx hb hL kk => ?_) kk
  obtain ⟨q, h1, h2, h3⟩ := a.ws (g := g)
  exact va_iald hx hb X.1.2.2.2.2.2.2.2.2.1 X.2.2.2.2.1.2 q 0 h3 rfl hi hd (kk LS hL)
theorem mm_bald {r n : Nat} {f : Nat → Int32} {i : Int32} (hd : decode M.2.1 pc = .ok (.baload, 1)) (a : mm_at h r (.inl (1, n, .inl f))) (hi : vp_in i n) (kk : mm_P g d M (pc + 1) ls (.int (f i.toNatClampNeg) :: st) h Post) : mm_P g d M pc ls (.int i :: .ref r :: st) h Post := by
  refine mm_same (fun h' p e R s m args below meth c H locs cells slots LS Q X hx hb hL kk => ?_) kk
  obtain ⟨q, h1, h2, h3⟩ := a.ws (g := g)
  exact va_bald hx hb X.1.2.2.2.2.2.2.2.2.1 X.2.2.2.2.1.2 q 1 h3 rfl hi hd (kk LS hL)
theorem mm_lald {r n : Nat} {f : Nat → Int64} {i : Int32} (hd : decode M.2.1 pc = .ok (.laload, 1)) (a : mm_at h r (.inl (2, n, .inr (.inl f)))) (hi : vp_in i n) (kk : mm_P g d M (pc + 1) ls (.long (f i.toNatClampNeg) :: st) h Post) : mm_P g d M pc ls (.int i :: .ref r :: st) h Post := by
  refine mm_same (fun h' p e R s m args below meth c H locs cells slots LS Q X hx hb hL kk => ?_) kk
  obtain ⟨q, h1, h2, h3⟩ := a.ws (g := g)
  exact va_lald hx hb X.1.2.2.2.2.2.2.2.2.1 X.2.2.2.2.1.2 q 2 h3 rfl hi hd (kk LS hL)
theorem mm_iast {r n : Nat} {f : Nat → Int32} {i x : Int32} (hd : decode M.2.1 pc = .ok (.iastore, 1)) (a : mm_at h r (.inl (0, n, .inl f))) (hi : vp_in i n) (kk : mm_P g d M (pc + 1) ls st (mm_up h r (.inl (0, n, .inl (upd f i.toNatClampNeg x)))) Post) : mm_P g d M pc ls (.int x :: .int i :: .ref r :: st) h Post := by
  refine mm_heap (fun h' p e R s m args below meth c H locs cells slots LS Q X kk => ?_) kk
  obtain ⟨q, h1, h2, h3⟩ := a.ws (g := g)
  refine va_iast X.1.1 X.1.2.1 X.1.2.2.2.2.2.2.2.2.1 X.2.2.2.2.1.2 (mm_D g h.1 h.2.1) X.2.2.2.2.2.1 q 0 h3 rfl hi hd (fun H1 locs1 hP1 hD1 hS1 => kk H1 locs1 ?_ hS1)
  rw [← mm_set (g := g) h1 h2 rfl]
  exact hP1
theorem mm_bast {r n : Nat} {f : Nat → Int32} {i x : Int32} (hd : decode M.2.1 pc = .ok (.bastore, 1)) (a : mm_at h r (.inl (1, n, .inl f))) (hi : vp_in i n) (kk : mm_P g d M (pc + 1) ls st (mm_up h r (.inl (1, n, .inl (upd f i.toNatClampNeg (vp_nar .byte x))))) Post) : mm_P g d M pc ls (.int x :: .int i :: .ref r :: st) h Post := by
  refine mm_heap (fun h' p e R s m args below meth c H locs cells slots LS Q X kk => ?_) kk
  obtain ⟨q, h1, h2, h3⟩ := a.ws (g := g)
  refine va_bast X.1.1 X.1.2.1 X.1.2.2.2.2.2.2.2.2.1 X.2.2.2.2.1.2 (mm_D g h.1 h.2.1) X.2.2.2.2.2.1 q 1 h3 rfl hi hd (fun H1 locs1 hP1 hD1 hS1 => kk H1 locs1 ?_ hS1)
  rw [← mm_set (g := g) h1 h2 rfl]
  exact hP1
theorem mm_last {r n : Nat} {f : Nat → Int64} {i : Int32} {x : Int64} (hd : decode M.2.1 pc = .ok (.lastore, 1)) (a : mm_at h r (.inl (2, n, .inr (.inl f)))) (hi : vp_in i n) (kk : mm_P g d M (pc + 1) ls st (mm_up h r (.inl (2, n, .inr (.inl (vp_updL f i.toNatClampNeg x))))) Post) : mm_P g d M pc ls (.long x :: .int i :: .ref r :: st) h Post := by
  refine mm_heap (fun h' p e R s m args below meth c H locs cells slots LS Q X kk => ?_) kk
  obtain ⟨q, h1, h2, h3⟩ := a.ws (g := g)
  refine va_last X.1.1 X.1.2.1 X.1.2.2.2.2.2.2.2.2.1 X.2.2.2.2.1.2 (mm_D g h.1 h.2.1) X.2.2.2.2.2.1 q 2 h3 rfl hi hd (fun H1 locs1 hP1 hD1 hS1 => kk H1 locs1 ?_ hS1)
  rw [← mm_set (g := g) h1 h2 rfl]
  exact hP1
theorem mm_alen {r t : Nat} {x : vp_A} (ht : t < 3) (hd : decode M.2.1 pc = .ok (.arraylength, 1)) (a : mm_at h r (.inl (t, x))) (kk : mm_P g d M (pc + 1) ls (.int (Int32.ofNat x.1) :: st) h Post) : mm_P g d M pc ls (.ref r :: st) h Post := by
  refine mm_same (fun h' p e R s m args below meth c H locs cells slots LS Q X hx hb hL kk => ?_) kk
  obtain ⟨q, h1, h2, h3⟩ := a.ws (g := g)
  match t, ht, h3 with
  | 0, _, h3 => exact va_alen hx hb X.1.2.2.2.2.2.2.2.2.1 X.2.2.2.2.1.2 q 0 (ty := .int) h3 rfl rfl hd (kk LS hL)
  | 1, _, h3 => exact va_alen hx hb X.1.2.2.2.2.2.2.2.2.1 X.2.2.2.2.1.2 q 1 (ty := .byte) h3 rfl rfl hd (kk LS hL)
  | 2, _, h3 => exact va_alen hx hb X.1.2.2.2.2.2.2.2.2.1 X.2.2.2.2.1.2 q 2 (ty := .long) h3 rfl rfl hd (kk LS hL)
end MMH
