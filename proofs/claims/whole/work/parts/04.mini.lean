/-! A SMALL MACHINE OVER THE MACHINE: mm_P g d M pc ls st h Post: a frame of the method M that stands at pc with locals ls and operands st over the small heap h comes to its end, and Post holds of its end and of the small heap then. The cells of the small heap are the cells made since the base, in their order; the reference k + 64 is the k-th of them, one below 64 lies outside. -/
def mm_okw : Cond → Bool
  | .castable .. => true
  | .declares .. => true
  | w => goodWord w
def mm_tb : List Cond := lw_tbl.filter mm_okw
theorem mm_word {args a' : Array Value} {s U : State} {w : Cond} (hW : s.WarmedH U.vm) (hw : mm_okw w = true) (h : w.before args s = true) : w.before a' U = true := by
  cases w with
  | castable C T => exact va_Nw.use rfl (va_Nw.warmC hW (va_Nw.of rfl h))
  | declares x => exact va_Nw.use rfl (va_Nw.warmD hW (va_Nw.of rfl h))
  | _ => exact word_at hW (good_of_word hw) h
theorem mm_words {args a' : Array Value} {s U : State} (hW : s.WarmedH U.vm) (h : ∀ w ∈ mm_tb, w.before args s = true) : ∀ w ∈ mm_tb, w.before a' U = true := fun w hw => mm_word hW (List.mem_filter.mp hw).2 (h w hw)
abbrev mm_Hp : Type := (Nat → va_E) × Nat × Nat
/-- a method: its name, bytes, locals, what it returns, its handlers -/
abbrev mm_Me : Type := MethodName × ByteArray × Nat × Option FieldType × List (Nat × Nat × Nat × Nat)
abbrev mm_Ou : Type := Option Value ⊕ String
/-- launch, base, class numbers and slots, array classes, foreign addresses, the script's length, the script, a static that is passed on unread -/
abbrev mm_G : Type := Launch × Nat × va_G × (Nat → ClassId) × (Nat → Nat) × Nat × (Nat → Int32) × Option Nat
abbrev mm_l (g : mm_G) : Launch := g.1
abbrev mm_B (g : mm_G) : Nat := g.2.1
abbrev mm_K (g : mm_G) : va_G := g.2.2.1
abbrev mm_tC (g : mm_G) : Nat → ClassId := g.2.2.2.1
abbrev mm_fa (g : mm_G) : Nat → Nat := g.2.2.2.2.1
abbrev mm_sL (g : mm_G) : Nat := g.2.2.2.2.2.1
abbrev mm_sX (g : mm_G) : Nat → Int32 := g.2.2.2.2.2.2.1
abbrev mm_fo (g : mm_G) : Option Nat := g.2.2.2.2.2.2.2
def mm_ad (g : mm_G) (k : Nat) : Nat := if k < 64 then mm_fa g k else mm_B g + (k - 64)
def mm_v (g : mm_G) (v : Value) : Value := match v with
  | .ref k => .ref (mm_ad g k)
  | .float _ => va_rf (mm_fo g)
  | v => v
theorem mm_v_cat (g : mm_G) (v : Value) : (mm_v g v).category = v.category := by
  cases v with
  | float x =>
    show (va_rf (mm_fo g)).category = 1
    cases mm_fo g <;> rfl
  | _ => rfl
def mm_c (g : mm_G) (x : va_E) : va_E := match x with
  | .inl a => .inl (mm_tC g a.1, a.2)
  | .inr o => .inr (o.1, o.2.map (mm_v g))
def mm_ws (g : mm_G) (w : Nat → va_E) (n : Nat) : va_W := (List.range n).map fun k => (mm_B g + k, mm_c g (w (k + 64)))
abbrev mm_A (g : mm_G) : Nat → Prop := fun q => mm_B g ≤ q
def mm_TE : u_T := fun _ => ("", "", "", false)
abbrev mm_cl : List vw_C := vwCl ++ [("java/util/NoSuchElementException", mm_TE, 0), ("java/lang/IllegalArgumentException", mm_TE, 0)]
abbrev mm_ty (g : mm_G) : List (ClassId × FieldType) := [(mm_tC g 0, .int), (mm_tC g 1, .byte), (mm_tC g 2, .long)]
theorem mm_ws_at {g : mm_G} {w : Nat → va_E} {n k : Nat} (hk : k < n) : (mm_ws g w n)[k]? = some (mm_B g + k, mm_c g (w (k + 64))) := by
  simp [mm_ws, hk]
theorem mm_ws_out {g : mm_G} {w : Nat → va_E} {n k : Nat} (hk : n ≤ k) : (mm_ws g w n)[k]? = none := by
  simp [mm_ws, hk]
theorem mm_ws_in {g : mm_G} {w : Nat → va_E} {n k : Nat} {q : Nat × va_E} (h : (mm_ws g w n)[k]? = some q) : k < n ∧ q = (mm_B g + k, mm_c g (w (k + 64))) := by
  rcases Nat.lt_or_ge k n with hk | hk
  · rw [mm_ws_at hk] at h
    exact ⟨hk, (Option.some.inj h).symm⟩
  · rw [mm_ws_out hk] at h
    cases h
theorem mm_ws_set {g : mm_G} {w : Nat → va_E} {n k : Nat} {x : va_E} (hk : k < n) : (mm_ws g w n).set k (mm_B g + k, mm_c g x) = mm_ws g (va_up w (k + 64) x) n := by
  apply List.ext_getElem?
  intro j
  rcases Nat.lt_or_ge j n with hj | hj
  · rw [mm_ws_at hj, List.getElem?_set]
    have hl : (mm_ws g w n).length = n := by simp [mm_ws]
    by_cases e : k = j
    · subst e
      simp [hl, hk, va_up]
    · rw [if_neg e, mm_ws_at hj, va_up, if_neg (by omega)]
  · rw [mm_ws_out hj, List.getElem?_set]
    have hl : (mm_ws g w n).length = n := by simp [mm_ws]
    by_cases e : k = j
    · omega
    · simp [e, mm_ws_out hj]
theorem mm_ws_push {g : mm_G} {w : Nat → va_E} {n : Nat} {x : va_E} : mm_ws g w n ++ [(mm_B g + n, mm_c g x)] = mm_ws g (va_up w (n + 64) x) (n + 1) := by
  apply List.ext_getElem?
  intro j
  have hl : (mm_ws g w n).length = n := by simp [mm_ws]
  rcases Nat.lt_trichotomy j n with hj | hj | hj
  · rw [List.getElem?_append_left (by omega), mm_ws_at hj, mm_ws_at (by omega)]
    rw [va_up, if_neg (by omega)]
  · subst hj
    rw [List.getElem?_append_right (by omega), mm_ws_at (by omega), hl]
    simp [va_up]
  · rw [List.getElem?_append_right (by omega), mm_ws_out (by omega), hl]
    have : j - n ≠ 0 := by omega
    cases hz : j - n with
    | zero => omega
    | succ z => simp
theorem mm_D (g : mm_G) (w : Nat → va_E) (n : Nat) : va_D (mm_A g) (mm_ws g w n) := by
  refine ⟨fun i j p q hi hj h => ?_, fun k q h => ?_⟩
  · obtain ⟨h1, rfl⟩ := mm_ws_in hi
    obtain ⟨h2, rfl⟩ := mm_ws_in hj
    simp only at h
    omega
  · obtain ⟨h1, rfl⟩ := mm_ws_in h
    exact Nat.le_add_right _ _
def mm_H (g : mm_G) (h : mm_Hp) (H : Heap) : Prop := H.size = mm_B g + h.2.1 ∧ va_P (mm_K g) mm_cl (mm_ws g h.1 h.2.1) H
def mm_L (g : mm_G) (LS : Array Slot) (ls : List (Option Value)) : Prop := LS.size = ls.length ∧ lv_wf LS ∧ ∀ (i : Nat) (v : Value), ls[i]? = some (some v) → LS[i]? = some (.val (mm_v g v))
/-- the String constants: the class and the entry that names one, its text, its foreign number -/
def mm_sts : List (String × Nat × String × Nat) := [("TestimonyBook", 138, "no such day", 4), ("TestimonyBook", 163, "no such what", 5), ("TestimonyBook", 241, "no such level", 6), ("TestimonyBook", 269, "there is none", 7), ("TestimonyBook", 271, "not so many bytes", 8), ("TestimonyBook", 273, "- struck", 2), ("TestimonyBook", 279, "- sealed", 3), ("TestimonyBook", 281, "QAYN !", 1), ("TestimonyBook$Scribe", 124, "QAYN !", 1), ("TestimonyBookModel", 277, "- struck", 2), ("TestimonyBookModel", 279, "- sealed", 3)]
/-- the bytes of the first three -/
def mm_sb (i : Nat) : List Int32 := match i with
  | 1 => [81, 65, 89, 78, 32, 33]
  | 2 => [45, 32, 115, 116, 114, 117, 99, 107]
  | _ => [45, 32, 115, 101, 97, 108, 101, 100]
/-- what lies outside of the small heap and is read: the script; the two statics of Throwable; the String constants -/
def mm_F (g : mm_G) (U : State) (H : Heap) : Prop :=
  va_X (mm_fa g 0) (mm_sL g) (mm_sX g) U H ∧ mm_fa g 0 < mm_B g ∧
  vx_Zq Bundle.tN "UNASSIGNED_STACK" Bundle.steD (mm_A g) U H ∧ vx_Zq Bundle.tN "SUPPRESSED_SENTINEL" Bundle.listD (mm_A g) U H ∧
  (∀ q ∈ mm_sts, vk_R q.1 q.2.1 q.2.2.1 (mm_fa g q.2.2.2) U) ∧ va_Nc "java/lang/IllegalArgumentException" "java/util/NoSuchElementException" U ∧
  (∀ i : Nat, 1 ≤ i → i ≤ 3 → va_O "java/lang/String" (mm_fa g i) (mm_A g) U H ∧ va_OF "java/lang/String" "coder" "B" (.int 0) (mm_fa g i) (mm_A g) U H ∧ va_OF "java/lang/String" "value" "[B" (.ref (mm_fa g (i + 8))) (mm_fa g i) (mm_A g) U H ∧ va_T .byte (mm_fa g (i + 8)) (mm_sb i).length (fun j => .int ((mm_sb i).getD j 0)) (mm_A g) U H) ∧
  va_Z "java/lang/String" "COMPACT_STRINGS" "Z" (.int 1) (mm_A g) U H ∧ va_Z "jdk/internal/util/Preconditions" "SIOOBE_FORMATTER" "Ljava/util/function/BiFunction;" (va_rf (mm_fo g)) (mm_A g) U H
theorem mm_F.moved {g : mm_G} {u U : State} {H : Heap} (hW : u.WarmedH U.vm) (h : mm_F g u H) : mm_F g U H := by
  obtain ⟨h1, h2, h3, h4, h5, h6, h7, h8, h9⟩ := h
  have hvm := hW.alike
  exact ⟨va_X.moved hvm h1, h2, vx_Zq.moved hvm h3, vx_Zq.moved hvm h4, fun q hq => vk_R.warm hW (h5 q hq), va_Nc.moved hvm h6, fun i i1 i2 => ⟨va_O.moved hvm (h7 i i1 i2).1, va_OF.moved hvm (h7 i i1 i2).2.1, va_OF.moved hvm (h7 i i1 i2).2.2.1, va_T.moved hvm (h7 i i1 i2).2.2.2⟩, va_Z.moved hvm h8, va_Z.moved hvm h9⟩
theorem mm_F.kept {g : mm_G} {U : State} {H H1 : Heap} (h : mm_F g U H) (hq : ∀ a : Nat, a < H.size → ¬ mm_A g a → H1[a]? = H[a]?) : mm_F g U H1 := by
  obtain ⟨h1, h2, h3, h4, h5, h6, h7, h8, h9⟩ := h
  refine ⟨?_, h2, h3.kept hq, h4.kept hq, h5, h6, fun i i1 i2 => ⟨(h7 i i1 i2).1.kept hq, (h7 i i1 i2).2.1.kept hq, (h7 i i1 i2).2.2.1.kept hq, (h7 i i1 i2).2.2.2.kept hq⟩, h8.kept hq, h9.kept hq⟩
  obtain ⟨scr, q1, q2⟩ := h1
  have hl : mm_fa g 0 < H.size := (Array.getElem?_eq_some_iff.mp q1).1
  exact ⟨scr, by rw [hq _ hl (fun z => absurd (show mm_B g ≤ mm_fa g 0 from z) (by omega))]; exact q1, q2⟩
def mm_C (g : mm_G) (M : mm_Me) (p : Program) (s : State) (m : MethodId) (args : Array Value) (meth : Method) (c : Code) : Prop :=
  p.tables.exec = Jvm.exec ∧ c.code = M.2.1 ∧ meth.sig.returnType = M.2.2.2.1 ∧ c.maxLocals = M.2.2.1 ∧ s.vm.findClass M.1.cls = some m.cls ∧ meth.locks = false ∧ meth.name = M.1.name ∧ (∀ w ∈ mm_tb, w.before args s = true) ∧
  va_K (mm_K g) mm_cl (mm_ty g) s ∧ mm_F g s s.heap ∧ (mm_l g).stackTraces = false ∧ c.exceptionTable.toList = tableOf M.2.2.2.2
def mm_X (g : mm_G) (d : Nat) (M : mm_Me) (h h' : mm_Hp) (ls : List (Option Value)) (p : Program) (R : Room) (s : State) (m : MethodId) (args : Array Value) (meth : Method) (c : Code) (H : Heap) (locs : List Loc) (cells slots : Nat) (LS : Array Slot) : Prop :=
  mm_C g M p s m args meth c ∧ (d ≤ R.frames ∧ 40 * d ≤ R.locals) ∧ (mm_B g ≤ s.heap.size ∧ s.heap.size + cells = mm_B g + h.2.1) ∧ (cells + (h'.2.1 - h.2.1) ≤ R.cells ∧ slots + (h'.2.2 - h.2.2) ≤ R.slots) ∧ mm_H g h H ∧ va_S (mm_A g) s.heap H locs ∧ mm_L g LS ls
def mm_Qc (g : mm_G) (o : mm_Ou) (h' : mm_Hp) : Array Value → State → Outcome → State → Prop := fun _ st oc t =>
  ∃ v, o = .inl v ∧ oc = .returned (v.map (mm_v g)) ∧ mm_H g h' t.heap ∧ ∀ q : Nat, q < mm_B g → t.heap[q]? = st.heap[q]?
def mm_Qx (g : mm_G) (o : mm_Ou) (h' : mm_Hp) : String → State → State → Prop := fun E st t => o = .inr E ∧ mm_H g h' t.heap ∧ ∀ q : Nat, q < mm_B g → t.heap[q]? = st.heap[q]?
def mm_Q (g : mm_G) (below : List Frame) (args : Array Value) (s : State) (o : mm_Ou) (h' : mm_Hp) (mc ms : Nat) : State → Prop := vx_MQ below (mm_Qc g o h') (mm_Qx g o h') args s mc ms (mm_A g)
def mm_E (g : mm_G) (d : Nat) (M : mm_Me) (pc : Nat) (ls : List (Option Value)) (st : List Value) (h : mm_Hp) (o : mm_Ou) (h' : mm_Hp) : Prop :=
  h.2.1 ≤ h'.2.1 ∧ h.2.2 ≤ h'.2.2 ∧ ∀ (p : Program) (e : Env) (R : Room) (s : State) (m : MethodId) (args : Array Value) (below : List Frame) (meth : Method) (c : Code) (H : Heap) (locs : List Loc) (cells slots : Nat) (LS : Array Slot),
    mm_X g d M h h' ls p R s m args meth c H locs cells slots LS → W p (mm_l g) e R s m args below meth c H locs cells slots (mm_Q g below args s o h' (cells + (h'.2.1 - h.2.1)) (slots + (h'.2.2 - h.2.2))) (F0 m pc LS (st.map (mm_v g)))
def mm_P (g : mm_G) (d : Nat) (M : mm_Me) (pc : Nat) (ls : List (Option Value)) (st : List Value) (h : mm_Hp) (Post : mm_Ou → mm_Hp → Prop) : Prop := ∃ o h', Post o h' ∧ mm_E g d M pc ls st h o h'
/-- a step that leaves the heap -/
theorem mm_same {g : mm_G} {d : Nat} {M : mm_Me} {pc pc' : Nat} {ls ls' : List (Option Value)} {st st' : List Value} {h : mm_Hp} {Post : mm_Ou → mm_Hp → Prop}
    (hk : ∀ (h' : mm_Hp) (p : Program) (e : Env) (R : Room) (s : State) (m : MethodId) (args : Array Value) (below : List Frame) (meth : Method) (c : Code) (H : Heap) (locs : List Loc) (cells slots : Nat) (LS : Array Slot) (Q : State → Prop),
      mm_X g d M h h' ls p R s m args meth c H locs cells slots LS → p.tables.exec = Jvm.exec → c.code = M.2.1 → mm_L g LS ls → (∀ LS', mm_L g LS' ls' → W p (mm_l g) e R s m args below meth c H locs cells slots Q (F0 m pc' LS' (st'.map (mm_v g)))) → W p (mm_l g) e R s m args below meth c H locs cells slots Q (F0 m pc LS (st.map (mm_v g))))
    (k : mm_P g d M pc' ls' st' h Post) : mm_P g d M pc ls st h Post := by
  obtain ⟨o, h', hp, k1, k2, k⟩ := k
  refine ⟨o, h', hp, k1, k2, fun p e R s m args below meth c H locs cells slots LS X => ?_⟩
  exact hk h' p e R s m args below meth c H locs cells slots LS _ X X.1.1 X.1.2.1 X.2.2.2.2.2.2 (fun LS' hL => k p e R s m args below meth c H locs cells slots LS' ⟨X.1, X.2.1, X.2.2.1, X.2.2.2.1, X.2.2.2.2.1, X.2.2.2.2.2.1, hL⟩)
theorem mm_cons {g : mm_G} {d : Nat} {M : mm_Me} {pc : Nat} {ls : List (Option Value)} {st : List Value} {h : mm_Hp} {Post Post' : mm_Ou → mm_Hp → Prop} (k : mm_P g d M pc ls st h Post) (hp : ∀ o h', Post o h' → Post' o h') : mm_P g d M pc ls st h Post' := by
  obtain ⟨o, h', h1, h2⟩ := k
  exact ⟨o, h', hp _ _ h1, h2⟩
theorem mm_deep {g : mm_G} {d d' : Nat} {M : mm_Me} {pc : Nat} {ls : List (Option Value)} {st : List Value} {h : mm_Hp} {Post : mm_Ou → mm_Hp → Prop} (k : mm_P g d M pc ls st h Post) (hd : d ≤ d') : mm_P g d' M pc ls st h Post := by
  obtain ⟨o, h', h1, h2, h3, h4⟩ := k
  refine ⟨o, h', h1, h2, h3, fun p e R s m args below meth c H locs cells slots LS X => ?_⟩
  exact h4 p e R s m args below meth c H locs cells slots LS ⟨X.1, ⟨Nat.le_trans hd X.2.1.1, Nat.le_trans (Nat.mul_le_mul_left 40 hd) X.2.1.2⟩, X.2.2⟩
