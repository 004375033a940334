/-! calls over the small machine: a callee that has been walked (mm_P from its entry) is a callee of the machine -/
def mm_en : List Value → List (Option Value)
  | [] => []
  | v :: r => if v.category = 2 then some v :: none :: mm_en r else some v :: mm_en r
def mm_in (ml : Nat) (as : List Value) : List (Option Value) := mm_en as ++ List.replicate (ml - (mm_en as).length) none
theorem mm_en_len (g : mm_G) (as : List Value) : (mm_en as).length = (lg_sl (as.map (mm_v g))).length := by
  induction as with
  | nil => rfl
  | cons v r ih =>
    simp only [mm_en, List.map_cons, lg_sl, List.flatMap_cons, mm_v_cat]
    by_cases hc : v.category = 2
    · simp only [hc, if_true, List.length_cons, List.length_append]
      have : (mm_en r).length = (List.flatMap (fun v => if v.category = 2 then [Slot.val v, .second] else [.val v]) (List.map (mm_v g) r)).length := ih
      simp only [this, List.length_nil]
      omega
    · simp only [hc, if_false, List.length_cons, List.length_append]
      have : (mm_en r).length = (List.flatMap (fun v => if v.category = 2 then [Slot.val v, .second] else [.val v]) (List.map (mm_v g) r)).length := ih
      simp only [this, List.length_nil]
      omega
theorem mm_en_at (g : mm_G) (as : List Value) : ∀ (k i : Nat) (v : Value), (mm_en as)[i]? = some (some v) → (k + i, mm_v g v) ∈ lv_args k (as.map (mm_v g)) := by
  induction as with
  | nil => intro k i v hi; simp [mm_en] at hi
  | cons u r ih =>
    intro k i v hi
    simp only [mm_en] at hi
    simp only [List.map_cons, lv_args, mm_v_cat]
    by_cases hc : u.category = 2
    · rw [if_pos hc] at hi
      rw [if_pos hc]
      match i, hi with
      | 0, hi =>
        simp at hi
        subst hi
        exact List.mem_cons_self
      | 1, hi => simp at hi
      | i + 2, hi =>
        have hi' : (mm_en r)[i]? = some (some v) := by simpa using hi
        have := ih (k + 2) i v hi'
        rw [show k + 2 + i = k + (i + 2) by omega] at this
        exact List.mem_cons_of_mem _ this
    · rw [if_neg hc] at hi
      rw [if_neg hc]
      match i, hi with
      | 0, hi =>
        simp at hi
        subst hi
        exact List.mem_cons_self
      | i + 1, hi =>
        have hi' : (mm_en r)[i]? = some (some v) := by simpa using hi
        have := ih (k + 1) i v hi'
        rw [show k + 1 + i = k + (i + 1) by omega] at this
        exact List.mem_cons_of_mem _ this
theorem mm_L.entry (g : mm_G) (as : List Value) {ml : Nat} (hl : (mm_en as).length ≤ ml) : mm_L g ((lg_sl (as.map (mm_v g)) ++ List.replicate (ml - (lg_sl (as.map (mm_v g))).length) Slot.unset).toArray) (mm_in ml as) := by
  have h := lv_entry (as.map (mm_v g)) (n := ml) (by rw [← mm_en_len g as]; exact hl)
  refine ⟨by rw [h.1]; simp [mm_in]; omega, h.2.1, fun i v hi => ?_⟩
  have h0 : (mm_en as)[i]? = some (some v) := by
    simp only [mm_in] at hi
    rcases Nat.lt_or_ge i (mm_en as).length with q | q
    · rw [List.getElem?_append_left q] at hi
      exact hi
    · rw [List.getElem?_append_right q, List.getElem?_replicate] at hi
      split at hi <;> cases hi
  have h1 := mm_en_at g as 0 i v h0
  rw [Nat.zero_add] at h1
  exact h.2.2 _ h1
def mm_Pc (g : mm_G) (as : List Value) (h : mm_Hp) : Array Value → State → Prop := fun a U => a = (as.map (mm_v g)).toArray ∧ mm_H g h U.heap ∧ va_K (mm_K g) mm_cl (mm_ty g) U ∧ mm_F g U U.heap
theorem mm_blind (g : mm_G) (as : List Value) (h : mm_Hp) : FrameBlind (mm_Pc g as h) := fun a U gg mk q => ⟨q.1, q.2.1, va_K.moved (u := U) (U := U.calling gg mk a) (Vm.Alike.refl U.vm) q.2.2.1, mm_F.moved (u := U) (U := U.calling gg mk a) (State.WarmedH.refl U) q.2.2.2⟩
abbrev mm_rm (d : Nat) (h h' : mm_Hp) : Room := { frames := d, cells := h'.2.1 - h.2.1, slots := h'.2.2 - h.2.2, locals := 40 * d }
/-- the walk of a method without handlers is its contract -/
theorem mm_met {g : mm_G} {d : Nat} {M : mm_Me} {as : List Value} {h h' : mm_Hp} {o : mm_Ou} (hst : (mm_l g).stackTraces = false) (hy : plainName M.1.cls = true) (hh : M.2.2.2.2 = []) (hl : (mm_en as).length ≤ M.2.2.1) (k : mm_E g d M 0 (mm_in M.2.2.1 as) [] h o h') :
    vx_Met (mm_l g) M.1 (Cond.code M.1 M.2.1 M.2.2.1 M.2.2.2.1 :: mm_tb) (mm_rm d h h') (mm_Pc g as h) (mm_Qc g o h') (mm_Qx g o h') (h'.2.1 - h.2.1) (h'.2.2 - h.2.2) (mm_A g) := by
  refine vx_ofW (cc := M.2.1) (maxL := M.2.2.1) (ret := M.2.2.2.1) hy rfl ?_
  intro p e s m args below meth c s₁ B hml hnh hv
  obtain ⟨rfl, hH, hK, hF⟩ := hv
  have hts := atoms_spec (ws := Cond.code M.1 M.2.1 M.2.2.1 M.2.2.2.1 :: mm_tb) B.pre
  rw [lg_entry_eq]
  have ht : c.exceptionTable.toList = tableOf M.2.2.2.2 := by
    rw [hh]
    cases hz : c.exceptionTable.toList with
    | nil => rfl
    | cons x r => exact (hnh x (by rw [hz]; exact List.mem_cons_self)).elim
  have hk := k.2.2 p e (headSpec (Cond.code M.1 M.2.1 M.2.2.1 M.2.2.2.1 :: mm_tb) (mm_rm d h h')).room s m (as.map (mm_v g)).toArray below meth c s.heap [] 0 0 _
    ⟨⟨B.exec, B.bytes, B.returns, hml, findClass_of_methodNamed B.named, B.notSynchronized, (name_of_methodNamed B.named B.method).1, fun w hw => hts w (List.mem_cons_of_mem _ hw), hK, hF, hst, ht⟩, ⟨Nat.le_refl _, Nat.le_refl _⟩, ⟨by rw [hH.1]; exact Nat.le_add_right _ _, by rw [hH.1]; rfl⟩, ⟨by rw [Nat.zero_add]; exact Nat.le_refl _, by rw [Nat.zero_add]; exact Nat.le_refl _⟩, hH, va_S.rf, mm_L.entry g as hl⟩
  rw [Nat.zero_add, Nat.zero_add] at hk
  exact hk
/-- one that returns -/
theorem mm_metR {l : Launch} {y : MethodName} {ws : List Cond} {rm : Room} {Pc : Array Value → State → Prop} {g : mm_G} {v : Option Value} {h' : mm_Hp} {mc ms : Nat} {free : Addr → Prop} (hM : vx_Met l y ws rm Pc (mm_Qc g (.inl v) h') (mm_Qx g (.inl v) h') mc ms free) : Met l y ws rm Pc (mm_Qc g (.inl v) h') mc ms free := by
  intro p e ha hc hk s m args below hf happ hP hK
  obtain ⟨n, o, h1, h2, h3, h4⟩ := hM p e ha hc hk s m args below hf happ hP hK
  refine ⟨n, o, h1, h2, h3, ?_⟩
  rcases h4 with h4 | ⟨q, -, E, ce, L, h4, -⟩
  · exact h4
  · cases h4.1
/-- what is told of a thrown thing: mm_T stands where the callee has thrown -/
def mm_ET (g : mm_G) (d : Nat) (M : mm_Me) (pc : Nat) (ls : List (Option Value)) (st : List Value) (h : mm_Hp) (E : String) (o : mm_Ou) (h' : mm_Hp) : Prop :=
  h.2.1 ≤ h'.2.1 ∧ h.2.2 ≤ h'.2.2 ∧ ∀ (p : Program) (e : Env) (R : Room) (s : State) (m : MethodId) (args : Array Value) (below : List Frame) (meth : Method) (c : Code) (H : Heap) (locs : List Loc) (cells slots : Nat) (LS : Array Slot) (q : Addr) (ce : Cell),
    mm_X g d M h h' ls p R s m args meth c H locs cells slots LS → H[q]? = some ce → ce.vm = .none → s.vm.findClass E = some ce.cls → vx_W p (mm_l g) e R s m args below meth c H locs cells slots (mm_Q g below args s o h' (cells + (h'.2.1 - h.2.1)) (slots + (h'.2.2 - h.2.2))) (F0 m pc LS (st.map (mm_v g))) q
def mm_T (g : mm_G) (d : Nat) (M : mm_Me) (pc : Nat) (ls : List (Option Value)) (st : List Value) (h : mm_Hp) (E : String) (Post : mm_Ou → mm_Hp → Prop) : Prop := ∃ o h', Post o h' ∧ mm_ET g d M pc ls st h E o h'
def mm_then (g : mm_G) (d : Nat) (M : mm_Me) (pc : Nat) (ls : List (Option Value)) (st : List Value) (Post : mm_Ou → mm_Hp → Prop) (o : mm_Ou) (h1 : mm_Hp) : Prop := match o with
  | .inl v => mm_P g d M (pc + 3) ls (v.toList ++ st) h1 Post
  | .inr E => mm_T g d M pc ls st h1 E Post
section MMC
variable {g : mm_G} {d : Nat} {M : mm_Me} {pc : Nat} {ls : List (Option Value)} {st stk : List Value} {h : mm_Hp} {Post PostC : mm_Ou → mm_Hp → Prop}
/-- behind a call -/
theorem mm_after {p : Program} {e : Env} {R : Room} {s : State} {m : MethodId} {args : Array Value} {below : List Frame} {meth : Method} {c : Code} {H : Heap} {locs : List Loc} {cells slots : Nat} {LS : Array Slot} {h1 h' : mm_Hp} {oC : mm_Ou} {a : Array Value} {Q : State → Prop} {stk' : List Value}
    (X : mm_X g d M h h' ls p R s m args meth c H locs cells slots LS) (n1 : h.2.1 ≤ h1.2.1) (n2 : h1.2.1 ≤ h'.2.1) (s1 : h.2.2 ≤ h1.2.2) (s2 : h1.2.2 ≤ h'.2.2)
    (hr : vx_Run p (mm_l g) e R s m args below meth c H locs cells slots (h1.2.1 - h.2.1) (h1.2.2 - h.2.2) (F0 m pc LS stk') (st.map (mm_v g)) (mm_Qc g oC h1 a) (mm_Qx g oC h1) (mm_A g))
    (kr : ∀ v, oC = .inl v → ∀ (H1 : Heap) (locs1 : List Loc), mm_X g d M h1 h' ls p R s m args meth c H1 locs1 (cells + (h1.2.1 - h.2.1)) (slots + (h1.2.2 - h.2.2)) LS → W p (mm_l g) e R s m args below meth c H1 locs1 (cells + (h1.2.1 - h.2.1)) (slots + (h1.2.2 - h.2.2)) Q (F0 m (pc + 3) LS ((v.toList ++ st).map (mm_v g))))
    (kt : ∀ E, oC = .inr E → ∀ (H1 : Heap) (locs1 : List Loc) (q : Addr) (ce : Cell), mm_X g d M h1 h' ls p R s m args meth c H1 locs1 (cells + (h1.2.1 - h.2.1)) (slots + (h1.2.2 - h.2.2)) LS → H1[q]? = some ce → ce.vm = .none → s.vm.findClass E = some ce.cls → vx_W p (mm_l g) e R s m args below meth c H1 locs1 (cells + (h1.2.1 - h.2.1)) (slots + (h1.2.2 - h.2.2)) Q (F0 m pc LS (st.map (mm_v g))) q) :
    W p (mm_l g) e R s m args below meth c H locs cells slots Q (F0 m pc LS stk') := by
  obtain ⟨X1, X2, X3, X4, X5, X6, X7⟩ := X
  have new : ∀ (H1 : Heap) (L : List Loc), mm_H g h1 H1 → (∀ q : Nat, q < mm_B g → H1[q]? = H[q]?) → (∀ q ∈ L, mm_A g q.base) → mm_X g d M h1 h' ls p R s m args meth c H1 (locs ++ L) (cells + (h1.2.1 - h.2.1)) (slots + (h1.2.2 - h.2.2)) LS := by
    intro H1 L hH hq hL
    refine ⟨X1, X2, ⟨X3.1, by have := X3.2; omega⟩, ⟨by have := X4.1; omega, by have := X4.2; omega⟩, hH, ⟨?_, fun q q1 q2 => ?_, fun q hq' => ?_⟩, X7⟩
    · have e1 := X6.1
      have e2 := X5.1
      have e3 := hH.1
      omega
    · rw [hq q (Nat.not_le.mp q2)]
      exact X6.2.1 q q1 q2
    · rcases List.mem_append.mp hq' with z | z
      · exact X6.2.2 q z
      · exact hL q z
  intro T hT Y
  rcases hr T hT Y with ⟨v, st₀, t, T', L, h0, Y', hL, e1, e2, ⟨v0, hv, hoc, hH, hlow⟩, stp⟩ | ⟨q, st₀, t, T', L, E, ce, h0, Y', hL, e1, e2, ⟨hv, hH, hlow⟩, hce, hcv, hcl, stp⟩
  · have hoc : v = v0.map (mm_v g) := Outcome.returned.inj hoc
    obtain ⟨t2, a1, b1⟩ := kr v0 hv T'.heap (locs ++ L) (new T'.heap L (by rw [e1]; exact hH) (fun q hq => by rw [e1, hlow q hq, h0]) hL) T' rfl Y'
    refine ⟨t2, stp t2 ?_, b1⟩
    have e5 : v.toList ++ st.map (mm_v g) = (v0.toList ++ st).map (mm_v g) := by
      subst hoc
      cases v0 <;> simp
    show Steps p.tables e below (T'.setTop (F0 m (pc + 3) LS (v.toList ++ st.map (mm_v g)))) t2
    rw [e5]
    exact a1
  · obtain ⟨t2, a1, b1⟩ := kt E hv T'.heap (locs ++ L) q ce (new T'.heap L (by rw [e1]; exact hH) (fun q hq => by rw [e1, hlow q hq, h0]) hL) (by rw [e1]; exact hce) hcv hcl T' rfl Y'
    exact ⟨t2, stp.trans a1, b1⟩
/-- a call of any kind, out of its run -/
theorem mm_call {d' : Nat} {M' : mm_Me} {as : List Value} {h : mm_Hp}
    (kc : mm_P g d' M' 0 (mm_in M'.2.2.1 as) [] h PostC) (kk : ∀ o h1, PostC o h1 → mm_then g d M pc ls st Post o h1)
    (hk : ∀ (o : mm_Ou) (h1 h' : mm_Hp) (p : Program) (e : Env) (R : Room) (s : State) (m : MethodId) (args : Array Value) (below : List Frame) (meth : Method) (c : Code) (H : Heap) (locs : List Loc) (cells slots : Nat) (LS : Array Slot), PostC o h1 → mm_E g d' M' 0 (mm_in M'.2.2.1 as) [] h o h1 →
      mm_X g d M h h' ls p R s m args meth c H locs cells slots LS → cells + (h1.2.1 - h.2.1) ≤ R.cells ∧ slots + (h1.2.2 - h.2.2) ≤ R.slots → ∃ a, vx_Run p (mm_l g) e R s m args below meth c H locs cells slots (h1.2.1 - h.2.1) (h1.2.2 - h.2.2) (F0 m pc LS (stk.map (mm_v g))) (st.map (mm_v g)) (mm_Qc g o h1 a) (mm_Qx g o h1) (mm_A g)) :
    mm_P g d M pc ls stk h Post := by
  obtain ⟨o, h1, hp, kE⟩ := kc
  have n1 := kE.1
  have s1 := kE.2.1
  have key : ∀ (o' : mm_Ou) (h' : mm_Hp), h1.2.1 ≤ h'.2.1 → h1.2.2 ≤ h'.2.2 → ∀ (p : Program) (e : Env) (R : Room) (s : State) (m : MethodId) (args : Array Value) (below : List Frame) (meth : Method) (c : Code) (H : Heap) (locs : List Loc) (cells slots : Nat) (LS : Array Slot),
      mm_X g d M h h' ls p R s m args meth c H locs cells slots LS → ∃ a, vx_Run p (mm_l g) e R s m args below meth c H locs cells slots (h1.2.1 - h.2.1) (h1.2.2 - h.2.2) (F0 m pc LS (stk.map (mm_v g))) (st.map (mm_v g)) (mm_Qc g o h1 a) (mm_Qx g o h1) (mm_A g) := by
    intro o' h' n2 s2 p e R s m args below meth c H locs cells slots LS X
    exact hk o h1 h' p e R s m args below meth c H locs cells slots LS hp kE X ⟨by have := X.2.2.2.1.1; omega, by have := X.2.2.2.1.2; omega⟩
  have k := kk o h1 hp
  cases o with
  | inl v =>
    obtain ⟨o', h', hp', n2, s2, k⟩ := k
    refine ⟨o', h', hp', by omega, by omega, fun p e R s m args below meth c H locs cells slots LS X => ?_⟩
    obtain ⟨a, hr⟩ := key o' h' n2 s2 p e R s m args below meth c H locs cells slots LS X
    refine mm_after X n1 n2 s1 s2 hr (fun v' hv H1 locs1 X1 => ?_) (fun E hE => by cases hE)
    cases hv
    have q := k p e R s m args below meth c H1 locs1 _ _ LS X1
    rw [show cells + (h1.2.1 - h.2.1) + (h'.2.1 - h1.2.1) = cells + (h'.2.1 - h.2.1) by omega, show slots + (h1.2.2 - h.2.2) + (h'.2.2 - h1.2.2) = slots + (h'.2.2 - h.2.2) by omega] at q
    exact q
  | inr E =>
    obtain ⟨o', h', hp', n2, s2, k⟩ := k
    refine ⟨o', h', hp', by omega, by omega, fun p e R s m args below meth c H locs cells slots LS X => ?_⟩
    obtain ⟨a, hr⟩ := key o' h' n2 s2 p e R s m args below meth c H locs cells slots LS X
    refine mm_after X n1 n2 s1 s2 hr (fun v' hv => by cases hv) (fun E' hE H1 locs1 q ce X1 hq hv hcl => ?_)
    cases hE
    have z := k p e R s m args below meth c H1 locs1 _ _ LS q ce X1 hq hv hcl
    rw [show cells + (h1.2.1 - h.2.1) + (h'.2.1 - h1.2.1) = cells + (h'.2.1 - h.2.1) by omega, show slots + (h1.2.2 - h.2.2) + (h'.2.2 - h1.2.2) = slots + (h'.2.2 - h.2.2) by omega] at z
    exact z
/-- what the tables say of a callee without handlers -/
def mm_cm (M' : mm_Me) (np : Nat) : Prop :=
  Cond.code M'.1 M'.2.1 M'.2.2.1 M'.2.2.2.1 ∈ mm_tb ∧ Cond.initialized M'.1.cls ∈ mm_tb ∧ plainName M'.1.cls = true ∧ (M'.1.cls ≠ "java/lang/invoke/MethodHandle" ∧ M'.1.cls ≠ "java/lang/invoke/VarHandle") ∧ (parseMethodDescriptor M'.1.desc).map (fun d => d.parameters.length) = some np ∧ M'.2.2.1 ≤ 21 ∧ M'.2.2.2.2 = []
theorem mm_cb {d' np : Nat} {M' : mm_Me} {index : Nat} {h1 h' : mm_Hp} {p : Program} {R : Room} {s : State} {m : MethodId} {args : Array Value} {meth : Method} {c : Code} {H : Heap} {locs : List Loc} {cells slots : Nat} {LS : Array Slot}
    (hd : d' + 1 ≤ d) (hc : mm_cm M' np) (hl : Cond.methodLink M.1.cls index M'.1 ∈ mm_tb) (X : mm_X g d M h h' ls p R s m args meth c H locs cells slots LS) :
    CallB R s args M.1.cls index M'.1 M'.2.1 M'.2.2.1 M'.2.2.2.1 (Cond.code M'.1 M'.2.1 M'.2.2.1 M'.2.2.2.1 :: mm_tb) (mm_rm d' h h1) (h1.2.1 - h.2.1) (h1.2.2 - h.2.2) np := by
  have hts := X.1.2.2.2.2.2.2.2.1
  obtain ⟨c1, c2, c3, c4, c5, c6, c7⟩ := hc
  refine ⟨rfl, rfl, by have := X.2.1.1; show d' + 1 ≤ R.frames; omega, by have := X.2.1.2; show 8 + (M'.2.2.1 + 11) + 40 * d' ≤ R.locals; omega, fun w hw a' U hW => ?_, List.mem_cons_self, hts _ c1, hts _ c2, c4, fun sig hs => ?_, hts _ hl⟩
  · rcases List.mem_cons.mp hw with rfl | hw
    · exact mm_words hW hts _ c1
    · exact mm_words hW hts w hw
  · rw [hs] at c5
    exact (Option.some.inj c5).symm
theorem mm_pc {h' : mm_Hp} {p : Program} {R : Room} {s : State} {m : MethodId} {args : Array Value} {meth : Method} {c : Code} {H : Heap} {locs : List Loc} {cells slots : Nat} {LS : Array Slot} (as : List Value) (X : mm_X g d M h h' ls p R s m args meth c H locs cells slots LS) :
    ∀ U : State, U.heap = H → s.WarmedH U.vm → mm_Pc g as h (as.map (mm_v g)).toArray U := by
  intro U hU hW
  refine ⟨rfl, by rw [hU]; exact X.2.2.2.2.1, va_K.moved hW.alike X.1.2.2.2.2.2.2.2.2.1, ?_⟩
  rw [hU]
  exact mm_F.moved hW (X.1.2.2.2.2.2.2.2.2.2.1.kept X.2.2.2.2.2.1.2.1)
theorem mm_rest (g : mm_G) {m : MethodId} {LS : Array Slot} {xs : List Value} (h8 : (st.map fun v => v.category).sum ≤ 8) : 2 * (F0 m pc LS xs).monitorRoom + ((st.map (mm_v g)).map fun v => v.category).sum ≤ 8 := by
  have e : ((st.map (mm_v g)).map fun v => v.category) = st.map fun v => v.category := by
    rw [List.map_map]
    exact List.map_congr_left (fun v _ => mm_v_cat g v)
  rw [e]
  show 2 * 0 + _ ≤ 8
  omega
theorem mm_callV {d' np ci r index : Nat} {M' : mm_Me} {as : List Value} {fs : List Value} {C : String} {T : u_T} {N : Nat} (hd : d' + 1 ≤ d) (hc : mm_cm M' np) (hl : Cond.methodLink M.1.cls index M'.1 ∈ mm_tb) (hi : Cond.instanceMethod M'.1 ∈ mm_tb) (hs : Cond.selects C M'.1 M'.1 ∈ mm_tb) (hci : mm_cl[ci]? = some (C, T, N)) (hdg : decode M.2.1 pc = .ok (.invokevirtual index, 3))
    (a : mm_at h r (.inr (ci, fs))) (hn : as.length = np) (h8 : (st.map fun v => v.category).sum ≤ 8) (hen : (mm_en (.ref r :: as)).length ≤ M'.2.2.1) (hlen : ls.length = M.2.2.1) (hstk : stk = as.reverse ++ .ref r :: st)
    (kc : mm_P g d' M' 0 (mm_in M'.2.2.1 (.ref r :: as)) [] h PostC) (kk : ∀ o h1, PostC o h1 → mm_then g d M pc ls st Post o h1) : mm_P g d M pc ls stk h Post := by
  subst hstk
  refine mm_call (st := st) (as := .ref r :: as) kc kk (fun o h1 h' p e R s m args below meth c H locs cells slots LS _ kE X hf => ⟨(Value.ref (mm_ad g r) :: as.map (mm_v g)).toArray, ?_⟩)
  have hts := X.1.2.2.2.2.2.2.2.1
  obtain ⟨q, -, -, h3⟩ := a.ws (g := g)
  exact vx_runV (As := as.map (mm_v g)) (b := mm_ad g r) (C := C) (n := np) ⟨X.1.1, X.1.2.1, X.1.2.2.2.1, X.1.2.2.2.2.1, hts⟩ (mm_met X.1.2.2.2.2.2.2.2.2.2.2.1 hc.2.2.1 hc.2.2.2.2.2.2 hen kE) ⟨mm_cb hd hc hl X, hts _ hi, hts _ hs⟩
    ⟨mm_blind g _ h, va_recv X.1.2.2.2.2.2.2.2.2.1 X.2.2.2.2.1.2 hci h3, mm_pc (.ref r :: as) X⟩ rfl (by simpa using hn) (X.2.2.2.2.2.2.1.trans hlen) (by simp [mm_v]) (mm_rest g h8) hdg hf
theorem mm_callS {d' np index : Nat} {M' : mm_Me} {as : List Value} (hd : d' + 1 ≤ d) (hc : mm_cm M' np) (hl : Cond.methodLink M.1.cls index M'.1 ∈ mm_tb) (hi : Cond.static M'.1 ∈ mm_tb) (hdg : decode M.2.1 pc = .ok (.invokestatic index, 3))
    (hn : as.length = np) (h8 : (st.map fun v => v.category).sum ≤ 8) (hen : (mm_en as).length ≤ M'.2.2.1) (hlen : ls.length = M.2.2.1) (hstk : stk = as.reverse ++ st)
    (kc : mm_P g d' M' 0 (mm_in M'.2.2.1 as) [] h PostC) (kk : ∀ o h1, PostC o h1 → mm_then g d M pc ls st Post o h1) : mm_P g d M pc ls stk h Post := by
  subst hstk
  refine mm_call (st := st) (as := as) kc kk (fun o h1 h' p e R s m args below meth c H locs cells slots LS _ kE X hf => ⟨(as.map (mm_v g)).toArray, ?_⟩)
  have hts := X.1.2.2.2.2.2.2.2.1
  exact vx_runS (As := as.map (mm_v g)) (n := np) ⟨X.1.1, X.1.2.1, X.1.2.2.2.1, X.1.2.2.2.2.1, hts⟩ (mm_met X.1.2.2.2.2.2.2.2.2.2.2.1 hc.2.2.1 hc.2.2.2.2.2.2 hen kE) ⟨mm_cb hd hc hl X, hts _ hi⟩
    ⟨mm_blind g _ h, mm_pc as X⟩ rfl (by simpa using hn) (X.2.2.2.2.2.2.1.trans hlen) (by simp) (mm_rest g h8) hdg hf
/-- a constructor's call: it returns -/
theorem mm_callI {d' np r index : Nat} {M' : mm_Me} {as : List Value} (hd : d' + 1 ≤ d) (hc : mm_cm M' np) (hl : Cond.methodLink M.1.cls index M'.1 ∈ mm_tb) (hi : Cond.instanceMethod M'.1 ∈ mm_tb) (hy : M'.1.name = "<init>") (hret : M'.2.2.2.1 = none) (hdg : decode M.2.1 pc = .ok (.invokespecial index, 3))
    (hn : as.length = np) (h8 : (st.map fun v => v.category).sum ≤ 8) (hen : (mm_en (.ref r :: as)).length ≤ M'.2.2.1) (hlen : ls.length = M.2.2.1) (hstk : stk = as.reverse ++ .ref r :: st)
    (kc : mm_P g d' M' 0 (mm_in M'.2.2.1 (.ref r :: as)) [] h PostC) (hno : ∀ E h1, ¬ PostC (.inr E) h1) (kk : ∀ v h1, PostC (.inl v) h1 → mm_P g d M (pc + 3) ls (v.toList ++ st) h1 Post) : mm_P g d M pc ls stk h Post := by
  subst hstk
  refine mm_call (st := st) (as := .ref r :: as) kc (fun o h1 hp => ?_) (fun o h1 h' p e R s m args below meth c H locs cells slots LS hp kE X hf => ⟨(Value.ref (mm_ad g r) :: as.map (mm_v g)).toArray, ?_⟩)
  · cases o with
    | inl v => exact kk v h1 hp
    | inr E => exact (hno E h1 hp).elim
  · cases o with
    | inr E => exact (hno E h1 hp).elim
    | inl v =>
      have hts := X.1.2.2.2.2.2.2.2.1
      have hM := mm_metR (mm_met X.1.2.2.2.2.2.2.2.2.2.2.1 hc.2.2.1 hc.2.2.2.2.2.2 hen kE)
      have hcb := mm_cb (h1 := h1) hd hc hl X
      rw [hret] at hM hcb
      intro T hT Y
      exact Or.inl (va_runI (As := as.map (mm_v g)) (b := mm_ad g r) (n := np) ⟨X.1.1, X.1.2.1, X.1.2.2.2.1, X.1.2.2.2.2.1, hts⟩ hM ⟨hcb, hy, hts _ hi⟩
        ⟨mm_blind g _ h, mm_pc (.ref r :: as) X⟩ rfl (by simpa using hn) (X.2.2.2.2.2.2.1.trans hlen) (by simp [mm_v]) (mm_rest g h8) hdg hf T hT Y)
/-- a method that the receiver's class inherits: it returns -/
theorem mm_callU {d' np ci r index : Nat} {M' : mm_Me} {x : MethodName} {owner : String} {as : List Value} {fs : List Value} {C : String} {T : u_T} {N : Nat} (hd : d' + 1 ≤ d) (hc : mm_cm M' np) (hy : M'.1 = ⟨owner, x.name, x.desc⟩) (hl : Cond.methodLink M.1.cls index x ∈ mm_tb) (hsm : Cond.sameMethod x.cls owner x.name x.desc ∈ mm_tb) (hi : Cond.instanceMethod M'.1 ∈ mm_tb) (hs : Cond.selects C x M'.1 ∈ mm_tb) (hci : mm_cl[ci]? = some (C, T, N)) (hdg : decode M.2.1 pc = .ok (.invokevirtual index, 3))
    (a : mm_at h r (.inr (ci, fs))) (hn : as.length = np) (h8 : (st.map fun v => v.category).sum ≤ 8) (hen : (mm_en (.ref r :: as)).length ≤ M'.2.2.1) (hlen : ls.length = M.2.2.1) (hstk : stk = as.reverse ++ .ref r :: st)
    (kc : mm_P g d' M' 0 (mm_in M'.2.2.1 (.ref r :: as)) [] h PostC) (hno : ∀ E h1, ¬ PostC (.inr E) h1) (kk : ∀ v h1, PostC (.inl v) h1 → mm_P g d M (pc + 3) ls (v.toList ++ st) h1 Post) : mm_P g d M pc ls stk h Post := by
  subst hstk
  refine mm_call (st := st) (as := .ref r :: as) kc (fun o h1 hp => ?_) (fun o h1 h' p e R s m args below meth c H locs cells slots LS hp kE X hf => ⟨(Value.ref (mm_ad g r) :: as.map (mm_v g)).toArray, ?_⟩)
  · cases o with
    | inl v => exact kk v h1 hp
    | inr E => exact (hno E h1 hp).elim
  · cases o with
    | inr E => exact (hno E h1 hp).elim
    | inl v =>
      have hts := X.1.2.2.2.2.2.2.2.1
      have hM := mm_metR (mm_met X.1.2.2.2.2.2.2.2.2.2.2.1 hc.2.2.1 hc.2.2.2.2.2.2 hen kE)
      obtain ⟨c1, c2, c3, c4, c5, c6, c7⟩ := id hc
      have hcy : M'.1.cls = owner := by rw [hy]
      have hdy : M'.1.desc = x.desc := by rw [hy]
      have hws : ∀ w ∈ (Cond.code M'.1 M'.2.1 M'.2.2.1 M'.2.2.2.1 :: mm_tb), ∀ (a' : Array Value) (U : State), s.WarmedH U.vm → w.before a' U = true := by
        intro w hw a' U hW
        rcases List.mem_cons.mp hw with rfl | hw
        · exact mm_words hW hts _ c1
        · exact mm_words hW hts w hw
      have hcu : va_CU R s args M.1.cls C owner index x M'.1 M'.2.1 M'.2.2.1 M'.2.2.2.1 (Cond.code M'.1 M'.2.1 M'.2.2.1 M'.2.2.2.1 :: mm_tb) (mm_rm d' h h1) (h1.2.1 - h.2.1) (h1.2.2 - h.2.2) np := by
        refine ⟨⟨rfl, rfl, by have := X.2.1.1; show d' + 1 ≤ R.frames; omega, by have := X.2.1.2; show 8 + (M'.2.2.1 + 11) + 40 * d' ≤ R.locals; omega, hws, List.mem_cons_self⟩, hts _ c1, hts _ c2, by rw [← hcy]; exact c4, fun sig hs => ?_, hts _ hl, hts _ hsm, ?_, hts _ hs, hts _ hi⟩
        · rw [hdy, hs] at c5
          exact (Option.some.inj c5).symm
        · rw [← hy]
          exact va_Decl.of (hts _ hi) (hts _ c1)
      obtain ⟨q, -, -, h3⟩ := a.ws (g := g)
      intro T hT Y
      exact Or.inl (va_runU (x := x) (y := M'.1) (owner := owner) (As := as.map (mm_v g)) (b := mm_ad g r) (C := C) (n := np) ⟨X.1.1, X.1.2.1, X.1.2.2.2.1, X.1.2.2.2.2.1, hts⟩ hM hcu
        ⟨mm_blind g _ h, va_recv X.1.2.2.2.2.2.2.2.2.1 X.2.2.2.2.1.2 hci h3, mm_pc (.ref r :: as) X⟩ rfl (by simpa using hn) (X.2.2.2.2.2.2.1.trans hlen) (by simp [mm_v]) (mm_rest g h8) hdg hf T hT Y)
end MMC
