/-! what a handler catches, where its class is linked at the catch -/
section MMK0
variable {e : Env} {s₀ : State} {f : JFrame} {q : Addr} {ce : Cell}
/-- a row of the table that covers the place: the class is linked, and takes the thing or not -/
theorem mm_row {S : State} {y : ExceptionTableEntry} {t : List ExceptionTableEntry} {ct : ClassId} {Q : Handler → Pre} {E : CtlPost} {d : Bool} {acts : List Action} (hy : covers y f.pc = true) (h0 : y.catchType ≠ 0) (hl : S.vm.ClassLinks e.platform f.method.cls y.catchType ct) (hcell : S.heap[q]? = some ce) (hv : ce.vm = .none) (hk : ∃ k, S.vm.classes[ce.cls]? = some k) :
    wp (findHandler.go f q (y :: t)) Q E e d acts S ↔ if S.vm.assignable ce.cls ct = true then Q (.found y.handlerPc) d acts (S.setVm (S.vm.noted f.method.cls y.catchType (.cls ct))) else wp (findHandler.go f q t) Q E e d acts (S.setVm (S.vm.noted f.method.cls y.catchType (.cls ct))) := by
  have hobj : ∀ k, ce.vm ≠ .statics k := fun k => by rw [hv]; exact fun z => by cases z
  obtain ⟨dk, _, _, kt, hd, _, _, _, _, hkt, _, hopen⟩ := hl.here
  have hal : S.vm.Alike (S.vm.noted f.method.cls y.catchType (.cls ct)) := (Vm.Alike.refl S.vm).noted _ _ _
  obtain ⟨k1, hk1⟩ := hk
  obtain ⟨k1', hk1', -⟩ := hal.2.2 _ _ hk1
  obtain ⟨k2', hk2', -⟩ := hal.2.2 _ _ hkt
  simp only [covers] at hy
  obtain ⟨ha, ht⟩ := (resolveClass_links e.toSetting hl).op (op := VmOp.resolveClass f.method.cls y.catchType) rfl
  have has : (S.vm.noted f.method.cls y.catchType (.cls ct)).assignable ce.cls ct = S.vm.assignable ce.cls ct := hal.assignable _ _
  cases hfit : S.vm.assignable ce.cls ct <;> simp [findHandler.go, hy, h0, ha, ht, hcell, hobj, hk1', hk2', has, hfit, VmOp.dirties, VmOp.acts]
theorem mm_hgo (hv : ce.vm = .none) (hk0 : ∃ k, s₀.vm.classes[ce.cls]? = some k) (x : ExceptionTableEntry) (suf : List ExceptionTableEntry) (hx : covers x f.pc = true) (h0 : x.catchType ≠ 0) {ct : ClassId} (hl : s₀.vm.ClassLinks e.platform f.method.cls x.catchType ct) (hfit : s₀.vm.assignable ce.cls ct = true) :
    ∀ (pre : List ExceptionTableEntry) (S : State), s₀.WarmedH S.vm → S.heap[q]? = some ce → (∀ y ∈ pre, covers y f.pc = false ∨ (y.catchType ≠ 0 ∧ ∃ c', s₀.vm.ClassLinks e.platform f.method.cls y.catchType c' ∧ s₀.vm.assignable ce.cls c' = false)) →
      ∃ vm', s₀.WarmedH vm' ∧ ∀ (Q : Handler → Pre) (E : CtlPost) (d : Bool) (acts : List Action), wp (findHandler.go f q (pre ++ x :: suf)) Q E e d acts S ↔ Q (.found x.handlerPc) d acts (S.setVm vm') := by
  intro pre
  induction pre with
  | nil =>
    intro S hW hcell _
    obtain ⟨k0, hk0⟩ := hk0
    obtain ⟨k0', hk0', -⟩ := hW.alike.2.2 _ _ hk0
    obtain ⟨dk, _, _, kt, hd, _, _, _, _, hkt, _, hopen⟩ := hl.here
    refine ⟨_, hW.noted hd hopen (State.rightAt_cls hl), fun Q E d acts => ?_⟩
    rw [List.nil_append, mm_row hx h0 (hW.classLinks hl) hcell hv ⟨k0', hk0'⟩, if_pos (by rw [hW.alike.assignable]; exact hfit)]
  | cons y ys ih =>
    intro S hW hcell hp
    have hr : ∀ z ∈ ys, covers z f.pc = false ∨ (z.catchType ≠ 0 ∧ ∃ c', s₀.vm.ClassLinks e.platform f.method.cls z.catchType c' ∧ s₀.vm.assignable ce.cls c' = false) := fun z hz => hp z (List.mem_cons_of_mem _ hz)
    cases hcov : covers y f.pc with
    | false =>
      obtain ⟨vm', h1, h2⟩ := ih S hW hcell hr
      exact ⟨vm', h1, fun Q E d acts => by rw [List.cons_append, W.findHandler_go_skip hcov]; exact h2 Q E d acts⟩
    | true =>
      rcases hp y List.mem_cons_self with h9 | ⟨hy0, c', hl', hno⟩
      · rw [h9] at hcov; cases hcov
      · obtain ⟨k0, hk0⟩ := hk0
        obtain ⟨k0', hk0', -⟩ := hW.alike.2.2 _ _ hk0
        obtain ⟨dk, _, _, kt, hd, _, _, _, _, hkt, _, hopen⟩ := hl'.here
        obtain ⟨vm', h1, h2⟩ := ih (S.setVm (S.vm.noted f.method.cls y.catchType (.cls c'))) (hW.noted hd hopen (State.rightAt_cls hl')) hcell hr
        refine ⟨vm', h1, fun Q E d acts => ?_⟩
        rw [List.cons_append, mm_row hcov hy0 (hW.classLinks hl') hcell hv ⟨k0', hk0'⟩, if_neg (by rw [hW.alike.assignable, hno]; decide)]
        exact h2 Q E d acts
end MMK0
section MMK1
variable {p : Program} {l : Launch} {e : Env} {R : Room} {s : State} {m : MethodId} {args : Array Value} {below : List Frame} {meth : Method} {c : Code} {H : Heap} {locs : List Loc} {cells slots : Nat} {Q : State → Prop} {pc : Nat} {LS : Array Slot} {rest : List Value}
theorem mm_catchW {own name : String} {E : String} {ce : Cell} {q : Addr} (hown : s.vm.findClass own = some m.cls) (pre : List ExceptionTableEntry) (x : ExceptionTableEntry) (suf : List ExceptionTableEntry) (hsplit : c.exceptionTable.toList = pre ++ x :: suf)
    (hpass : ∀ z ∈ pre, covers z pc = false ∨ (z.catchType ≠ 0 ∧ ∃ nm : String, (Cond.classLink own z.catchType nm).before args s = true ∧ va_Nc E nm s)) (hx : covers x pc = true) (h0 : x.catchType ≠ 0)
    (hlink : (Cond.classLink own x.catchType name).before args s = true) (hcast : (Cond.castable E name).before args s = true) (hcell : H[q]? = some ce) (hv : ce.vm = .none) (hcl : s.vm.findClass E = some ce.cls)
    (kk : W p l e R s m args below meth c H locs cells slots Q (F0 m x.handlerPc LS [.ref q])) : vx_W p l e R s m args below meth c H locs cells slots Q (F0 m pc LS rest) q := by
  intro T hT X
  have hpl : e.platform.magicAccessors = ({} : Platform).magicAccessors := by rw [X.admits.platform]
  obtain ⟨c3, c4, hc3, hc4, hasg⟩ := Cond.castable_spec hcast
  cases Option.some.inj (hc3.symm.trans hcl)
  obtain ⟨c5, hc5, hcl5⟩ := Cond.classLink_spec hown hlink e.platform hpl
  cases Option.some.inj (hc4.symm.trans hc5)
  have hcT : ((T.setTop (F0 m pc LS rest)).pushFrame (.throwing q)).heap[q]? = some ce := by
    show T.heap[q]? = some ce
    rw [hT]
    exact hcell
  obtain ⟨vm', hW', hgo⟩ := mm_hgo (e := e) (s₀ := s) (f := F0 m pc LS rest) (q := q) hv (by obtain ⟨k9, h9, -⟩ := Vm.findClass_spec hcl; exact ⟨k9, h9⟩) x suf hx h0 hcl5 hasg pre ((T.setTop (F0 m pc LS rest)).pushFrame (.throwing q)) X.warmed hcT
    (fun z hz => by
      rcases hpass z hz with h | ⟨hz0, nm, hl1, hn1⟩
      · exact Or.inl h
      · obtain ⟨c6, hc6, hcl6⟩ := Cond.classLink_spec hown hl1 e.platform hpl
        obtain ⟨a8, b8, h1, h2, h3⟩ := hn1
        cases Option.some.inj (h1.symm.trans hcl)
        cases Option.some.inj (h2.symm.trans hc6)
        exact Or.inr ⟨hz0, _, hcl6, h3⟩)
  obtain ⟨t, a1, b1⟩ := kk (T.setVm vm') hT (X.noted hW')
  refine ⟨t, ?_, b1⟩
  have h : At T (F0 m pc LS rest).method c below := X.here
  obtain ⟨hg1, hg2⟩ := h.throwing q
  refine Steps.head hg1 hg2 ?_
  have hfind : ∀ (Q : Handler → Pre) (E : CtlPost) (d : Bool) (acts : List Action), wp (findHandler (F0 m pc LS rest) q) Q E e d acts ((T.setTop (F0 m pc LS rest)).pushFrame (.throwing q)) ↔ Q (.found x.handlerPc) d acts (((T.setTop (F0 m pc LS rest)).pushFrame (.throwing q)).setVm vm') := by
    intro Q E d acts
    rw [W.findHandler_eq (s := (T.setTop (F0 m pc LS rest)).pushFrame (.throwing q)) (f := F0 m pc LS rest) (meth := meth) (code := c) X.method' X.code, hsplit]
    exact hgo Q E d acts
  have hstep : (stepThrowing e ((T.setTop (F0 m pc LS rest)).pushFrame (.throwing q)) q (.java (F0 m pc LS rest) :: T.frames.tail)).Is ((((T.setTop (F0 m pc LS rest)).pushFrame (.throwing q)).setVm vm').setFrames (.java { F0 m pc LS rest with pc := x.handlerPc, stack := [.ref q] } :: T.frames.tail)) [] := by
    simp only [stepThrowing, searchFrame, vmDo]
    generalize hr : Sem.go _ e false [] ((T.setTop (F0 m pc LS rest)).pushFrame (.throwing q)) = res
    obtain ⟨as, rfl, ha⟩ := Sem.eq_ok_of hr (a := Handler.found x.handlerPc) (s' := ((T.setTop (F0 m pc LS rest)).pushFrame (.throwing q)).setVm vm') (acts' := []) (by simp [hfind _ _ _ _])
    exact ⟨rfl, ha⟩
  rw [stepThread_throwing (frames_entered h.top _), hstep.1]
  obtain ⟨g₀, hg⟩ := Option.isSome_iff_exists.mp h.top
  obtain ⟨r, hr⟩ := State.topJava?_eq_some.mp hg
  have hr' : (T.setVm vm').frames = .java g₀ :: r := hr
  have e9 : (((T.setTop (F0 m pc LS rest)).pushFrame (.throwing q)).setVm vm').setFrames (.java { F0 m pc LS rest with pc := x.handlerPc, stack := [.ref q] } :: T.frames.tail) = (T.setVm vm').setTop (F0 m x.handlerPc LS [.ref q]) := by
    rw [State.setTop_of_frames _ hr', hr, List.tail_cons, State.pushFrame, State.setTop_of_frames _ hr]
    show (((T.setVm vm').setFrames _).setFrames _).setFrames _ = _
    rw [State.setFrames_setFrames, State.setFrames_setFrames]
  rw [e9]
  exact a1
end MMK1
section MMK
variable {g : mm_G} {d : Nat} {M : mm_Me} {pc : Nat} {ls ls' : List (Option Value)} {st : List Value} {h : mm_Hp} {Post : mm_Ou → mm_Hp → Prop}
/-- a thing is caught, and its handler lays it into a local, where it is forgotten -/
theorem mm_catch {E name : String} {k : Fin 4} (pre : List (Nat × Nat × Nat × Nat)) (x : Nat × Nat × Nat × Nat) (suf : List (Nat × Nat × Nat × Nat)) (hsplit : M.2.2.2.2 = pre ++ x :: suf)
    (hpass : ∀ z ∈ pre, z.2.2.2 ≠ 0 ∧ Cond.classLink M.1.cls z.2.2.2 "java/util/NoSuchElementException" ∈ mm_tb ∧ E = "java/lang/IllegalArgumentException") (hx : x.1 ≤ pc ∧ pc < x.2.1) (h0 : x.2.2.2 ≠ 0) (hlink : Cond.classLink M.1.cls x.2.2.2 name ∈ mm_tb) (hcast : Cond.castable E name ∈ mm_tb)
    (hd : decode M.2.1 x.2.2.1 = .ok (.astore_n k, 1)) (hk : (k : Nat) < ls.length) (hl : (mm_kl ls (k : Nat)).set (k : Nat) none = ls') (kk : mm_P g d M (x.2.2.1 + 1) ls' [] h Post) : mm_T g d M pc ls st h E Post := by
  obtain ⟨o, h', hp, k1, k2, kk⟩ := kk
  refine ⟨o, h', hp, k1, k2, fun p e R s m args below meth c H locs cells slots LS q ce X hq hv hcl => ?_⟩
  have hts := X.1.2.2.2.2.2.2.2.1
  have hF := X.1.2.2.2.2.2.2.2.2.2.1
  refine mm_catchW (E := E) (name := name) X.1.2.2.2.2.1 (tableOf pre) ⟨x.1, x.2.1, x.2.2.1, x.2.2.2⟩ (tableOf suf) (by rw [X.1.2.2.2.2.2.2.2.2.2.2.2, hsplit]; simp [tableOf]) (fun z hz => ?_) (by simp [covers]; exact hx) h0 (hts _ hlink) (hts _ hcast) hq hv hcl ?_
  · obtain ⟨z0, h1, rfl⟩ := List.mem_map.mp hz
    obtain ⟨h2, h3, h4⟩ := hpass z0 h1
    exact Or.inr ⟨h2, _, hts _ h3, by rw [h4]; exact hF.2.2.2.2.2.1⟩
  · have hL := X.2.2.2.2.2.2
    refine lv_astore_n X.1.1 X.1.2.1 hd rfl hL.has hk rfl (fun LS' hL' => ?_)
    refine kk p e R s m args below meth c H locs cells slots LS' ⟨X.1, X.2.1, X.2.2.1, X.2.2.2.1, X.2.2.2.2.1, X.2.2.2.2.2.1, ?_⟩
    subst hl
    refine ⟨by rw [hL'.1]; simp [mm_kl_len], hL'.2.1, fun j u hj => ?_⟩
    rw [List.getElem?_set] at hj
    by_cases e1 : (k : Nat) = j
    · rw [if_pos e1] at hj
      split at hj <;> cases hj
    · rw [if_neg e1] at hj
      obtain ⟨h1, h2⟩ := mm_kl_at hj
      refine hL'.2.2 (j, mm_v g u) (List.mem_cons_of_mem _ (List.mem_filter.mpr ⟨mm_al_mem.mpr ⟨u, h1, rfl⟩, ?_⟩))
      have e' : ¬ j = (k : Nat) := fun z => e1 z.symm
      by_cases hc : j + 1 = (k : Nat)
      · have h3 : ¬ u.category = 2 := fun z => h2 ⟨hc, z⟩
        simp [e', hc, mm_v_cat, h3]
      · simp [e', hc]
end MMK
