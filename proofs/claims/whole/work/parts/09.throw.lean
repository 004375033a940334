section MMT0
variable {p : Program} {l : Launch} {e : Env} {R : Room} {s : State} {m : MethodId} {args : Array Value} {below : List Frame} {meth : Method} {c : Code} {H : Heap} {locs : List Loc} {cells slots : Nat} {Q : State → Prop}
variable {mc ms : Nat} {free : Addr → Prop} {A0 A1 : Nat → Prop} {H0 : Heap} {a : Array Value} {ls : Array Slot} {st0 rest : List Value}
variable {Qc : Array Value → State → Outcome → State → Prop} {XC : String → State → State → Prop}
theorem mm_thrS {cc : ByteArray} {pc : Nat} (hexec : p.tables.exec = Jvm.exec) (hb : c.code = cc) (hl : l.stackTraces = false) {own cls text : String} {names : List String} {ik is ic mc ms sa : Nat} {A : Nat → Prop}
    (hown : s.vm.findClass own = some m.cls) (hcls : Bundle.fit cls = true) (hnames : ∀ n ∈ names, Bundle.fit n = true)
    (hk : (Cond.classLink own ik cls).before args s = true) (hini : (Cond.initialized cls).before args s = true) (hstr : vk_R own is text sa s) (hat : ∀ w ∈ vx_atS own ic cls names, w.before args s = true)
    (hgood : ∀ w ∈ Cond.classLink own ik cls :: Cond.initialized cls :: vx_atS own ic cls names, vx_ot w = true)
    (hU : vx_Zq Bundle.tN "UNASSIGNED_STACK" Bundle.steD A s s.heap) (hN : vx_Zq Bundle.tN "SUPPRESSED_SENTINEL" Bundle.listD A s s.heap) (hS : va_S A s.heap H locs) (hsize : ls.size = c.maxLocals)
    (d0 : decode cc pc = .ok (.new ik, 3)) (d3 : decode cc (pc + 3) = .ok (.dup, 1)) (d4 : decode cc (pc + 4) = .ok (.ldc is, 2)) (d6 : decode cc (pc + 6) = .ok (.invokespecial ic, 3)) (d9 : decode cc (pc + 9) = .ok (.athrow, 1))
    (hout : ∀ x ∈ c.exceptionTable.toList, covers x (pc + 9) = false)
    (hRframes : names.length + 3 < R.frames) (hRlocals : (rest.map fun v => v.category).sum + (13 * (names.length + 1) + 43) ≤ R.locals) (hRcells : cells + 1 ≤ R.cells) (hRslots : slots + 6 ≤ R.slots) (hlocks : meth.locks = false)
    (hx : ∀ (t : State) (ce : Cell), s.vm.Alike t.vm → t.heap.size = H.size + 1 → (∀ q : Nat, q < H.size → t.heap[q]? = H[q]?) → t.heap[H.size]? = some ce → ce.vm = .none → s.vm.findClass cls = some ce.cls → XC cls s t)
    (hf : ∀ z ∈ locs, free z.base) (hc : cells + 1 ≤ mc) (hs : slots + 6 ≤ ms) :
    W p l e R s m args below meth c H locs cells slots (vx_MQ below Qc XC args s mc ms free) (F0 m pc ls rest) := by
  intro T hT X
  have htr : e.platform.stackTraces = false := (show e.platform.stackTraces = l.stackTraces by rw [X.admits.platform]).trans hl
  have Y := vx_rebase X (R' := { frames := R.frames, locals := R.locals, cells := 1, slots := 6 }) (Nat.le_refl _) (Nat.le_refl _) hRcells hRslots
  obtain ⟨s', hA⟩ : ∃ z, z = (T.setVm s.vm).setFrames (.invoking m args :: below) := ⟨_, rfl⟩
  rw [← hA] at Y
  have hvm : s'.vm = s.vm := by rw [hA]; rfl
  have hhp : s'.heap = H := by rw [hA]; exact hT
  have hW0 : s.WarmedH s'.vm := by rw [hvm]; exact State.WarmedH.refl s
  have hat' : ∀ w ∈ vx_atS own ic cls names, w.before args s' = true := fun w hw => vx_ot_at hW0 hvm.symm (hgood w (List.mem_cons_of_mem _ (List.mem_cons_of_mem _ hw))) (hat w hw)
  have hk' : (Cond.classLink own ik cls).before args s' = true := vx_ot_at hW0 hvm.symm (hgood _ List.mem_cons_self) hk
  have hini' : (Cond.initialized cls).before args s' = true := vx_ot_at hW0 hvm.symm (hgood _ (List.mem_cons_of_mem _ List.mem_cons_self)) hini
  have hU' : vx_Zq Bundle.tN "UNASSIGNED_STACK" Bundle.steD A s' s'.heap := by rw [hhp]; exact vx_Zq.moved hW0.alike (hU.kept hS.2.1)
  have hN' : vx_Zq Bundle.tN "SUPPRESSED_SENTINEL" Bundle.listD A s' s'.heap := by rw [hhp]; exact vx_Zq.moved hW0.alike (hN.kept hS.2.1)
  have h : ∀ w ∈ Bundle.ownAtoms own ic cls names, w.before args s' = true := vx_own hat' (vx_isRefq hU'.1) (vx_isRefq hN'.1) hU'.2.word hN'.2.word
  have hown' : s'.vm.findClass own = some m.cls := by rw [hvm]; exact hown
  have hins : (Cond.instantiable cls 6).before args s' = true := h _ (by simp [Bundle.ownAtoms])
  obtain ⟨vm₁, cX, kX, hfX, hkX, -, -, X₁, st1⟩ := Y.newCold hexec (own := own) (C := cls) (index := ik) (n := 6) hown' hk' hins hini'
    (g := F0 m pc ls rest) rfl (by rw [hb]; exact d0) (Nat.le_refl _) (Nat.le_refl _)
  generalize hT1 : (T.setVm vm₁).pushCell { cls := cX, slots := kX.instanceTypes.map defaultValue, vm := .none } = T1 at X₁ st1
  have hcat : (Value.ref T.heap.size).category = 1 := rfl
  have hcellA : T1.heap[T.heap.size]? = some (freshCell cX kX) := by rw [← hT1]; exact State.heap_pushCell_size _ _
  have d3' : decode c.code (pc + 3) = .ok (.dup, 1) := by rw [hb]; exact d3
  have d4' : decode c.code (pc + 4) = .ok (.ldc is, 2) := by rw [hb]; exact d4
  have hstr' : vk_R own is text sa s' := vk_R.warm hW0 hstr
  obtain ⟨U, hsteps, hrun, hend, hW, hsame, ce, hce, hO⟩ := X₁.ctorThrowS hexec htr (own := own) (cls := cls) (names := names) (ic := ic) hown' hcls hnames h (fun x hx => nomatch hx) hfX hkX hcellA (by rw [hhp, hT]; exact Nat.le_refl _) (msg := .ref sa) rfl
    (g := { method := m, pc := pc + 6, locals := ls, stack := .ref sa :: .ref T.heap.size :: .ref T.heap.size :: rest, locked := none }) rfl hsize rfl rfl (rest := rest) rfl
    (by rw [hb]; exact d6) (by rw [hb]; exact d9) hout hRframes (by simp only [List.map_cons, List.sum_cons, hcat]; omega) hlocks
  have hsame' := hsame
  obtain ⟨f1, f2⟩ := vx_frame hsame
  rw [hhp] at f1 f2
  have hWs : s.WarmedH U.vm := State.WarmedH.trans hW0 hW
  have hcl : s.vm.findClass cls = some ce.cls := by
    have h9 := hO.cls
    rw [hvm] at h9
    exact h9
  have hall : s.sameButNew ({ U with vm := s.vm } : State) locs mc ms := by
    subst hA
    obtain ⟨e1, e2⟩ := hsame
    rw [State.setFrames_setFrames] at e1
    have h2 : (T.setVm s.vm).sameButNew ({ U with vm := s.vm } : State) [] (0 + 1) (0 + 6) := ⟨e1, e2⟩
    have h3 := X.same.trans h2
    rw [List.append_nil] at h3
    exact h3.mono hc hs
  have hz9 : U.heap.size = H.size + 1 := by
    have z1 : U.heap.size ≤ s'.heap.size + (0 + 1) := hsame'.2.2.1
    have z2 : T.heap.size < U.heap.size := (Array.getElem?_eq_some_iff.mp hce).1
    rw [hhp] at z1
    rw [hT] at z2
    omega
  refine ⟨U, ?_, .threw T.heap.size, hrun, hend, Or.inr ⟨T.heap.size, rfl, cls, ce, locs, hx U ce hWs.alike hz9 (fun q hq => f2 q hq (fun z hz => nomatch hz)) (by rw [← hT]; exact hce) hO.vm hcl, hce, hO.vm, hcl, hWs, hall, hf⟩⟩
  refine st1 _ ?_
  show Steps p.tables e below (T1.setTop { method := m, pc := pc + 3, locals := ls, stack := .ref T.heap.size :: rest, locked := none }) _
  jvm_step X₁.here [X₁.here.top, hexec, d3', Value.category]
  exact X₁.ldcString hexec (own := own) (text := text) (index := is) (a := sa) hown' hstr'.1 hstr'.2
    (g := { method := m, pc := pc + 4, locals := ls, stack := .ref T.heap.size :: .ref T.heap.size :: rest, locked := none }) rfl d4' _ hsteps
theorem mm_thrSW {cc : ByteArray} {pc : Nat} (hexec : p.tables.exec = Jvm.exec) (hb : c.code = cc) (hl : l.stackTraces = false) {own cls text : String} {names : List String} {ik is ic mc ms sa : Nat} {A : Nat → Prop}
    (hown : s.vm.findClass own = some m.cls) (hcls : Bundle.fit cls = true) (hnames : ∀ n ∈ names, Bundle.fit n = true)
    (hk : (Cond.classLink own ik cls).before args s = true) (hini : (Cond.initialized cls).before args s = true) (hstr : vk_R own is text sa s) (hat : ∀ w ∈ vx_atS own ic cls names, w.before args s = true)
    (hgood : ∀ w ∈ Cond.classLink own ik cls :: Cond.initialized cls :: vx_atS own ic cls names, vx_ot w = true)
    (hU : vx_Zq Bundle.tN "UNASSIGNED_STACK" Bundle.steD A s s.heap) (hN : vx_Zq Bundle.tN "SUPPRESSED_SENTINEL" Bundle.listD A s s.heap) (hS : va_S A s.heap H locs) (hsize : ls.size = c.maxLocals)
    (d0 : decode cc pc = .ok (.new ik, 3)) (d3 : decode cc (pc + 3) = .ok (.dup, 1)) (d4 : decode cc (pc + 4) = .ok (.ldc_w is, 3)) (d7 : decode cc (pc + 7) = .ok (.invokespecial ic, 3)) (d10 : decode cc (pc + 10) = .ok (.athrow, 1))
    (hout : ∀ x ∈ c.exceptionTable.toList, covers x (pc + 10) = false)
    (hRframes : names.length + 3 < R.frames) (hRlocals : (rest.map fun v => v.category).sum + (13 * (names.length + 1) + 43) ≤ R.locals) (hRcells : cells + 1 ≤ R.cells) (hRslots : slots + 6 ≤ R.slots) (hlocks : meth.locks = false)
    (hx : ∀ (t : State) (ce : Cell), s.vm.Alike t.vm → t.heap.size = H.size + 1 → (∀ q : Nat, q < H.size → t.heap[q]? = H[q]?) → t.heap[H.size]? = some ce → ce.vm = .none → s.vm.findClass cls = some ce.cls → XC cls s t)
    (hf : ∀ z ∈ locs, free z.base) (hc : cells + 1 ≤ mc) (hs : slots + 6 ≤ ms) :
    W p l e R s m args below meth c H locs cells slots (vx_MQ below Qc XC args s mc ms free) (F0 m pc ls rest) := by
  intro T hT X
  have htr : e.platform.stackTraces = false := (show e.platform.stackTraces = l.stackTraces by rw [X.admits.platform]).trans hl
  have Y := vx_rebase X (R' := { frames := R.frames, locals := R.locals, cells := 1, slots := 6 }) (Nat.le_refl _) (Nat.le_refl _) hRcells hRslots
  obtain ⟨s', hA⟩ : ∃ z, z = (T.setVm s.vm).setFrames (.invoking m args :: below) := ⟨_, rfl⟩
  rw [← hA] at Y
  have hvm : s'.vm = s.vm := by rw [hA]; rfl
  have hhp : s'.heap = H := by rw [hA]; exact hT
  have hW0 : s.WarmedH s'.vm := by rw [hvm]; exact State.WarmedH.refl s
  have hat' : ∀ w ∈ vx_atS own ic cls names, w.before args s' = true := fun w hw => vx_ot_at hW0 hvm.symm (hgood w (List.mem_cons_of_mem _ (List.mem_cons_of_mem _ hw))) (hat w hw)
  have hk' : (Cond.classLink own ik cls).before args s' = true := vx_ot_at hW0 hvm.symm (hgood _ List.mem_cons_self) hk
  have hini' : (Cond.initialized cls).before args s' = true := vx_ot_at hW0 hvm.symm (hgood _ (List.mem_cons_of_mem _ List.mem_cons_self)) hini
  have hU' : vx_Zq Bundle.tN "UNASSIGNED_STACK" Bundle.steD A s' s'.heap := by rw [hhp]; exact vx_Zq.moved hW0.alike (hU.kept hS.2.1)
  have hN' : vx_Zq Bundle.tN "SUPPRESSED_SENTINEL" Bundle.listD A s' s'.heap := by rw [hhp]; exact vx_Zq.moved hW0.alike (hN.kept hS.2.1)
  have h : ∀ w ∈ Bundle.ownAtoms own ic cls names, w.before args s' = true := vx_own hat' (vx_isRefq hU'.1) (vx_isRefq hN'.1) hU'.2.word hN'.2.word
  have hown' : s'.vm.findClass own = some m.cls := by rw [hvm]; exact hown
  have hins : (Cond.instantiable cls 6).before args s' = true := h _ (by simp [Bundle.ownAtoms])
  obtain ⟨vm₁, cX, kX, hfX, hkX, -, -, X₁, st1⟩ := Y.newCold hexec (own := own) (C := cls) (index := ik) (n := 6) hown' hk' hins hini'
    (g := F0 m pc ls rest) rfl (by rw [hb]; exact d0) (Nat.le_refl _) (Nat.le_refl _)
  generalize hT1 : (T.setVm vm₁).pushCell { cls := cX, slots := kX.instanceTypes.map defaultValue, vm := .none } = T1 at X₁ st1
  have hcat : (Value.ref T.heap.size).category = 1 := rfl
  have hcellA : T1.heap[T.heap.size]? = some (freshCell cX kX) := by rw [← hT1]; exact State.heap_pushCell_size _ _
  have d3' : decode c.code (pc + 3) = .ok (.dup, 1) := by rw [hb]; exact d3
  have d4' : decode c.code (pc + 4) = .ok (.ldc_w is, 3) := by rw [hb]; exact d4
  have hstr' : vk_R own is text sa s' := vk_R.warm hW0 hstr
  obtain ⟨U, hsteps, hrun, hend, hW, hsame, ce, hce, hO⟩ := X₁.ctorThrowS hexec htr (own := own) (cls := cls) (names := names) (ic := ic) hown' hcls hnames h (fun x hx => nomatch hx) hfX hkX hcellA (by rw [hhp, hT]; exact Nat.le_refl _) (msg := .ref sa) rfl
    (g := { method := m, pc := pc + 7, locals := ls, stack := .ref sa :: .ref T.heap.size :: .ref T.heap.size :: rest, locked := none }) rfl hsize rfl rfl (rest := rest) rfl
    (by rw [hb]; exact d7) (by rw [hb]; exact d10) hout hRframes (by simp only [List.map_cons, List.sum_cons, hcat]; omega) hlocks
  have hsame' := hsame
  obtain ⟨f1, f2⟩ := vx_frame hsame
  rw [hhp] at f1 f2
  have hWs : s.WarmedH U.vm := State.WarmedH.trans hW0 hW
  have hcl : s.vm.findClass cls = some ce.cls := by
    have h9 := hO.cls
    rw [hvm] at h9
    exact h9
  have hall : s.sameButNew ({ U with vm := s.vm } : State) locs mc ms := by
    subst hA
    obtain ⟨e1, e2⟩ := hsame
    rw [State.setFrames_setFrames] at e1
    have h2 : (T.setVm s.vm).sameButNew ({ U with vm := s.vm } : State) [] (0 + 1) (0 + 6) := ⟨e1, e2⟩
    have h3 := X.same.trans h2
    rw [List.append_nil] at h3
    exact h3.mono hc hs
  have hz9 : U.heap.size = H.size + 1 := by
    have z1 : U.heap.size ≤ s'.heap.size + (0 + 1) := hsame'.2.2.1
    have z2 : T.heap.size < U.heap.size := (Array.getElem?_eq_some_iff.mp hce).1
    rw [hhp] at z1
    rw [hT] at z2
    omega
  refine ⟨U, ?_, .threw T.heap.size, hrun, hend, Or.inr ⟨T.heap.size, rfl, cls, ce, locs, hx U ce hWs.alike hz9 (fun q hq => f2 q hq (fun z hz => nomatch hz)) (by rw [← hT]; exact hce) hO.vm hcl, hce, hO.vm, hcl, hWs, hall, hf⟩⟩
  refine st1 _ ?_
  show Steps p.tables e below (T1.setTop { method := m, pc := pc + 3, locals := ls, stack := .ref T.heap.size :: rest, locked := none }) _
  jvm_step X₁.here [X₁.here.top, hexec, d3', Value.category]
  exact X₁.ldcStringW hexec (own := own) (text := text) (index := is) (a := sa) hown' hstr'.1 hstr'.2
    (g := { method := m, pc := pc + 4, locals := ls, stack := .ref T.heap.size :: .ref T.heap.size :: rest, locked := none }) rfl d4' _ hsteps
end MMT0
section MMT
variable {g : mm_G} {d : Nat} {M : mm_Me} {pc : Nat} {ls : List (Option Value)} {st : List Value} {h : mm_Hp} {Post : mm_Ou → mm_Hp → Prop}
theorem mm_objInit {r idx : Nat} (hl : Cond.methodLink M.1.cls idx objectInit ∈ mm_tb) (hi : Cond.instanceMethod objectInit ∈ mm_tb) (hcd : Cond.code objectInit ⟨#[0xb1]⟩ 1 none ∈ mm_tb) (hd1 : 1 ≤ d) (hlen : ls.length = M.2.2.1) (h8 : (st.map fun v => v.category).sum ≤ 8) (hd : decode M.2.1 pc = .ok (.invokespecial idx, 3))
    (k : mm_P g d M (pc + 3) ls st h Post) : mm_P g d M pc ls (.ref r :: st) h Post := by
  refine mm_same (fun h' p e R s m args below meth c H locs cells slots LS Q X hx hb hL kk => ?_) k
  have hts := X.1.2.2.2.2.2.2.2.1
  have r1 := X.2.1.1
  have r2 := X.2.1.2
  have h9 := mm_rest (pc := pc) g (m := m) (LS := LS) (xs := []) h8
  refine W.objInit hx hb X.1.2.2.2.2.1 (hts _ hl) (hts _ hi) (hts _ hcd) rfl (by rw [X.1.2.2.2.1]; exact hL.1.trans hlen) rfl hd (by omega) ?_ (kk LS hL)
  have h10 : 2 * (F0 m pc LS (List.map (mm_v g) (Value.ref r :: st))).monitorRoom + ((st.map (mm_v g)).map fun v => v.category).sum ≤ 8 := h9
  have h11 : 2 * (F0 m pc LS (List.map (mm_v g) (Value.ref r :: st))).monitorRoom + ((st.map (mm_v g)).map fun v => v.category).sum + 12 ≤ R.locals := by omega
  exact h11
theorem mm_cat (g : mm_G) (st : List Value) : ((st.map (mm_v g)).map fun v => v.category) = st.map fun v => v.category := by
  rw [List.map_map]
  exact List.map_congr_left (fun v _ => mm_v_cat g v)
theorem mm_max {x y : Int32} {idx : Nat} (hl : Cond.methodLink M.1.cls idx Lib.Math.max.name ∈ mm_tb) (hs : Cond.static Lib.Math.max.name ∈ mm_tb) (hi : Cond.initialized "java/lang/Math" ∈ mm_tb) (hcd : Cond.code Lib.Math.max.name Lib.Math.max.code 2 (some .int) ∈ mm_tb) (hd1 : 1 ≤ d) (hlen : ls.length = M.2.2.1) (h8 : (st.map fun v => v.category).sum ≤ 8) (hd : decode M.2.1 pc = .ok (.invokestatic idx, 3))
    (k : mm_P g d M (pc + 3) ls (.int (if x < y then y else x) :: st) h Post) : mm_P g d M pc ls (.int y :: .int x :: st) h Post := by
  refine mm_same (fun h' p e R s m args below meth c H locs cells slots LS Q X hx hb hL kk => ?_) k
  have hts := X.1.2.2.2.2.2.2.2.1
  have r1 := X.2.1.1
  have r2 := X.2.1.2
  have r3 := X.2.2.2.1
  exact va_mmax hx hb (X.1.2.2.2.1.trans (hL.1.trans hlen).symm) X.1.2.2.2.2.1 (hts _ hl) (hts _ hs) (hts _ hi) (hts _ hcd) (by omega) (by rw [mm_cat]; omega) (by omega) (by omega) hd (kk LS hL)
theorem mm_min {x y : Int32} {idx : Nat} (hl : Cond.methodLink M.1.cls idx Lib.Math.min.name ∈ mm_tb) (hs : Cond.static Lib.Math.min.name ∈ mm_tb) (hi : Cond.initialized "java/lang/Math" ∈ mm_tb) (hcd : Cond.code Lib.Math.min.name Lib.Math.min.code 2 (some .int) ∈ mm_tb) (hd1 : 1 ≤ d) (hlen : ls.length = M.2.2.1) (h8 : (st.map fun v => v.category).sum ≤ 8) (hd : decode M.2.1 pc = .ok (.invokestatic idx, 3))
    (k : mm_P g d M (pc + 3) ls (.int (if y < x then y else x) :: st) h Post) : mm_P g d M pc ls (.int y :: .int x :: st) h Post := by
  refine mm_same (fun h' p e R s m args below meth c H locs cells slots LS Q X hx hb hL kk => ?_) k
  have hts := X.1.2.2.2.2.2.2.2.1
  have r1 := X.2.1.1
  have r2 := X.2.1.2
  have r3 := X.2.2.2.1
  exact va_mmin hx hb (X.1.2.2.2.1.trans (hL.1.trans hlen).symm) X.1.2.2.2.2.1 (hts _ hl) (hts _ hs) (hts _ hi) (hts _ hcd) (by omega) (by rw [mm_cat]; omega) (by omega) (by omega) hd (kk LS hL)
/-- a String constant -/
theorem mm_ldcS {i no : Nat} {tx : String} (hs : (M.1.cls, i, tx, no) ∈ mm_sts) (hn : no < 64) (hd : decode M.2.1 pc = .ok (.ldc i, 2)) (k : mm_P g d M (pc + 2) ls (.ref no :: st) h Post) : mm_P g d M pc ls st h Post := by
  refine mm_same (fun h' p e R s m args below meth c H locs cells slots LS Q X hx hb hL kk => ?_) k
  have hF := X.1.2.2.2.2.2.2.2.2.2.1.2.2.2.2.1 _ hs
  have kk2 := kk LS hL
  have e3 : mm_v g (.ref no) = .ref (mm_fa g no) := by simp [mm_v, mm_ad, hn]
  rw [List.map_cons, e3] at kk2
  exact va_ldcS hx hb X.1.2.2.2.2.1 hF hd kk2
theorem mm_out {E : String} (hh : M.2.2.2.2 = []) (hp : Post (.inr E) h) : mm_T g d M pc ls st h E Post := by
  refine ⟨_, _, hp, Nat.le_refl _, Nat.le_refl _, fun p e R s m args below meth c H locs cells slots LS q ce X hq hv hcl => ?_⟩
  refine vx_out (E := E) (ce := ce) ?_ X.1.2.2.2.2.2.1 hq hv hcl (fun t ht _ => ⟨rfl, by rw [ht]; exact X.2.2.2.2.1, fun q hq => ?_⟩) X.2.2.2.2.2.1.2.2 (by omega) (by omega)
  · rw [X.1.2.2.2.2.2.2.2.2.2.2.2, hh]
    intro x hx
    cases hx
  · rw [ht]
    exact X.2.2.2.2.2.1.2.1 q (Nat.lt_of_lt_of_le hq X.2.2.1.1) (Nat.not_le.mpr hq)
theorem mm_thrH {ciE : Nat} {cls : String} {h' : mm_Hp} {p : Program} {R : Room} {s : State} {m : MethodId} {args : Array Value} {meth : Method} {c : Code} {H : Heap} {locs : List Loc} {cells slots : Nat} {LS : Array Slot} (hci : mm_cl[ciE]? = some (cls, mm_TE, 0)) (X : mm_X g d M h h' ls p R s m args meth c H locs cells slots LS)
    (t : State) (ce : Cell) (hz : t.heap.size = H.size + 1) (ho : ∀ q : Nat, q < H.size → t.heap[q]? = H[q]?) (hce : t.heap[H.size]? = some ce) (hv : ce.vm = .none) (hcl : s.vm.findClass cls = some ce.cls) : mm_Qx g (.inr cls) (mm_add h (.inr (ciE, [])) 6) cls s t := by
  obtain ⟨X1, X2, X3, X4, X5, X6, X7⟩ := X
  refine ⟨rfl, ⟨by rw [hz, X5.1]; rfl, ?_⟩, fun q hq => ?_⟩
  · show va_P (mm_K g) mm_cl (mm_ws g (va_up h.1 (h.2.1 + 64) (.inr (ciE, []))) (h.2.1 + 1)) t.heap
    rw [← mm_ws_push]
    intro k q hk
    have hl : (mm_ws g h.1 h.2.1).length = h.2.1 := by simp [mm_ws]
    rcases Nat.lt_or_ge k h.2.1 with hk1 | hk1
    · rw [List.getElem?_append_left (by omega)] at hk
      have h9 := X5.2 k q hk
      exact h9.kept (ho q.1 h9.lt)
    · rw [List.getElem?_append_right (by omega), hl] at hk
      have e0 : k - h.2.1 = 0 := by
        cases hz : k - h.2.1 with
        | zero => rfl
        | succ z => rw [hz] at hk; simp at hk
      rw [e0] at hk
      simp at hk
      subst hk
      refine ⟨_, hci, ce, ?_, ?_, hv, fun k hk => absurd hk (Nat.not_lt_zero k)⟩
      · show t.heap[mm_B g + h.2.1]? = some ce
        rw [← X5.1]
        exact hce
      · have h9 := (X1.2.2.2.2.2.2.2.2.1.1 ciE _ hci).2.1
        exact Option.some.inj (hcl.symm.trans h9)
  · rw [ho q (by have := X5.1; omega)]
    exact X6.2.1 q (Nat.lt_of_lt_of_le hq X3.1) (Nat.not_le.mpr hq)
theorem mm_thr {cls text : String} {names : List String} {ik is ic ciE no : Nat} (hcls : Bundle.fit cls = true) (hnames : ∀ n ∈ names, Bundle.fit n = true) (hk : Cond.classLink M.1.cls ik cls ∈ mm_tb) (hini : Cond.initialized cls ∈ mm_tb) (hat : ∀ w ∈ vx_atS M.1.cls ic cls names, w ∈ mm_tb) (hgood : ∀ w ∈ Cond.classLink M.1.cls ik cls :: Cond.initialized cls :: vx_atS M.1.cls ic cls names, vx_ot w = true)
    (hs : (M.1.cls, is, text, no) ∈ mm_sts) (hci : mm_cl[ciE]? = some (cls, mm_TE, 0)) (hh : M.2.2.2.2 = []) (hlen : ls.length = M.2.2.1) (hd : names.length + 4 ≤ d) (h8 : (st.map fun v => v.category).sum ≤ 8)
    (d0 : decode M.2.1 pc = .ok (.new ik, 3)) (d3 : decode M.2.1 (pc + 3) = .ok (.dup, 1)) (d4 : decode M.2.1 (pc + 4) = .ok (.ldc is, 2)) (d6 : decode M.2.1 (pc + 6) = .ok (.invokespecial ic, 3)) (d9 : decode M.2.1 (pc + 9) = .ok (.athrow, 1))
    (hp : Post (.inr cls) (mm_add h (.inr (ciE, [])) 6)) : mm_P g d M pc ls st h Post := by
  refine ⟨_, _, hp, Nat.le_add_right _ _, Nat.le_add_right _ _, fun p e R s m args below meth c H locs cells slots LS X => ?_⟩
  obtain ⟨X1, X2, X3, X4, X5, X6, X7⟩ := id X
  have hts := X1.2.2.2.2.2.2.2.1
  have hF := X1.2.2.2.2.2.2.2.2.2.1
  have e1 : (mm_add h (.inr (ciE, [])) 6).2.1 - h.2.1 = 1 := by show h.2.1 + 1 - h.2.1 = 1; omega
  have e2 : (mm_add h (.inr (ciE, [])) 6).2.2 - h.2.2 = 6 := by show h.2.2 + 6 - h.2.2 = 6; omega
  rw [e1, e2] at X4
  rw [e1, e2]
  refine mm_thrS (A := mm_A g) X1.1 X1.2.1 X1.2.2.2.2.2.2.2.2.2.2.1 X1.2.2.2.2.1 hcls hnames (hts _ hk) (hts _ hini) (hF.2.2.2.2.1 _ hs) (fun w hw => hts w (hat w hw)) hgood hF.2.2.1 hF.2.2.2.1 X6 (by rw [X1.2.2.2.1]; exact X7.1.trans hlen) d0 d3 d4 d6 d9 ?_ (by omega) (by rw [mm_cat]; omega) (by omega) (by omega) X1.2.2.2.2.2.1
    (fun t ce _ hz ho hce hv hcl => mm_thrH hci X t ce hz ho hce hv hcl) X6.2.2 (by omega) (by omega)
  rw [X1.2.2.2.2.2.2.2.2.2.2.2, hh]
  intro x hx
  cases hx
theorem mm_thrw {cls text : String} {names : List String} {ik is ic ciE no : Nat} (hcls : Bundle.fit cls = true) (hnames : ∀ n ∈ names, Bundle.fit n = true) (hk : Cond.classLink M.1.cls ik cls ∈ mm_tb) (hini : Cond.initialized cls ∈ mm_tb) (hat : ∀ w ∈ vx_atS M.1.cls ic cls names, w ∈ mm_tb) (hgood : ∀ w ∈ Cond.classLink M.1.cls ik cls :: Cond.initialized cls :: vx_atS M.1.cls ic cls names, vx_ot w = true)
    (hs : (M.1.cls, is, text, no) ∈ mm_sts) (hci : mm_cl[ciE]? = some (cls, mm_TE, 0)) (hh : M.2.2.2.2 = []) (hlen : ls.length = M.2.2.1) (hd : names.length + 4 ≤ d) (h8 : (st.map fun v => v.category).sum ≤ 8)
    (d0 : decode M.2.1 pc = .ok (.new ik, 3)) (d3 : decode M.2.1 (pc + 3) = .ok (.dup, 1)) (d4 : decode M.2.1 (pc + 4) = .ok (.ldc_w is, 3)) (d6 : decode M.2.1 (pc + 7) = .ok (.invokespecial ic, 3)) (d9 : decode M.2.1 (pc + 10) = .ok (.athrow, 1))
    (hp : Post (.inr cls) (mm_add h (.inr (ciE, [])) 6)) : mm_P g d M pc ls st h Post := by
  refine ⟨_, _, hp, Nat.le_add_right _ _, Nat.le_add_right _ _, fun p e R s m args below meth c H locs cells slots LS X => ?_⟩
  obtain ⟨X1, X2, X3, X4, X5, X6, X7⟩ := id X
  have hts := X1.2.2.2.2.2.2.2.1
  have hF := X1.2.2.2.2.2.2.2.2.2.1
  have e1 : (mm_add h (.inr (ciE, [])) 6).2.1 - h.2.1 = 1 := by show h.2.1 + 1 - h.2.1 = 1; omega
  have e2 : (mm_add h (.inr (ciE, [])) 6).2.2 - h.2.2 = 6 := by show h.2.2 + 6 - h.2.2 = 6; omega
  rw [e1, e2] at X4
  rw [e1, e2]
  refine mm_thrSW (A := mm_A g) X1.1 X1.2.1 X1.2.2.2.2.2.2.2.2.2.2.1 X1.2.2.2.2.1 hcls hnames (hts _ hk) (hts _ hini) (hF.2.2.2.2.1 _ hs) (fun w hw => hts w (hat w hw)) hgood hF.2.2.1 hF.2.2.2.1 X6 (by rw [X1.2.2.2.1]; exact X7.1.trans hlen) d0 d3 d4 d6 d9 ?_ (by omega) (by rw [mm_cat]; omega) (by omega) (by omega) X1.2.2.2.2.2.1
    (fun t ce _ hz ho hce hv hcl => mm_thrH hci X t ce hz ho hce hv hcl) X6.2.2 (by omega) (by omega)
  rw [X1.2.2.2.2.2.2.2.2.2.2.2, hh]
  intro x hx
  cases hx
end MMT
