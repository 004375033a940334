/-! THE END: the law over the machine -/
def R_law : String := "TestimonyBookLaw"
def lw_P (b : Addr) (xs : List Int32) (args : Array Value) (s : State) : Prop := args = #[.ref b] ∧ s.IntsAt b xs ∧ xs.length ≤ 3072 ∧ (Jvm.Cond.and given_1 narrow_1).before args s = true
def lw_Q (_ : Array Value) (s : State) (o : Outcome) (t : State) : Prop := o = .returned (some (.int 1)) ∧ Framed s o t [] room_1.cells room_1.slots
def lw_Z (below : List Frame) (a : Array Value) (s : State) : State → Prop := fun t => ∃ o, t.status = .running ∧ Ended t below o ∧ lw_Q a s o t
/-- what holds at the law's entry: the machine, the code, the tables' words (any of lw_tbl by 'hts w (by decide +kernel)'), the script of L ints xs at the cell b, what the Statement gives of the start (any of its parts by flat_of_before) -/
def lw_At (p : Program) (s : State) (m : MethodId) (meth : Method) (c : Code) (b L : Nat) (xs : Nat → Int32) : Prop :=
  p.tables.exec = Jvm.exec ∧ c.code = code ∧ meth.sig.returnType = ret ∧ c.maxLocals = 7 ∧ s.vm.findClass R_law = some m.cls ∧ (∀ w ∈ lw_tbl, w.before #[Value.ref b] s = true) ∧ va_X b L xs s s.heap ∧ b < s.heap.size ∧ meth.locks = false ∧ (Jvm.Cond.and given_1 narrow_1).before #[Value.ref b] s = true
/-- what is owed of the law over the small machine -/
def mm_Law (g : mm_G) : Prop := mm_P g 12 ML_law 0 [some (.ref 0), none, none, none, none, none, none] [] (fun _ => .inr (0, []), 0, 0) (fun o h => o = .inl (some (.int 1)) ∧ h.2.1 ≤ 2000 ∧ h.2.2 ≤ 200000)
set_option maxRecDepth 100000 in
theorem mm_toLaw {g : mm_G} {p : Program} {e : Env} {s : State} {m : MethodId} {below : List Frame} {meth : Method} {c : Code} {b : Nat} (hC : mm_C g ML_law p s m #[Value.ref b] meth c) (hB : mm_B g = s.heap.size) (hb : mm_fa g 0 = b) (k : mm_Law g) :
    W p (mm_l g) e room_1 s m #[Value.ref b] below meth c s.heap [] 0 0 (lw_Z below #[Value.ref b] s) (entryFrame m ([Value.ref b] : List Value).toArray 7) := by
  obtain ⟨o, h', ⟨rfl, hn, hs⟩, k1, k2, k⟩ := k
  rw [lg_entry_eq]
  have e0 : ([Value.ref 0].map (mm_v g)) = [.ref b] := by simp [mm_v, mm_ad, hb]
  have hL := mm_L.entry g [.ref 0] (ml := 7) (by decide)
  rw [e0] at hL
  have hH : mm_H g (fun _ => .inr (0, []), 0, 0) s.heap := ⟨by rw [hB]; rfl, fun k q hq => by simp [mm_ws] at hq⟩
  have hk := k p e room_1 s m #[.ref b] below meth c s.heap [] 0 0 _ ⟨hC, ⟨by decide, by decide⟩, ⟨by rw [hB]; exact Nat.le_refl _, by rw [hB]⟩, ⟨Nat.le_trans (show 0 + (h'.2.1 - 0) ≤ 2000 by omega) (by decide), Nat.le_trans (show 0 + (h'.2.2 - 0) ≤ 200000 by omega) (by decide)⟩, hH, va_S.rf, hL⟩
  intro T hT Y
  obtain ⟨t, st, oc, hr, he, hq⟩ := hk T hT Y
  refine ⟨t, st, oc, hr, he, ?_⟩
  rcases hq with ⟨⟨v, hv, hoc, hH2, hlow⟩, L, hFE, hL2⟩ | ⟨q, -, E, ce, L, hx, -⟩
  · cases hv
    refine ⟨hoc, hFE.1, hFE.2.1, ?_⟩
    refine hFE.2.2.weaken (fun y hy hlt => absurd hlt (Nat.not_lt.mpr ?_)) (Nat.le_trans (show 0 + (h'.2.1 - 0) ≤ 2000 by omega) (by decide)) (Nat.le_trans (show 0 + (h'.2.2 - 0) ≤ 200000 by omega) (by decide))
    have h9 : mm_B g ≤ y.base := hL2 y hy
    rw [hB] at h9
    exact h9
  · cases hx.1
theorem mm_lawOk {g : mm_G} (hL : mm_sL g ≤ 3072) : mm_Law g := by
  obtain ⟨r, h1, h2, h3⟩ := lawOk (g := g) (N := 20001) (by omega) hL
  obtain ⟨o, h', ⟨ho, R⟩, hE⟩ := t_start (g := g) (d := 12) (by omega) h1
  obtain ⟨-, k, j, hb, -, hc, hs⟩ := R
  have cap : ∀ q, bys q → 64 * 2 ^ j q ≤ 2 * mo q := fun q hq => by
    obtain ⟨s, mk, b, ⟨f, -, -, -, -, -, -, -, hcap⟩, -⟩ := hb q hq
    exact hcap
  have c1 : 64 * 2 ^ j 65 ≤ 2 * 3000 := cap 65 (Or.inl rfl)
  have c2 : 64 * 2 ^ j 67 ≤ 2 * 3000 := cap 67 (Or.inr (Or.inl rfl))
  have c3 : 64 * 2 ^ j 77 ≤ 2 * 17400 := cap 77 (Or.inr (Or.inr rfl))
  have l1 : j 65 < 2 ^ j 65 := Nat.lt_two_pow_self
  have l2 : j 67 < 2 ^ j 67 := Nat.lt_two_pow_self
  have l3 : j 77 < 2 ^ j 77 := Nat.lt_two_pow_self
  exact ⟨o, h', ⟨by rw [ho, h2], by omega, by omega⟩, hE⟩
theorem lq1 (i : Nat) {w : Cond} (h : tables_1_1[i]? = some w) : w ∈ lw_tbl := by
  have h1 : w ∈ tables_1_1 := List.mem_of_getElem? h
  have h2 : w ∈ tables_1 := (List.mem_append_left _ h1)
  exact List.mem_append_right _ h2
theorem lq2 (i : Nat) {w : Cond} (h : tables_1_2[i]? = some w) : w ∈ lw_tbl := by
  have h1 : w ∈ tables_1_2 := List.mem_of_getElem? h
  have h2 : w ∈ tables_1 := (List.mem_append_right _ (List.mem_append_left _ h1))
  exact List.mem_append_right _ h2
theorem lq3 (i : Nat) {w : Cond} (h : tables_1_3[i]? = some w) : w ∈ lw_tbl := by
  have h1 : w ∈ tables_1_3 := List.mem_of_getElem? h
  have h2 : w ∈ tables_1 := (List.mem_append_right _ (List.mem_append_right _ (List.mem_append_left _ h1)))
  exact List.mem_append_right _ h2
theorem lq4 (i : Nat) {w : Cond} (h : tables_1_4[i]? = some w) : w ∈ lw_tbl := by
  have h1 : w ∈ tables_1_4 := List.mem_of_getElem? h
  have h2 : w ∈ tables_1 := (List.mem_append_right _ (List.mem_append_right _ (List.mem_append_right _ (List.mem_append_left _ h1))))
  exact List.mem_append_right _ h2
theorem lq5 (i : Nat) {w : Cond} (h : tables_1_5[i]? = some w) : w ∈ lw_tbl := by
  have h1 : w ∈ tables_1_5 := List.mem_of_getElem? h
  have h2 : w ∈ tables_1 := (List.mem_append_right _ (List.mem_append_right _ (List.mem_append_right _ (List.mem_append_right _ (List.mem_append_left _ h1)))))
  exact List.mem_append_right _ h2
theorem lq6 (i : Nat) {w : Cond} (h : tables_1_6[i]? = some w) : w ∈ lw_tbl := by
  have h1 : w ∈ tables_1_6 := List.mem_of_getElem? h
  have h2 : w ∈ tables_1 := (List.mem_append_right _ (List.mem_append_right _ (List.mem_append_right _ (List.mem_append_right _ (List.mem_append_right _ (List.mem_append_left _ h1))))))
  exact List.mem_append_right _ h2
theorem lq7 (i : Nat) {w : Cond} (h : tables_1_7[i]? = some w) : w ∈ lw_tbl := by
  have h1 : w ∈ tables_1_7 := List.mem_of_getElem? h
  have h2 : w ∈ tables_1 := (List.mem_append_right _ (List.mem_append_right _ (List.mem_append_right _ (List.mem_append_right _ (List.mem_append_right _ (List.mem_append_right _ h1))))))
  exact List.mem_append_right _ h2
section GLU
variable {s : State} {args : Array Value}
theorem gl_one {C : String} {T : u_T} {N n : Nat} (hts : ∀ w ∈ lw_tbl, w.before args s = true) (h : ∀ w ∈ u_ws C T N, w ∈ mm_tb) (hi : Cond.instantiable C n ∈ lw_tbl) : ∃ r : ClassId × (Nat → Nat), u_Kn s C T N r.1 r.2 := by
  obtain ⟨a, b, q⟩ := u_known (C := C) (T := T) (N := N) (n := n) (fun w (hw : w ∈ mm_tb) => hts w (List.mem_filter.mp hw).1) h (hts _ hi)
  exact ⟨(a, b), q⟩
theorem gl_no {C : String} : ∀ w ∈ u_ws C mm_TE 0, w ∈ mm_tb := fun w hw => absurd hw (by simp [u_ws])
theorem gl_cls (hts : ∀ w ∈ lw_tbl, w.before args s = true) : ∃ D : va_G, ∀ (c : Nat) (q : vw_C), mm_cl[c]? = some q → u_Kn s q.1 q.2.1 q.2.2 (D.1 c) (D.2 c) := by
  have k : ∀ c : Nat, ∃ r : ClassId × (Nat → Nat), ∀ q : vw_C, mm_cl[c]? = some q → u_Kn s q.1 q.2.1 q.2.2 r.1 r.2 := by
    intro c
    match c with
    | 0 => obtain ⟨r, hr⟩ := gl_one (C := RX0) (T := TX0) (N := 8) hts uw_X0 (lq2 106 rfl); exact ⟨r, fun q h => by cases h; exact hr⟩
    | 1 => obtain ⟨r, hr⟩ := gl_one (C := RX1) (T := TX1) (N := 4) hts uw_X1 (lq1 36 rfl); exact ⟨r, fun q h => by cases h; exact hr⟩
    | 2 => obtain ⟨r, hr⟩ := gl_one (C := RX2) (T := TX2) (N := 8) hts uw_X2 (lq2 30 rfl); exact ⟨r, fun q h => by cases h; exact hr⟩
    | 3 => obtain ⟨r, hr⟩ := gl_one (C := RX3) (T := TX3) (N := 9) hts uw_X3 (lq1 169 rfl); exact ⟨r, fun q h => by cases h; exact hr⟩
    | 4 => obtain ⟨r, hr⟩ := gl_one (C := RX4) (T := TX4) (N := 9) hts uw_X4 (lq1 103 rfl); exact ⟨r, fun q h => by cases h; exact hr⟩
    | 5 => obtain ⟨r, hr⟩ := gl_one (C := RX5) (T := TX5) (N := 5) hts uw_X5 (lq1 207 rfl); exact ⟨r, fun q h => by cases h; exact hr⟩
    | 6 => obtain ⟨r, hr⟩ := gl_one (C := RX6) (T := TX6) (N := 6) hts uw_X6 (lq1 225 rfl); exact ⟨r, fun q h => by cases h; exact hr⟩
    | 7 => obtain ⟨r, hr⟩ := gl_one (C := RX7) (T := TX7) (N := 8) hts uw_X7 (lq2 5 rfl); exact ⟨r, fun q h => by cases h; exact hr⟩
    | 8 => obtain ⟨r, hr⟩ := gl_one (C := RX8) (T := TX8) (N := 9) hts uw_X8 (lq1 138 rfl); exact ⟨r, fun q h => by cases h; exact hr⟩
    | 9 => obtain ⟨r, hr⟩ := gl_one (C := RX10) (T := TX10) (N := 13) hts uw_X10 (lq2 59 rfl); exact ⟨r, fun q h => by cases h; exact hr⟩
    | 10 => obtain ⟨r, hr⟩ := gl_one (C := RX11) (T := TX11) (N := 14) hts uw_X11 (lq1 28 rfl); exact ⟨r, fun q h => by cases h; exact hr⟩
    | 11 => obtain ⟨r, hr⟩ := gl_one (C := RX12) (T := TX12) (N := 54) hts uw_X12 (lq5 189 rfl); exact ⟨r, fun q h => by cases h; exact hr⟩
    | 12 => obtain ⟨r, hr⟩ := gl_one (C := "java/util/NoSuchElementException") (T := mm_TE) (N := 0) hts gl_no (lq4 179 rfl); exact ⟨r, fun q h => by cases h; exact hr⟩
    | 13 => obtain ⟨r, hr⟩ := gl_one (C := "java/lang/IllegalArgumentException") (T := mm_TE) (N := 0) hts gl_no (lq3 62 rfl); exact ⟨r, fun q h => by cases h; exact hr⟩
    | n + 14 => exact ⟨(0, fun _ => 0), fun q h => by cases h⟩
  obtain ⟨F, hF⟩ := Classical.axiomOfChoice k
  exact ⟨(fun c => (F c).1, fun c => (F c).2), fun c q h => hF c q h⟩
theorem gl_arr {ty : FieldType} (hp : ∀ C, ty ≠ .object C) (h : (Cond.arrayClass ty).before args s = true) : ∃ cA : ClassId, ArrOfT s cA ty ∧ va_RA s cA ty := by
  obtain ⟨c, k, comp, h1, h2, h3⟩ := Cond.arrayClass_spec (args := args) (first := s) (o := none) (s := s) (idx := []) h
  refine ⟨c, fun N z => ⟨(fun k h => by cases h), k, h2, comp, h3⟩, ?_⟩
  cases ty with
  | object C => exact absurd rfl (hp C)
  | _ => exact h1
abbrev glF : List Cond := flatC (Jvm.Cond.and given_1 narrow_1)
def gt (i : Nat) : Term := match i with
  | 0 => .string "TestimonyBook$Scribe" 124
  | 1 => .string "TestimonyBook" 273
  | _ => .string "TestimonyBook" 279
def gtL : List Nat := [6, 8, 8]
def gtB : List (List Int32) := [mm_sb 1, mm_sb 2, mm_sb 3]
theorem gt_ex : ∀ i, i < 3 → Cond.exactly (gt i) "java/lang/String" ∈ glF := by decide +kernel
theorem gt_co : ∀ i, i < 3 → Cond.eq (.field (gt i) "java/lang/String" "coder" "B") (.int 0) ∈ glF := by decide +kernel
theorem gt_ar : ∀ i, i < 3 → Cond.arrayOf (.field (gt i) "java/lang/String" "value" "[B") .byte ∈ glF := by decide +kernel
theorem gt_le : ∀ i, i < 3 → Cond.eq (.length (.field (gt i) "java/lang/String" "value" "[B")) (.int (Int32.ofNat (gtL.getD i 0))) ∈ glF := by decide +kernel
theorem gt_el : ∀ i, i < 3 → ∀ j, j < gtL.getD i 0 → Cond.eq (.elem (.field (gt i) "java/lang/String" "value" "[B") (.int (Int32.ofNat j))) (.int ((gtB.getD i []).getD j 0)) ∈ glF := by decide +kernel
theorem gt_ne : ∀ i, i < 3 → ∀ j, j < 3 → i ≠ j → (Cond.not (Cond.eq (gt i) (gt j)) ∈ glF ∨ Cond.not (Cond.eq (gt j) (gt i)) ∈ glF) := by decide +kernel
def gtR : List Cond := [Cond.exactly (.string "TestimonyBook" 138) "java/lang/String", Cond.exactly (.string "TestimonyBook" 163) "java/lang/String", Cond.exactly (.string "TestimonyBook" 241) "java/lang/String", Cond.exactly (.string "TestimonyBook" 269) "java/lang/String", Cond.exactly (.string "TestimonyBook" 271) "java/lang/String", Cond.eq (.string "TestimonyBook$Scribe" 124) (.string "TestimonyBook" 281), Cond.eq (.string "TestimonyBook" 273) (.string "TestimonyBookModel" 277), Cond.eq (.string "TestimonyBook" 279) (.string "TestimonyBookModel" 279), Cond.not (.castable "java/lang/IllegalArgumentException" "java/util/NoSuchElementException"), Cond.isRef (.static "java/lang/Throwable" "UNASSIGNED_STACK" "[Ljava/lang/StackTraceElement;"), Cond.isRef (.static "java/lang/Throwable" "SUPPRESSED_SENTINEL" "Ljava/util/List;"), Cond.eq (.static "java/lang/String" "COMPACT_STRINGS" "Z") (.int 1), Cond.isRef (.static "jdk/internal/util/Preconditions" "SIOOBE_FORMATTER" "Ljava/util/function/BiFunction;")]
theorem gt_rest : ∀ w ∈ gtR, w ∈ glF := by decide +kernel
theorem gl_str {t : Term} (h : (Cond.exactly t "java/lang/String").before args s = true) : ∃ a : Nat, t.eval args s none [] s = some (.ref a) := by
  obtain ⟨a, c, cA, kA, q1, -⟩ := Cond.exactly_spec (args := args) (first := s) (o := none) (s := s) (idx := []) (t := t) (cls := "java/lang/String") h
  exact ⟨a, q1⟩
/-- what lies outside, at the start -/
def glA (b : Nat) (ad aV : Nat → Nat) (a4 a5 a6 a7 a8 : Nat) (k : Nat) : Nat := match k with
  | 0 => b
  | 1 => ad 0
  | 2 => ad 1
  | 3 => ad 2
  | 4 => a4
  | 5 => a5
  | 6 => a6
  | 7 => a7
  | 8 => a8
  | n + 9 => aV n
theorem gl_start {l : Launch} {b L : Nat} {xs : Nat → Int32} (hts : ∀ w ∈ lw_tbl, w.before args s = true) (hgv : (Jvm.Cond.and given_1 narrow_1).before args s = true) (hX : va_X b L xs s s.heap) (hbl : b < s.heap.size) :
    ∃ g : mm_G, mm_l g = l ∧ mm_B g = s.heap.size ∧ mm_fa g 0 = b ∧ mm_sL g = L ∧ va_K (mm_K g) mm_cl (mm_ty g) s ∧ mm_F g s s.heap := by
  have hs : ∀ w ∈ glF, w.before args s = true := flat_of_before _ hgv
  have hr : ∀ w ∈ gtR, w.before args s = true := fun w hw => hs w (gt_rest w hw)
  have hA : ∀ a : Nat, a < s.heap.size → ¬ s.heap.size ≤ a := fun a h => by omega
  obtain ⟨D, hD⟩ := gl_cls hts
  obtain ⟨c0, k0, r0⟩ := gl_arr (ty := .int) (fun C h => by cases h) (hts _ (lq1 136 rfl))
  obtain ⟨c1, k1, r1⟩ := gl_arr (ty := .byte) (fun C h => by cases h) (hts _ (lq1 101 rfl))
  obtain ⟨c2, k2, r2⟩ := gl_arr (ty := .long) (fun C h => by cases h) (hts _ (lq2 3 rfl))
  obtain ⟨ad, aV, hS, hE⟩ := vk_Sof (args := args) (s := s) (N := 3) (tm := gt) (len := gtL) (byt := gtB) (A := fun q => s.heap.size ≤ q) (by decide) (fun i hi => hs _ (gt_ex i hi)) (fun i hi => hs _ (gt_co i hi)) (fun i hi => hs _ (gt_ar i hi)) (fun i hi => hs _ (gt_le i hi)) (fun i hi j hj => hs _ (gt_el i hi j hj)) (fun i j hi hj hn => (gt_ne i hi j hj hn).imp (hs _) (hs _)) hA
  have E0 : (Term.string "TestimonyBook$Scribe" 124).eval args s none [] s = some (.ref (ad 0)) := hE 0 (by decide)
  have E1 : (Term.string "TestimonyBook" 273).eval args s none [] s = some (.ref (ad 1)) := hE 1 (by decide)
  have E2 : (Term.string "TestimonyBook" 279).eval args s none [] s = some (.ref (ad 2)) := hE 2 (by decide)
  obtain ⟨a4, E4⟩ := gl_str (t := .string "TestimonyBook" 138) (hr (Cond.exactly (.string "TestimonyBook" 138) "java/lang/String") (by simp [gtR]))
  obtain ⟨a5, E5⟩ := gl_str (t := .string "TestimonyBook" 163) (hr (Cond.exactly (.string "TestimonyBook" 163) "java/lang/String") (by simp [gtR]))
  obtain ⟨a6, E6⟩ := gl_str (t := .string "TestimonyBook" 241) (hr (Cond.exactly (.string "TestimonyBook" 241) "java/lang/String") (by simp [gtR]))
  obtain ⟨a7, E7⟩ := gl_str (t := .string "TestimonyBook" 269) (hr (Cond.exactly (.string "TestimonyBook" 269) "java/lang/String") (by simp [gtR]))
  obtain ⟨a8, E8⟩ := gl_str (t := .string "TestimonyBook" 271) (hr (Cond.exactly (.string "TestimonyBook" 271) "java/lang/String") (by simp [gtR]))
  have E9 : (Term.string "TestimonyBook" 281).eval args s none [] s = some (.ref (ad 0)) := va_eqR (hr (Cond.eq (.string "TestimonyBook$Scribe" 124) (.string "TestimonyBook" 281)) (by simp [gtR])) E0
  have E10 : (Term.string "TestimonyBookModel" 277).eval args s none [] s = some (.ref (ad 1)) := va_eqR (hr (Cond.eq (.string "TestimonyBook" 273) (.string "TestimonyBookModel" 277)) (by simp [gtR])) E1
  have E11 : (Term.string "TestimonyBookModel" 279).eval args s none [] s = some (.ref (ad 2)) := va_eqR (hr (Cond.eq (.string "TestimonyBook" 279) (.string "TestimonyBookModel" 279)) (by simp [gtR])) E2
  obtain ⟨fo, hfo⟩ : ∃ fo : Option Nat, va_Z "jdk/internal/util/Preconditions" "SIOOBE_FORMATTER" "Ljava/util/function/BiFunction;" (va_rf fo) (fun q => s.heap.size ≤ q) s s.heap := by
    rcases va_Zqof (A := fun q => s.heap.size ≤ q) (hts _ (lq3 233 rfl)) (hts _ (lq1 24 rfl)) (hr (Cond.isRef (.static "jdk/internal/util/Preconditions" "SIOOBE_FORMATTER" "Ljava/util/function/BiFunction;")) (by simp [gtR])) hA with h | ⟨t, h⟩
    · exact ⟨none, h⟩
    · exact ⟨some t, h⟩
  refine ⟨(l, s.heap.size, D, (fun k => if k = 0 then c0 else if k = 1 then c1 else c2), glA b ad aV a4 a5 a6 a7 a8, L, xs, fo), rfl, rfl, rfl, rfl, ⟨hD, fun k q h => ?_⟩, hX, hbl, vx_Zqof (hts _ (lq3 88 rfl)) (hts _ (lq1 17 rfl)) (hr (Cond.isRef (.static "java/lang/Throwable" "UNASSIGNED_STACK" "[Ljava/lang/StackTraceElement;")) (by simp [gtR])) hA, vx_Zqof (hts _ (lq3 90 rfl)) (hts _ (lq1 17 rfl)) (hr (Cond.isRef (.static "java/lang/Throwable" "SUPPRESSED_SENTINEL" "Ljava/util/List;")) (by simp [gtR])) hA, ?_, va_Nc.of (hr (Cond.not (.castable "java/lang/IllegalArgumentException" "java/util/NoSuchElementException")) (by simp [gtR])), fun i i1 i2 => ?_, va_Zof (hts _ (lq3 194 rfl)) (hts _ (lq1 21 rfl)) (va_eqt (hr (Cond.eq (.static "java/lang/String" "COMPACT_STRINGS" "Z") (.int 1)) (by simp [gtR]))) hA, hfo⟩
  · match k with
    | 0 => cases h; exact ⟨k0, r0⟩
    | 1 => cases h; exact ⟨k1, r1⟩
    | 2 => cases h; exact ⟨k2, r2⟩
    | n + 3 => cases h
  · exact List.forall_mem_cons.mpr ⟨vk_R.of (hts _ (lq4 210 rfl)) E4, List.forall_mem_cons.mpr ⟨vk_R.of (hts _ (lq4 223 rfl)) E5, List.forall_mem_cons.mpr ⟨vk_R.of (hts _ (lq5 89 rfl)) E6, List.forall_mem_cons.mpr ⟨vk_R.of (hts _ (lq4 187 rfl)) E7, List.forall_mem_cons.mpr ⟨vk_R.of (hts _ (lq3 101 rfl)) E8, List.forall_mem_cons.mpr ⟨vk_R.of (hts _ (lq5 95 rfl)) E1, List.forall_mem_cons.mpr ⟨vk_R.of (hts _ (lq5 121 rfl)) E2, List.forall_mem_cons.mpr ⟨vk_R.of (hts _ (lq5 122 rfl)) E9, List.forall_mem_cons.mpr ⟨vk_R.of (hts _ (lq3 169 rfl)) E0, List.forall_mem_cons.mpr ⟨vk_R.of (hts _ (lq7 67 rfl)) E10, List.forall_mem_cons.mpr ⟨vk_R.of (hts _ (lq7 68 rfl)) E11, fun q h => nomatch h⟩⟩⟩⟩⟩⟩⟩⟩⟩⟩⟩
  · have : i = 1 ∨ i = 2 ∨ i = 3 := by omega
    rcases this with rfl | rfl | rfl
    · exact hS.1 0 (by decide)
    · exact hS.1 1 (by decide)
    · exact hS.1 2 (by decide)
end GLU
theorem gl_code : code = cL_law := by first | rfl | decide +kernel
theorem whole_start {p : Program} {e : Env} {s : State} {m : MethodId} {below : List Frame} {meth : Method} {c : Code} (l : Launch) {b L : Nat} {xs : Nat → Int32} (hL : L ≤ 3072) (C0 : lw_At p s m meth c b L xs) (hn : meth.name = "law") (ht : c.exceptionTable.toList = []) (hl : l.stackTraces = false) : W p l e room_1 s m #[Value.ref b] below meth c s.heap [] 0 0 (lw_Z below #[Value.ref b] s) (entryFrame m ([Value.ref b] : List Value).toArray 7) := by
  obtain ⟨hx, hb, hr, hml, hown, hts, hX, hbl, hlk, hgv⟩ := C0
  obtain ⟨g, g1, g2, g3, g4, g5, g6⟩ := gl_start (l := l) hts hgv hX hbl
  have h := mm_toLaw (g := g) (p := p) (e := e) (s := s) (m := m) (below := below) (meth := meth) (c := c) (b := b) ⟨hx, hb.trans gl_code, hr, hml, hown, hlk, hn, fun w hw => hts w (List.mem_filter.mp hw).1, g5, g6, by rw [g1]; exact hl, ht⟩ g2 g3 (mm_lawOk (by rw [g4]; exact hL))
  rw [g1] at h
  exact h
