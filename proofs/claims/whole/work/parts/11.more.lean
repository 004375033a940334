/-! the rows of the small machine for what lies outside: texts, their bytes, two statics; System.arraycopy; methods with handlers -/
section MMF
variable {g : mm_G} {d : Nat} {M : mm_Me} {pc : Nat} {ls : List (Option Value)} {st stk : List Value} {h : mm_Hp} {Post PostC : mm_Ou → mm_Hp → Prop}
theorem mm_ad_f {i : Nat} (hi : i < 64) : mm_ad g i = mm_fa g i := by simp [mm_ad, hi]
theorem mm_gval {i : Nat} (h1 : 1 ≤ i) (h3 : i ≤ 3) (hc : M.1.cls = "java/lang/String") (hl : Cond.fieldLink "java/lang/String" 9 "java/lang/String" "value" "[B" ∈ mm_tb) (hd : decode M.2.1 pc = .ok (.getfield 9, 3)) (k : mm_P g d M (pc + 3) ls (.ref (i + 8) :: st) h Post) : mm_P g d M pc ls (.ref i :: st) h Post := by
  refine mm_same (fun h' p e R s m args below meth c H locs cells slots LS Q X hx hb hL kk => ?_) k
  have hF := X.1.2.2.2.2.2.2.2.2.2.1
  have kk2 := kk LS hL
  have e1 : mm_v g (.ref i) = .ref (mm_fa g i) := by rw [← mm_ad_f (show i < 64 by omega)]; rfl
  have e2 : mm_v g (.ref (i + 8)) = .ref (mm_fa g (i + 8)) := by rw [← mm_ad_f (show i + 8 < 64 by omega)]; rfl
  rw [List.map_cons, e2] at kk2
  rw [List.map_cons, e1]
  exact vk_getf hx hb (hF.2.2.2.2.2.2.1 i h1 h3).2.2.1 X.2.2.2.2.2.1 X.1.2.2.2.2.1 (by rw [hc]; exact X.1.2.2.2.2.2.2.2.1 _ hl) (fun _ z => z) hd kk2
theorem mm_gcod {i : Nat} (h1 : 1 ≤ i) (h3 : i ≤ 3) (hc : M.1.cls = "java/lang/String") (hl : Cond.fieldLink "java/lang/String" 15 "java/lang/String" "coder" "B" ∈ mm_tb) (hd : decode M.2.1 pc = .ok (.getfield 15, 3)) (k : mm_P g d M (pc + 3) ls (.int 0 :: st) h Post) : mm_P g d M pc ls (.ref i :: st) h Post := by
  refine mm_same (fun h' p e R s m args below meth c H locs cells slots LS Q X hx hb hL kk => ?_) k
  have hF := X.1.2.2.2.2.2.2.2.2.2.1
  have e1 : mm_v g (.ref i) = .ref (mm_fa g i) := by rw [← mm_ad_f (show i < 64 by omega)]; rfl
  rw [List.map_cons, e1]
  exact vk_getf hx hb (hF.2.2.2.2.2.2.1 i h1 h3).2.1 X.2.2.2.2.2.1 X.1.2.2.2.2.1 (by rw [hc]; exact X.1.2.2.2.2.2.2.2.1 _ hl) (fun _ z => z) hd (kk LS hL)
theorem mm_gcs (hc : M.1.cls = "java/lang/String") (hl : Cond.fieldLink "java/lang/String" 38 "java/lang/String" "COMPACT_STRINGS" "Z" ∈ mm_tb) (hd : decode M.2.1 pc = .ok (.getstatic 38, 3)) (k : mm_P g d M (pc + 3) ls (.int 1 :: st) h Post) : mm_P g d M pc ls st h Post := by
  refine mm_same (fun h' p e R s m args below meth c H locs cells slots LS Q X hx hb hL kk => ?_) k
  have hF := X.1.2.2.2.2.2.2.2.2.2.1
  exact va_gets hx hb hF.2.2.2.2.2.2.2.1 X.2.2.2.2.2.1 X.1.2.2.2.2.1 (by rw [hc]; exact X.1.2.2.2.2.2.2.2.1 _ hl) (fun _ z => z) hd (kk LS hL)
theorem mm_gsio (hc : M.1.cls = "java/lang/String") (hl : Cond.fieldLink "java/lang/String" 1053 "jdk/internal/util/Preconditions" "SIOOBE_FORMATTER" "Ljava/util/function/BiFunction;" ∈ mm_tb) (hd : decode M.2.1 pc = .ok (.getstatic 1053, 3)) (k : mm_P g d M (pc + 3) ls (.float 0 :: st) h Post) : mm_P g d M pc ls st h Post := by
  refine mm_same (fun h' p e R s m args below meth c H locs cells slots LS Q X hx hb hL kk => ?_) k
  have hF := X.1.2.2.2.2.2.2.2.2.2.1
  exact va_gets hx hb hF.2.2.2.2.2.2.2.2 X.2.2.2.2.2.1 X.1.2.2.2.2.1 (by rw [hc]; exact X.1.2.2.2.2.2.2.2.1 _ hl) (fun _ z => z) hd (kk LS hL)
theorem mm_glen {i : Nat} (h1 : 1 ≤ i) (h3 : i ≤ 3) (hd : decode M.2.1 pc = .ok (.arraylength, 1)) (k : mm_P g d M (pc + 1) ls (.int (Int32.ofNat (mm_sb i).length) :: st) h Post) : mm_P g d M pc ls (.ref (i + 8) :: st) h Post := by
  refine mm_same (fun h' p e R s m args below meth c H locs cells slots LS Q X hx hb hL kk => ?_) k
  have hF := X.1.2.2.2.2.2.2.2.2.2.1
  have e2 : mm_v g (.ref (i + 8)) = .ref (mm_fa g (i + 8)) := by rw [← mm_ad_f (show i + 8 < 64 by omega)]; rfl
  rw [List.map_cons, e2]
  exact va_tlen hx hb (hF.2.2.2.2.2.2.1 i h1 h3).2.2.2 X.2.2.2.2.2.1 rfl hd (kk LS hL)
theorem mm_gbal {i : Nat} {j : Int32} (h1 : 1 ≤ i) (h3 : i ≤ 3) (hj : vp_in j (mm_sb i).length) (hd : decode M.2.1 pc = .ok (.baload, 1)) (k : mm_P g d M (pc + 1) ls (.int ((mm_sb i).getD j.toNatClampNeg 0) :: st) h Post) : mm_P g d M pc ls (.int j :: .ref (i + 8) :: st) h Post := by
  refine mm_same (fun h' p e R s m args below meth c H locs cells slots LS Q X hx hb hL kk => ?_) k
  have hF := X.1.2.2.2.2.2.2.2.2.2.1
  have e2 : mm_v g (.ref (i + 8)) = .ref (mm_fa g (i + 8)) := by rw [← mm_ad_f (show i + 8 < 64 by omega)]; rfl
  rw [List.map_cons, List.map_cons, e2]
  exact va_tb hx hb (hF.2.2.2.2.2.2.1 i h1 h3).2.2.2 X.2.2.2.2.2.1 hj rfl hd (kk LS hL)
/-- a call on a text -/
theorem mm_callF {d' np i index : Nat} {M' : mm_Me} {as : List Value} (h1 : 1 ≤ i) (h3 : i ≤ 3) (hd : d' + 1 ≤ d) (hc : mm_cm M' np) (hl : Cond.methodLink M.1.cls index M'.1 ∈ mm_tb) (hi : Cond.instanceMethod M'.1 ∈ mm_tb) (hs : Cond.selects "java/lang/String" M'.1 M'.1 ∈ mm_tb) (hdg : decode M.2.1 pc = .ok (.invokevirtual index, 3))
    (hn : as.length = np) (h8 : (st.map fun v => v.category).sum ≤ 8) (hen : (mm_en (.ref i :: as)).length ≤ M'.2.2.1) (hlen : ls.length = M.2.2.1) (hstk : stk = as.reverse ++ .ref i :: st)
    (kc : mm_P g d' M' 0 (mm_in M'.2.2.1 (.ref i :: as)) [] h PostC) (kk : ∀ o h1, PostC o h1 → mm_then g d M pc ls st Post o h1) : mm_P g d M pc ls stk h Post := by
  subst hstk
  refine mm_call (st := st) (as := .ref i :: as) kc kk (fun o h2 h' p e R s m args below meth c H locs cells slots LS _ kE X hf => ⟨(Value.ref (mm_ad g i) :: as.map (mm_v g)).toArray, ?_⟩)
  have hts := X.1.2.2.2.2.2.2.2.1
  have hF := X.1.2.2.2.2.2.2.2.2.2.1
  have hrec : ∃ cell : Cell, H[mm_ad g i]? = some cell ∧ cell.vm.isStatics = false ∧ s.vm.findClass "java/lang/String" = some cell.cls := by
    obtain ⟨cell, q1, q2, q3, -⟩ := ((hF.2.2.2.2.2.2.1 i h1 h3).1.kept X.2.2.2.2.2.1.2.1)
    exact ⟨cell, by rw [mm_ad_f (show i < 64 by omega)]; exact q1, q2, q3⟩
  exact vx_runV (As := as.map (mm_v g)) (b := mm_ad g i) (C := "java/lang/String") (n := np) ⟨X.1.1, X.1.2.1, X.1.2.2.2.1, X.1.2.2.2.2.1, hts⟩ (mm_met X.1.2.2.2.2.2.2.2.2.2.2.1 hc.2.2.1 hc.2.2.2.2.2.2 hen kE) ⟨mm_cb hd hc hl X, hts _ hi, hts _ hs⟩
    ⟨mm_blind g _ h, hrec, mm_pc (.ref i :: as) X⟩ rfl (by simpa using hn) (X.2.2.2.2.2.2.1.trans hlen) (by simp [mm_v]) (mm_rest g h8) hdg hf
theorem mm_copy {r a n0 n1 index : Nat} {f f1 : Nat → Int32} {sp dp n : Int32} (hl : Cond.methodLink M.1.cls index arraycopyName ∈ mm_tb) (hna : Cond.native arraycopyName ∈ mm_tb) (hst : Cond.static arraycopyName ∈ mm_tb) (hin : Cond.initialized "java/lang/System" ∈ mm_tb) (hw : nativeFrameWords "java/lang/System" "arraycopy" 5 + 11 ≤ 32) (hd1 : 1 ≤ d) (hlen : ls.length = M.2.2.1) (h8 : (st.map fun v => v.category).sum ≤ 8)
    (a0 : mm_at h r (.inl (1, n0, .inl f))) (a1 : mm_at h a (.inl (1, n1, .inl f1))) (b1 : ¬ sp < 0) (b2 : ¬ dp < 0) (b3 : ¬ n < 0) (b4 : sp.toNatClampNeg + n.toNatClampNeg ≤ n0) (b5 : dp.toNatClampNeg + n.toNatClampNeg ≤ n1) (hfit : ∀ i, i < n.toNatClampNeg → fits .byte (.int (f (sp.toNatClampNeg + i))) = true) (hd : decode M.2.1 pc = .ok (.invokestatic index, 3))
    (kk : mm_P g d M (pc + 3) ls st (mm_up h a (.inl (1, n1, .inl (va_cpy f f1 sp.toNatClampNeg dp.toNatClampNeg n.toNatClampNeg)))) Post) : mm_P g d M pc ls (.int n :: .int dp :: .ref a :: .int sp :: .ref r :: st) h Post := by
  refine mm_heap (fun h' p e R s m args below meth c H locs cells slots LS Q X kk => ?_) kk
  have hts := X.1.2.2.2.2.2.2.2.1
  obtain ⟨q, h1, h2, h3⟩ := a0.ws (g := g)
  obtain ⟨q1, g1, g2, g3⟩ := a1.ws (g := g)
  have r1 := X.2.1.1
  have r2 := X.2.1.2
  refine va_copyi (ty := .byte) X.1.1 X.1.2.1 (X.1.2.2.2.1.trans (X.2.2.2.2.2.2.1.trans hlen).symm) X.1.2.2.2.2.1 (hts _ hl) (hts _ hna) (hts _ hst) (hts _ hin) X.1.2.2.2.2.2.2.2.2.1 X.2.2.2.2.1.2 (mm_D g h.1 h.2.1) X.2.2.2.2.2.1 q q1 1 1 h3 g3 rfl rfl rfl b1 b2 b3 b4 b5 hfit (by omega) (by rw [mm_cat]; omega) hd (fun H1 locs1 hP1 hD1 hS1 => kk H1 locs1 ?_ hS1)
  rw [← mm_set (g := g) g1 g2 rfl]
  exact hP1
/-- the walk of a method with handlers -/
theorem mm_metH {M' : mm_Me} {as : List Value} {h' : mm_Hp} {o : mm_Ou} (hst : (mm_l g).stackTraces = false) (hy : plainName M'.1.cls = true) (hl : (mm_en as).length ≤ M'.2.2.1) (k : mm_E g d M' 0 (mm_in M'.2.2.1 as) [] h o h') :
    vx_Met (mm_l g) M'.1 (Cond.codeWith M'.1 M'.2.1 M'.2.2.1 M'.2.2.2.1 M'.2.2.2.2 :: mm_tb) (mm_rm d h h') (mm_Pc g as h) (mm_Qc g o h') (mm_Qx g o h') (h'.2.1 - h.2.1) (h'.2.2 - h.2.2) (mm_A g) := by
  refine vx_ofWH (cc := M'.2.1) (maxL := M'.2.2.1) (ret := M'.2.2.2.1) (hh := M'.2.2.2.2) hy rfl ?_
  intro p e s m args below meth c s₁ B hml hv
  obtain ⟨rfl, hH, hK, hF⟩ := hv
  have hts := atoms_spec (ws := Cond.codeWith M'.1 M'.2.1 M'.2.2.1 M'.2.2.2.1 M'.2.2.2.2 :: mm_tb) B.pre
  have ht : c.exceptionTable.toList = tableOf M'.2.2.2.2 := vx_table (x := M'.1) B (hts _ List.mem_cons_self)
  rw [lg_entry_eq]
  have hk := k.2.2 p e (headSpec (Cond.codeWith M'.1 M'.2.1 M'.2.2.1 M'.2.2.2.1 M'.2.2.2.2 :: mm_tb) (mm_rm d h h')).room s m (as.map (mm_v g)).toArray below meth c s.heap [] 0 0 _
    ⟨⟨B.exec, B.bytes, B.returns, hml, findClass_of_methodNamed B.named, B.notSynchronized, (name_of_methodNamed B.named B.method).1, fun w hw => hts w (List.mem_cons_of_mem _ hw), hK, hF, hst, ht⟩, ⟨Nat.le_refl _, Nat.le_refl _⟩, ⟨by rw [hH.1]; exact Nat.le_add_right _ _, by rw [hH.1]; rfl⟩, ⟨by rw [Nat.zero_add]; exact Nat.le_refl _, by rw [Nat.zero_add]; exact Nat.le_refl _⟩, hH, va_S.rf, mm_L.entry g as hl⟩
  rw [Nat.zero_add, Nat.zero_add] at hk
  exact hk
def mm_cmH (M' : mm_Me) (np : Nat) : Prop :=
  Cond.codeWith M'.1 M'.2.1 M'.2.2.1 M'.2.2.2.1 M'.2.2.2.2 ∈ mm_tb ∧ Cond.initialized M'.1.cls ∈ mm_tb ∧ plainName M'.1.cls = true ∧ (M'.1.cls ≠ "java/lang/invoke/MethodHandle" ∧ M'.1.cls ≠ "java/lang/invoke/VarHandle") ∧ (parseMethodDescriptor M'.1.desc).map (fun d => d.parameters.length) = some np ∧ M'.2.2.1 ≤ 21
theorem mm_callSW {d' np index : Nat} {M' : mm_Me} {as : List Value} (hd : d' + 1 ≤ d) (hc : mm_cmH M' np) (hl : Cond.methodLink M.1.cls index M'.1 ∈ mm_tb) (hi : Cond.static M'.1 ∈ mm_tb) (hdg : decode M.2.1 pc = .ok (.invokestatic index, 3))
    (hn : as.length = np) (h8 : (st.map fun v => v.category).sum ≤ 8) (hen : (mm_en as).length ≤ M'.2.2.1) (hlen : ls.length = M.2.2.1) (hstk : stk = as.reverse ++ st)
    (kc : mm_P g d' M' 0 (mm_in M'.2.2.1 as) [] h PostC) (hno : ∀ E h1, ¬ PostC (.inr E) h1) (kk : ∀ v h1, PostC (.inl v) h1 → mm_P g d M (pc + 3) ls (v.toList ++ st) h1 Post) : mm_P g d M pc ls stk h Post := by
  subst hstk
  refine mm_call (st := st) (as := as) kc (fun o h1 hp => ?_) (fun o h1 h' p e R s m args below meth c H locs cells slots LS hp kE X hf => ⟨(as.map (mm_v g)).toArray, ?_⟩)
  · cases o with
    | inl v => exact kk v h1 hp
    | inr E => exact (hno E h1 hp).elim
  · cases o with
    | inr E => exact (hno E h1 hp).elim
    | inl v =>
      have hts := X.1.2.2.2.2.2.2.2.1
      have hM := mm_metR (mm_metH X.1.2.2.2.2.2.2.2.2.2.2.1 hc.2.2.1 hen kE)
      obtain ⟨c1, c2, c3, c4, c5, c6⟩ := id hc
      have hws : ∀ w ∈ (Cond.codeWith M'.1 M'.2.1 M'.2.2.1 M'.2.2.2.1 M'.2.2.2.2 :: mm_tb), ∀ (a' : Array Value) (U : State), s.WarmedH U.vm → w.before a' U = true := by
        intro w hw a' U hW
        rcases List.mem_cons.mp hw with rfl | hw
        · exact mm_words hW hts _ c1
        · exact mm_words hW hts w hw
      have hcs : vx_CSW R s args M.1.cls index M'.1 M'.2.1 M'.2.2.1 M'.2.2.2.1 M'.2.2.2.2 (Cond.codeWith M'.1 M'.2.1 M'.2.2.1 M'.2.2.2.1 M'.2.2.2.2 :: mm_tb) (mm_rm d' h h1) (h1.2.1 - h.2.1) (h1.2.2 - h.2.2) np := by
        refine ⟨⟨rfl, rfl, by have := X.2.1.1; show d' + 1 ≤ R.frames; omega, by have := X.2.1.2; show 8 + (M'.2.2.1 + 11) + 40 * d' ≤ R.locals; omega, hws, List.mem_cons_self⟩, hts _ c1, hts _ c2, c4, fun sig hs => ?_, hts _ hl, hts _ hi⟩
        rw [hs] at c5
        exact (Option.some.inj c5).symm
      intro T hT Y
      exact Or.inl (vx_runSW (As := as.map (mm_v g)) (n := np) ⟨X.1.1, X.1.2.1, X.1.2.2.2.1, X.1.2.2.2.2.1, hts⟩ hM hcs ⟨mm_blind g _ h, mm_pc as X⟩ rfl (by simpa using hn) (X.2.2.2.2.2.2.1.trans hlen) (by simp) (mm_rest g h8) hdg hf T hT Y)
theorem mm_ldcSw {i no : Nat} {tx : String} (hs : (M.1.cls, i, tx, no) ∈ mm_sts) (hn : no < 64) (hd : decode M.2.1 pc = .ok (.ldc_w i, 3)) (k : mm_P g d M (pc + 3) ls (.ref no :: st) h Post) : mm_P g d M pc ls st h Post := by
  refine mm_same (fun h' p e R s m args below meth c H locs cells slots LS Q X hx hb hL kk => ?_) k
  have hF := X.1.2.2.2.2.2.2.2.2.2.1.2.2.2.2.1 _ hs
  have kk2 := kk LS hL
  have e3 : mm_v g (.ref no) = .ref (mm_fa g no) := by simp [mm_v, mm_ad, hn]
  rw [List.map_cons, e3] at kk2
  intro T hT Y
  obtain ⟨t, a1, b1⟩ := kk2 T hT Y
  exact ⟨t, Y.ldcStringW hx (own := M.1.cls) (text := tx) (index := i) (a := mm_fa g no) X.1.2.2.2.2.1 hF.1 hF.2 (g := F0 m pc LS (st.map (mm_v g))) rfl (by rw [hb]; exact hd) t a1, b1⟩
end MMF
