/-! the rows of the small machine that make cells, and those that read the script -/
section MMN
variable {g : mm_G} {d : Nat} {M : mm_Me} {pc : Nat} {ls : List (Option Value)} {st : List Value} {h : mm_Hp} {Post : mm_Ou → mm_Hp → Prop}
theorem mm_new_q {w : Nat → va_E} {n q : Nat} {x : va_E} {H1 : Heap} (hP1 : va_P (mm_K g) mm_cl (mm_ws g w n ++ [(q, x)]) H1) (hD1 : va_D (mm_A g) (mm_ws g w n ++ [(q, x)])) (hz : H1.size ≤ mm_B g + n + 1) : q = mm_B g + n ∧ H1.size = mm_B g + n + 1 := by
  have hl : (mm_ws g w n).length = n := by simp [mm_ws]
  have hq : (mm_ws g w n ++ [(q, x)])[n]? = some (q, x) := by
    rw [List.getElem?_append_right (by omega), hl]
    simp
  have h1 : q < H1.size := (hP1 n _ hq).lt
  have h2 : mm_B g ≤ q := hD1.2 n _ hq
  have h3 : ¬ q < mm_B g + n := by
    intro h4
    have h5 : (mm_ws g w n ++ [(q, x)])[q - mm_B g]? = some (mm_B g + (q - mm_B g), mm_c g (w (q - mm_B g + 64))) := by
      rw [List.getElem?_append_left (by omega), mm_ws_at (by omega)]
    have h6 := hD1.1 (q - mm_B g) n _ _ h5 hq (by simp only; omega)
    omega
  omega
theorem mm_grow {x : va_E} {N pc' : Nat} {st' : List Value}
    (hk : ∀ (h' : mm_Hp) (p : Program) (e : Env) (R : Room) (s : State) (m : MethodId) (args : Array Value) (below : List Frame) (meth : Method) (c : Code) (H : Heap) (locs : List Loc) (cells slots : Nat) (LS : Array Slot) (Q : State → Prop),
      mm_X g d M h h' ls p R s m args meth c H locs cells slots LS → cells + 1 ≤ R.cells → slots + N ≤ R.slots → (∀ (q : Nat) (H1 : Heap), va_P (mm_K g) mm_cl (mm_ws g h.1 h.2.1 ++ [(q, mm_c g x)]) H1 → va_D (mm_A g) (mm_ws g h.1 h.2.1 ++ [(q, mm_c g x)]) → va_S (mm_A g) s.heap H1 locs → W p (mm_l g) e R s m args below meth c H1 locs (cells + 1) (slots + N) Q (F0 m pc' LS (.ref q :: st'.map (mm_v g)))) → W p (mm_l g) e R s m args below meth c H locs cells slots Q (F0 m pc LS (st.map (mm_v g))))
    (k : mm_P g d M pc' ls (.ref (h.2.1 + 64) :: st') (mm_add h x N) Post) : mm_P g d M pc ls st h Post := by
  obtain ⟨o, h', hp, k1, k2, k⟩ := k
  have k1 : h.2.1 + 1 ≤ h'.2.1 := k1
  have k2 : h.2.2 + N ≤ h'.2.2 := k2
  refine ⟨o, h', hp, by omega, by omega, fun p e R s m args below meth c H locs cells slots LS X => ?_⟩
  obtain ⟨X1, X2, X3, X4, X5, X6, X7⟩ := id X
  refine hk h' p e R s m args below meth c H locs cells slots LS _ X (by omega) (by omega) (fun q H1 hP1 hD1 hS1 => ?_)
  intro T hT Y
  have h1 := Y.heapSize
  rw [hT] at h1
  obtain ⟨rfl, hz⟩ := mm_new_q hP1 hD1 (by omega)
  rw [mm_ws_push] at hP1
  have hk2 := k p e R s m args below meth c H1 locs (cells + 1) (slots + N) LS ⟨X1, X2, ⟨X3.1, by show s.heap.size + (cells + 1) = mm_B g + (h.2.1 + 1); omega⟩, ⟨by show cells + 1 + (h'.2.1 - (h.2.1 + 1)) ≤ R.cells; omega, by show slots + N + (h'.2.2 - (h.2.2 + N)) ≤ R.slots; omega⟩, ⟨by show H1.size = mm_B g + (h.2.1 + 1); omega, hP1⟩, hS1, X7⟩
  have e1 : cells + 1 + (h'.2.1 - (h.2.1 + 1)) = cells + (h'.2.1 - h.2.1) := by omega
  have e2 : slots + N + (h'.2.2 - (h.2.2 + N)) = slots + (h'.2.2 - h.2.2) := by omega
  have e3 : mm_v g (.ref (h.2.1 + 64)) = .ref (mm_B g + h.2.1) := by simp [mm_v, mm_ad, show ¬ h.2.1 + 64 < 64 by omega]
  simp only [List.map_cons, e3] at hk2
  simp only [e1, e2] at hk2
  exact hk2 T hT Y
theorem mm_new {index ci : Nat} {C : String} {T : u_T} {N : Nat} {ty : Nat → FieldType} {fs : List Value} (hk : mm_kc ci C T N ty) (hcl : Cond.classLink M.1.cls index C ∈ mm_tb) (hin : Cond.instantiable C N ∈ mm_tb) (hini : Cond.initialized C ∈ mm_tb) (hfs : ∀ j, j < N → defaultValue (ty j) = vp_V fs j) (hm : fs.map (mm_v g) = fs) (hd : decode M.2.1 pc = .ok (.new index, 3))
    (kk : mm_P g d M (pc + 3) ls (.ref (h.2.1 + 64) :: st) (mm_add h (.inr (ci, fs)) N) Post) : mm_P g d M pc ls st h Post := by
  refine mm_grow (fun h' p e R s m args below meth c H locs cells slots LS Q X hc hs kk => ?_) kk
  obtain ⟨c1, c2, c3, c4⟩ := hk
  have hts := X.1.2.2.2.2.2.2.2.1
  have e : mm_c g (.inr (ci, fs)) = .inr (ci, fs) := by
    show (Sum.inr (ci, fs.map (mm_v g)) : va_E) = _
    rw [hm]
  rw [e] at kk
  exact va_new (ci := ci) (fs := fs) (C := C) (T := T) (N := N) X.1.1 X.1.2.1 hts c2 ty c3 X.1.2.2.2.2.1 (hts _ hcl) (hts _ hin) (hts _ hini) X.1.2.2.2.2.2.2.2.2.1 X.2.2.2.2.1.2 (mm_D g h.1 h.2.1) X.2.2.2.2.2.1 (fun q hq => Nat.le_trans X.2.2.1.1 hq) c1 hfs hc hs hd (fun q H1 hP1 hD1 hS1 => kk q H1 hP1 hD1 hS1)
theorem mm_newa {t : Nat} {atype : ArrayType} {ty : FieldType} {n : Int32} {N : Nat} {a0 : vp_A} (hty : newarray.typeOf atype = ty) (ht : (mm_ty g)[t]? = some (mm_tC g t, ty)) (hw : Cond.arrayClass (newarray.typeOf atype) ∈ mm_tb) (hra : ∀ U cA, va_RA U cA ty → U.vm.findClass ("[" ++ ty.toString) = some cA)
    (ha : ∀ cA : ClassId, vp_cell cA a0 = arrV cA N (fun _ => defaultValue ty)) (hn : ¬ n < 0) (hN : n.toNatClampNeg = N) (hby : N * componentBytes ty ≤ 536870912) (hd : decode M.2.1 pc = .ok (.newarray atype, 2))
    (kk : mm_P g d M (pc + 2) ls (.ref (h.2.1 + 64) :: st) (mm_add h (.inl (t, a0)) N) Post) : mm_P g d M pc ls (.int n :: st) h Post := by
  refine mm_grow (fun h' p e R s m args below meth c H locs cells slots LS Q X hc hs kk => ?_) kk
  have hts := X.1.2.2.2.2.2.2.2.1
  have hK := X.1.2.2.2.2.2.2.2.2.1
  refine va_newa (ty := ty) (a0 := a0) (N' := N) X.1.1 X.1.2.1 (hts _ hw) hty hK X.2.2.2.2.1.2 (mm_D g h.1 h.2.1) X.2.2.2.2.2.1 (fun q hq => Nat.le_trans X.2.2.1.1 hq) ha hn hN hby hc hs hd (fun q cA H1 hK1 hP1 hD1 hS1 => ?_)
  have h1 := hra _ _ (hK.2 t _ ht).2
  have h2 := hra _ _ (hK1.2 3 (cA, ty) rfl).2
  have h3 : cA = mm_tC g t := Option.some.inj (h2.symm.trans h1)
  subst h3
  exact kk q H1 hP1 hD1 hS1
theorem mm_newai {n : Int32} {N : Nat} (hw : Cond.arrayClass .int ∈ mm_tb) (hn : ¬ n < 0) (hN : n.toNatClampNeg = N) (hby : N * 4 ≤ 536870912) (hd : decode M.2.1 pc = .ok (.newarray .int, 2))
    (kk : mm_P g d M (pc + 2) ls (.ref (h.2.1 + 64) :: st) (mm_add h (.inl (0, N, .inl fun _ => 0)) N) Post) : mm_P g d M pc ls (.int n :: st) h Post :=
  mm_newa (t := 0) (atype := .int) (ty := .int) rfl rfl hw (fun _ _ h => h) (fun _ => rfl) hn hN hby hd kk
theorem mm_newab {n : Int32} {N : Nat} (hw : Cond.arrayClass .byte ∈ mm_tb) (hn : ¬ n < 0) (hN : n.toNatClampNeg = N) (hby : N * 1 ≤ 536870912) (hd : decode M.2.1 pc = .ok (.newarray .byte, 2))
    (kk : mm_P g d M (pc + 2) ls (.ref (h.2.1 + 64) :: st) (mm_add h (.inl (1, N, .inl fun _ => 0)) N) Post) : mm_P g d M pc ls (.int n :: st) h Post :=
  mm_newa (t := 1) (atype := .byte) (ty := .byte) rfl rfl hw (fun _ _ h => h) (fun _ => rfl) hn hN hby hd kk
theorem mm_newal {n : Int32} {N : Nat} (hw : Cond.arrayClass .long ∈ mm_tb) (hn : ¬ n < 0) (hN : n.toNatClampNeg = N) (hby : N * 8 ≤ 536870912) (hd : decode M.2.1 pc = .ok (.newarray .long, 2))
    (kk : mm_P g d M (pc + 2) ls (.ref (h.2.1 + 64) :: st) (mm_add h (.inl (2, N, .inr (.inl fun _ => 0))) N) Post) : mm_P g d M pc ls (.int n :: st) h Post :=
  mm_newa (t := 2) (atype := .long) (ty := .long) rfl rfl hw (fun _ _ h => h) (fun _ => rfl) hn hN hby hd kk
theorem mm_sld {i : Int32} (hd : decode M.2.1 pc = .ok (.iaload, 1)) (hi : vp_in i (mm_sL g)) (kk : mm_P g d M (pc + 1) ls (.int (mm_sX g i.toNatClampNeg) :: st) h Post) : mm_P g d M pc ls (.int i :: .ref 0 :: st) h Post := by
  refine mm_same (fun h' p e R s m args below meth c H locs cells slots LS Q X hx hb hL kk => ?_) kk
  obtain ⟨f1, f2, -⟩ := X.1.2.2.2.2.2.2.2.2.2.1
  exact va_sld (b := mm_fa g 0) hx hb f1 (Nat.lt_of_lt_of_le f2 X.2.2.1.1) (Nat.not_le.mpr f2) X.2.2.2.2.2.1 hi hd (kk LS hL)
theorem mm_slen (hd : decode M.2.1 pc = .ok (.arraylength, 1)) (kk : mm_P g d M (pc + 1) ls (.int (Int32.ofNat (mm_sL g)) :: st) h Post) : mm_P g d M pc ls (.ref 0 :: st) h Post := by
  refine mm_same (fun h' p e R s m args below meth c H locs cells slots LS Q X hx hb hL kk => ?_) kk
  obtain ⟨f1, f2, -⟩ := X.1.2.2.2.2.2.2.2.2.2.1
  exact va_slen (b := mm_fa g 0) hx hb f1 (Nat.lt_of_lt_of_le f2 X.2.2.1.1) (Nat.not_le.mpr f2) X.2.2.2.2.2.1 hd (kk LS hL)
end MMN
