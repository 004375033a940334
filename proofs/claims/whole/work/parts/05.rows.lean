def mm_kl (ls : List (Option Value)) (i : Nat) : List (Option Value) := match i with
  | 0 => ls
  | j + 1 => match ls[j]? with
    | some (some v) => if v.category = 2 then ls.set j none else ls
    | _ => ls
def mm_st1 (ls : List (Option Value)) (i : Nat) (v : Value) : List (Option Value) := (mm_kl ls i).set i (some v)
def mm_st2 (ls : List (Option Value)) (i : Nat) (v : Value) : List (Option Value) := ((mm_kl ls i).set i (some v)).set (i + 1) none
theorem mm_kl_len (ls : List (Option Value)) (i : Nat) : (mm_kl ls i).length = ls.length := by
  cases i with
  | zero => rfl
  | succ j =>
    simp only [mm_kl]
    split
    · split <;> simp
    · rfl
theorem mm_kl_at {ls : List (Option Value)} {i j : Nat} {v : Value} (h : (mm_kl ls i)[j]? = some (some v)) : ls[j]? = some (some v) ∧ ¬ (j + 1 = i ∧ v.category = 2) := by
  cases i with
  | zero => exact ⟨h, by omega⟩
  | succ k =>
    simp only [mm_kl] at h
    split at h
    · rename_i u hu
      split at h
      · rename_i hc
        rw [List.getElem?_set] at h
        by_cases e : k = j
        · subst e
          rw [if_pos rfl] at h
          split at h
          · cases h
          · cases h
        · rw [if_neg e] at h
          exact ⟨h, by omega⟩
      · rename_i hc
        refine ⟨h, fun z => ?_⟩
        have e : j = k := by omega
        subst e
        rw [hu] at h
        cases h
        exact hc z.2
    · rename_i hn
      refine ⟨h, fun z => ?_⟩
      have e : j = k := by omega
      subst e
      exact hn v h
def mm_al (g : mm_G) (ls : List (Option Value)) : List (Nat × Value) := (List.range ls.length).filterMap fun j => (ls[j]?).join.map fun u => (j, mm_v g u)
theorem mm_al_mem {g : mm_G} {ls : List (Option Value)} {q : Nat × Value} : q ∈ mm_al g ls ↔ ∃ u, ls[q.1]? = some (some u) ∧ q.2 = mm_v g u := by
  constructor
  · intro h
    obtain ⟨j, hj, hu⟩ := List.mem_filterMap.mp h
    cases hz : ls[j]? with
    | none => simp [hz] at hu
    | some z =>
      cases z with
      | none => simp [hz] at hu
      | some u =>
        simp [hz] at hu
        subst hu
        exact ⟨u, hz, rfl⟩
  · rintro ⟨u, h1, h2⟩
    refine List.mem_filterMap.mpr ⟨q.1, List.mem_range.mpr (List.getElem?_eq_some_iff.mp h1).1, ?_⟩
    obtain ⟨j, x⟩ := q
    simp only at h1 h2
    subst h2
    simp [h1]
theorem mm_L.has {g : mm_G} {LS : Array Slot} {ls : List (Option Value)} (hL : mm_L g LS ls) : lv_has LS ls.length (mm_al g ls) := by
  refine ⟨hL.1, hL.2.1, fun q hq => ?_⟩
  obtain ⟨u, h1, h2⟩ := mm_al_mem.mp hq
  rw [h2]
  exact hL.2.2 _ _ h1
theorem mm_L.st1 {g : mm_G} {LS : Array Slot} {ls : List (Option Value)} {i : Nat} {v v' : Value} (hv : mm_v g v = v') (hL : lv_has LS ls.length ((i, v') :: (mm_al g ls).filter (fun q => !(q.1 == i) && !(q.1 + 1 == i && q.2.category == 2)))) : mm_L g LS (mm_st1 ls i v) := by
  subst hv
  refine ⟨by rw [hL.1]; simp [mm_st1, mm_kl_len], hL.2.1, fun j u hj => ?_⟩
  simp only [mm_st1] at hj
  rw [List.getElem?_set] at hj
  by_cases e : i = j
  · subst e
    rw [if_pos rfl] at hj
    split at hj
    · cases hj
      exact hL.2.2 _ List.mem_cons_self
    · cases hj
  · rw [if_neg e] at hj
    obtain ⟨h1, h2⟩ := mm_kl_at hj
    refine hL.2.2 (j, mm_v g u) (List.mem_cons_of_mem _ (List.mem_filter.mpr ⟨mm_al_mem.mpr ⟨u, h1, rfl⟩, ?_⟩))
    have e' : ¬ j = i := fun z => e z.symm
    by_cases hc : j + 1 = i
    · have h3 : ¬ u.category = 2 := fun z => h2 ⟨hc, z⟩
      simp [e', hc, mm_v_cat, h3]
    · simp [e', hc]
theorem mm_L.st2 {g : mm_G} {LS : Array Slot} {ls : List (Option Value)} {i : Nat} {v v' : Value} (hv : mm_v g v = v') (hL : lv_has LS ls.length ((i, v') :: (mm_al g ls).filter (fun q => !(q.1 == i) && (!(q.1 == i + 1) && !(q.1 + 1 == i && q.2.category == 2))))) : mm_L g LS (mm_st2 ls i v) := by
  subst hv
  refine ⟨by rw [hL.1]; simp [mm_st2, mm_kl_len], hL.2.1, fun j u hj => ?_⟩
  simp only [mm_st2] at hj
  rw [List.getElem?_set] at hj
  by_cases e1 : i + 1 = j
  · subst e1
    rw [if_pos rfl] at hj
    split at hj
    · cases hj
    · cases hj
  · rw [if_neg e1, List.getElem?_set] at hj
    by_cases e : i = j
    · subst e
      rw [if_pos rfl] at hj
      split at hj
      · cases hj
        exact hL.2.2 _ List.mem_cons_self
      · cases hj
    · rw [if_neg e] at hj
      obtain ⟨h1, h2⟩ := mm_kl_at hj
      refine hL.2.2 (j, mm_v g u) (List.mem_cons_of_mem _ (List.mem_filter.mpr ⟨mm_al_mem.mpr ⟨u, h1, rfl⟩, ?_⟩))
      have e' : ¬ j = i := fun z => e z.symm
      have e1' : ¬ j = i + 1 := fun z => e1 z.symm
      by_cases hc : j + 1 = i
      · have h3 : ¬ u.category = 2 := fun z => h2 ⟨hc, z⟩
        simp [e', e1', hc, mm_v_cat, h3]
      · simp [e', e1', hc]
section MMR
variable {g : mm_G} {d : Nat} {M : mm_Me} {pc : Nat} {ls ls' : List (Option Value)} {st : List Value} {h : mm_Hp} {Post : mm_Ou → mm_Hp → Prop}
theorem mm_iconst {n : Int} {v : Int32} (hd : decode M.2.1 pc = .ok (.iconst n, 1)) (hv : Int32.ofInt n = v) (k : mm_P g d M (pc + 1) ls (.int v :: st) h Post) : mm_P g d M pc ls (st) h Post :=
  mm_same (fun h' p e R s m args below meth c H locs cells slots LS Q X hx hb hL kk => lv_iconst hx hb hd hv (kk LS hL)) k
theorem mm_bipush {n : Int} {v : Int32} (hd : decode M.2.1 pc = .ok (.bipush n, 2)) (hv : (Int8.ofInt n).toInt32 = v) (k : mm_P g d M (pc + 2) ls (.int v :: st) h Post) : mm_P g d M pc ls (st) h Post :=
  mm_same (fun h' p e R s m args below meth c H locs cells slots LS Q X hx hb hL kk => lv_bipush hx hb hd hv (kk LS hL)) k
theorem mm_sipush {n : Int} {v : Int32} (hd : decode M.2.1 pc = .ok (.sipush n, 3)) (hv : (Int16.ofInt n).toInt32 = v) (k : mm_P g d M (pc + 3) ls (.int v :: st) h Post) : mm_P g d M pc ls (st) h Post :=
  mm_same (fun h' p e R s m args below meth c H locs cells slots LS Q X hx hb hL kk => lv_sipush hx hb hd hv (kk LS hL)) k
theorem mm_lconst {n : Fin 2} {v : Int64} (hd : decode M.2.1 pc = .ok (.lconst n, 1)) (hv : Int64.ofNat (n : Nat) = v) (k : mm_P g d M (pc + 1) ls (.long v :: st) h Post) : mm_P g d M pc ls (st) h Post :=
  mm_same (fun h' p e R s m args below meth c H locs cells slots LS Q X hx hb hL kk => lv_lconst hx hb hd hv (kk LS hL)) k
theorem mm_ldc {i : Nat} {v : Int32} (hw : Cond.constant M.1.cls i v ∈ mm_tb) (hd : decode M.2.1 pc = .ok (.ldc i, 2)) (k : mm_P g d M (pc + 2) ls (.int v :: st) h Post) : mm_P g d M pc ls (st) h Post :=
  mm_same (fun h' p e R s m args below meth c H locs cells slots LS Q X hx hb hL kk => lv_ldc hx hb X.1.2.2.2.2.1 (X.1.2.2.2.2.2.2.2.1 _ hw) hd (kk LS hL)) k
theorem mm_ldcw {i : Nat} {v : Int32} (hw : Cond.constant M.1.cls i v ∈ mm_tb) (hd : decode M.2.1 pc = .ok (.ldc_w i, 3)) (k : mm_P g d M (pc + 3) ls (.int v :: st) h Post) : mm_P g d M pc ls (st) h Post :=
  mm_same (fun h' p e R s m args below meth c H locs cells slots LS Q X hx hb hL kk => lv_ldcw hx hb X.1.2.2.2.2.1 (X.1.2.2.2.2.2.2.2.1 _ hw) hd (kk LS hL)) k
theorem mm_ldc2 {i : Nat} {v : Int64} (hw : Cond.constantLong M.1.cls i v ∈ mm_tb) (hd : decode M.2.1 pc = .ok (.ldc2_w i, 3)) (k : mm_P g d M (pc + 3) ls (.long v :: st) h Post) : mm_P g d M pc ls (st) h Post :=
  mm_same (fun h' p e R s m args below meth c H locs cells slots LS Q X hx hb hL kk => lv_ldc2 hx hb X.1.2.2.2.2.1 (X.1.2.2.2.2.2.2.2.1 _ hw) hd (kk LS hL)) k
theorem mm_iload_n {k : Fin 4} {x : Int32} (hd : decode M.2.1 pc = .ok (.iload_n k, 1)) (hl : ls[(k : Nat)]? = some (some (.int x))) (k : mm_P g d M (pc + 1) ls (.int x :: st) h Post) : mm_P g d M pc ls (st) h Post :=
  mm_same (fun h' p e R s m args below meth c H locs cells slots LS Q X hx hb hL kk => lv_iload_n hx hb hd rfl (hL.2.2 _ _ hl) (kk LS hL)) k
theorem mm_iload {i : Nat} {x : Int32} (hd : decode M.2.1 pc = .ok (.iload i, 2)) (hl : ls[i]? = some (some (.int x))) (k : mm_P g d M (pc + 2) ls (.int x :: st) h Post) : mm_P g d M pc ls (st) h Post :=
  mm_same (fun h' p e R s m args below meth c H locs cells slots LS Q X hx hb hL kk => lv_iload hx hb hd (hL.2.2 _ _ hl) (kk LS hL)) k
theorem mm_istore_n {k : Fin 4} {x : Int32} (hd : decode M.2.1 pc = .ok (.istore_n k, 1)) (hi : (k : Nat) < ls.length) (hl : mm_st1 ls (k : Nat) (.int x) = ls') (k : mm_P g d M (pc + 1) ls' (st) h Post) : mm_P g d M pc ls (.int x :: st) h Post :=
  mm_same (fun h' p e R s m args below meth c H locs cells slots LS Q X hx hb hL kk => lv_istore_n hx hb hd rfl hL.has hi rfl (fun LS' hL' => kk LS' (by rw [← hl]; exact mm_L.st1 rfl hL'))) k
theorem mm_istore {i : Nat} {x : Int32} (hd : decode M.2.1 pc = .ok (.istore i, 2)) (hi : i < ls.length) (hl : mm_st1 ls i (.int x) = ls') (k : mm_P g d M (pc + 2) ls' (st) h Post) : mm_P g d M pc ls (.int x :: st) h Post :=
  mm_same (fun h' p e R s m args below meth c H locs cells slots LS Q X hx hb hL kk => lv_istore hx hb hd hL.has hi rfl (fun LS' hL' => kk LS' (by rw [← hl]; exact mm_L.st1 rfl hL'))) k
theorem mm_aload_n {k : Fin 4} {x : Nat} (hd : decode M.2.1 pc = .ok (.aload_n k, 1)) (hl : ls[(k : Nat)]? = some (some (.ref x))) (k : mm_P g d M (pc + 1) ls (.ref x :: st) h Post) : mm_P g d M pc ls (st) h Post :=
  mm_same (fun h' p e R s m args below meth c H locs cells slots LS Q X hx hb hL kk => lv_aload_n hx hb hd rfl (hL.2.2 _ _ hl) (kk LS hL)) k
theorem mm_aload {i : Nat} {x : Nat} (hd : decode M.2.1 pc = .ok (.aload i, 2)) (hl : ls[i]? = some (some (.ref x))) (k : mm_P g d M (pc + 2) ls (.ref x :: st) h Post) : mm_P g d M pc ls (st) h Post :=
  mm_same (fun h' p e R s m args below meth c H locs cells slots LS Q X hx hb hL kk => lv_aload hx hb hd (hL.2.2 _ _ hl) (kk LS hL)) k
theorem mm_astore_n {k : Fin 4} {x : Nat} (hd : decode M.2.1 pc = .ok (.astore_n k, 1)) (hi : (k : Nat) < ls.length) (hl : mm_st1 ls (k : Nat) (.ref x) = ls') (k : mm_P g d M (pc + 1) ls' (st) h Post) : mm_P g d M pc ls (.ref x :: st) h Post :=
  mm_same (fun h' p e R s m args below meth c H locs cells slots LS Q X hx hb hL kk => lv_astore_n hx hb hd rfl hL.has hi rfl (fun LS' hL' => kk LS' (by rw [← hl]; exact mm_L.st1 rfl hL'))) k
theorem mm_astore {i : Nat} {x : Nat} (hd : decode M.2.1 pc = .ok (.astore i, 2)) (hi : i < ls.length) (hl : mm_st1 ls i (.ref x) = ls') (k : mm_P g d M (pc + 2) ls' (st) h Post) : mm_P g d M pc ls (.ref x :: st) h Post :=
  mm_same (fun h' p e R s m args below meth c H locs cells slots LS Q X hx hb hL kk => lv_astore hx hb hd hL.has hi rfl (fun LS' hL' => kk LS' (by rw [← hl]; exact mm_L.st1 rfl hL'))) k
theorem mm_lload_n {k : Fin 4} {x : Int64} (hd : decode M.2.1 pc = .ok (.lload_n k, 1)) (hl : ls[(k : Nat)]? = some (some (.long x))) (k : mm_P g d M (pc + 1) ls (.long x :: st) h Post) : mm_P g d M pc ls (st) h Post :=
  mm_same (fun h' p e R s m args below meth c H locs cells slots LS Q X hx hb hL kk => lv_lload_n hx hb hd rfl (hL.2.2 _ _ hl) (kk LS hL)) k
theorem mm_lload {i : Nat} {x : Int64} (hd : decode M.2.1 pc = .ok (.lload i, 2)) (hl : ls[i]? = some (some (.long x))) (k : mm_P g d M (pc + 2) ls (.long x :: st) h Post) : mm_P g d M pc ls (st) h Post :=
  mm_same (fun h' p e R s m args below meth c H locs cells slots LS Q X hx hb hL kk => lv_lload hx hb hd (hL.2.2 _ _ hl) (kk LS hL)) k
theorem mm_lstore_n {k : Fin 4} {x : Int64} (hd : decode M.2.1 pc = .ok (.lstore_n k, 1)) (hi : (k : Nat) + 1 < ls.length) (hl : mm_st2 ls (k : Nat) (.long x) = ls') (k : mm_P g d M (pc + 1) ls' (st) h Post) : mm_P g d M pc ls (.long x :: st) h Post :=
  mm_same (fun h' p e R s m args below meth c H locs cells slots LS Q X hx hb hL kk => lv_lstore_n hx hb hd rfl hL.has hi rfl (fun LS' hL' => kk LS' (by rw [← hl]; exact mm_L.st2 rfl hL'))) k
theorem mm_lstore {i : Nat} {x : Int64} (hd : decode M.2.1 pc = .ok (.lstore i, 2)) (hi : i + 1 < ls.length) (hl : mm_st2 ls i (.long x) = ls') (k : mm_P g d M (pc + 2) ls' (st) h Post) : mm_P g d M pc ls (.long x :: st) h Post :=
  mm_same (fun h' p e R s m args below meth c H locs cells slots LS Q X hx hb hL kk => lv_lstore hx hb hd hL.has hi rfl (fun LS' hL' => kk LS' (by rw [← hl]; exact mm_L.st2 rfl hL'))) k
theorem mm_iinc {i : Nat} {n : Int} {x v : Int32} (hd : decode M.2.1 pc = .ok (.iinc i n, 3)) (hx0 : ls[i]? = some (some (.int x))) (hv : x + Int32.ofInt n = v) (hl : mm_st1 ls i (.int v) = ls') (k : mm_P g d M (pc + 3) ls' st h Post) : mm_P g d M pc ls st h Post := by
  refine mm_same (fun h' p e R s m args below meth c H locs cells slots LS Q X hx hb hL kk => ?_) k
  obtain ⟨j, hj⟩ := List.getElem?_of_mem (mm_al_mem (q := (i, .int x)).mpr ⟨.int x, hx0, rfl⟩)
  exact lv_iinc hx hb hd hL.has hj hv (List.getElem?_eq_some_iff.mp hx0).1 rfl (fun LS' hL' => kk LS' (by rw [← hl]; exact mm_L.st1 rfl hL'))
theorem mm_iadd {x y : Int32} (hd : decode M.2.1 pc = .ok (.iadd, 1)) (k : mm_P g d M (pc + 1) ls (.int (x + y) :: st) h Post) : mm_P g d M pc ls (.int y :: .int x :: st) h Post :=
  mm_same (fun h' p e R s m args below meth c H locs cells slots LS Q X hx hb hL kk => lv_iadd hx hb hd (kk LS hL)) k
theorem mm_isub {x y : Int32} (hd : decode M.2.1 pc = .ok (.isub, 1)) (k : mm_P g d M (pc + 1) ls (.int (x - y) :: st) h Post) : mm_P g d M pc ls (.int y :: .int x :: st) h Post :=
  mm_same (fun h' p e R s m args below meth c H locs cells slots LS Q X hx hb hL kk => lv_isub hx hb hd (kk LS hL)) k
theorem mm_imul {x y : Int32} (hd : decode M.2.1 pc = .ok (.imul, 1)) (k : mm_P g d M (pc + 1) ls (.int (x * y) :: st) h Post) : mm_P g d M pc ls (.int y :: .int x :: st) h Post :=
  mm_same (fun h' p e R s m args below meth c H locs cells slots LS Q X hx hb hL kk => lv_imul hx hb hd (kk LS hL)) k
theorem mm_iand {x y : Int32} (hd : decode M.2.1 pc = .ok (.iand, 1)) (k : mm_P g d M (pc + 1) ls (.int (x &&& y) :: st) h Post) : mm_P g d M pc ls (.int y :: .int x :: st) h Post :=
  mm_same (fun h' p e R s m args below meth c H locs cells slots LS Q X hx hb hL kk => lv_iand hx hb hd (kk LS hL)) k
theorem mm_ishr {x y : Int32} (hd : decode M.2.1 pc = .ok (.ishr, 1)) (k : mm_P g d M (pc + 1) ls (.int (x >>> (y &&& 31)) :: st) h Post) : mm_P g d M pc ls (.int y :: .int x :: st) h Post :=
  mm_same (fun h' p e R s m args below meth c H locs cells slots LS Q X hx hb hL kk => lv_ishr hx hb hd (kk LS hL)) k
theorem mm_idiv {x y : Int32} (hne : ¬ y = 0) (hd : decode M.2.1 pc = .ok (.idiv, 1)) (k : mm_P g d M (pc + 1) ls (.int (x / y) :: st) h Post) : mm_P g d M pc ls (.int y :: .int x :: st) h Post :=
  mm_same (fun h' p e R s m args below meth c H locs cells slots LS Q X hx hb hL kk => lv_idiv hx hb hd hne (kk LS hL)) k
theorem mm_irem {x y : Int32} (hne : ¬ y = 0) (hd : decode M.2.1 pc = .ok (.irem, 1)) (k : mm_P g d M (pc + 1) ls (.int (x - x / y * y) :: st) h Post) : mm_P g d M pc ls (.int y :: .int x :: st) h Post :=
  mm_same (fun h' p e R s m args below meth c H locs cells slots LS Q X hx hb hL kk => lv_irem hx hb hd hne (kk LS hL)) k
theorem mm_iushr {x y : Int32} (hd : decode M.2.1 pc = .ok (.iushr, 1)) (k : mm_P g d M (pc + 1) ls (.int ((x.toUInt32 >>> (y.toUInt32 &&& Int32.toUInt32 31)).toInt32) :: st) h Post) : mm_P g d M pc ls (.int y :: .int x :: st) h Post :=
  mm_same (fun h' p e R s m args below meth c H locs cells slots LS Q X hx hb hL kk => lv_iushr hx hb hd rfl (kk LS hL)) k
theorem mm_ladd {x y : Int64} (hd : decode M.2.1 pc = .ok (.ladd, 1)) (k : mm_P g d M (pc + 1) ls (.long (x + y) :: st) h Post) : mm_P g d M pc ls (.long y :: .long x :: st) h Post :=
  mm_same (fun h' p e R s m args below meth c H locs cells slots LS Q X hx hb hL kk => lv_ladd hx hb hd (kk LS hL)) k
theorem mm_land {x y : Int64} (hd : decode M.2.1 pc = .ok (.land, 1)) (k : mm_P g d M (pc + 1) ls (.long (x &&& y) :: st) h Post) : mm_P g d M pc ls (.long y :: .long x :: st) h Post :=
  mm_same (fun h' p e R s m args below meth c H locs cells slots LS Q X hx hb hL kk => lv_land hx hb hd (kk LS hL)) k
theorem mm_lor {x y : Int64} (hd : decode M.2.1 pc = .ok (.lor, 1)) (k : mm_P g d M (pc + 1) ls (.long (x ||| y) :: st) h Post) : mm_P g d M pc ls (.long y :: .long x :: st) h Post :=
  mm_same (fun h' p e R s m args below meth c H locs cells slots LS Q X hx hb hL kk => lv_lor hx hb hd (kk LS hL)) k
theorem mm_lushr {x : Int64} {y : Int32} (hd : decode M.2.1 pc = .ok (.lushr, 1)) (k : mm_P g d M (pc + 1) ls (.long ((x.toUInt64 >>> (y.toInt64.toUInt64 &&& Int64.toUInt64 63)).toInt64) :: st) h Post) : mm_P g d M pc ls (.int y :: .long x :: st) h Post :=
  mm_same (fun h' p e R s m args below meth c H locs cells slots LS Q X hx hb hL kk => lv_lushr hx hb hd rfl (kk LS hL)) k
theorem mm_lshl {x : Int64} {y : Int32} (hd : decode M.2.1 pc = .ok (.lshl, 1)) (k : mm_P g d M (pc + 1) ls (.long (x <<< (y.toInt64 &&& 63)) :: st) h Post) : mm_P g d M pc ls (.int y :: .long x :: st) h Post :=
  mm_same (fun h' p e R s m args below meth c H locs cells slots LS Q X hx hb hL kk => lv_lshl hx hb hd rfl (kk LS hL)) k
theorem mm_lshr {x : Int64} {y : Int32} (hd : decode M.2.1 pc = .ok (.lshr, 1)) (k : mm_P g d M (pc + 1) ls (.long (x >>> (y.toInt64 &&& 63)) :: st) h Post) : mm_P g d M pc ls (.int y :: .long x :: st) h Post :=
  mm_same (fun h' p e R s m args below meth c H locs cells slots LS Q X hx hb hL kk => lv_lshr hx hb hd rfl (kk LS hL)) k
theorem mm_lcmp {x y : Int64} (hd : decode M.2.1 pc = .ok (.lcmp, 1)) (k : mm_P g d M (pc + 1) ls (.int (lg_cmp x y) :: st) h Post) : mm_P g d M pc ls (.long y :: .long x :: st) h Post :=
  mm_same (fun h' p e R s m args below meth c H locs cells slots LS Q X hx hb hL kk => W.lcmp hx hb hd (kk LS hL)) k
theorem mm_i2l {x : Int32} (hd : decode M.2.1 pc = .ok (.i2l, 1)) (k : mm_P g d M (pc + 1) ls (.long x.toInt64 :: st) h Post) : mm_P g d M pc ls (.int x :: st) h Post :=
  mm_same (fun h' p e R s m args below meth c H locs cells slots LS Q X hx hb hL kk => lv_i2l hx hb hd rfl (kk LS hL)) k
theorem mm_l2i {x : Int64} (hd : decode M.2.1 pc = .ok (.l2i, 1)) (k : mm_P g d M (pc + 1) ls (.int x.toInt32 :: st) h Post) : mm_P g d M pc ls (.long x :: st) h Post :=
  mm_same (fun h' p e R s m args below meth c H locs cells slots LS Q X hx hb hL kk => lv_l2i hx hb hd rfl (kk LS hL)) k
theorem mm_i2b {x : Int32} (hd : decode M.2.1 pc = .ok (.i2b, 1)) (k : mm_P g d M (pc + 1) ls (.int x.toInt8.toInt32 :: st) h Post) : mm_P g d M pc ls (.int x :: st) h Post :=
  mm_same (fun h' p e R s m args below meth c H locs cells slots LS Q X hx hb hL kk => lv_i2b hx hb hd rfl (kk LS hL)) k
theorem mm_i2c {x : Int32} (hd : decode M.2.1 pc = .ok (.i2c, 1)) (k : mm_P g d M (pc + 1) ls (.int (x.toUInt32 % 65536).toInt32 :: st) h Post) : mm_P g d M pc ls (.int x :: st) h Post :=
  mm_same (fun h' p e R s m args below meth c H locs cells slots LS Q X hx hb hL kk => lv_i2c hx hb hd rfl (kk LS hL)) k
theorem mm_dup {v : Value} (hc : v.category = 1) (hd : decode M.2.1 pc = .ok (.dup, 1)) (k : mm_P g d M (pc + 1) ls (v :: v :: st) h Post) : mm_P g d M pc ls (v :: st) h Post :=
  mm_same (fun h' p e R s m args below meth c H locs cells slots LS Q X hx hb hL kk => lv_dup hx hb hd ((mm_v_cat g v).trans hc) (kk LS hL)) k
theorem mm_dup2 {v u : Value} (hc : v.category = 1) (hc2 : u.category = 1) (hd : decode M.2.1 pc = .ok (.dup2, 1)) (k : mm_P g d M (pc + 1) ls (v :: u :: v :: u :: st) h Post) : mm_P g d M pc ls (v :: u :: st) h Post :=
  mm_same (fun h' p e R s m args below meth c H locs cells slots LS Q X hx hb hL kk => lv_dup2_11 hx hb hd ((mm_v_cat g v).trans hc) ((mm_v_cat g u).trans hc2) (kk LS hL)) k
theorem mm_pop {v : Value} (hc : v.category = 1) (hd : decode M.2.1 pc = .ok (.pop, 1)) (k : mm_P g d M (pc + 1) ls (st) h Post) : mm_P g d M pc ls (v :: st) h Post :=
  mm_same (fun h' p e R s m args below meth c H locs cells slots LS Q X hx hb hL kk => lv_pop hx hb hd ((mm_v_cat g v).trans hc) (kk LS hL)) k
theorem mm_if_eq {x : Int32} {off : Int} (tgt : Nat) (hd : decode M.2.1 pc = .ok (.ifCond .eq off, 3)) (ht : (pc : Int) + off = (tgt : Int)) (kt : x = 0 → mm_P g d M tgt ls st h Post) (kf : ¬ x = 0 → mm_P g d M (pc + 3) ls st h Post) : mm_P g d M pc ls (.int x :: st) h Post := by
  by_cases hc : x = 0
  · exact mm_same (fun h' p e R s m args below meth c H locs cells slots LS Q X hx hb hL kk => lv_if_eq hx hb hd ht (fun _ => kk LS hL) (fun q => absurd hc q)) (kt hc)
  · exact mm_same (fun h' p e R s m args below meth c H locs cells slots LS Q X hx hb hL kk => lv_if_eq hx hb hd ht (fun q => absurd q hc) (fun _ => kk LS hL)) (kf hc)
theorem mm_icmp_eq {x y : Int32} {off : Int} (tgt : Nat) (hd : decode M.2.1 pc = .ok (.if_icmp .eq off, 3)) (ht : (pc : Int) + off = (tgt : Int)) (kt : x = y → mm_P g d M tgt ls st h Post) (kf : ¬ x = y → mm_P g d M (pc + 3) ls st h Post) : mm_P g d M pc ls (.int y :: .int x :: st) h Post := by
  by_cases hc : x = y
  · exact mm_same (fun h' p e R s m args below meth c H locs cells slots LS Q X hx hb hL kk => lv_icmp_eq hx hb hd ht (fun _ => kk LS hL) (fun q => absurd hc q)) (kt hc)
  · exact mm_same (fun h' p e R s m args below meth c H locs cells slots LS Q X hx hb hL kk => lv_icmp_eq hx hb hd ht (fun q => absurd q hc) (fun _ => kk LS hL)) (kf hc)
theorem mm_if_ne {x : Int32} {off : Int} (tgt : Nat) (hd : decode M.2.1 pc = .ok (.ifCond .ne off, 3)) (ht : (pc : Int) + off = (tgt : Int)) (kt : ¬ x = 0 → mm_P g d M tgt ls st h Post) (kf : x = 0 → mm_P g d M (pc + 3) ls st h Post) : mm_P g d M pc ls (.int x :: st) h Post := by
  by_cases hc : ¬ x = 0
  · exact mm_same (fun h' p e R s m args below meth c H locs cells slots LS Q X hx hb hL kk => lv_if_ne hx hb hd ht (fun _ => kk LS hL) (fun q => absurd q hc)) (kt hc)
  · exact mm_same (fun h' p e R s m args below meth c H locs cells slots LS Q X hx hb hL kk => lv_if_ne hx hb hd ht (fun q => absurd q hc) (fun _ => kk LS hL)) (kf (Decidable.not_not.mp hc))
theorem mm_icmp_ne {x y : Int32} {off : Int} (tgt : Nat) (hd : decode M.2.1 pc = .ok (.if_icmp .ne off, 3)) (ht : (pc : Int) + off = (tgt : Int)) (kt : ¬ x = y → mm_P g d M tgt ls st h Post) (kf : x = y → mm_P g d M (pc + 3) ls st h Post) : mm_P g d M pc ls (.int y :: .int x :: st) h Post := by
  by_cases hc : ¬ x = y
  · exact mm_same (fun h' p e R s m args below meth c H locs cells slots LS Q X hx hb hL kk => lv_icmp_ne hx hb hd ht (fun _ => kk LS hL) (fun q => absurd q hc)) (kt hc)
  · exact mm_same (fun h' p e R s m args below meth c H locs cells slots LS Q X hx hb hL kk => lv_icmp_ne hx hb hd ht (fun q => absurd q hc) (fun _ => kk LS hL)) (kf (Decidable.not_not.mp hc))
theorem mm_if_lt {x : Int32} {off : Int} (tgt : Nat) (hd : decode M.2.1 pc = .ok (.ifCond .lt off, 3)) (ht : (pc : Int) + off = (tgt : Int)) (kt : x < 0 → mm_P g d M tgt ls st h Post) (kf : ¬ x < 0 → mm_P g d M (pc + 3) ls st h Post) : mm_P g d M pc ls (.int x :: st) h Post := by
  by_cases hc : x < 0
  · exact mm_same (fun h' p e R s m args below meth c H locs cells slots LS Q X hx hb hL kk => lv_if_lt hx hb hd ht (fun _ => kk LS hL) (fun q => absurd hc q)) (kt hc)
  · exact mm_same (fun h' p e R s m args below meth c H locs cells slots LS Q X hx hb hL kk => lv_if_lt hx hb hd ht (fun q => absurd q hc) (fun _ => kk LS hL)) (kf hc)
theorem mm_icmp_lt {x y : Int32} {off : Int} (tgt : Nat) (hd : decode M.2.1 pc = .ok (.if_icmp .lt off, 3)) (ht : (pc : Int) + off = (tgt : Int)) (kt : x < y → mm_P g d M tgt ls st h Post) (kf : ¬ x < y → mm_P g d M (pc + 3) ls st h Post) : mm_P g d M pc ls (.int y :: .int x :: st) h Post := by
  by_cases hc : x < y
  · exact mm_same (fun h' p e R s m args below meth c H locs cells slots LS Q X hx hb hL kk => lv_icmp_lt hx hb hd ht (fun _ => kk LS hL) (fun q => absurd hc q)) (kt hc)
  · exact mm_same (fun h' p e R s m args below meth c H locs cells slots LS Q X hx hb hL kk => lv_icmp_lt hx hb hd ht (fun q => absurd q hc) (fun _ => kk LS hL)) (kf hc)
theorem mm_if_ge {x : Int32} {off : Int} (tgt : Nat) (hd : decode M.2.1 pc = .ok (.ifCond .ge off, 3)) (ht : (pc : Int) + off = (tgt : Int)) (kt : 0 ≤ x → mm_P g d M tgt ls st h Post) (kf : ¬ 0 ≤ x → mm_P g d M (pc + 3) ls st h Post) : mm_P g d M pc ls (.int x :: st) h Post := by
  by_cases hc : 0 ≤ x
  · exact mm_same (fun h' p e R s m args below meth c H locs cells slots LS Q X hx hb hL kk => lv_if_ge hx hb hd ht (fun _ => kk LS hL) (fun q => absurd hc q)) (kt hc)
  · exact mm_same (fun h' p e R s m args below meth c H locs cells slots LS Q X hx hb hL kk => lv_if_ge hx hb hd ht (fun q => absurd q hc) (fun _ => kk LS hL)) (kf hc)
theorem mm_icmp_ge {x y : Int32} {off : Int} (tgt : Nat) (hd : decode M.2.1 pc = .ok (.if_icmp .ge off, 3)) (ht : (pc : Int) + off = (tgt : Int)) (kt : y ≤ x → mm_P g d M tgt ls st h Post) (kf : ¬ y ≤ x → mm_P g d M (pc + 3) ls st h Post) : mm_P g d M pc ls (.int y :: .int x :: st) h Post := by
  by_cases hc : y ≤ x
  · exact mm_same (fun h' p e R s m args below meth c H locs cells slots LS Q X hx hb hL kk => lv_icmp_ge hx hb hd ht (fun _ => kk LS hL) (fun q => absurd hc q)) (kt hc)
  · exact mm_same (fun h' p e R s m args below meth c H locs cells slots LS Q X hx hb hL kk => lv_icmp_ge hx hb hd ht (fun q => absurd q hc) (fun _ => kk LS hL)) (kf hc)
theorem mm_if_gt {x : Int32} {off : Int} (tgt : Nat) (hd : decode M.2.1 pc = .ok (.ifCond .gt off, 3)) (ht : (pc : Int) + off = (tgt : Int)) (kt : 0 < x → mm_P g d M tgt ls st h Post) (kf : ¬ 0 < x → mm_P g d M (pc + 3) ls st h Post) : mm_P g d M pc ls (.int x :: st) h Post := by
  by_cases hc : 0 < x
  · exact mm_same (fun h' p e R s m args below meth c H locs cells slots LS Q X hx hb hL kk => lv_if_gt hx hb hd ht (fun _ => kk LS hL) (fun q => absurd hc q)) (kt hc)
  · exact mm_same (fun h' p e R s m args below meth c H locs cells slots LS Q X hx hb hL kk => lv_if_gt hx hb hd ht (fun q => absurd q hc) (fun _ => kk LS hL)) (kf hc)
theorem mm_icmp_gt {x y : Int32} {off : Int} (tgt : Nat) (hd : decode M.2.1 pc = .ok (.if_icmp .gt off, 3)) (ht : (pc : Int) + off = (tgt : Int)) (kt : y < x → mm_P g d M tgt ls st h Post) (kf : ¬ y < x → mm_P g d M (pc + 3) ls st h Post) : mm_P g d M pc ls (.int y :: .int x :: st) h Post := by
  by_cases hc : y < x
  · exact mm_same (fun h' p e R s m args below meth c H locs cells slots LS Q X hx hb hL kk => lv_icmp_gt hx hb hd ht (fun _ => kk LS hL) (fun q => absurd hc q)) (kt hc)
  · exact mm_same (fun h' p e R s m args below meth c H locs cells slots LS Q X hx hb hL kk => lv_icmp_gt hx hb hd ht (fun q => absurd q hc) (fun _ => kk LS hL)) (kf hc)
theorem mm_if_le {x : Int32} {off : Int} (tgt : Nat) (hd : decode M.2.1 pc = .ok (.ifCond .le off, 3)) (ht : (pc : Int) + off = (tgt : Int)) (kt : x ≤ 0 → mm_P g d M tgt ls st h Post) (kf : ¬ x ≤ 0 → mm_P g d M (pc + 3) ls st h Post) : mm_P g d M pc ls (.int x :: st) h Post := by
  by_cases hc : x ≤ 0
  · exact mm_same (fun h' p e R s m args below meth c H locs cells slots LS Q X hx hb hL kk => lv_if_le hx hb hd ht (fun _ => kk LS hL) (fun q => absurd hc q)) (kt hc)
  · exact mm_same (fun h' p e R s m args below meth c H locs cells slots LS Q X hx hb hL kk => lv_if_le hx hb hd ht (fun q => absurd q hc) (fun _ => kk LS hL)) (kf hc)
theorem mm_icmp_le {x y : Int32} {off : Int} (tgt : Nat) (hd : decode M.2.1 pc = .ok (.if_icmp .le off, 3)) (ht : (pc : Int) + off = (tgt : Int)) (kt : x ≤ y → mm_P g d M tgt ls st h Post) (kf : ¬ x ≤ y → mm_P g d M (pc + 3) ls st h Post) : mm_P g d M pc ls (.int y :: .int x :: st) h Post := by
  by_cases hc : x ≤ y
  · exact mm_same (fun h' p e R s m args below meth c H locs cells slots LS Q X hx hb hL kk => lv_icmp_le hx hb hd ht (fun _ => kk LS hL) (fun q => absurd hc q)) (kt hc)
  · exact mm_same (fun h' p e R s m args below meth c H locs cells slots LS Q X hx hb hL kk => lv_icmp_le hx hb hd ht (fun q => absurd q hc) (fun _ => kk LS hL)) (kf hc)
theorem mm_goto {off : Int} (tgt : Nat) (hd : decode M.2.1 pc = .ok (.goto off, 3)) (ht : (pc : Int) + off = (tgt : Int)) (k : mm_P g d M tgt ls st h Post) : mm_P g d M pc ls st h Post :=
  mm_same (fun h' p e R s m args below meth c H locs cells slots LS Q X hx hb hL kk => lv_goto hx hb hd ht (kk LS hL)) k
theorem mm_tabIn {dflt lo hi : Int} {offs : Array Int} {len : Nat} {x : Int32} {off : Int} (tgt : Nat) (hd : decode M.2.1 pc = .ok (.tableswitch dflt lo hi offs, len)) (h1 : ¬ x.toInt < lo) (h2 : ¬ hi < x.toInt) (ho : offs[(x.toInt - lo).toNat]? = some off) (ht : (pc : Int) + off = (tgt : Int)) (k : mm_P g d M tgt ls st h Post) : mm_P g d M pc ls (.int x :: st) h Post :=
  mm_same (fun h' p e R s m args below meth c H locs cells slots LS Q X hx hb hL kk => lv_tableIn hx hb hd h1 h2 ho ht (kk LS hL)) k
theorem mm_tabOut {dflt lo hi : Int} {offs : Array Int} {len : Nat} {x : Int32} (tgt : Nat) (hd : decode M.2.1 pc = .ok (.tableswitch dflt lo hi offs, len)) (h1 : x.toInt < lo ∨ hi < x.toInt) (ht : (pc : Int) + dflt = (tgt : Int)) (k : mm_P g d M tgt ls st h Post) : mm_P g d M pc ls (.int x :: st) h Post :=
  mm_same (fun h' p e R s m args below meth c H locs cells slots LS Q X hx hb hL kk => lv_tableOut hx hb hd h1 ht (kk LS hL)) k
/-- what a method's end owes -/
theorem mm_end {R : Room} {p : Program} {e : Env} {s : State} {m : MethodId} {args : Array Value} {below : List Frame} {meth : Method} {c : Code} {H : Heap} {locs : List Loc} {cells slots : Nat} {LS : Array Slot} {v : Option Value} {fr : JFrame}
    (X : mm_X g d M h h ls p R s m args meth c H locs cells slots LS)
    (k : (∀ t : State, t.heap = H → s.WarmedH t.vm → mm_Qc g (.inl v) h args s (.returned (v.map (mm_v g))) t) → (∀ q ∈ locs, mm_A g q.base) → W p (mm_l g) e R s m args below meth c H locs cells slots (MQ below (mm_Qc g (.inl v) h) args s cells slots (mm_A g)) fr) :
    W p (mm_l g) e R s m args below meth c H locs cells slots (mm_Q g below args s (.inl v) h (cells + (h.2.1 - h.2.1)) (slots + (h.2.2 - h.2.2))) fr := by
  rw [Nat.sub_self, Nat.sub_self, Nat.add_zero, Nat.add_zero]
  refine vx_ret (k (fun t ht hW => ⟨v, rfl, rfl, by rw [ht]; exact X.2.2.2.2.1, fun q hq => ?_⟩) X.2.2.2.2.2.1.2.2)
  rw [ht]
  exact X.2.2.2.2.2.1.2.1 q (Nat.lt_of_lt_of_le hq X.2.2.1.1) (Nat.not_le.mpr hq)
theorem mm_iret {v : Int32} {ty : FieldType} (hr : M.2.2.2.1 = some ty) (hn : narrow ty (.int v) = .int v) (hd : decode M.2.1 pc = .ok (.ireturn, 1)) (hp : Post (.inl (some (.int v))) h) : mm_P g d M pc ls [.int v] h Post :=
  ⟨_, _, hp, Nat.le_refl _, Nat.le_refl _, fun p e R s m args below meth c H locs cells slots LS X => mm_end X (fun hq hf => W.zret X.1.1 X.1.2.1 (X.1.2.2.1.trans hr) hn hq hf hd X.1.2.2.2.2.2.1)⟩
theorem mm_lret {v : Int64} (hr : M.2.2.2.1 = some .long) (hd : decode M.2.1 pc = .ok (.lreturn, 1)) (hp : Post (.inl (some (.long v))) h) : mm_P g d M pc ls [.long v] h Post :=
  ⟨_, _, hp, Nat.le_refl _, Nat.le_refl _, fun p e R s m args below meth c H locs cells slots LS X => mm_end X (fun hq hf => W.lret X.1.1 X.1.2.1 (X.1.2.2.1.trans hr) hq hf hd X.1.2.2.2.2.2.1)⟩
theorem mm_vret (hr : M.2.2.2.1 = none) (hd : decode M.2.1 pc = .ok (.return_, 1)) (hp : Post (.inl none) h) : mm_P g d M pc ls [] h Post :=
  ⟨_, _, hp, Nat.le_refl _, Nat.le_refl _, fun p e R s m args below meth c H locs cells slots LS X => mm_end X (fun hq hf => W.vret X.1.1 X.1.2.1 (X.1.2.2.1.trans hr) hq hf hd X.1.2.2.2.2.2.1)⟩
theorem mm_aret {a : Nat} {rt : FieldType} (hr : M.2.2.2.1 = some rt) (hrt : (∃ n, rt = .object n) ∨ ∃ t, rt = .array t) (hd : decode M.2.1 pc = .ok (.areturn, 1)) (hp : Post (.inl (some (.ref a))) h) : mm_P g d M pc ls [.ref a] h Post :=
  ⟨_, _, hp, Nat.le_refl _, Nat.le_refl _, fun p e R s m args below meth c H locs cells slots LS X => mm_end X (fun hq hf => W.aret X.1.1 X.1.2.1 (X.1.2.2.1.trans hr) hrt (Or.inr ⟨_, rfl⟩) hq hf hd X.1.2.2.2.2.2.1)⟩
end MMR
