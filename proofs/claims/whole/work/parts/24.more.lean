abbrev mm_pureL (r : Int64) (h : mm_Hp) : mm_Ou → mm_Hp → Prop := fun o h' => o = .inl (some (.long r)) ∧ h' = h
theorem mm_thenL {g : mm_G} {d : Nat} {M : mm_Me} {pc : Nat} {ls : List (Option Value)} {st : List Value} {h : mm_Hp} {Post : mm_Ou → mm_Hp → Prop} {r : Int64} {o : mm_Ou} {h1 : mm_Hp} (q : mm_pureL r h o h1) (k : mm_P g d M (pc + 3) ls (.long r :: st) h Post) : mm_then g d M pc ls st Post o h1 := by
  obtain ⟨rfl, rfl⟩ := q
  exact k
theorem m_Li_add0 {g : mm_G} {d n mk : Nat} {h : mm_Hp} {kd si pg pl fi an : Nat → Int32} {a b : Int32} (hd : 2 ≤ d) (L : LiAt h n mk kd si pg pl fi an) (hn : n < 200) (e : ebOf (upd kd n a) (upd si n b) fi ((upd si n b) n) n = -1) : mm_P g d MX4_add 0 [some (.ref 69), some (.int a), some (.int b)] [] h (fun o h' => o = .inl none ∧ LiAt h' (n + 1) mk (upd kd n a) (upd si n b) (upd pg n (pgV (upd si n b) pg pl n)) (upd pl n (plV (upd si n b) pl n)) (upd fi n (feV (upd kd n a) n (-1))) (upd an n (-1)) ∧ mm_fr 69 75 h h') := by
  obtain ⟨a69, a70, a71, a72, a73, a74, a75⟩ := L
  refine mm_aload_n dX4_add_0 rfl ?_
  refine mm_get lk_X4_30_X4 dX4_add_1 a69 rfl ?_
  refine mm_aload_n dX4_add_4 rfl ?_
  refine mm_get lk_X4_34_X4 dX4_add_5 a69 rfl ?_
  refine mm_icmp_lt 12 dX4_add_8 (by decide) (fun c1 => ?_) (fun c1 => ?_)
  · have c1 : n < 200 := (nI_ltI (a := n) (b := 200) (by omega) (by omega)).mp c1
    refine mm_aload_n dX4_add_12 rfl ?_
    refine mm_get lk_X4_9_X4 dX4_add_13 a69 rfl ?_
    refine mm_aload_n dX4_add_16 rfl ?_
    refine mm_get lk_X4_30_X4 dX4_add_17 a69 rfl ?_
    refine mm_iload_n dX4_add_20 rfl ?_
    refine mm_iastN (i := n) dX4_add_21 a70 (by omega) (by decide) (fun h2 eh2 => ?_)
    have a69 := mm_at.ne1 a69 eh2 (by decide)
    have a70 := mm_at.up1 a70 eh2
    have a71 := mm_at.ne1 a71 eh2 (by decide)
    have a72 := mm_at.ne1 a72 eh2 (by decide)
    have a73 := mm_at.ne1 a73 eh2 (by decide)
    have a74 := mm_at.ne1 a74 eh2 (by decide)
    have a75 := mm_at.ne1 a75 eh2 (by decide)
    refine mm_aload_n dX4_add_22 rfl ?_
    refine mm_get lk_X4_15_X4 dX4_add_23 a69 rfl ?_
    refine mm_aload_n dX4_add_26 rfl ?_
    refine mm_get lk_X4_30_X4 dX4_add_27 a69 rfl ?_
    refine mm_iload_n dX4_add_30 rfl ?_
    refine mm_iastN (i := n) dX4_add_31 a71 (by omega) (by decide) (fun h3 eh3 => ?_)
    have a69 := mm_at.ne1 a69 eh3 (by decide)
    have a70 := mm_at.ne1 a70 eh3 (by decide)
    have a71 := mm_at.up1 a71 eh3
    have a72 := mm_at.ne1 a72 eh3 (by decide)
    have a73 := mm_at.ne1 a73 eh3 (by decide)
    have a74 := mm_at.ne1 a74 eh3 (by decide)
    have a75 := mm_at.ne1 a75 eh3 (by decide)
    refine mm_aload_n dX4_add_32 rfl ?_
    refine mm_get lk_X4_27_X4 dX4_add_33 a69 rfl ?_
    refine mm_aload_n dX4_add_36 rfl ?_
    refine mm_get lk_X4_30_X4 dX4_add_37 a69 rfl ?_
    refine mm_iconst (v := (-1)) dX4_add_40 (by decide +kernel) ?_
    refine mm_iastN (i := n) dX4_add_41 a75 (by omega) (by decide) (fun h4 eh4 => ?_)
    have a69 := mm_at.ne1 a69 eh4 (by decide)
    have a70 := mm_at.ne1 a70 eh4 (by decide)
    have a71 := mm_at.ne1 a71 eh4 (by decide)
    have a72 := mm_at.ne1 a72 eh4 (by decide)
    have a73 := mm_at.ne1 a73 eh4 (by decide)
    have a74 := mm_at.ne1 a74 eh4 (by decide)
    have a75 := mm_at.up1 a75 eh4
    have L1 : LiAt h4 n mk (upd kd n a) (upd si n b) pg pl fi (upd an n (-1)) := ⟨a69, a70, a71, a72, a73, a74, a75⟩
    refine mm_aload_n dX4_add_42 rfl ?_
    refine mm_aload_n dX4_add_43 rfl ?_
    refine mm_get lk_X4_30_X4 dX4_add_44 a69 rfl ?_
    refine mm_callV (d' := d - 1) (as := [.int (nI n)]) (st := []) (by omega) cm_X4_setPage (mm_t4 51 rfl rfl) (mm_t4 53 rfl rfl) (mm_s1 14 rfl rfl) (T := TX4) (N := 9) rfl dX4_add_47 a69 rfl (Nat.le_of_ble_eq_true rfl) (Nat.le_of_ble_eq_true rfl) rfl rfl (m_Li_setPage L1 (by omega)) (fun o u5 q => ?_)
    obtain ⟨rfl, L2, f2⟩ := q
    show mm_P g d MX4_add (47 + 3) _ [] u5 _
    obtain ⟨a69, a70, a71, a72, a73, a74, a75⟩ := id L2
    refine mm_aload_n dX4_add_50 rfl ?_
    refine mm_aload_n dX4_add_51 rfl ?_
    refine mm_get lk_X4_30_X4 dX4_add_52 a69 rfl ?_
    refine mm_callV (d' := d - 1) (as := [.int (nI n)]) (st := []) (by omega) cm_X4_setEntry (mm_t4 55 rfl rfl) (mm_t4 57 rfl rfl) (mm_s1 15 rfl rfl) (T := TX4) (N := 9) rfl dX4_add_55 a69 rfl (Nat.le_of_ble_eq_true rfl) (Nat.le_of_ble_eq_true rfl) rfl rfl (m_Li_setEntry0 (by omega) L2 (by omega) e) (fun o u6 q => ?_)
    obtain ⟨rfl, L3, f3⟩ := q
    show mm_P g d MX4_add (55 + 3) _ [] u6 _
    obtain ⟨a69, a70, a71, a72, a73, a74, a75⟩ := L3
    refine mm_aload_n dX4_add_58 rfl ?_
    refine mm_dup rfl dX4_add_59 ?_
    refine mm_get lk_X4_30_X4 dX4_add_60 a69 rfl ?_
    refine mm_iconst (v := 1) dX4_add_63 (by decide +kernel) ?_
    refine mm_iadd dX4_add_64 ?_
    rw [nI_1]
    refine mm_put1 (fs' := [.int 200, .int (nI (n + 1)), .int (nI mk), .ref 70, .ref 71, .ref 72, .ref 73, .ref 74, .ref 75]) lk_X4_30_X4 rfl dX4_add_65 a69 (fun _ e => by rw [e]; rfl) (fun _ e => by rw [e]; rfl) (Nat.le_of_ble_eq_true rfl) rfl (fun h7 eh7 => ?_)
    have a69 := mm_at.up1 a69 eh7
    have a70 := mm_at.ne1 a70 eh7 (by decide)
    have a71 := mm_at.ne1 a71 eh7 (by decide)
    have a72 := mm_at.ne1 a72 eh7 (by decide)
    have a73 := mm_at.ne1 a73 eh7 (by decide)
    have a74 := mm_at.ne1 a74 eh7 (by decide)
    have a75 := mm_at.ne1 a75 eh7 (by decide)
    refine mm_vret rfl dX4_add_68 ?_
    exact ⟨rfl, ⟨a69, a70, a71, a72, a73, a74, a75⟩, mm_fr.up (mm_fr.trans (l := 69) (r := 75) (mm_fr.trans (l := 69) (r := 75) (mm_fr.up (mm_fr.up (mm_fr.up (mm_fr.rfl (a := 69) (b := 75)) eh2 (by decide) (by decide)) eh3 (by decide) (by decide)) eh4 (by decide) (by decide)) f2 (by decide) (by decide) (by decide) (by decide)) f3 (by decide) (by decide) (by decide) (by decide)) eh7 (by decide) (by decide)⟩
  · have c1 : ¬ n < 200 := fun z => c1 ((nI_ltI (a := n) (b := 200) (by omega) (by omega)).mpr z)
    exact absurd (show n < 200 by omega) c1
theorem m_Li_add1 {g : mm_G} {d n mk : Nat} {h : mm_Hp} {kd si pg pl fi an : Nat → Int32} {a b : Int32} {m : Nat} (hd : 2 ≤ d) (L : LiAt h n mk kd si pg pl fi an) (hn : n < 200) (hm : m < 200) (e : ebOf (upd kd n a) (upd si n b) fi ((upd si n b) n) n = nI m) : mm_P g d MX4_add 0 [some (.ref 69), some (.int a), some (.int b)] [] h (fun o h' => o = .inl none ∧ LiAt h' (n + 1) mk (upd kd n a) (upd si n b) (upd pg n (pgV (upd si n b) pg pl n)) (upd pl n (plV (upd si n b) pl n)) (upd fi n (feV (upd kd n a) n (nI m))) (anV (upd kd n a) (upd an n (-1)) n m) ∧ mm_fr 69 75 h h') := by
  obtain ⟨a69, a70, a71, a72, a73, a74, a75⟩ := L
  refine mm_aload_n dX4_add_0 rfl ?_
  refine mm_get lk_X4_30_X4 dX4_add_1 a69 rfl ?_
  refine mm_aload_n dX4_add_4 rfl ?_
  refine mm_get lk_X4_34_X4 dX4_add_5 a69 rfl ?_
  refine mm_icmp_lt 12 dX4_add_8 (by decide) (fun c1 => ?_) (fun c1 => ?_)
  · have c1 : n < 200 := (nI_ltI (a := n) (b := 200) (by omega) (by omega)).mp c1
    refine mm_aload_n dX4_add_12 rfl ?_
    refine mm_get lk_X4_9_X4 dX4_add_13 a69 rfl ?_
    refine mm_aload_n dX4_add_16 rfl ?_
    refine mm_get lk_X4_30_X4 dX4_add_17 a69 rfl ?_
    refine mm_iload_n dX4_add_20 rfl ?_
    refine mm_iastN (i := n) dX4_add_21 a70 (by omega) (by decide) (fun h2 eh2 => ?_)
    have a69 := mm_at.ne1 a69 eh2 (by decide)
    have a70 := mm_at.up1 a70 eh2
    have a71 := mm_at.ne1 a71 eh2 (by decide)
    have a72 := mm_at.ne1 a72 eh2 (by decide)
    have a73 := mm_at.ne1 a73 eh2 (by decide)
    have a74 := mm_at.ne1 a74 eh2 (by decide)
    have a75 := mm_at.ne1 a75 eh2 (by decide)
    refine mm_aload_n dX4_add_22 rfl ?_
    refine mm_get lk_X4_15_X4 dX4_add_23 a69 rfl ?_
    refine mm_aload_n dX4_add_26 rfl ?_
    refine mm_get lk_X4_30_X4 dX4_add_27 a69 rfl ?_
    refine mm_iload_n dX4_add_30 rfl ?_
    refine mm_iastN (i := n) dX4_add_31 a71 (by omega) (by decide) (fun h3 eh3 => ?_)
    have a69 := mm_at.ne1 a69 eh3 (by decide)
    have a70 := mm_at.ne1 a70 eh3 (by decide)
    have a71 := mm_at.up1 a71 eh3
    have a72 := mm_at.ne1 a72 eh3 (by decide)
    have a73 := mm_at.ne1 a73 eh3 (by decide)
    have a74 := mm_at.ne1 a74 eh3 (by decide)
    have a75 := mm_at.ne1 a75 eh3 (by decide)
    refine mm_aload_n dX4_add_32 rfl ?_
    refine mm_get lk_X4_27_X4 dX4_add_33 a69 rfl ?_
    refine mm_aload_n dX4_add_36 rfl ?_
    refine mm_get lk_X4_30_X4 dX4_add_37 a69 rfl ?_
    refine mm_iconst (v := (-1)) dX4_add_40 (by decide +kernel) ?_
    refine mm_iastN (i := n) dX4_add_41 a75 (by omega) (by decide) (fun h4 eh4 => ?_)
    have a69 := mm_at.ne1 a69 eh4 (by decide)
    have a70 := mm_at.ne1 a70 eh4 (by decide)
    have a71 := mm_at.ne1 a71 eh4 (by decide)
    have a72 := mm_at.ne1 a72 eh4 (by decide)
    have a73 := mm_at.ne1 a73 eh4 (by decide)
    have a74 := mm_at.ne1 a74 eh4 (by decide)
    have a75 := mm_at.up1 a75 eh4
    have L1 : LiAt h4 n mk (upd kd n a) (upd si n b) pg pl fi (upd an n (-1)) := ⟨a69, a70, a71, a72, a73, a74, a75⟩
    refine mm_aload_n dX4_add_42 rfl ?_
    refine mm_aload_n dX4_add_43 rfl ?_
    refine mm_get lk_X4_30_X4 dX4_add_44 a69 rfl ?_
    refine mm_callV (d' := d - 1) (as := [.int (nI n)]) (st := []) (by omega) cm_X4_setPage (mm_t4 51 rfl rfl) (mm_t4 53 rfl rfl) (mm_s1 14 rfl rfl) (T := TX4) (N := 9) rfl dX4_add_47 a69 rfl (Nat.le_of_ble_eq_true rfl) (Nat.le_of_ble_eq_true rfl) rfl rfl (m_Li_setPage L1 (by omega)) (fun o u5 q => ?_)
    obtain ⟨rfl, L2, f2⟩ := q
    show mm_P g d MX4_add (47 + 3) _ [] u5 _
    obtain ⟨a69, a70, a71, a72, a73, a74, a75⟩ := id L2
    refine mm_aload_n dX4_add_50 rfl ?_
    refine mm_aload_n dX4_add_51 rfl ?_
    refine mm_get lk_X4_30_X4 dX4_add_52 a69 rfl ?_
    refine mm_callV (d' := d - 1) (as := [.int (nI n)]) (st := []) (by omega) cm_X4_setEntry (mm_t4 55 rfl rfl) (mm_t4 57 rfl rfl) (mm_s1 15 rfl rfl) (T := TX4) (N := 9) rfl dX4_add_55 a69 rfl (Nat.le_of_ble_eq_true rfl) (Nat.le_of_ble_eq_true rfl) rfl rfl (m_Li_setEntry1 (by omega) L2 (by omega) hm e) (fun o u6 q => ?_)
    obtain ⟨rfl, L3, f3⟩ := q
    show mm_P g d MX4_add (55 + 3) _ [] u6 _
    obtain ⟨a69, a70, a71, a72, a73, a74, a75⟩ := L3
    refine mm_aload_n dX4_add_58 rfl ?_
    refine mm_dup rfl dX4_add_59 ?_
    refine mm_get lk_X4_30_X4 dX4_add_60 a69 rfl ?_
    refine mm_iconst (v := 1) dX4_add_63 (by decide +kernel) ?_
    refine mm_iadd dX4_add_64 ?_
    rw [nI_1]
    refine mm_put1 (fs' := [.int 200, .int (nI (n + 1)), .int (nI mk), .ref 70, .ref 71, .ref 72, .ref 73, .ref 74, .ref 75]) lk_X4_30_X4 rfl dX4_add_65 a69 (fun _ e => by rw [e]; rfl) (fun _ e => by rw [e]; rfl) (Nat.le_of_ble_eq_true rfl) rfl (fun h7 eh7 => ?_)
    have a69 := mm_at.up1 a69 eh7
    have a70 := mm_at.ne1 a70 eh7 (by decide)
    have a71 := mm_at.ne1 a71 eh7 (by decide)
    have a72 := mm_at.ne1 a72 eh7 (by decide)
    have a73 := mm_at.ne1 a73 eh7 (by decide)
    have a74 := mm_at.ne1 a74 eh7 (by decide)
    have a75 := mm_at.ne1 a75 eh7 (by decide)
    refine mm_vret rfl dX4_add_68 ?_
    exact ⟨rfl, ⟨a69, a70, a71, a72, a73, a74, a75⟩, mm_fr.up (mm_fr.trans (l := 69) (r := 75) (mm_fr.trans (l := 69) (r := 75) (mm_fr.up (mm_fr.up (mm_fr.up (mm_fr.rfl (a := 69) (b := 75)) eh2 (by decide) (by decide)) eh3 (by decide) (by decide)) eh4 (by decide) (by decide)) f2 (by decide) (by decide) (by decide) (by decide)) f3 (by decide) (by decide) (by decide) (by decide)) eh7 (by decide) (by decide)⟩
  · have c1 : ¬ n < 200 := fun z => c1 ((nI_ltI (a := n) (b := 200) (by omega) (by omega)).mpr z)
    exact absurd (show n < 200 by omega) c1
theorem m_Na_nameOf_loop {g : mm_G} {d n mk : Nat} {h : mm_Hp} {li : Nat → Int32} {ex : Nat → Int32} {na : Nat → Int64} {x b : Int32}  (L : NaAt h n mk li ex na) (hn : n ≤ 200) : ∀ (m i : Nat) (f : Int64), i + m = n → mm_P g d MX6_nameOf 5 [some (.ref 94), some (.int x), some (.int b), some (.long f), none, some (.int (nI i))] [] h (mm_pureL (nmOf li ex na x b m i f) h) := by
  obtain ⟨a94, a95, a96, a97⟩ := L
  intro m
  induction m with
  | zero =>
    intro i f hi
    refine mm_iload dX6_nameOf_5 rfl ?_
    refine mm_aload_n dX6_nameOf_7 rfl ?_
    refine mm_get lk_X6_22_X6 dX6_nameOf_8 a94 rfl ?_
    refine mm_icmp_ge 50 dX6_nameOf_11 (by decide) (fun c1 => ?_) (fun c1 => ?_)
    · have c1 : n ≤ i := (nI_leI (a := n) (b := i) (by omega) (by omega)).mp c1
      refine mm_lload_n dX6_nameOf_50 rfl ?_
      refine mm_lret rfl dX6_nameOf_51 ?_
      exact ⟨rfl, rfl⟩
    · have c1 : ¬ n ≤ i := fun z => c1 ((nI_leI (a := n) (b := i) (by omega) (by omega)).mpr z)
      exact absurd (show n ≤ i by omega) c1
  | succ m ih =>
    intro i f hi
    refine mm_iload dX6_nameOf_5 rfl ?_
    refine mm_aload_n dX6_nameOf_7 rfl ?_
    refine mm_get lk_X6_22_X6 dX6_nameOf_8 a94 rfl ?_
    refine mm_icmp_ge 50 dX6_nameOf_11 (by decide) (fun c1 => ?_) (fun c1 => ?_)
    · have c1 : n ≤ i := (nI_leI (a := n) (b := i) (by omega) (by omega)).mp c1
      exact absurd c1 (by omega)
    · have c1 : ¬ n ≤ i := fun z => c1 ((nI_leI (a := n) (b := i) (by omega) (by omega)).mpr z)
      refine mm_aload_n dX6_nameOf_14 rfl ?_
      refine mm_get lk_X6_9_X6 dX6_nameOf_15 a94 rfl ?_
      refine mm_iload dX6_nameOf_18 rfl ?_
      refine mm_ialdN (i := i) dX6_nameOf_20 a95 (by omega) (by decide) ?_
      refine mm_iload_n dX6_nameOf_21 rfl ?_
      refine mm_icmp_gt 50 dX6_nameOf_22 (by decide) (fun c2 => ?_) (fun c2 => ?_)
      · refine mm_lload_n dX6_nameOf_50 rfl ?_
        refine mm_lret rfl dX6_nameOf_51 ?_
        exact ⟨by rw [nmOf, if_pos c2], rfl⟩
      · refine mm_aload_n dX6_nameOf_25 rfl ?_
        refine mm_get lk_X6_15_X6 dX6_nameOf_26 a94 rfl ?_
        refine mm_iload dX6_nameOf_29 rfl ?_
        refine mm_ialdN (i := i) dX6_nameOf_31 a96 (by omega) (by decide) ?_
        refine mm_iload_n dX6_nameOf_32 rfl ?_
        refine mm_icmp_ne 44 dX6_nameOf_33 (by decide) (fun c3 => ?_) (fun c3 => ?_)
        · refine mm_iinc (v := nI (i + 1)) (ls' := [some (.ref 94), some (.int x), some (.int b), some (.long f), none, some (.int (nI (i + 1)))]) dX6_nameOf_44 rfl (nI_1 _) rfl ?_
          refine mm_goto 5 dX6_nameOf_47 (by decide) ?_
          rw [nmOf, if_neg c2, if_neg c3]
          exact ih (i + 1) _ (by omega)
        · refine mm_aload_n dX6_nameOf_36 rfl ?_
          refine mm_get lk_X6_18_X6 dX6_nameOf_37 a94 rfl ?_
          refine mm_iload dX6_nameOf_40 rfl ?_
          refine mm_laldN (i := i) dX6_nameOf_42 a97 (by omega) (by decide) ?_
          refine mm_lstore_n (ls' := [some (.ref 94), some (.int x), some (.int b), some (.long (na i)), none, some (.int (nI i))]) dX6_nameOf_43 (Nat.le_of_ble_eq_true rfl) rfl ?_
          refine mm_iinc (v := nI (i + 1)) (ls' := [some (.ref 94), some (.int x), some (.int b), some (.long (na i)), none, some (.int (nI (i + 1)))]) dX6_nameOf_44 rfl (nI_1 _) rfl ?_
          refine mm_goto 5 dX6_nameOf_47 (by decide) ?_
          rw [nmOf, if_neg c2, if_pos c3]
          exact ih (i + 1) _ (by omega)
theorem m_Na_nameOf {g : mm_G} {d n mk : Nat} {h : mm_Hp} {li : Nat → Int32} {ex : Nat → Int32} {na : Nat → Int64} {x b : Int32} (L : NaAt h n mk li ex na) (hn : n ≤ 200) : mm_P g d MX6_nameOf 0 [some (.ref 94), some (.int x), some (.int b), none, none, none] [] h (mm_pureL (nmOf li ex na x b n 0 0) h) := by
  refine mm_lconst (v := 0) dX6_nameOf_0 (by decide +kernel) ?_
  refine mm_lstore_n (ls' := [some (.ref 94), some (.int x), some (.int b), some (.long 0), none, none]) dX6_nameOf_1 (Nat.le_of_ble_eq_true rfl) rfl ?_
  refine mm_iconst (v := 0) dX6_nameOf_2 (by decide +kernel) ?_
  refine mm_istore (ls' := [some (.ref 94), some (.int x), some (.int b), some (.long 0), none, some (.int 0)]) dX6_nameOf_3 (Nat.le_of_ble_eq_true rfl) rfl ?_
  exact m_Na_nameOf_loop L hn n 0 0 (by omega)
/-- whether one of the first t cites of a line is f -/
def ctOf (fa : Nat → Int32) (i : Nat) (f : Int32) : Nat → Nat → Bool
  | 0, _ => false
  | m + 1, j => if fa (i * 8 + j) = f then true else ctOf fa i f m (j + 1)
theorem m_Di_addCite_loop {g : mm_G} {d n mk : Nat} {h : mm_Hp} {su : Nat → Int32} {da : Nat → Int32} {va : Nat → Int32} {ct : Nat → Int32} {fa : Nat → Int32} {i t : Nat} {f : Int32} (hd : 1 ≤ d) (L : DiAt h n mk su da va ct fa) (hi : i < 40) (ht : t < 8) : ∀ (m j : Nat), j + m = t → mm_P g d MX2_addCite 18 [some (.ref 104), some (.int (nI i)), some (.int f), some (.int (nI t)), some (.int (nI j))] [] h (fun o h' => if ctOf fa i f m j = true then o = .inl (some (.int (-1))) ∧ h' = h else o = .inl (some (.int (nI (t + 1)))) ∧ DiAt h' n mk su da va (upd ct i (nI (t + 1))) (upd fa (i * 8 + t) f) ∧ mm_fr 104 109 h h') := by
  obtain ⟨a104, a105, a106, a107, a108, a109⟩ := id L
  intro m
  induction m with
  | zero =>
    intro j hj
    refine mm_iload dX2_addCite_18 rfl ?_
    refine mm_iload_n dX2_addCite_20 rfl ?_
    refine mm_icmp_ge 43 dX2_addCite_21 (by decide) (fun c1 => ?_) (fun c1 => ?_)
    · have c1 : t ≤ j := (nI_leI (a := t) (b := j) (by omega) (by omega)).mp c1
      refine mm_aload_n dX2_addCite_43 rfl ?_
      refine mm_get lk_X2_24_X2 dX2_addCite_44 a104 rfl ?_
      refine mm_iload_n dX2_addCite_47 rfl ?_
      refine mm_bipush (v := 8) dX2_addCite_48 (by decide +kernel) ?_
      refine mm_imul dX2_addCite_50 ?_
      rw [show nI i * (8 : Int32) = nI (i * 8) from pk_mul i 8]
      refine mm_iload_n dX2_addCite_51 rfl ?_
      refine mm_iadd dX2_addCite_52 ?_
      rw [nI_add]
      refine mm_iload_n dX2_addCite_53 rfl ?_
      refine mm_iastN (i := ((i * 8) + t)) dX2_addCite_54 a109 (by omega) (by decide) (fun h2 eh2 => ?_)
      have a104 := mm_at.ne1 a104 eh2 (by decide)
      have a105 := mm_at.ne1 a105 eh2 (by decide)
      have a106 := mm_at.ne1 a106 eh2 (by decide)
      have a107 := mm_at.ne1 a107 eh2 (by decide)
      have a108 := mm_at.ne1 a108 eh2 (by decide)
      have a109 := mm_at.up1 a109 eh2
      refine mm_aload_n dX2_addCite_55 rfl ?_
      refine mm_get lk_X2_21_X2 dX2_addCite_56 a104 rfl ?_
      refine mm_iload_n dX2_addCite_59 rfl ?_
      refine mm_iload_n dX2_addCite_60 rfl ?_
      refine mm_iconst (v := 1) dX2_addCite_61 (by decide +kernel) ?_
      refine mm_iadd dX2_addCite_62 ?_
      rw [nI_1]
      refine mm_iastN (i := i) dX2_addCite_63 a108 (by omega) (by decide) (fun h3 eh3 => ?_)
      have a104 := mm_at.ne1 a104 eh3 (by decide)
      have a105 := mm_at.ne1 a105 eh3 (by decide)
      have a106 := mm_at.ne1 a106 eh3 (by decide)
      have a107 := mm_at.ne1 a107 eh3 (by decide)
      have a108 := mm_at.up1 a108 eh3
      have a109 := mm_at.ne1 a109 eh3 (by decide)
      refine mm_iload_n dX2_addCite_64 rfl ?_
      refine mm_iconst (v := 1) dX2_addCite_65 (by decide +kernel) ?_
      refine mm_iadd dX2_addCite_66 ?_
      rw [nI_1]
      refine mm_iret rfl rfl dX2_addCite_67 ?_
      rw [if_neg (by simp [ctOf])]
      exact ⟨rfl, ⟨a104, a105, a106, a107, a108, a109⟩, (mm_fr.up (mm_fr.up mm_fr.rfl eh2 (by decide) (by decide)) eh3 (by decide) (by decide))⟩
    · have c1 : ¬ t ≤ j := fun z => c1 ((nI_leI (a := t) (b := j) (by omega) (by omega)).mpr z)
      exact absurd (show t ≤ j by omega) c1
  | succ m ih =>
    intro j hj
    refine mm_iload dX2_addCite_18 rfl ?_
    refine mm_iload_n dX2_addCite_20 rfl ?_
    refine mm_icmp_ge 43 dX2_addCite_21 (by decide) (fun c1 => ?_) (fun c1 => ?_)
    · have c1 : t ≤ j := (nI_leI (a := t) (b := j) (by omega) (by omega)).mp c1
      exact absurd c1 (by omega)
    · have c1 : ¬ t ≤ j := fun z => c1 ((nI_leI (a := t) (b := j) (by omega) (by omega)).mpr z)
      refine mm_aload_n dX2_addCite_24 rfl ?_
      refine mm_iload_n dX2_addCite_25 rfl ?_
      refine mm_iload dX2_addCite_26 rfl ?_
      refine mm_callV (d' := d - 1) (as := [.int (nI i), .int (nI j)]) (st := []) (by omega) cm_X2_citedBy (mm_t5 156 rfl rfl) (mm_t5 157 rfl rfl) (mm_t5 158 rfl rfl) (T := TX2) (N := 8) rfl dX2_addCite_28 a104 rfl (Nat.le_of_ble_eq_true rfl) (Nat.le_of_ble_eq_true rfl) rfl rfl (m_Di_citedBy L (by omega) (by omega)) (fun o u2 q => mm_thenI q ?_)
      refine mm_iload_n dX2_addCite_31 rfl ?_
      refine mm_icmp_ne 37 dX2_addCite_32 (by decide) (fun c3 => ?_) (fun c3 => ?_)
      · refine mm_iinc (v := nI (j + 1)) (ls' := [some (.ref 104), some (.int (nI i)), some (.int f), some (.int (nI t)), some (.int (nI (j + 1)))]) dX2_addCite_37 rfl (nI_1 _) rfl ?_
        refine mm_goto 18 dX2_addCite_40 (by decide) ?_
        rw [ctOf, if_neg c3]
        exact ih (j + 1) (by omega)
      · refine mm_iconst (v := (-1)) dX2_addCite_35 (by decide +kernel) ?_
        refine mm_iret rfl rfl dX2_addCite_36 ?_
        rw [if_pos (by rw [ctOf, if_pos c3])]
        exact ⟨rfl, rfl⟩
theorem m_Di_addCite {g : mm_G} {d n mk : Nat} {h : mm_Hp} {su : Nat → Int32} {da : Nat → Int32} {va : Nat → Int32} {ct : Nat → Int32} {fa : Nat → Int32} {i t : Nat} {f : Int32} (hd : 1 ≤ d) (L : DiAt h n mk su da va ct fa) (hi : i < 40) (ht : t < 8) (e : ct i = nI t) : mm_P g d MX2_addCite 0 [some (.ref 104), some (.int (nI i)), some (.int f), none, none] [] h (fun o h' => if ctOf fa i f t 0 = true then o = .inl (some (.int (-1))) ∧ h' = h else o = .inl (some (.int (nI (t + 1)))) ∧ DiAt h' n mk su da va (upd ct i (nI (t + 1))) (upd fa (i * 8 + t) f) ∧ mm_fr 104 109 h h') := by
  obtain ⟨a104, a105, a106, a107, a108, a109⟩ := id L
  refine mm_aload_n dX2_addCite_0 rfl ?_
  refine mm_get lk_X2_21_X2 dX2_addCite_1 a104 rfl ?_
  refine mm_iload_n dX2_addCite_4 rfl ?_
  refine mm_ialdN (i := i) dX2_addCite_5 a108 (by omega) (by decide) ?_
  rw [e]
  refine mm_istore_n (ls' := [some (.ref 104), some (.int (nI i)), some (.int f), some (.int (nI t)), none]) dX2_addCite_6 (Nat.le_of_ble_eq_true rfl) rfl ?_
  refine mm_iload_n dX2_addCite_7 rfl ?_
  refine mm_bipush (v := 8) dX2_addCite_8 (by decide +kernel) ?_
  refine mm_icmp_lt 15 dX2_addCite_10 (by decide) (fun c1 => ?_) (fun c1 => ?_)
  · have c1 : t < 8 := (nI_ltI (a := t) (b := 8) (by omega) (by omega)).mp c1
    refine mm_iconst (v := 0) dX2_addCite_15 (by decide +kernel) ?_
    refine mm_istore (ls' := [some (.ref 104), some (.int (nI i)), some (.int f), some (.int (nI t)), some (.int 0)]) dX2_addCite_16 (Nat.le_of_ble_eq_true rfl) rfl ?_
    exact m_Di_addCite_loop hd L hi ht t 0 (by omega)
  · have c1 : ¬ t < 8 := fun z => c1 ((nI_ltI (a := t) (b := 8) (by omega) (by omega)).mpr z)
    exact absurd ht c1
