def f_X10_takeRest (N : Nat) (x1 : Int32) (C : CS) : Option (Int32 × CS) :=
  bnd (f_X10_takeRest_L10 N x1 (gI C 11007) N 1 0 C) fun q21 =>
    f_X10_takeRest_J97 N (gI C 11007) q21.1 q21.2
theorem t_X10_takeRest {g : mm_G} {d : Nat} {h : mm_Hp} {C D : CS} {N : Nat} {x1 : Int32} {r : (Int32 × CS)} (hd : 4 ≤ d) (R : Rep h C D) (H : f_X10_takeRest N x1 C = some r) : mm_P g d MX10_takeRest 0 [some (.ref 110), some (.int x1), none, none, none, none] [] h (cI D r) := by
  unfold f_X10_takeRest at H
  refine mm_aload_n dX10_takeRest_0 rfl ?_
  refine rC_get (key := 11007) lk_X10_39_X10 lay_110 rfl rfl rfl dX10_takeRest_1 R ?_
  refine mm_istore_n (ls' := [some (.ref 110), some (.int x1), some (.int (gI C 11007)), none, none, none]) dX10_takeRest_4 (Nat.le_of_ble_eq_true rfl) rfl ?_
  refine mm_iconst (v := 1) dX10_takeRest_5 (by decide +kernel) ?_
  refine mm_istore_n (ls' := [some (.ref 110), some (.int x1), some (.int (gI C 11007)), some (.int 1), none, none]) dX10_takeRest_6 (Nat.le_of_ble_eq_true rfl) rfl ?_
  refine mm_iconst (v := 0) dX10_takeRest_7 (by decide +kernel) ?_
  refine mm_istore (ls' := [some (.ref 110), some (.int x1), some (.int (gI C 11007)), some (.int 1), some (.int 0), none]) dX10_takeRest_8 (Nat.le_of_ble_eq_true rfl) rfl ?_
  obtain ⟨q21, H22, H⟩ := hC H
  refine t_X10_takeRest_L10 hd (fun h R => ?_) N _ _ _ _ R H22
  exact t_X10_takeRest_J97 hd R H
def f_X8_add_L66 (N : Nat) (x1 : Int32) (x6 : Int32) : Nat → Int32 → CS → Option (CS)
  | 0, _, _ => none
  | n + 1, x7, C => if x6 ≤ x7 then (some C)
    else (bd (badd 77 (bat 65 x7 C) C) fun C15 =>
    f_X8_add_L66 N x1 x6 n (x7 + 1) C15)
theorem t_X8_add_L66 {g : mm_G} {d : Nat} {Post : mm_Ou → mm_Hp → Prop} {D : CS} {N : Nat} {x1 : Int32} {x6 : Int32} {res : (CS)} (hd : 3 ≤ d) (KE : ∀ (h1 : mm_Hp), Rep h1 res D → mm_P g d MX8_add 93 [some (.ref 76), some (.int x1), none, none, none, none, none, none] [] h1 Post) : ∀ (n : Nat) (x7 : Int32) (C : CS) (h : mm_Hp) , Rep h C D → f_X8_add_L66 N x1 x6 n x7 C = some res → mm_P g d MX8_add 66 [some (.ref 76), some (.int x1), none, none, some (.ref 65), none, some (.int x6), some (.int x7)] [] h Post := by
  intro n
  induction n with
  | zero =>
    intro x7 C h R H
    exact hN H
  | succ n ih =>
    intro x7 C h R H
    unfold f_X8_add_L66 at H
    refine mm_iload dX8_add_66 rfl ?_
    refine mm_iload dX8_add_68 rfl ?_
    refine mm_icmp_ge 93 dX8_add_70 (by decide) (fun c14 => ?_) (fun c14 => ?_)
    · replace H := hT c14 H
      refine mm_fgt (ls' := [some (.ref 76), some (.int x1), none, none, none, none, none, none]) ⟨rfl, rfl, trivial⟩ ?_
      cases H
      exact KE _ R
    · replace H := hF c14 H
      refine mm_aload_n dX8_add_73 rfl ?_
      refine rC_getR (t := 75) lk_X8_14_X8 lay_76 rfl rfl dX8_add_74 R ?_
      refine mm_aload dX8_add_77 rfl ?_
      refine mm_iload dX8_add_79 rfl ?_
      refine mm_callV (d' := d - 1) (as := [.int x7]) (st := [.ref 77]) (dS hd) cm_X1_byteAt (mm_t4 139 rfl rfl) (mm_t3 175 rfl rfl) (mm_t3 176 rfl rfl) (T := TX1) (N := 4) rfl dX8_add_81 (R.oB (Or.inl rfl)).choose_spec rfl (Nat.le_of_ble_eq_true rfl) (Nat.le_of_ble_eq_true rfl) rfl rfl (tb_at (Or.inl rfl) R) (fun o u q => mm_thenI q ?_)
      obtain ⟨C15, e16, H⟩ := hD H
      refine mm_callV (d' := d - 1) (as := [.int (bat 65 x7 C)]) (st := []) (dS hd) cm_X1_add (mm_t4 140 rfl rfl) (mm_t2 190 rfl rfl) (mm_t2 191 rfl rfl) (T := TX1) (N := 4) rfl dX8_add_84 (R.oB (Or.inr (Or.inr rfl))).choose_spec rfl (Nat.le_of_ble_eq_true rfl) (Nat.le_of_ble_eq_true rfl) rfl rfl (tb_add (Or.inr (Or.inr rfl)) (dL hd (by decide)) R) (fun o h q => th_cV q (fun R => ?_))
      replace R := Rep.cg e16 R
      refine mm_iinc (v := (x7 + 1)) (ls' := [some (.ref 76), some (.int x1), none, none, some (.ref 65), none, some (.int x6), some (.int (x7 + 1))]) dX8_add_87 rfl rfl rfl ?_
      refine mm_goto 66 dX8_add_90 (by decide) ?_
      exact ih _ _ _ R H
def f_X8_add (N : Nat) (x1 : Int32) (x2 : Int32) (x3 : Int32) (x5 : Int32) (x6 : Int32) (C : CS) : Option CS :=
  if (gI C 7601) < (gI C 7600) then (if inb (gI C 7601) 300 = true then (bd (sA C 80 ((gI C 7601)).toNatClampNeg x2) fun C3 =>
    if inb (gI C3 7601) 300 = true then (bd (sA C3 81 ((gI C3 7601)).toNatClampNeg x3) fun C6 =>
    if inb (gI C6 7601) 300 = true then (bd (sA C6 82 ((gI C6 7601)).toNatClampNeg (gI C6 7701)) fun C9 =>
    if inb (gI C9 7601) 300 = true then (bd (sA C9 83 ((gI C9 7601)).toNatClampNeg (x6 - x5)) fun C12 =>
    bnd (f_X8_add_L66 N x1 x6 N x5 C12) fun q17 =>
      if inb x1 200 = true then (bd (sA q17 79 (x1).toNatClampNeg (gI q17 7601)) fun C20 =>
      bd (sI C20 7601 ((gI C20 7601) + 1)) fun C22 =>
      some C22) else none) else none) else none) else none) else none)
      else (some C)
theorem t_X8_add {g : mm_G} {d : Nat} {h : mm_Hp} {C D : CS} {N : Nat} {x1 : Int32} {x2 : Int32} {x3 : Int32} {x5 : Int32} {x6 : Int32} {r : CS} (hd : 3 ≤ d) (R : Rep h C D) (H : f_X8_add N x1 x2 x3 x5 x6 C = some r) : mm_P g d MX8_add 0 [some (.ref 76), some (.int x1), some (.int x2), some (.int x3), some (.ref 65), some (.int x5), some (.int x6), none] [] h (cV D r) := by
  unfold f_X8_add at H
  refine mm_aload_n dX8_add_0 rfl ?_
  refine rC_get (key := 7601) lk_X8_38_X8 lay_76 rfl rfl rfl dX8_add_1 R ?_
  refine mm_aload_n dX8_add_4 rfl ?_
  refine rC_get (key := 7600) lk_X8_42_X8 lay_76 rfl rfl rfl dX8_add_5 R ?_
  refine mm_icmp_lt 12 dX8_add_8 (by decide) (fun c1 => ?_) (fun c1 => ?_)
  · replace H := hT c1 H
    refine mm_aload_n dX8_add_12 rfl ?_
    refine rC_getR (t := 78) lk_X8_22_X8 lay_76 rfl rfl dX8_add_13 R ?_
    refine mm_aload_n dX8_add_16 rfl ?_
    refine rC_get (key := 7601) lk_X8_38_X8 lay_76 rfl rfl rfl dX8_add_17 R ?_
    refine mm_iload_n dX8_add_20 rfl ?_
    obtain ⟨b2, H⟩ := hB H
    obtain ⟨C3, e4, H⟩ := hD H
    refine rC_iast lay_80 rfl dX8_add_21 R b2 e4 (fun h R => ?_)
    refine mm_aload_n dX8_add_22 rfl ?_
    refine rC_getR (t := 79) lk_X8_25_X8 lay_76 rfl rfl dX8_add_23 R ?_
    refine mm_aload_n dX8_add_26 rfl ?_
    refine rC_get (key := 7601) lk_X8_38_X8 lay_76 rfl rfl rfl dX8_add_27 R ?_
    refine mm_iload_n dX8_add_30 rfl ?_
    obtain ⟨b5, H⟩ := hB H
    obtain ⟨C6, e7, H⟩ := hD H
    refine rC_iast lay_81 rfl dX8_add_31 R b5 e7 (fun h R => ?_)
    refine mm_aload_n dX8_add_32 rfl ?_
    refine rC_getR (t := 80) lk_X8_28_X8 lay_76 rfl rfl dX8_add_33 R ?_
    refine mm_aload_n dX8_add_36 rfl ?_
    refine rC_get (key := 7601) lk_X8_38_X8 lay_76 rfl rfl rfl dX8_add_37 R ?_
    refine mm_aload_n dX8_add_40 rfl ?_
    refine rC_getR (t := 75) lk_X8_14_X8 lay_76 rfl rfl dX8_add_41 R ?_
    refine rB_get lk_X8_45_X1 (Or.inr (Or.inr rfl)) rfl dX8_add_44 R ?_
    obtain ⟨b8, H⟩ := hB H
    obtain ⟨C9, e10, H⟩ := hD H
    refine rC_iast lay_82 rfl dX8_add_47 R b8 e10 (fun h R => ?_)
    refine mm_aload_n dX8_add_48 rfl ?_
    refine rC_getR (t := 81) lk_X8_31_X8 lay_76 rfl rfl dX8_add_49 R ?_
    refine mm_aload_n dX8_add_52 rfl ?_
    refine rC_get (key := 7601) lk_X8_38_X8 lay_76 rfl rfl rfl dX8_add_53 R ?_
    refine mm_iload dX8_add_56 rfl ?_
    refine mm_iload dX8_add_58 rfl ?_
    refine mm_isub dX8_add_60 ?_
    obtain ⟨b11, H⟩ := hB H
    obtain ⟨C12, e13, H⟩ := hD H
    refine rC_iast lay_83 rfl dX8_add_61 R b11 e13 (fun h R => ?_)
    refine mm_iload dX8_add_62 rfl ?_
    refine mm_istore (ls' := [some (.ref 76), some (.int x1), some (.int x2), some (.int x3), some (.ref 65), some (.int x5), some (.int x6), some (.int x5)]) dX8_add_64 (Nat.le_of_ble_eq_true rfl) rfl ?_
    obtain ⟨q17, H18, H⟩ := hC H
    refine mm_fgt (ls' := [some (.ref 76), some (.int x1), none, none, some (.ref 65), none, some (.int x6), some (.int x5)]) ⟨rfl, rfl, rfl, rfl, rfl, trivial⟩ ?_
    refine t_X8_add_L66 hd (fun h R => ?_) N _ _ _ R H18
    refine mm_aload_n dX8_add_93 rfl ?_
    refine rC_getR (t := 77) lk_X8_18_X8 lay_76 rfl rfl dX8_add_94 R ?_
    refine mm_iload_n dX8_add_97 rfl ?_
    refine mm_aload_n dX8_add_98 rfl ?_
    refine rC_get (key := 7601) lk_X8_38_X8 lay_76 rfl rfl rfl dX8_add_99 R ?_
    obtain ⟨b19, H⟩ := hB H
    obtain ⟨C20, e21, H⟩ := hD H
    refine rC_iast lay_79 rfl dX8_add_102 R b19 e21 (fun h R => ?_)
    refine mm_aload_n dX8_add_103 rfl ?_
    refine mm_dup rfl dX8_add_104 ?_
    refine rC_get (key := 7601) lk_X8_38_X8 lay_76 rfl rfl rfl dX8_add_105 R ?_
    refine mm_iconst (v := 1) dX8_add_108 (by decide +kernel) ?_
    refine mm_iadd dX8_add_109 ?_
    obtain ⟨C22, e23, H⟩ := hD H
    refine rC_put (key := 7601) lk_X8_38_X8 lay_76 rfl rfl rfl rfl rfl dX8_add_110 R e23 (fun h R => ?_)
    refine mm_vret rfl dX8_add_113 ?_
    exact en_cV H R
  · replace H := hF c1 H
    refine mm_vret rfl dX8_add_11 ?_
    exact en_cV H R
def f_X8_addFirst (N : Nat) (x1 : Int32) (x3 : Int32) (x4 : Int32) (C : CS) : Option CS :=
  bnd (f_X8_add N x1 (-1) 0 x3 x4 C) fun q1 =>
  some q1
theorem t_X8_addFirst {g : mm_G} {d : Nat} {h : mm_Hp} {C D : CS} {N : Nat} {x1 : Int32} {x3 : Int32} {x4 : Int32} {r : CS} (hd : 4 ≤ d) (R : Rep h C D) (H : f_X8_addFirst N x1 x3 x4 C = some r) : mm_P g d MX8_addFirst 0 [some (.ref 76), some (.int x1), some (.ref 65), some (.int x3), some (.int x4)] [] h (cV D r) := by
  unfold f_X8_addFirst at H
  refine mm_aload_n dX8_addFirst_0 rfl ?_
  refine mm_iload_n dX8_addFirst_1 rfl ?_
  refine mm_iconst (v := (-1)) dX8_addFirst_2 (by decide +kernel) ?_
  refine mm_iconst (v := 0) dX8_addFirst_3 (by decide +kernel) ?_
  refine mm_aload_n dX8_addFirst_4 rfl ?_
  refine mm_iload_n dX8_addFirst_5 rfl ?_
  refine mm_iload dX8_addFirst_6 rfl ?_
  obtain ⟨q1, H2, H⟩ := hC H
  refine mm_callV (d' := d - 1) (as := [.int x1, .int (-1), .int 0, .ref 65, .int x3, .int x4]) (st := []) (dS hd) cm_X8_add (mm_t4 135 rfl rfl) (mm_t4 137 rfl rfl) (mm_s2 9 rfl rfl) (T := TX8) (N := 9) rfl dX8_addFirst_8 (R.oC (r := 76) rfl lay_76) rfl (Nat.le_of_ble_eq_true rfl) (Nat.le_of_ble_eq_true rfl) rfl rfl (t_X8_add (dL hd (by decide)) R H2) (fun o h q => th_cV q (fun R => ?_))
  refine mm_vret rfl dX8_addFirst_11 ?_
  exact en_cV H R
def f_X6_exhibits_L4 (N : Nat) (C : CS) : Nat → Int32 → Int32 → Option (Int32)
  | 0, _, _ => none
  | n + 1, x1, x2 => if (gI C 9401) ≤ x2 then (some x1)
    else (if inb x2 200 = true then (f_X6_exhibits_L4 N C n (if x1 < ((gA C 96 (x2).toNatClampNeg) + 1) then ((gA C 96 (x2).toNatClampNeg) + 1) else x1) (x2 + 1)) else none)
theorem t_X6_exhibits_L4 {g : mm_G} {d : Nat} {Post : mm_Ou → mm_Hp → Prop} {h : mm_Hp} {C D : CS} {N : Nat} {res : (Int32)} (hd : 1 ≤ d) (R : Rep h C D) (KE : mm_P g d MX6_exhibits 31 [none, some (.int res), none] [] h Post) : ∀ (n : Nat) (x1 : Int32) (x2 : Int32) , f_X6_exhibits_L4 N C n x1 x2 = some res → mm_P g d MX6_exhibits 4 [some (.ref 94), some (.int x1), some (.int x2)] [] h Post := by
  intro n
  induction n with
  | zero =>
    intro x1 x2 H
    exact hN H
  | succ n ih =>
    intro x1 x2 H
    unfold f_X6_exhibits_L4 at H
    refine mm_iload_n dX6_exhibits_4 rfl ?_
    refine mm_aload_n dX6_exhibits_5 rfl ?_
    refine rC_get (key := 9401) lk_X6_22_X6 lay_94 rfl rfl rfl dX6_exhibits_6 R ?_
    refine mm_icmp_ge 31 dX6_exhibits_9 (by decide) (fun c1 => ?_) (fun c1 => ?_)
    · replace H := hT c1 H
      refine mm_fgt (ls' := [none, some (.int x1), none]) ⟨rfl, trivial⟩ ?_
      cases H
      exact KE
    · replace H := hF c1 H
      refine mm_iload_n dX6_exhibits_12 rfl ?_
      refine mm_aload_n dX6_exhibits_13 rfl ?_
      refine rC_getR (t := 94) lk_X6_15_X6 lay_94 rfl rfl dX6_exhibits_14 R ?_
      refine mm_iload_n dX6_exhibits_17 rfl ?_
      obtain ⟨b2, H⟩ := hB H
      refine rC_iald lay_96 rfl dX6_exhibits_18 R b2 ?_
      refine mm_iconst (v := 1) dX6_exhibits_19 (by decide +kernel) ?_
      refine mm_iadd dX6_exhibits_20 ?_
      refine mm_max (mm_t4 93 rfl rfl) (mm_t3 179 rfl rfl) (mm_t1 15 rfl rfl) (mm_t3 180 rfl rfl) (Nat.le_trans (by decide) hd) rfl (Nat.le_of_ble_eq_true rfl) dX6_exhibits_21 ?_
      refine mm_istore_n (ls' := [some (.ref 94), some (.int (if x1 < ((gA C 96 (x2).toNatClampNeg) + 1) then ((gA C 96 (x2).toNatClampNeg) + 1) else x1)), some (.int x2)]) dX6_exhibits_24 (Nat.le_of_ble_eq_true rfl) rfl ?_
      refine mm_iinc (v := (x2 + 1)) (ls' := [some (.ref 94), some (.int (if x1 < ((gA C 96 (x2).toNatClampNeg) + 1) then ((gA C 96 (x2).toNatClampNeg) + 1) else x1)), some (.int (x2 + 1))]) dX6_exhibits_25 rfl rfl rfl ?_
      refine mm_goto 4 dX6_exhibits_28 (by decide) ?_
      exact ih _ _ H
def f_X6_exhibits (N : Nat) (C : CS) : Option Int32 :=
  bnd (f_X6_exhibits_L4 N C N 0 0) fun q3 =>
    some q3
theorem t_X6_exhibits {g : mm_G} {d : Nat} {h : mm_Hp} {C D : CS} {N : Nat} {r : Int32} (hd : 1 ≤ d) (R : Rep h C D) (H : f_X6_exhibits N C = some r) : mm_P g d MX6_exhibits 0 [some (.ref 94), none, none] [] h (mm_pureI r h) := by
  unfold f_X6_exhibits at H
  refine mm_iconst (v := 0) dX6_exhibits_0 (by decide +kernel) ?_
  refine mm_istore_n (ls' := [some (.ref 94), some (.int 0), none]) dX6_exhibits_1 (Nat.le_of_ble_eq_true rfl) rfl ?_
  refine mm_iconst (v := 0) dX6_exhibits_2 (by decide +kernel) ?_
  refine mm_istore_n (ls' := [some (.ref 94), some (.int 0), some (.int 0)]) dX6_exhibits_3 (Nat.le_of_ble_eq_true rfl) rfl ?_
  obtain ⟨q3, H4, H⟩ := hC H
  refine t_X6_exhibits_L4 hd R ?_ N _ _ H4
  refine mm_iload_n dX6_exhibits_31 rfl ?_
  refine mm_iret rfl rfl dX6_exhibits_32 ?_
  exact en_pI H
def f_X6_add (x1 : Int32) (x2 : Int32) (x3 : Int64) (C : CS) : Option CS :=
  if (gI C 9401) < (gI C 9400) then (if inb (gI C 9401) 200 = true then (bd (sA C 95 ((gI C 9401)).toNatClampNeg x1) fun C3 =>
    if inb (gI C3 9401) 200 = true then (bd (sA C3 96 ((gI C3 9401)).toNatClampNeg x2) fun C6 =>
    if inb (gI C6 9401) 200 = true then (bd (sB C6 97 ((gI C6 9401)).toNatClampNeg x3) fun C9 =>
    bd (sI C9 9401 ((gI C9 9401) + 1)) fun C11 =>
    some C11) else none) else none) else none)
    else (some C)
theorem t_X6_add {g : mm_G} {d : Nat} {h : mm_Hp} {C D : CS} {x1 : Int32} {x2 : Int32} {x3 : Int64} {r : CS} (hd : 0 ≤ d) (R : Rep h C D) (H : f_X6_add x1 x2 x3 C = some r) : mm_P g d MX6_add 0 [some (.ref 94), some (.int x1), some (.int x2), some (.long x3), none] [] h (cV D r) := by
  unfold f_X6_add at H
  refine mm_aload_n dX6_add_0 rfl ?_
  refine rC_get (key := 9401) lk_X6_22_X6 lay_94 rfl rfl rfl dX6_add_1 R ?_
  refine mm_aload_n dX6_add_4 rfl ?_
  refine rC_get (key := 9400) lk_X6_26_X6 lay_94 rfl rfl rfl dX6_add_5 R ?_
  refine mm_icmp_lt 12 dX6_add_8 (by decide) (fun c1 => ?_) (fun c1 => ?_)
  · replace H := hT c1 H
    refine mm_aload_n dX6_add_12 rfl ?_
    refine rC_getR (t := 93) lk_X6_9_X6 lay_94 rfl rfl dX6_add_13 R ?_
    refine mm_aload_n dX6_add_16 rfl ?_
    refine rC_get (key := 9401) lk_X6_22_X6 lay_94 rfl rfl rfl dX6_add_17 R ?_
    refine mm_iload_n dX6_add_20 rfl ?_
    obtain ⟨b2, H⟩ := hB H
    obtain ⟨C3, e4, H⟩ := hD H
    refine rC_iast lay_95 rfl dX6_add_21 R b2 e4 (fun h R => ?_)
    refine mm_aload_n dX6_add_22 rfl ?_
    refine rC_getR (t := 94) lk_X6_15_X6 lay_94 rfl rfl dX6_add_23 R ?_
    refine mm_aload_n dX6_add_26 rfl ?_
    refine rC_get (key := 9401) lk_X6_22_X6 lay_94 rfl rfl rfl dX6_add_27 R ?_
    refine mm_iload_n dX6_add_30 rfl ?_
    obtain ⟨b5, H⟩ := hB H
    obtain ⟨C6, e7, H⟩ := hD H
    refine rC_iast lay_96 rfl dX6_add_31 R b5 e7 (fun h R => ?_)
    refine mm_aload_n dX6_add_32 rfl ?_
    refine rC_getR (t := 95) lk_X6_18_X6 lay_94 rfl rfl dX6_add_33 R ?_
    refine mm_aload_n dX6_add_36 rfl ?_
    refine rC_get (key := 9401) lk_X6_22_X6 lay_94 rfl rfl rfl dX6_add_37 R ?_
    refine mm_lload_n dX6_add_40 rfl ?_
    obtain ⟨b8, H⟩ := hB H
    obtain ⟨C9, e10, H⟩ := hD H
    refine rC_last lay_97 rfl dX6_add_41 R b8 e10 (fun h R => ?_)
    refine mm_aload_n dX6_add_42 rfl ?_
    refine mm_dup rfl dX6_add_43 ?_
    refine rC_get (key := 9401) lk_X6_22_X6 lay_94 rfl rfl rfl dX6_add_44 R ?_
    refine mm_iconst (v := 1) dX6_add_47 (by decide +kernel) ?_
    refine mm_iadd dX6_add_48 ?_
    obtain ⟨C11, e12, H⟩ := hD H
    refine rC_put (key := 9401) lk_X6_22_X6 lay_94 rfl rfl rfl rfl rfl dX6_add_49 R e12 (fun h R => ?_)
    refine mm_vret rfl dX6_add_52 ?_
    exact en_cV H R
  · replace H := hF c1 H
    refine mm_vret rfl dX6_add_11 ?_
    exact en_cV H R
def f_X10_takeNewName (N : Nat) (x1 : Int32) (x2 : Int32) (C : CS) : Option (Int32 × CS) :=
  bd (sI C 11007 ((gI C 11007) + 1)) fun C1 =>
  bnd (f_X10_takeName N C1) fun q3 =>
  if q3.1 = 0 then (some (0, q3.2))
    else (bnd (f_X6_holder N (gJ q3.2 11010) x1 q3.2) fun q6 =>
    if q6 = (-1) then (bnd (f_X6_add x1 x2 (gJ q3.2 11010) q3.2) fun q9 =>
      bnd (f_X10_lineEnds q9) fun q11 =>
      if q11 = 0 then (bnd (f_X10_refuse 1 (gI q9 11007) q9) fun q14 =>
        if q14.1 = 0 then (some (0, q14.2))
          else (some (1, q14.2)))
        else (some (1, q9)))
      else (bnd (f_X10_refuse 4 (gI C1 11007) q3.2) fun q17 =>
      if q17.1 &&& 1 = q17.1 then some (q17.1, q17.2) else none))
theorem t_X10_takeNewName {g : mm_G} {d : Nat} {h : mm_Hp} {C D : CS} {N : Nat} {x1 : Int32} {x2 : Int32} {r : (Int32 × CS)} (hd : 3 ≤ d) (R : Rep h C D) (H : f_X10_takeNewName N x1 x2 C = some r) : mm_P g d MX10_takeNewName 0 [some (.ref 110), some (.int x1), some (.int x2), none] [] h (cI D r) := by
  unfold f_X10_takeNewName at H
  refine mm_aload_n dX10_takeNewName_0 rfl ?_
  refine mm_dup rfl dX10_takeNewName_1 ?_
  refine rC_get (key := 11007) lk_X10_39_X10 lay_110 rfl rfl rfl dX10_takeNewName_2 R ?_
  refine mm_iconst (v := 1) dX10_takeNewName_5 (by decide +kernel) ?_
  refine mm_iadd dX10_takeNewName_6 ?_
  obtain ⟨C1, e2, H⟩ := hD H
  refine rC_put (key := 11007) lk_X10_39_X10 lay_110 rfl rfl rfl rfl rfl dX10_takeNewName_7 R e2 (fun h R => ?_)
  refine mm_aload_n dX10_takeNewName_10 rfl ?_
  refine rC_get (key := 11007) lk_X10_39_X10 lay_110 rfl rfl rfl dX10_takeNewName_11 R ?_
  refine mm_istore_n (ls' := [some (.ref 110), some (.int x1), some (.int x2), some (.int (gI C1 11007))]) dX10_takeNewName_14 (Nat.le_of_ble_eq_true rfl) rfl ?_
  refine mm_aload_n dX10_takeNewName_15 rfl ?_
  obtain ⟨q3, H4, H⟩ := hC H
  refine mm_callV (d' := d - 1) (as := []) (st := []) (dS hd) cm_X10_takeName (mm_t4 66 rfl rfl) (mm_t4 68 rfl rfl) (mm_s2 2 rfl rfl) (T := TX10) (N := 13) rfl dX10_takeNewName_16 (R.oC (r := 110) rfl lay_110) rfl (Nat.le_of_ble_eq_true rfl) (Nat.le_of_ble_eq_true rfl) rfl rfl (t_X10_takeName (dL hd (by decide)) R H4) (fun o h q => th_cI q (fun R => ?_))
  refine mm_if_ne 24 dX10_takeNewName_19 (by decide) (fun c5 => ?_) (fun c5 => ?_)
  · replace H := hF c5 H
    refine mm_aload_n dX10_takeNewName_24 rfl ?_
    refine rC_getR (t := 92) lk_X10_31_X10 lay_110 rfl rfl dX10_takeNewName_25 R ?_
    refine mm_aload_n dX10_takeNewName_28 rfl ?_
    refine rC_getJ (key := 11010) lk_X10_188_X10 lay_110 rfl rfl rfl dX10_takeNewName_29 R ?_
    refine mm_iload_n dX10_takeNewName_32 rfl ?_
    obtain ⟨q6, H7, H⟩ := hC H
    refine mm_callV (d' := d - 1) (as := [.long (gJ q3.2 11010), .int x1]) (st := []) (dS hd) cm_X6_holder (mm_t4 73 rfl rfl) (mm_t4 74 rfl rfl) (mm_t4 75 rfl rfl) (T := TX6) (N := 6) rfl dX10_takeNewName_33 (R.oC (r := 94) rfl lay_94) rfl (Nat.le_of_ble_eq_true rfl) (Nat.le_of_ble_eq_true rfl) rfl rfl (t_X6_holder (dL hd (by decide)) R H7) (fun o u q => mm_thenI q ?_)
    refine mm_iconst (v := (-1)) dX10_takeNewName_36 (by decide +kernel) ?_
    refine mm_icmp_eq 47 dX10_takeNewName_37 (by decide) (fun c8 => ?_) (fun c8 => ?_)
    · replace H := hT c8 H
      refine mm_aload_n dX10_takeNewName_47 rfl ?_
      refine rC_getR (t := 92) lk_X10_31_X10 lay_110 rfl rfl dX10_takeNewName_48 R ?_
      refine mm_iload_n dX10_takeNewName_51 rfl ?_
      refine mm_iload_n dX10_takeNewName_52 rfl ?_
      refine mm_aload_n dX10_takeNewName_53 rfl ?_
      refine rC_getJ (key := 11010) lk_X10_188_X10 lay_110 rfl rfl rfl dX10_takeNewName_54 R ?_
      obtain ⟨q9, H10, H⟩ := hC H
      refine mm_callV (d' := d - 1) (as := [.int x1, .int x2, .long (gJ q3.2 11010)]) (st := []) (dS hd) cm_X6_add (mm_t4 81 rfl rfl) (mm_t4 82 rfl rfl) (mm_t4 83 rfl rfl) (T := TX6) (N := 6) rfl dX10_takeNewName_57 (R.oC (r := 94) rfl lay_94) rfl (Nat.le_of_ble_eq_true rfl) (Nat.le_of_ble_eq_true rfl) rfl rfl (t_X6_add (dL hd (by decide)) R H10) (fun o h q => th_cV q (fun R => ?_))
      refine mm_aload_n dX10_takeNewName_60 rfl ?_
      obtain ⟨q11, H12, H⟩ := hC H
      refine mm_callV (d' := d - 1) (as := []) (st := []) (dS hd) cm_X10_lineEnds (mm_t4 85 rfl rfl) (mm_t4 87 rfl rfl) (mm_s2 4 rfl rfl) (T := TX10) (N := 13) rfl dX10_takeNewName_61 (R.oC (r := 110) rfl lay_110) rfl (Nat.le_of_ble_eq_true rfl) (Nat.le_of_ble_eq_true rfl) rfl rfl (t_X10_lineEnds (dL hd (by decide)) R H12) (fun o u q => mm_thenI q ?_)
      refine mm_if_ne 79 dX10_takeNewName_64 (by decide) (fun c13 => ?_) (fun c13 => ?_)
      · replace H := hF c13 H
        refine mm_iconst (v := 1) dX10_takeNewName_79 (by decide +kernel) ?_
        refine mm_goto 84 dX10_takeNewName_80 (by decide) ?_
        refine mm_iret rfl rfl dX10_takeNewName_84 ?_
        exact en_cI H R
      · replace H := hT c13 H
        refine mm_aload_n dX10_takeNewName_67 rfl ?_
        refine mm_iconst (v := 1) dX10_takeNewName_68 (by decide +kernel) ?_
        refine mm_aload_n dX10_takeNewName_69 rfl ?_
        refine rC_get (key := 11007) lk_X10_39_X10 lay_110 rfl rfl rfl dX10_takeNewName_70 R ?_
        obtain ⟨q14, H15, H⟩ := hC H
        refine mm_callV (d' := d - 1) (as := [.int 1, .int (gI q9 11007)]) (st := []) (dS hd) cm_X10_refuse (mm_t4 27 rfl rfl) (mm_t4 29 rfl rfl) (mm_s1 11 rfl rfl) (T := TX10) (N := 13) rfl dX10_takeNewName_73 (R.oC (r := 110) rfl lay_110) rfl (Nat.le_of_ble_eq_true rfl) (Nat.le_of_ble_eq_true rfl) rfl rfl (t_X10_refuse (dL hd (by decide)) R H15) (fun o h q => th_cI q (fun R => ?_))
        refine mm_if_eq 83 dX10_takeNewName_76 (by decide) (fun c16 => ?_) (fun c16 => ?_)
        · replace H := hT c16 H
          refine mm_iconst (v := 0) dX10_takeNewName_83 (by decide +kernel) ?_
          refine mm_iret rfl rfl dX10_takeNewName_84 ?_
          exact en_cI H R
        · replace H := hF c16 H
          refine mm_iconst (v := 1) dX10_takeNewName_79 (by decide +kernel) ?_
          refine mm_goto 84 dX10_takeNewName_80 (by decide) ?_
          refine mm_iret rfl rfl dX10_takeNewName_84 ?_
          exact en_cI H R
    · replace H := hF c8 H
      refine mm_aload_n dX10_takeNewName_40 rfl ?_
      refine mm_iconst (v := 4) dX10_takeNewName_41 (by decide +kernel) ?_
      refine mm_iload_n dX10_takeNewName_42 rfl ?_
      obtain ⟨q17, H18, H⟩ := hC H
      refine mm_callV (d' := d - 1) (as := [.int 4, .int (gI C1 11007)]) (st := []) (dS hd) cm_X10_refuse (mm_t4 27 rfl rfl) (mm_t4 29 rfl rfl) (mm_s1 11 rfl rfl) (T := TX10) (N := 13) rfl dX10_takeNewName_43 (R.oC (r := 110) rfl lay_110) rfl (Nat.le_of_ble_eq_true rfl) (Nat.le_of_ble_eq_true rfl) rfl rfl (t_X10_refuse (dL hd (by decide)) R H18) (fun o h q => th_cI q (fun R => ?_))
      obtain ⟨b19, H⟩ := hB H
      refine mm_iret rfl (congrArg Value.int b19) dX10_takeNewName_46 ?_
      exact en_cI H R
  · replace H := hT c5 H
    refine mm_iconst (v := 0) dX10_takeNewName_22 (by decide +kernel) ?_
    refine mm_iret rfl rfl dX10_takeNewName_23 ?_
    exact en_cI H R
def f_X10_takeNaming (N : Nat) (x1 : Int32) (C : CS) : Option (Int32 × CS) :=
  bnd (f_X10_takeName N C) fun q1 =>
  if q1.1 = 0 then (some (0, q1.2))
    else (bnd (f_X6_holder N (gJ q1.2 11010) x1 q1.2) fun q4 =>
    bnd (f_X10_sign q1.2) fun q6 =>
    if q6 = 32 then (if q4 = (-1) then (bnd (f_X10_refuse 4 (gI C 11007) q1.2) fun q31 =>
        if q31.1 &&& 1 = q31.1 then some (q31.1, q31.2) else none)
        else (bnd (f_X10_takeNewName N x1 q4 q1.2) fun q28 =>
        if q28.1 &&& 1 = q28.1 then some (q28.1, q28.2) else none))
      else (if q4 = (-1) then (bnd (f_X6_exhibits N q1.2) fun q10 =>
        if q10 < 20 then (bnd (f_X6_add x1 q10 (gJ q1.2 11010) q1.2) fun q13 =>
          bnd (f_X10_lineEnds q13) fun q15 =>
          if q15 = 0 then (bnd (f_X10_refuse 1 (gI q13 11007) q13) fun q18 =>
            if q18.1 = 0 then (some (0, q18.2))
              else (some (1, q18.2)))
            else (some (1, q13)))
          else (bnd (f_X10_refuse 5 (gI C 11007) q1.2) fun q21 =>
          if q21.1 &&& 1 = q21.1 then some (q21.1, q21.2) else none))
        else (bnd (f_X10_refuse 4 (gI C 11007) q1.2) fun q24 =>
        if q24.1 &&& 1 = q24.1 then some (q24.1, q24.2) else none)))
theorem t_X10_takeNaming {g : mm_G} {d : Nat} {h : mm_Hp} {C D : CS} {N : Nat} {x1 : Int32} {r : (Int32 × CS)} (hd : 4 ≤ d) (R : Rep h C D) (H : f_X10_takeNaming N x1 C = some r) : mm_P g d MX10_takeNaming 0 [some (.ref 110), some (.int x1), none, none, none] [] h (cI D r) := by
  unfold f_X10_takeNaming at H
  refine mm_aload_n dX10_takeNaming_0 rfl ?_
  refine rC_get (key := 11007) lk_X10_39_X10 lay_110 rfl rfl rfl dX10_takeNaming_1 R ?_
  refine mm_istore_n (ls' := [some (.ref 110), some (.int x1), some (.int (gI C 11007)), none, none]) dX10_takeNaming_4 (Nat.le_of_ble_eq_true rfl) rfl ?_
  refine mm_aload_n dX10_takeNaming_5 rfl ?_
  obtain ⟨q1, H2, H⟩ := hC H
  refine mm_callV (d' := d - 1) (as := []) (st := []) (dS hd) cm_X10_takeName (mm_t4 66 rfl rfl) (mm_t4 68 rfl rfl) (mm_s2 2 rfl rfl) (T := TX10) (N := 13) rfl dX10_takeNaming_6 (R.oC (r := 110) rfl lay_110) rfl (Nat.le_of_ble_eq_true rfl) (Nat.le_of_ble_eq_true rfl) rfl rfl (t_X10_takeName (dL hd (by decide)) R H2) (fun o h q => th_cI q (fun R => ?_))
  refine mm_if_ne 14 dX10_takeNaming_9 (by decide) (fun c3 => ?_) (fun c3 => ?_)
  · replace H := hF c3 H
    refine mm_aload_n dX10_takeNaming_14 rfl ?_
    refine rC_getR (t := 92) lk_X10_31_X10 lay_110 rfl rfl dX10_takeNaming_15 R ?_
    refine mm_aload_n dX10_takeNaming_18 rfl ?_
    refine rC_getJ (key := 11010) lk_X10_188_X10 lay_110 rfl rfl rfl dX10_takeNaming_19 R ?_
    refine mm_iload_n dX10_takeNaming_22 rfl ?_
    obtain ⟨q4, H5, H⟩ := hC H
    refine mm_callV (d' := d - 1) (as := [.long (gJ q1.2 11010), .int x1]) (st := []) (dS hd) cm_X6_holder (mm_t4 73 rfl rfl) (mm_t4 74 rfl rfl) (mm_t4 75 rfl rfl) (T := TX6) (N := 6) rfl dX10_takeNaming_23 (R.oC (r := 94) rfl lay_94) rfl (Nat.le_of_ble_eq_true rfl) (Nat.le_of_ble_eq_true rfl) rfl rfl (t_X6_holder (dL hd (by decide)) R H5) (fun o u q => mm_thenI q ?_)
    refine mm_istore_n (ls' := [some (.ref 110), some (.int x1), some (.int (gI C 11007)), some (.int q4), none]) dX10_takeNaming_26 (Nat.le_of_ble_eq_true rfl) rfl ?_
    refine mm_aload_n dX10_takeNaming_27 rfl ?_
    obtain ⟨q6, H7, H⟩ := hC H
    refine mm_callV (d' := d - 1) (as := []) (st := []) (dS hd) cm_X10_sign (mm_t3 170 rfl rfl) (mm_t3 172 rfl rfl) (mm_s1 9 rfl rfl) (T := TX10) (N := 13) rfl dX10_takeNaming_28 (R.oC (r := 110) rfl lay_110) rfl (Nat.le_of_ble_eq_true rfl) (Nat.le_of_ble_eq_true rfl) rfl rfl (t_X10_sign (dL hd (by decide)) R H7) (fun o u q => mm_thenI q ?_)
    refine mm_bipush (v := 32) dX10_takeNaming_31 (by decide +kernel) ?_
    refine mm_icmp_ne 57 dX10_takeNaming_33 (by decide) (fun c8 => ?_) (fun c8 => ?_)
    · replace H := hF c8 H
      refine mm_iload_n dX10_takeNaming_57 rfl ?_
      refine mm_iconst (v := (-1)) dX10_takeNaming_58 (by decide +kernel) ?_
      refine mm_icmp_eq 69 dX10_takeNaming_59 (by decide) (fun c9 => ?_) (fun c9 => ?_)
      · replace H := hT c9 H
        refine mm_aload_n dX10_takeNaming_69 rfl ?_
        refine rC_getR (t := 92) lk_X10_31_X10 lay_110 rfl rfl dX10_takeNaming_70 R ?_
        obtain ⟨q10, H11, H⟩ := hC H
        refine mm_callV (d' := d - 1) (as := []) (st := []) (dS hd) cm_X6_exhibits (mm_t4 89 rfl rfl) (mm_t4 90 rfl rfl) (mm_t4 91 rfl rfl) (T := TX6) (N := 6) rfl dX10_takeNaming_73 (R.oC (r := 94) rfl lay_94) rfl (Nat.le_of_ble_eq_true rfl) (Nat.le_of_ble_eq_true rfl) rfl rfl (t_X6_exhibits (dL hd (by decide)) R H11) (fun o u q => mm_thenI q ?_)
        refine mm_istore (ls' := [some (.ref 110), some (.int x1), some (.int (gI C 11007)), some (.int q4), some (.int q10)]) dX10_takeNaming_76 (Nat.le_of_ble_eq_true rfl) rfl ?_
        refine mm_iload dX10_takeNaming_78 rfl ?_
        refine mm_bipush (v := 20) dX10_takeNaming_80 (by decide +kernel) ?_
        refine mm_icmp_lt 92 dX10_takeNaming_82 (by decide) (fun c12 => ?_) (fun c12 => ?_)
        · replace H := hT c12 H
          refine mm_aload_n dX10_takeNaming_92 rfl ?_
          refine rC_getR (t := 92) lk_X10_31_X10 lay_110 rfl rfl dX10_takeNaming_93 R ?_
          refine mm_iload_n dX10_takeNaming_96 rfl ?_
          refine mm_iload dX10_takeNaming_97 rfl ?_
          refine mm_aload_n dX10_takeNaming_99 rfl ?_
          refine rC_getJ (key := 11010) lk_X10_188_X10 lay_110 rfl rfl rfl dX10_takeNaming_100 R ?_
          obtain ⟨q13, H14, H⟩ := hC H
          refine mm_callV (d' := d - 1) (as := [.int x1, .int q10, .long (gJ q1.2 11010)]) (st := []) (dS hd) cm_X6_add (mm_t4 81 rfl rfl) (mm_t4 82 rfl rfl) (mm_t4 83 rfl rfl) (T := TX6) (N := 6) rfl dX10_takeNaming_103 (R.oC (r := 94) rfl lay_94) rfl (Nat.le_of_ble_eq_true rfl) (Nat.le_of_ble_eq_true rfl) rfl rfl (t_X6_add (dL hd (by decide)) R H14) (fun o h q => th_cV q (fun R => ?_))
          refine mm_aload_n dX10_takeNaming_106 rfl ?_
          obtain ⟨q15, H16, H⟩ := hC H
          refine mm_callV (d' := d - 1) (as := []) (st := []) (dS hd) cm_X10_lineEnds (mm_t4 85 rfl rfl) (mm_t4 87 rfl rfl) (mm_s2 4 rfl rfl) (T := TX10) (N := 13) rfl dX10_takeNaming_107 (R.oC (r := 110) rfl lay_110) rfl (Nat.le_of_ble_eq_true rfl) (Nat.le_of_ble_eq_true rfl) rfl rfl (t_X10_lineEnds (dL hd (by decide)) R H16) (fun o u q => mm_thenI q ?_)
          refine mm_if_ne 125 dX10_takeNaming_110 (by decide) (fun c17 => ?_) (fun c17 => ?_)
          · replace H := hF c17 H
            refine mm_iconst (v := 1) dX10_takeNaming_125 (by decide +kernel) ?_
            refine mm_goto 130 dX10_takeNaming_126 (by decide) ?_
            refine mm_iret rfl rfl dX10_takeNaming_130 ?_
            exact en_cI H R
          · replace H := hT c17 H
            refine mm_aload_n dX10_takeNaming_113 rfl ?_
            refine mm_iconst (v := 1) dX10_takeNaming_114 (by decide +kernel) ?_
            refine mm_aload_n dX10_takeNaming_115 rfl ?_
            refine rC_get (key := 11007) lk_X10_39_X10 lay_110 rfl rfl rfl dX10_takeNaming_116 R ?_
            obtain ⟨q18, H19, H⟩ := hC H
            refine mm_callV (d' := d - 1) (as := [.int 1, .int (gI q13 11007)]) (st := []) (dS hd) cm_X10_refuse (mm_t4 27 rfl rfl) (mm_t4 29 rfl rfl) (mm_s1 11 rfl rfl) (T := TX10) (N := 13) rfl dX10_takeNaming_119 (R.oC (r := 110) rfl lay_110) rfl (Nat.le_of_ble_eq_true rfl) (Nat.le_of_ble_eq_true rfl) rfl rfl (t_X10_refuse (dL hd (by decide)) R H19) (fun o h q => th_cI q (fun R => ?_))
            refine mm_if_eq 129 dX10_takeNaming_122 (by decide) (fun c20 => ?_) (fun c20 => ?_)
            · replace H := hT c20 H
              refine mm_iconst (v := 0) dX10_takeNaming_129 (by decide +kernel) ?_
              refine mm_iret rfl rfl dX10_takeNaming_130 ?_
              exact en_cI H R
            · replace H := hF c20 H
              refine mm_iconst (v := 1) dX10_takeNaming_125 (by decide +kernel) ?_
              refine mm_goto 130 dX10_takeNaming_126 (by decide) ?_
              refine mm_iret rfl rfl dX10_takeNaming_130 ?_
              exact en_cI H R
        · replace H := hF c12 H
          refine mm_aload_n dX10_takeNaming_85 rfl ?_
          refine mm_iconst (v := 5) dX10_takeNaming_86 (by decide +kernel) ?_
          refine mm_iload_n dX10_takeNaming_87 rfl ?_
          obtain ⟨q21, H22, H⟩ := hC H
          refine mm_callV (d' := d - 1) (as := [.int 5, .int (gI C 11007)]) (st := []) (dS hd) cm_X10_refuse (mm_t4 27 rfl rfl) (mm_t4 29 rfl rfl) (mm_s1 11 rfl rfl) (T := TX10) (N := 13) rfl dX10_takeNaming_88 (R.oC (r := 110) rfl lay_110) rfl (Nat.le_of_ble_eq_true rfl) (Nat.le_of_ble_eq_true rfl) rfl rfl (t_X10_refuse (dL hd (by decide)) R H22) (fun o h q => th_cI q (fun R => ?_))
          obtain ⟨b23, H⟩ := hB H
          refine mm_iret rfl (congrArg Value.int b23) dX10_takeNaming_91 ?_
          exact en_cI H R
      · replace H := hF c9 H
        refine mm_aload_n dX10_takeNaming_62 rfl ?_
        refine mm_iconst (v := 4) dX10_takeNaming_63 (by decide +kernel) ?_
        refine mm_iload_n dX10_takeNaming_64 rfl ?_
        obtain ⟨q24, H25, H⟩ := hC H
        refine mm_callV (d' := d - 1) (as := [.int 4, .int (gI C 11007)]) (st := []) (dS hd) cm_X10_refuse (mm_t4 27 rfl rfl) (mm_t4 29 rfl rfl) (mm_s1 11 rfl rfl) (T := TX10) (N := 13) rfl dX10_takeNaming_65 (R.oC (r := 110) rfl lay_110) rfl (Nat.le_of_ble_eq_true rfl) (Nat.le_of_ble_eq_true rfl) rfl rfl (t_X10_refuse (dL hd (by decide)) R H25) (fun o h q => th_cI q (fun R => ?_))
        obtain ⟨b26, H⟩ := hB H
        refine mm_iret rfl (congrArg Value.int b26) dX10_takeNaming_68 ?_
        exact en_cI H R
    · replace H := hT c8 H
      refine mm_iload_n dX10_takeNaming_36 rfl ?_
      refine mm_iconst (v := (-1)) dX10_takeNaming_37 (by decide +kernel) ?_
      refine mm_icmp_ne 50 dX10_takeNaming_38 (by decide) (fun c27 => ?_) (fun c27 => ?_)
      · replace H := hF c27 H
        refine mm_aload_n dX10_takeNaming_50 rfl ?_
        refine mm_iload_n dX10_takeNaming_51 rfl ?_
        refine mm_iload_n dX10_takeNaming_52 rfl ?_
        obtain ⟨q28, H29, H⟩ := hC H
        refine mm_callV (d' := d - 1) (as := [.int x1, .int q4]) (st := []) (dS hd) cm_X10_takeNewName (mm_t4 77 rfl rfl) (mm_t4 79 rfl rfl) (mm_s2 3 rfl rfl) (T := TX10) (N := 13) rfl dX10_takeNaming_53 (R.oC (r := 110) rfl lay_110) rfl (Nat.le_of_ble_eq_true rfl) (Nat.le_of_ble_eq_true rfl) rfl rfl (t_X10_takeNewName (dL hd (by decide)) R H29) (fun o h q => th_cI q (fun R => ?_))
        obtain ⟨b30, H⟩ := hB H
        refine mm_iret rfl (congrArg Value.int b30) dX10_takeNaming_56 ?_
        exact en_cI H R
      · replace H := hT c27 H
        refine mm_aload_n dX10_takeNaming_41 rfl ?_
        refine mm_iconst (v := 4) dX10_takeNaming_42 (by decide +kernel) ?_
        refine mm_iload_n dX10_takeNaming_43 rfl ?_
        obtain ⟨q31, H32, H⟩ := hC H
        refine mm_callV (d' := d - 1) (as := [.int 4, .int (gI C 11007)]) (st := []) (dS hd) cm_X10_refuse (mm_t4 27 rfl rfl) (mm_t4 29 rfl rfl) (mm_s1 11 rfl rfl) (T := TX10) (N := 13) rfl dX10_takeNaming_44 (R.oC (r := 110) rfl lay_110) rfl (Nat.le_of_ble_eq_true rfl) (Nat.le_of_ble_eq_true rfl) rfl rfl (t_X10_refuse (dL hd (by decide)) R H32) (fun o h q => th_cI q (fun R => ?_))
        refine mm_goto 56 dX10_takeNaming_47 (by decide) ?_
        obtain ⟨b33, H⟩ := hB H
        refine mm_iret rfl (congrArg Value.int b33) dX10_takeNaming_56 ?_
        exact en_cI H R
  · replace H := hT c3 H
    refine mm_iconst (v := 0) dX10_takeNaming_12 (by decide +kernel) ?_
    refine mm_iret rfl rfl dX10_takeNaming_13 ?_
    exact en_cI H R
def f_X10_takeLine_J83 (N : Nat) (x3 : Int32) (x4 : Int32) (C : CS) : Option (Int32 × CS) :=
  bnd (f_X8_addFirst N x3 x4 (gI C 11007) C) fun q15 =>
  if (gI q15 11006) ≤ (gI q15 11007) then (some (1, q15))
    else (bd (sI q15 11007 ((gI q15 11007) + 1)) fun C18 =>
    some (1, C18))
theorem t_X10_takeLine_J83 {g : mm_G} {d : Nat} {h : mm_Hp} {C D : CS} {N : Nat} {x3 : Int32} {x4 : Int32} {r : (Int32 × CS)} (hd : 5 ≤ d) (R : Rep h C D) (H : f_X10_takeLine_J83 N x3 x4 C = some r) : mm_P g d MX10_takeLine 83 [some (.ref 110), none, none, some (.int x3), some (.int x4)] [] h (cI D r) := by
  unfold f_X10_takeLine_J83 at H
  refine mm_aload_n dX10_takeLine_83 rfl ?_
  refine rC_getR (t := 74) lk_X10_19_X10 lay_110 rfl rfl dX10_takeLine_84 R ?_
  refine mm_iload_n dX10_takeLine_87 rfl ?_
  refine mm_aload_n dX10_takeLine_88 rfl ?_
  refine rC_getR (t := 63) lk_X10_9_X10 lay_110 rfl rfl dX10_takeLine_89 R ?_
  refine mm_iload dX10_takeLine_92 rfl ?_
  refine mm_aload_n dX10_takeLine_94 rfl ?_
  refine rC_get (key := 11007) lk_X10_39_X10 lay_110 rfl rfl rfl dX10_takeLine_95 R ?_
  obtain ⟨q15, H16, H⟩ := hC H
  refine mm_callV (d' := d - 1) (as := [.int x3, .ref 65, .int x4, .int (gI C 11007)]) (st := []) (dS hd) cm_X8_addFirst (mm_t4 131 rfl rfl) (mm_t4 132 rfl rfl) (mm_t4 133 rfl rfl) (T := TX8) (N := 9) rfl dX10_takeLine_98 (R.oC (r := 76) rfl lay_76) rfl (Nat.le_of_ble_eq_true rfl) (Nat.le_of_ble_eq_true rfl) rfl rfl (t_X8_addFirst (dL hd (by decide)) R H16) (fun o h q => th_cV q (fun R => ?_))
  refine mm_aload_n dX10_takeLine_101 rfl ?_
  refine rC_get (key := 11007) lk_X10_39_X10 lay_110 rfl rfl rfl dX10_takeLine_102 R ?_
  refine mm_aload_n dX10_takeLine_105 rfl ?_
  refine rC_get (key := 11006) lk_X10_43_X10 lay_110 rfl rfl rfl dX10_takeLine_106 R ?_
  refine mm_icmp_ge 122 dX10_takeLine_109 (by decide) (fun c17 => ?_) (fun c17 => ?_)
  · replace H := hT c17 H
    refine mm_iconst (v := 1) dX10_takeLine_122 (by decide +kernel) ?_
    refine mm_iret rfl rfl dX10_takeLine_123 ?_
    exact en_cI H R
  · replace H := hF c17 H
    refine mm_aload_n dX10_takeLine_112 rfl ?_
    refine mm_dup rfl dX10_takeLine_113 ?_
    refine rC_get (key := 11007) lk_X10_39_X10 lay_110 rfl rfl rfl dX10_takeLine_114 R ?_
    refine mm_iconst (v := 1) dX10_takeLine_117 (by decide +kernel) ?_
    refine mm_iadd dX10_takeLine_118 ?_
    obtain ⟨C18, e19, H⟩ := hD H
    refine rC_put (key := 11007) lk_X10_39_X10 lay_110 rfl rfl rfl rfl rfl dX10_takeLine_119 R e19 (fun h R => ?_)
    refine mm_iconst (v := 1) dX10_takeLine_122 (by decide +kernel) ?_
    refine mm_iret rfl rfl dX10_takeLine_123 ?_
    exact en_cI H R
def f_X10_takeLine (N : Nat) (x1 : Int32) (C : CS) : Option (Int32 × CS) :=
  bd (sI C 11008 (gI C 11007)) fun C1 =>
  bnd (f_X10_sign C1) fun q3 =>
  if inb ((((if 0 < q3 then q3 else 0)).toUInt32 % 65536).toInt32) 256 = true then (bnd (f_X10_takeHead (kdOf (((((if 0 < q3 then q3 else 0)).toUInt32 % 65536).toInt32)).toNatClampNeg) x1 C1) fun q6 =>
  if q6.1 = 0 then (some (0, q6.2))
    else (bnd (f_X4_add N (kdOf (((((if 0 < q3 then q3 else 0)).toUInt32 % 65536).toInt32)).toNatClampNeg) x1 q6.2) fun q9 =>
    if (kdOf (((((if 0 < q3 then q3 else 0)).toUInt32 % 65536).toInt32)).toNatClampNeg) = 5 then (bnd (f_X10_takeNaming N (gI q6.2 6901) q9) fun q20 =>
      if q20.1 = 0 then (some (0, q20.2))
        else (f_X10_takeLine_J83 N (gI q6.2 6901) (gI q6.2 11007) q20.2))
      else (bnd (f_X10_takeRest N (gI q6.2 6901) q9) fun q12 =>
      if q12.1 = 0 then (some (0, q12.2))
        else (f_X10_takeLine_J83 N (gI q6.2 6901) (gI q6.2 11007) q12.2)))) else none
theorem t_X10_takeLine {g : mm_G} {d : Nat} {h : mm_Hp} {C D : CS} {N : Nat} {x1 : Int32} {r : (Int32 × CS)} (hd : 5 ≤ d) (R : Rep h C D) (H : f_X10_takeLine N x1 C = some r) : mm_P g d MX10_takeLine 0 [some (.ref 110), some (.int x1), none, none, none] [] h (cI D r) := by
  unfold f_X10_takeLine at H
  refine mm_aload_n dX10_takeLine_0 rfl ?_
  refine mm_aload_n dX10_takeLine_1 rfl ?_
  refine rC_get (key := 11007) lk_X10_39_X10 lay_110 rfl rfl rfl dX10_takeLine_2 R ?_
  obtain ⟨C1, e2, H⟩ := hD H
  refine rC_put (key := 11008) lk_X10_54_X10 lay_110 rfl rfl rfl rfl rfl dX10_takeLine_5 R e2 (fun h R => ?_)
  refine mm_ldcS (no := 1) (tx := "QAYN !") (by decide) (by decide) dX10_takeLine_8 ?_
  refine mm_iconst (v := 0) dX10_takeLine_10 (by decide +kernel) ?_
  refine mm_aload_n dX10_takeLine_11 rfl ?_
  obtain ⟨q3, H4, H⟩ := hC H
  refine mm_callV (d' := d - 1) (as := []) (st := [.int 0, .ref 1]) (dS hd) cm_X10_sign (mm_t3 170 rfl rfl) (mm_t3 172 rfl rfl) (mm_s1 9 rfl rfl) (T := TX10) (N := 13) rfl dX10_takeLine_12 (R.oC (r := 110) rfl lay_110) rfl (Nat.le_of_ble_eq_true rfl) (Nat.le_of_ble_eq_true rfl) rfl rfl (t_X10_sign (dL hd (by decide)) R H4) (fun o u q => mm_thenI q ?_)
  refine mm_max (mm_t3 178 rfl rfl) (mm_t3 179 rfl rfl) (mm_t1 15 rfl rfl) (mm_t3 180 rfl rfl) (Nat.le_trans (by decide) hd) rfl (Nat.le_of_ble_eq_true rfl) dX10_takeLine_15 ?_
  refine mm_i2c dX10_takeLine_18 ?_
  obtain ⟨b5, H⟩ := hB H
  refine mm_callF (i := 1) (d' := d - 1) (as := [.int ((((if 0 < q3 then q3 else 0)).toUInt32 % 65536).toInt32)]) (st := []) (by decide) (by decide) (dS hd) cm_J0_indexOf_0f7a4 (mm_t3 181 rfl rfl) (mm_t3 182 rfl rfl) (mm_t3 183 rfl rfl) dX10_takeLine_19 rfl (Nat.le_of_ble_eq_true rfl) (Nat.le_of_ble_eq_true rfl) rfl rfl (tx_ix (dL hd (by decide)) b5) (fun o u q => mm_thenI q ?_)
  refine mm_istore_n (ls' := [some (.ref 110), some (.int x1), some (.int (kdOf (((((if 0 < q3 then q3 else 0)).toUInt32 % 65536).toInt32)).toNatClampNeg)), none, none]) dX10_takeLine_22 (Nat.le_of_ble_eq_true rfl) rfl ?_
  refine mm_aload_n dX10_takeLine_23 rfl ?_
  refine mm_iload_n dX10_takeLine_24 rfl ?_
  refine mm_iload_n dX10_takeLine_25 rfl ?_
  obtain ⟨q6, H7, H⟩ := hC H
  refine mm_callV (d' := d - 1) (as := [.int (kdOf (((((if 0 < q3 then q3 else 0)).toUInt32 % 65536).toInt32)).toNatClampNeg), .int x1]) (st := []) (dS hd) cm_X10_takeHead (mm_t4 23 rfl rfl) (mm_t4 25 rfl rfl) (mm_s1 10 rfl rfl) (T := TX10) (N := 13) rfl dX10_takeLine_26 (R.oC (r := 110) rfl lay_110) rfl (Nat.le_of_ble_eq_true rfl) (Nat.le_of_ble_eq_true rfl) rfl rfl (t_X10_takeHead (dL hd (by decide)) R H7) (fun o h q => th_cI q (fun R => ?_))
  refine mm_if_ne 34 dX10_takeLine_29 (by decide) (fun c8 => ?_) (fun c8 => ?_)
  · replace H := hF c8 H
    refine mm_aload_n dX10_takeLine_34 rfl ?_
    refine rC_getR (t := 67) lk_X10_15_X10 lay_110 rfl rfl dX10_takeLine_35 R ?_
    refine rC_get (key := 6901) lk_X10_137_X4 lay_69 rfl rfl rfl dX10_takeLine_38 R ?_
    refine mm_istore_n (ls' := [some (.ref 110), some (.int x1), some (.int (kdOf (((((if 0 < q3 then q3 else 0)).toUInt32 % 65536).toInt32)).toNatClampNeg)), some (.int (gI q6.2 6901)), none]) dX10_takeLine_41 (Nat.le_of_ble_eq_true rfl) rfl ?_
    refine mm_aload_n dX10_takeLine_42 rfl ?_
    refine rC_get (key := 11007) lk_X10_39_X10 lay_110 rfl rfl rfl dX10_takeLine_43 R ?_
    refine mm_istore (ls' := [some (.ref 110), some (.int x1), some (.int (kdOf (((((if 0 < q3 then q3 else 0)).toUInt32 % 65536).toInt32)).toNatClampNeg)), some (.int (gI q6.2 6901)), some (.int (gI q6.2 11007))]) dX10_takeLine_46 (Nat.le_of_ble_eq_true rfl) rfl ?_
    refine mm_aload_n dX10_takeLine_48 rfl ?_
    refine rC_getR (t := 67) lk_X10_15_X10 lay_110 rfl rfl dX10_takeLine_49 R ?_
    refine mm_iload_n dX10_takeLine_52 rfl ?_
    refine mm_iload_n dX10_takeLine_53 rfl ?_
    obtain ⟨q9, H10, H⟩ := hC H
    refine mm_callV (d' := d - 1) (as := [.int (kdOf (((((if 0 < q3 then q3 else 0)).toUInt32 % 65536).toInt32)).toNatClampNeg), .int x1]) (st := []) (dS hd) cm_X4_add (mm_t4 46 rfl rfl) (mm_t4 47 rfl rfl) (mm_t4 48 rfl rfl) (T := TX4) (N := 9) rfl dX10_takeLine_54 (R.oC (r := 69) rfl lay_69) rfl (Nat.le_of_ble_eq_true rfl) (Nat.le_of_ble_eq_true rfl) rfl rfl (t_X4_add (dL hd (by decide)) R H10) (fun o h q => th_cV q (fun R => ?_))
    refine mm_iload_n dX10_takeLine_57 rfl ?_
    refine mm_iconst (v := 5) dX10_takeLine_58 (by decide +kernel) ?_
    refine mm_icmp_ne 73 dX10_takeLine_59 (by decide) (fun c11 => ?_) (fun c11 => ?_)
    · replace H := hF c11 H
      refine mm_aload_n dX10_takeLine_73 rfl ?_
      refine mm_iload_n dX10_takeLine_74 rfl ?_
      obtain ⟨q12, H13, H⟩ := hC H
      refine mm_callV (d' := d - 1) (as := [.int (gI q6.2 6901)]) (st := []) (dS hd) cm_X10_takeRest (mm_t4 94 rfl rfl) (mm_t4 96 rfl rfl) (mm_s2 5 rfl rfl) (T := TX10) (N := 13) rfl dX10_takeLine_75 (R.oC (r := 110) rfl lay_110) rfl (Nat.le_of_ble_eq_true rfl) (Nat.le_of_ble_eq_true rfl) rfl rfl (t_X10_takeRest (dL hd (by decide)) R H13) (fun o h q => th_cI q (fun R => ?_))
      refine mm_if_ne 83 dX10_takeLine_78 (by decide) (fun c14 => ?_) (fun c14 => ?_)
      · replace H := hF c14 H
        refine mm_fgt (ls' := [some (.ref 110), none, none, some (.int (gI q6.2 6901)), some (.int (gI q6.2 11007))]) ⟨rfl, rfl, rfl, trivial⟩ ?_
        exact t_X10_takeLine_J83 hd R H
      · replace H := hT c14 H
        refine mm_iconst (v := 0) dX10_takeLine_81 (by decide +kernel) ?_
        refine mm_iret rfl rfl dX10_takeLine_82 ?_
        exact en_cI H R
    · replace H := hT c11 H
      refine mm_aload_n dX10_takeLine_62 rfl ?_
      refine mm_iload_n dX10_takeLine_63 rfl ?_
      obtain ⟨q20, H21, H⟩ := hC H
      refine mm_callV (d' := d - 1) (as := [.int (gI q6.2 6901)]) (st := []) (dS hd) cm_X10_takeNaming (mm_t4 62 rfl rfl) (mm_t4 64 rfl rfl) (mm_s2 1 rfl rfl) (T := TX10) (N := 13) rfl dX10_takeLine_64 (R.oC (r := 110) rfl lay_110) rfl (Nat.le_of_ble_eq_true rfl) (Nat.le_of_ble_eq_true rfl) rfl rfl (t_X10_takeNaming (dL hd (by decide)) R H21) (fun o h q => th_cI q (fun R => ?_))
      refine mm_if_eq 81 dX10_takeLine_67 (by decide) (fun c22 => ?_) (fun c22 => ?_)
      · replace H := hT c22 H
        refine mm_iconst (v := 0) dX10_takeLine_81 (by decide +kernel) ?_
        refine mm_iret rfl rfl dX10_takeLine_82 ?_
        exact en_cI H R
      · replace H := hF c22 H
        refine mm_goto 83 dX10_takeLine_70 (by decide) ?_
        refine mm_fgt (ls' := [some (.ref 110), none, none, some (.int (gI q6.2 6901)), some (.int (gI q6.2 11007))]) ⟨rfl, rfl, rfl, trivial⟩ ?_
        exact t_X10_takeLine_J83 hd R H
  · replace H := hT c8 H
    refine mm_iconst (v := 0) dX10_takeLine_32 (by decide +kernel) ?_
    refine mm_iret rfl rfl dX10_takeLine_33 ?_
    exact en_cI H R
def f_X10_finish (x1 : Int32) (C : CS) : Option (Int32 × CS) :=
  if x1 = 0 then (bd (sI C 6901 (gI C 6902)) fun C2 =>
    bd (sI C2 7601 (gI C2 7602)) fun C4 =>
    if gI C4 7702 ≤ gI C4 7701 ∧ 0 ≤ gI C4 7702 then (bd (sI C4 7701 (gI C4 7702)) fun C7 => bd (sI C7 8401 (gI C7 8402)) fun C9 =>
    bd (sI C9 9101 (gI C9 9102)) fun C11 =>
    bd (sI C11 9401 (gI C11 9402)) fun C13 =>
    some ((gI C13 11011), C13)) else none)
    else (some ((gI C 11011), C))
theorem t_X10_finish {g : mm_G} {d : Nat} {h : mm_Hp} {C D : CS} {x1 : Int32} {r : (Int32 × CS)} (hd : 1 ≤ d) (R : Rep h C D) (H : f_X10_finish x1 C = some r) : mm_P g d MX10_finish 0 [some (.ref 110), some (.int x1)] [] h (cI D r) := by
  unfold f_X10_finish at H
  refine mm_iload_n dX10_finish_0 rfl ?_
  refine mm_if_ne 49 dX10_finish_1 (by decide) (fun c1 => ?_) (fun c1 => ?_)
  · replace H := hF c1 H
    refine mm_aload_n dX10_finish_49 rfl ?_
    refine rC_get (key := 11011) lk_X10_81_X10 lay_110 rfl rfl rfl dX10_finish_50 R ?_
    refine mm_iret rfl rfl dX10_finish_53 ?_
    exact en_cI H R
  · replace H := hT c1 H
    refine mm_aload_n dX10_finish_4 rfl ?_
    refine rC_getR (t := 67) lk_X10_15_X10 lay_110 rfl rfl dX10_finish_5 R ?_
    obtain ⟨C2, e3, H⟩ := hD H
    refine mm_callU (d' := d - 1) (x := ⟨"TestimonyBook$Lines", "takeBack", "()V"⟩) (owner := "TestimonyBook$Rows") (as := []) (st := []) (dS hd) cm_X9_takeBack rfl (mm_t4 145 rfl rfl) (mm_t4 146 rfl rfl) (mm_t4 149 rfl rfl) (mm_t4 148 rfl rfl) (T := TX4) (N := 9) rfl dX10_finish_8 (R.oC (r := 69) rfl lay_69) rfl (Nat.le_of_ble_eq_true rfl) (Nat.le_of_ble_eq_true rfl) rfl rfl (tr_back lk_X9_13_X4 lk_X9_16_X4 rfl rfl lay_69 rfl rfl rfl R) (fun E u q => by cases q.1) (fun v u q => th_vU q (fun R => ?_))
    replace R := Rep.cg e3 R
    refine mm_aload_n dX10_finish_11 rfl ?_
    refine rC_getR (t := 74) lk_X10_19_X10 lay_110 rfl rfl dX10_finish_12 R ?_
    obtain ⟨C4, e5, H⟩ := hD H
    refine mm_callU (d' := d - 1) (x := ⟨"TestimonyBook$Rests", "takeBack", "()V"⟩) (owner := "TestimonyBook$Rows") (as := []) (st := []) (dS hd) cm_X9_takeBack rfl (mm_t4 151 rfl rfl) (mm_t4 152 rfl rfl) (mm_t4 149 rfl rfl) (mm_t4 153 rfl rfl) (T := TX8) (N := 9) rfl dX10_finish_15 (R.oC (r := 76) rfl lay_76) rfl (Nat.le_of_ble_eq_true rfl) (Nat.le_of_ble_eq_true rfl) rfl rfl (tr_back lk_X9_13_X8 lk_X9_16_X8 rfl rfl lay_76 rfl rfl rfl R) (fun E u q => by cases q.1) (fun v u q => th_vU q (fun R => ?_))
    replace R := Rep.cg e5 R
    refine mm_aload_n dX10_finish_18 rfl ?_
    refine rC_getR (t := 74) lk_X10_19_X10 lay_110 rfl rfl dX10_finish_19 R ?_
    refine rC_getR (t := 75) lk_X10_93_X8 lay_76 rfl rfl dX10_finish_22 R ?_
    obtain ⟨b6, H⟩ := hB H
    obtain ⟨C7, e8, H⟩ := hD H
    refine mm_callU (d' := d - 1) (x := ⟨"TestimonyBook$Bytes", "takeBack", "()V"⟩) (owner := "TestimonyBook$Rows") (as := []) (st := []) (dS hd) cm_X9_takeBack rfl (mm_t4 154 rfl rfl) (mm_t4 155 rfl rfl) (mm_t4 149 rfl rfl) (mm_t4 156 rfl rfl) (T := TX1) (N := 4) rfl dX10_finish_25 (R.oB (Or.inr (Or.inr rfl))).choose_spec rfl (Nat.le_of_ble_eq_true rfl) (Nat.le_of_ble_eq_true rfl) rfl rfl (tb_back (Or.inr (Or.inr rfl)) b6 R) (fun E u q => by cases q.1) (fun v u q => th_vU q (fun R => ?_))
    replace R := Rep.cg e8 R
    refine mm_aload_n dX10_finish_28 rfl ?_
    refine rC_getR (t := 82) lk_X10_23_X10 lay_110 rfl rfl dX10_finish_29 R ?_
    obtain ⟨C9, e10, H⟩ := hD H
    refine mm_callU (d' := d - 1) (x := ⟨"TestimonyBook$Facts", "takeBack", "()V"⟩) (owner := "TestimonyBook$Rows") (as := []) (st := []) (dS hd) cm_X9_takeBack rfl (mm_t4 157 rfl rfl) (mm_t4 158 rfl rfl) (mm_t4 149 rfl rfl) (mm_t4 159 rfl rfl) (T := TX3) (N := 9) rfl dX10_finish_32 (R.oC (r := 84) rfl lay_84) rfl (Nat.le_of_ble_eq_true rfl) (Nat.le_of_ble_eq_true rfl) rfl rfl (tr_back lk_X9_13_X3 lk_X9_16_X3 rfl rfl lay_84 rfl rfl rfl R) (fun E u q => by cases q.1) (fun v u q => th_vU q (fun R => ?_))
    replace R := Rep.cg e10 R
    refine mm_aload_n dX10_finish_35 rfl ?_
    refine rC_getR (t := 89) lk_X10_27_X10 lay_110 rfl rfl dX10_finish_36 R ?_
    obtain ⟨C11, e12, H⟩ := hD H
    refine mm_callU (d' := d - 1) (x := ⟨"TestimonyBook$Mentions", "takeBack", "()V"⟩) (owner := "TestimonyBook$Rows") (as := []) (st := []) (dS hd) cm_X9_takeBack rfl (mm_t4 160 rfl rfl) (mm_t4 161 rfl rfl) (mm_t4 149 rfl rfl) (mm_t4 162 rfl rfl) (T := TX5) (N := 5) rfl dX10_finish_39 (R.oC (r := 91) rfl lay_91) rfl (Nat.le_of_ble_eq_true rfl) (Nat.le_of_ble_eq_true rfl) rfl rfl (tr_back lk_X9_13_X5 lk_X9_16_X5 rfl rfl lay_91 rfl rfl rfl R) (fun E u q => by cases q.1) (fun v u q => th_vU q (fun R => ?_))
    replace R := Rep.cg e12 R
    refine mm_aload_n dX10_finish_42 rfl ?_
    refine rC_getR (t := 92) lk_X10_31_X10 lay_110 rfl rfl dX10_finish_43 R ?_
    obtain ⟨C13, e14, H⟩ := hD H
    refine mm_callU (d' := d - 1) (x := ⟨"TestimonyBook$Names", "takeBack", "()V"⟩) (owner := "TestimonyBook$Rows") (as := []) (st := []) (dS hd) cm_X9_takeBack rfl (mm_t4 163 rfl rfl) (mm_t4 164 rfl rfl) (mm_t4 149 rfl rfl) (mm_t4 165 rfl rfl) (T := TX6) (N := 6) rfl dX10_finish_46 (R.oC (r := 94) rfl lay_94) rfl (Nat.le_of_ble_eq_true rfl) (Nat.le_of_ble_eq_true rfl) rfl rfl (tr_back lk_X9_13_X6 lk_X9_16_X6 rfl rfl lay_94 rfl rfl rfl R) (fun E u q => by cases q.1) (fun v u q => th_vU q (fun R => ?_))
    replace R := Rep.cg e14 R
    refine mm_aload_n dX10_finish_49 rfl ?_
    refine rC_get (key := 11011) lk_X10_81_X10 lay_110 rfl rfl rfl dX10_finish_50 R ?_
    refine mm_iret rfl rfl dX10_finish_53 ?_
    exact en_cI H R
def f_X10_takeSitting_L10 (N : Nat) (x1 : Int32) (x2 : Int32) : Nat → Int32 → Int32 → CS → Option (Int32 × CS)
  | 0, _, _, _ => none
  | n + 1, x3, x4, C => if x1 ≤ x4 then (some (x3, C))
    else (if x3 = 0 then (some (x3, C))
      else (if (gI C 11006) ≤ (gI C 11007) then (some (x3, C))
        else (bnd (f_X10_takeLine N x2 C) fun q6 =>
        f_X10_takeSitting_L10 N x1 x2 n q6.1 (x4 + 1) q6.2)))
theorem t_X10_takeSitting_L10 {g : mm_G} {d : Nat} {Post : mm_Ou → mm_Hp → Prop} {D : CS} {N : Nat} {x1 : Int32} {x2 : Int32} {res : (Int32 × CS)} (hd : 6 ≤ d) (KE : ∀ (h1 : mm_Hp), Rep h1 res.2 D → mm_P g d MX10_takeSitting 43 [some (.ref 110), none, none, some (.int res.1), none] [] h1 Post) : ∀ (n : Nat) (x3 : Int32) (x4 : Int32) (C : CS) (h : mm_Hp) , Rep h C D → f_X10_takeSitting_L10 N x1 x2 n x3 x4 C = some res → mm_P g d MX10_takeSitting 10 [some (.ref 110), some (.int x1), some (.int x2), some (.int x3), some (.int x4)] [] h Post := by
  intro n
  induction n with
  | zero =>
    intro x3 x4 C h R H
    exact hN H
  | succ n ih =>
    intro x3 x4 C h R H
    unfold f_X10_takeSitting_L10 at H
    refine mm_iload dX10_takeSitting_10 rfl ?_
    refine mm_iload_n dX10_takeSitting_12 rfl ?_
    refine mm_icmp_ge 43 dX10_takeSitting_13 (by decide) (fun c3 => ?_) (fun c3 => ?_)
    · replace H := hT c3 H
      refine mm_fgt (ls' := [some (.ref 110), none, none, some (.int x3), none]) ⟨rfl, rfl, trivial⟩ ?_
      cases H
      exact KE _ R
    · replace H := hF c3 H
      refine mm_iload_n dX10_takeSitting_16 rfl ?_
      refine mm_if_eq 43 dX10_takeSitting_17 (by decide) (fun c4 => ?_) (fun c4 => ?_)
      · replace H := hT c4 H
        refine mm_fgt (ls' := [some (.ref 110), none, none, some (.int x3), none]) ⟨rfl, rfl, trivial⟩ ?_
        cases H
        exact KE _ R
      · replace H := hF c4 H
        refine mm_aload_n dX10_takeSitting_20 rfl ?_
        refine rC_get (key := 11007) lk_X10_39_X10 lay_110 rfl rfl rfl dX10_takeSitting_21 R ?_
        refine mm_aload_n dX10_takeSitting_24 rfl ?_
        refine rC_get (key := 11006) lk_X10_43_X10 lay_110 rfl rfl rfl dX10_takeSitting_25 R ?_
        refine mm_icmp_ge 43 dX10_takeSitting_28 (by decide) (fun c5 => ?_) (fun c5 => ?_)
        · replace H := hT c5 H
          refine mm_fgt (ls' := [some (.ref 110), none, none, some (.int x3), none]) ⟨rfl, rfl, trivial⟩ ?_
          cases H
          exact KE _ R
        · replace H := hF c5 H
          refine mm_aload_n dX10_takeSitting_31 rfl ?_
          refine mm_iload_n dX10_takeSitting_32 rfl ?_
          obtain ⟨q6, H7, H⟩ := hC H
          refine mm_callV (d' := d - 1) (as := [.int x2]) (st := []) (dS hd) cm_X10_takeLine (mm_t3 165 rfl rfl) (mm_t3 167 rfl rfl) (mm_s1 8 rfl rfl) (T := TX10) (N := 13) rfl dX10_takeSitting_33 (R.oC (r := 110) rfl lay_110) rfl (Nat.le_of_ble_eq_true rfl) (Nat.le_of_ble_eq_true rfl) rfl rfl (t_X10_takeLine (dL hd (by decide)) R H7) (fun o h q => th_cI q (fun R => ?_))
          refine mm_istore_n (ls' := [some (.ref 110), some (.int x1), some (.int x2), some (.int q6.1), some (.int x4)]) dX10_takeSitting_36 (Nat.le_of_ble_eq_true rfl) rfl ?_
          refine mm_iinc (v := (x4 + 1)) (ls' := [some (.ref 110), some (.int x1), some (.int x2), some (.int q6.1), some (.int (x4 + 1))]) dX10_takeSitting_37 rfl rfl rfl ?_
          refine mm_goto 10 dX10_takeSitting_40 (by decide) ?_
          exact ih _ _ _ _ R H
def f_X10_takeSitting (N : Nat) (x1 : Int32) (x2 : Int32) (C : CS) : Option (Int32 × CS) :=
  bnd (f_X10_begin x1 C) fun q1 =>
  bnd (f_X10_takeSitting_L10 N x1 x2 N 1 0 q1) fun q8 =>
    bnd (f_X10_finish q8.1 q8.2) fun q10 =>
    some (q10.1, q10.2)
theorem t_X10_takeSitting {g : mm_G} {d : Nat} {h : mm_Hp} {C D : CS} {N : Nat} {x1 : Int32} {x2 : Int32} {r : (Int32 × CS)} (hd : 6 ≤ d) (R : Rep h C D) (H : f_X10_takeSitting N x1 x2 C = some r) : mm_P g d MX10_takeSitting 0 [some (.ref 110), some (.int x1), some (.int x2), none, none] [] h (cI D r) := by
  unfold f_X10_takeSitting at H
  refine mm_aload_n dX10_takeSitting_0 rfl ?_
  refine mm_iload_n dX10_takeSitting_1 rfl ?_
  obtain ⟨q1, H2, H⟩ := hC H
  refine mm_callV (d' := d - 1) (as := [.int x1]) (st := []) (dS hd) cm_X10_begin (mm_t3 139 rfl rfl) (mm_t3 141 rfl rfl) (mm_s1 7 rfl rfl) (T := TX10) (N := 13) rfl dX10_takeSitting_2 (R.oC (r := 110) rfl lay_110) rfl (Nat.le_of_ble_eq_true rfl) (Nat.le_of_ble_eq_true rfl) rfl rfl (t_X10_begin (dL hd (by decide)) R H2) (fun o h q => th_cV q (fun R => ?_))
  refine mm_iconst (v := 1) dX10_takeSitting_5 (by decide +kernel) ?_
  refine mm_istore_n (ls' := [some (.ref 110), some (.int x1), some (.int x2), some (.int 1), none]) dX10_takeSitting_6 (Nat.le_of_ble_eq_true rfl) rfl ?_
  refine mm_iconst (v := 0) dX10_takeSitting_7 (by decide +kernel) ?_
  refine mm_istore (ls' := [some (.ref 110), some (.int x1), some (.int x2), some (.int 1), some (.int 0)]) dX10_takeSitting_8 (Nat.le_of_ble_eq_true rfl) rfl ?_
  obtain ⟨q8, H9, H⟩ := hC H
  refine t_X10_takeSitting_L10 hd (fun h R => ?_) N _ _ _ _ R H9
  refine mm_aload_n dX10_takeSitting_43 rfl ?_
  refine mm_iload_n dX10_takeSitting_44 rfl ?_
  obtain ⟨q10, H11, H⟩ := hC H
  refine mm_callV (d' := d - 1) (as := [.int q8.1]) (st := []) (dS hd) cm_X10_finish (mm_t4 141 rfl rfl) (mm_t4 143 rfl rfl) (mm_s2 10 rfl rfl) (T := TX10) (N := 13) rfl dX10_takeSitting_45 (R.oC (r := 110) rfl lay_110) rfl (Nat.le_of_ble_eq_true rfl) (Nat.le_of_ble_eq_true rfl) rfl rfl (t_X10_finish (dL hd (by decide)) R H11) (fun o h q => th_cI q (fun R => ?_))
  refine mm_iret rfl rfl dX10_takeSitting_48 ?_
  exact en_cI H R
def f_X11_endReading (x1 : Int32) (C : CS) : Option CS :=
  bd (sI C 6413 x1) fun C1 =>
  bd (sI C1 6501 0) fun C3 =>
  some C3
theorem t_X11_endReading {g : mm_G} {d : Nat} {h : mm_Hp} {C D : CS} {x1 : Int32} {r : CS} (hd : 1 ≤ d) (R : Rep h C D) (H : f_X11_endReading x1 C = some r) : mm_P g d MX11_endReading 0 [some (.ref 64), some (.int x1)] [] h (cV D r) := by
  unfold f_X11_endReading at H
  refine mm_aload_n dX11_endReading_0 rfl ?_
  refine mm_iload_n dX11_endReading_1 rfl ?_
  obtain ⟨C1, e2, H⟩ := hD H
  refine rC_put (key := 6413) lk_X11_88_X11 lay_64 rfl rfl rfl rfl rfl dX11_endReading_2 R e2 (fun h R => ?_)
  refine mm_aload_n dX11_endReading_5 rfl ?_
  refine rC_getR (t := 63) lk_X11_14_X11 lay_64 rfl rfl dX11_endReading_6 R ?_
  obtain ⟨C3, e4, H⟩ := hD H
  refine mm_callV (d' := d - 1) (as := []) (st := []) (dS hd) cm_X1_clear (mm_t3 131 rfl rfl) (mm_t3 132 rfl rfl) (mm_t3 133 rfl rfl) (T := TX1) (N := 4) rfl dX11_endReading_9 (R.oB (Or.inl rfl)).choose_spec rfl (Nat.le_of_ble_eq_true rfl) (Nat.le_of_ble_eq_true rfl) rfl rfl (tb_clear (Or.inl rfl) R) (fun o h q => th_cV q (fun R => ?_))
  replace R := Rep.cg e4 R
  refine mm_vret rfl dX11_endReading_12 ?_
  exact en_cV H R
def f_X11_sitting (N : Nat) (x1 : Int32) (C : CS) : Option ((String ⊕ Int32) × CS) :=
  bnx (f_X11_demandOnTape x1 C) fun vq1 q1 =>
    if (gI q1 6411) < 8 then (bnd (f_X10_takeSitting N x1 (gI q1 6411) q1) fun q4 =>
      bnd (f_X11_endReading (gI q4.2 11012) q4.2) fun q6 =>
      if q4.1 = 0 then (bd (sI q6 6411 ((gI q6 6411) + 1)) fun C9 =>
        some (.inr ((gI C9 6901) - (gI q1 6901)), C9))
        else (some (.inr ((-1) - q4.1), q6)))
      else (bnd (f_X11_endReading (-1) q1) fun q11 =>
      some (.inr (-9), q11))
theorem t_X11_sitting {g : mm_G} {d : Nat} {h : mm_Hp} {C D : CS} {N : Nat} {x1 : Int32} {r : ((String ⊕ Int32) × CS)} (hd : 7 ≤ d) (R : Rep h C D) (H : f_X11_sitting N x1 C = some r) : mm_P g d MX11_sitting 0 [some (.ref 64), some (.int x1), none, none] [] h (cXI D r) := by
  unfold f_X11_sitting at H
  refine mm_aload_n dX11_sitting_0 rfl ?_
  refine mm_iload_n dX11_sitting_1 rfl ?_
  rcases hX H with ⟨E1, q1, H2, H⟩ | ⟨vq1, q1, H2, H⟩
  · refine mm_callV (d' := d - 1) (as := [.int x1]) (st := []) (dS hd) cm_X11_demandOnTape (mm_t3 57 rfl rfl) (mm_t3 59 rfl rfl) (mm_s1 4 rfl rfl) (T := TX11) (N := 14) rfl dX11_sitting_2 (R.oC (r := 64) rfl lay_64) rfl (Nat.le_of_ble_eq_true rfl) (Nat.le_of_ble_eq_true rfl) rfl rfl (t_X11_demandOnTape (dL hd (by decide)) R H2) (fun o h q => th_eV rfl q (fun R => ?_))
    exact en_xI2 H R
  · refine mm_callV (d' := d - 1) (as := [.int x1]) (st := []) (dS hd) cm_X11_demandOnTape (mm_t3 57 rfl rfl) (mm_t3 59 rfl rfl) (mm_s1 4 rfl rfl) (T := TX11) (N := 14) rfl dX11_sitting_2 (R.oC (r := 64) rfl lay_64) rfl (Nat.le_of_ble_eq_true rfl) (Nat.le_of_ble_eq_true rfl) rfl rfl (t_X11_demandOnTape (dL hd (by decide)) R H2) (fun o h q => th_xV q (fun R => ?_))
    refine mm_aload_n dX11_sitting_5 rfl ?_
    refine rC_get (key := 6411) lk_X11_101_X11 lay_64 rfl rfl rfl dX11_sitting_6 R ?_
    refine mm_bipush (v := 8) dX11_sitting_9 (by decide +kernel) ?_
    refine mm_icmp_lt 22 dX11_sitting_11 (by decide) (fun c3 => ?_) (fun c3 => ?_)
    · replace H := hT c3 H
      refine mm_aload_n dX11_sitting_22 rfl ?_
      refine rC_getR (t := 67) lk_X11_24_X11 lay_64 rfl rfl dX11_sitting_23 R ?_
      refine rC_get (key := 6901) lk_X11_107_X4 lay_69 rfl rfl rfl dX11_sitting_26 R ?_
      refine mm_istore_n (ls' := [some (.ref 64), some (.int x1), some (.int (gI q1 6901)), none]) dX11_sitting_29 (Nat.le_of_ble_eq_true rfl) rfl ?_
      refine mm_aload_n dX11_sitting_30 rfl ?_
      refine rC_getR (t := 108) lk_X11_75_X11 lay_64 rfl rfl dX11_sitting_31 R ?_
      refine mm_iload_n dX11_sitting_34 rfl ?_
      refine mm_aload_n dX11_sitting_35 rfl ?_
      refine rC_get (key := 6411) lk_X11_101_X11 lay_64 rfl rfl rfl dX11_sitting_36 R ?_
      obtain ⟨q4, H5, H⟩ := hC H
      refine mm_callV (d' := d - 1) (as := [.int x1, .int (gI q1 6411)]) (st := []) (dS hd) cm_X10_takeSitting (mm_t3 135 rfl rfl) (mm_t3 136 rfl rfl) (mm_t3 137 rfl rfl) (T := TX10) (N := 13) rfl dX11_sitting_39 (R.oC (r := 110) rfl lay_110) rfl (Nat.le_of_ble_eq_true rfl) (Nat.le_of_ble_eq_true rfl) rfl rfl (t_X10_takeSitting (dL hd (by decide)) R H5) (fun o h q => th_cI q (fun R => ?_))
      refine mm_istore_n (ls' := [some (.ref 64), some (.int x1), some (.int (gI q1 6901)), some (.int q4.1)]) dX11_sitting_42 (Nat.le_of_ble_eq_true rfl) rfl ?_
      refine mm_aload_n dX11_sitting_43 rfl ?_
      refine mm_aload_n dX11_sitting_44 rfl ?_
      refine rC_getR (t := 108) lk_X11_75_X11 lay_64 rfl rfl dX11_sitting_45 R ?_
      refine rC_get (key := 11012) lk_X11_112_X10 lay_110 rfl rfl rfl dX11_sitting_48 R ?_
      obtain ⟨q6, H7, H⟩ := hC H
      refine mm_callV (d' := d - 1) (as := [.int (gI q4.2 11012)]) (st := []) (dS hd) cm_X11_endReading (mm_t3 127 rfl rfl) (mm_t3 129 rfl rfl) (mm_s1 6 rfl rfl) (T := TX11) (N := 14) rfl dX11_sitting_51 (R.oC (r := 64) rfl lay_64) rfl (Nat.le_of_ble_eq_true rfl) (Nat.le_of_ble_eq_true rfl) rfl rfl (t_X11_endReading (dL hd (by decide)) R H7) (fun o h q => th_cV q (fun R => ?_))
      refine mm_iload_n dX11_sitting_54 rfl ?_
      refine mm_if_eq 62 dX11_sitting_55 (by decide) (fun c8 => ?_) (fun c8 => ?_)
      · replace H := hT c8 H
        refine mm_aload_n dX11_sitting_62 rfl ?_
        refine mm_dup rfl dX11_sitting_63 ?_
        refine rC_get (key := 6411) lk_X11_101_X11 lay_64 rfl rfl rfl dX11_sitting_64 R ?_
        refine mm_iconst (v := 1) dX11_sitting_67 (by decide +kernel) ?_
        refine mm_iadd dX11_sitting_68 ?_
        obtain ⟨C9, e10, H⟩ := hD H
        refine rC_put (key := 6411) lk_X11_101_X11 lay_64 rfl rfl rfl rfl rfl dX11_sitting_69 R e10 (fun h R => ?_)
        refine mm_aload_n dX11_sitting_72 rfl ?_
        refine rC_getR (t := 67) lk_X11_24_X11 lay_64 rfl rfl dX11_sitting_73 R ?_
        refine rC_get (key := 6901) lk_X11_107_X4 lay_69 rfl rfl rfl dX11_sitting_76 R ?_
        refine mm_iload_n dX11_sitting_79 rfl ?_
        refine mm_isub dX11_sitting_80 ?_
        refine mm_iret rfl rfl dX11_sitting_81 ?_
        exact en_xI H R
      · replace H := hF c8 H
        refine mm_iconst (v := (-1)) dX11_sitting_58 (by decide +kernel) ?_
        refine mm_iload_n dX11_sitting_59 rfl ?_
        refine mm_isub dX11_sitting_60 ?_
        refine mm_iret rfl rfl dX11_sitting_61 ?_
        exact en_xI H R
    · replace H := hF c3 H
      refine mm_aload_n dX11_sitting_14 rfl ?_
      refine mm_iconst (v := (-1)) dX11_sitting_15 (by decide +kernel) ?_
      obtain ⟨q11, H12, H⟩ := hC H
      refine mm_callV (d' := d - 1) (as := [.int (-1)]) (st := []) (dS hd) cm_X11_endReading (mm_t3 127 rfl rfl) (mm_t3 129 rfl rfl) (mm_s1 6 rfl rfl) (T := TX11) (N := 14) rfl dX11_sitting_16 (R.oC (r := 64) rfl lay_64) rfl (Nat.le_of_ble_eq_true rfl) (Nat.le_of_ble_eq_true rfl) rfl rfl (t_X11_endReading (dL hd (by decide)) R H12) (fun o h q => th_cV q (fun R => ?_))
      refine mm_bipush (v := (-9)) dX11_sitting_19 (by decide +kernel) ?_
      refine mm_iret rfl rfl dX11_sitting_21 ?_
      exact en_xI H R
def f_X11_fault (C : CS) : Option Int32 :=
  some (gI C 6413)
theorem t_X11_fault {g : mm_G} {d : Nat} {h : mm_Hp} {C D : CS} {r : Int32} (hd : 0 ≤ d) (R : Rep h C D) (H : f_X11_fault C = some r) : mm_P g d MX11_fault 0 [some (.ref 64)] [] h (mm_pureI r h) := by
  unfold f_X11_fault at H
  refine mm_aload_n dX11_fault_0 rfl ?_
  refine rC_get (key := 6413) lk_X11_88_X11 lay_64 rfl rfl rfl dX11_fault_1 R ?_
  refine mm_iret rfl rfl dX11_fault_4 ?_
  exact en_pI H
def f_X11_demand (x0 : Int32) (C : CS) : Option ((String ⊕ Unit) × CS) :=
  if x0 = 0 then (some (.inl "java/util/NoSuchElementException", sE C))
    else (some (.inr (), C))
theorem t_X11_demand {g : mm_G} {d : Nat} {h : mm_Hp} {C D : CS} {x0 : Int32} {r : ((String ⊕ Unit) × CS)} (hd : 6 ≤ d) (R : Rep h C D) (H : f_X11_demand x0 C = some r) : mm_P g d MX11_demand 0 [some (.int x0)] [] h (cXV D r) := by
  unfold f_X11_demand at H
  refine mm_iload_n dX11_demand_0 rfl ?_
  refine mm_if_ne 15 dX11_demand_1 (by decide) (fun c1 => ?_) (fun c1 => ?_)
  · replace H := hF c1 H
    refine mm_vret rfl dX11_demand_15 ?_
    exact en_xV H R
  · replace H := hT c1 H
    refine rT_NSEw (text := "there is none") (no := 7) rfl (by decide) rfl rfl (Nat.le_trans (by decide) hd) (Nat.le_of_ble_eq_true rfl) dX11_demand_4 dX11_demand_7 dX11_demand_8 dX11_demand_11 dX11_demand_14 ?_
    exact en_xV H R.thr
def f_X8_addRight (N : Nat) (x1 : Int32) (x2 : Int32) (x4 : Int32) (x5 : Int32) (C : CS) : Option CS :=
  if inb x1 200 = true then (bnd (f_X8_add N x1 (gA C 79 (x1).toNatClampNeg) x2 x4 x5 C) fun q2 =>
  some q2) else none
theorem t_X8_addRight {g : mm_G} {d : Nat} {h : mm_Hp} {C D : CS} {N : Nat} {x1 : Int32} {x2 : Int32} {x4 : Int32} {x5 : Int32} {r : CS} (hd : 4 ≤ d) (R : Rep h C D) (H : f_X8_addRight N x1 x2 x4 x5 C = some r) : mm_P g d MX8_addRight 0 [some (.ref 76), some (.int x1), some (.int x2), some (.ref 65), some (.int x4), some (.int x5)] [] h (cV D r) := by
  unfold f_X8_addRight at H
  refine mm_aload_n dX8_addRight_0 rfl ?_
  refine mm_iload_n dX8_addRight_1 rfl ?_
  refine mm_aload_n dX8_addRight_2 rfl ?_
  refine rC_getR (t := 77) lk_X8_18_X8 lay_76 rfl rfl dX8_addRight_3 R ?_
  refine mm_iload_n dX8_addRight_6 rfl ?_
  obtain ⟨b1, H⟩ := hB H
  refine rC_iald lay_79 rfl dX8_addRight_7 R b1 ?_
  refine mm_iload_n dX8_addRight_8 rfl ?_
  refine mm_aload_n dX8_addRight_9 rfl ?_
  refine mm_iload dX8_addRight_10 rfl ?_
  refine mm_iload dX8_addRight_12 rfl ?_
  obtain ⟨q2, H3, H⟩ := hC H
  refine mm_callV (d' := d - 1) (as := [.int x1, .int (gA C 79 (x1).toNatClampNeg), .int x2, .ref 65, .int x4, .int x5]) (st := []) (dS hd) cm_X8_add (mm_t4 135 rfl rfl) (mm_t4 137 rfl rfl) (mm_s2 9 rfl rfl) (T := TX8) (N := 9) rfl dX8_addRight_14 (R.oC (r := 76) rfl lay_76) rfl (Nat.le_of_ble_eq_true rfl) (Nat.le_of_ble_eq_true rfl) rfl rfl (t_X8_add (dL hd (by decide)) R H3) (fun o h q => th_cV q (fun R => ?_))
  refine mm_vret rfl dX8_addRight_17 ?_
  exact en_cV H R
def f_X10_takeRight_J46 (N : Nat) (x2 : Int32) (x3 : Int32) (C : CS) : Option (Int32 × CS) :=
  bnd (f_X10_finish 0 C) fun q8 =>
  some (q8.1, q8.2)
theorem t_X10_takeRight_J46 {g : mm_G} {d : Nat} {h : mm_Hp} {C D : CS} {N : Nat} {x2 : Int32} {x3 : Int32} {r : (Int32 × CS)} (hd : 5 ≤ d) (R : Rep h C D) (H : f_X10_takeRight_J46 N x2 x3 C = some r) : mm_P g d MX10_takeRight 46 [some (.ref 110), none, some (.int x2), some (.int x3), none] [] h (cI D r) := by
  unfold f_X10_takeRight_J46 at H
  refine mm_iconst (v := 0) dX10_takeRight_46 (by decide +kernel) ?_
  refine mm_istore (ls' := [some (.ref 110), none, some (.int x2), some (.int x3), some (.int 0)]) dX10_takeRight_47 (Nat.le_of_ble_eq_true rfl) rfl ?_
  refine mm_iload dX10_takeRight_49 rfl ?_
  refine mm_if_eq 72 dX10_takeRight_51 (by decide) (fun _ => ?_) (fun c => absurd (by decide) c)
  refine mm_aload_n dX10_takeRight_72 rfl ?_
  refine mm_iload dX10_takeRight_73 rfl ?_
  obtain ⟨q8, H9, H⟩ := hC H
  refine mm_callV (d' := d - 1) (as := [.int 0]) (st := []) (dS hd) cm_X10_finish (mm_t4 141 rfl rfl) (mm_t4 143 rfl rfl) (mm_s2 10 rfl rfl) (T := TX10) (N := 13) rfl dX10_takeRight_75 (R.oC (r := 110) rfl lay_110) rfl (Nat.le_of_ble_eq_true rfl) (Nat.le_of_ble_eq_true rfl) rfl rfl (t_X10_finish (dL hd (by decide)) R H9) (fun o h q => th_cI q (fun R => ?_))
  refine mm_iret rfl rfl dX10_takeRight_78 ?_
  exact en_cI H R
def f_X10_takeRight_J42 (N : Nat) (x2 : Int32) (x3 : Int32) (C : CS) : Option (Int32 × CS) :=
  bnd (f_X8_addRight N x2 x3 0 (gI C 11006) C) fun q11 =>
  bnd (f_X10_finish 1 q11) fun q13 =>
  some (q13.1, q13.2)
theorem t_X10_takeRight_J42 {g : mm_G} {d : Nat} {h : mm_Hp} {C D : CS} {N : Nat} {x2 : Int32} {x3 : Int32} {r : (Int32 × CS)} (hd : 5 ≤ d) (R : Rep h C D) (H : f_X10_takeRight_J42 N x2 x3 C = some r) : mm_P g d MX10_takeRight 42 [some (.ref 110), none, some (.int x2), some (.int x3), none] [] h (cI D r) := by
  unfold f_X10_takeRight_J42 at H
  refine mm_iconst (v := 1) dX10_takeRight_42 (by decide +kernel) ?_
  refine mm_goto 47 dX10_takeRight_43 (by decide) ?_
  refine mm_istore (ls' := [some (.ref 110), none, some (.int x2), some (.int x3), some (.int 1)]) dX10_takeRight_47 (Nat.le_of_ble_eq_true rfl) rfl ?_
  refine mm_iload dX10_takeRight_49 rfl ?_
  refine mm_if_eq 72 dX10_takeRight_51 (by decide) (fun c => absurd c (by decide)) (fun _ => ?_)
  refine mm_aload_n dX10_takeRight_54 rfl ?_
  refine rC_getR (t := 74) lk_X10_19_X10 lay_110 rfl rfl dX10_takeRight_55 R ?_
  refine mm_iload_n dX10_takeRight_58 rfl ?_
  refine mm_iload_n dX10_takeRight_59 rfl ?_
  refine mm_aload_n dX10_takeRight_60 rfl ?_
  refine rC_getR (t := 63) lk_X10_9_X10 lay_110 rfl rfl dX10_takeRight_61 R ?_
  refine mm_iconst (v := 0) dX10_takeRight_64 (by decide +kernel) ?_
  refine mm_aload_n dX10_takeRight_65 rfl ?_
  refine rC_get (key := 11006) lk_X10_43_X10 lay_110 rfl rfl rfl dX10_takeRight_66 R ?_
  obtain ⟨q11, H12, H⟩ := hC H
  refine mm_callV (d' := d - 1) (as := [.int x2, .int x3, .ref 65, .int 0, .int (gI C 11006)]) (st := []) (dS hd) cm_X8_addRight (mm_t4 198 rfl rfl) (mm_t4 199 rfl rfl) (mm_t4 200 rfl rfl) (T := TX8) (N := 9) rfl dX10_takeRight_69 (R.oC (r := 76) rfl lay_76) rfl (Nat.le_of_ble_eq_true rfl) (Nat.le_of_ble_eq_true rfl) rfl rfl (t_X8_addRight (dL hd (by decide)) R H12) (fun o h q => th_cV q (fun R => ?_))
  refine mm_aload_n dX10_takeRight_72 rfl ?_
  refine mm_iload dX10_takeRight_73 rfl ?_
  obtain ⟨q13, H14, H⟩ := hC H
  refine mm_callV (d' := d - 1) (as := [.int 1]) (st := []) (dS hd) cm_X10_finish (mm_t4 141 rfl rfl) (mm_t4 143 rfl rfl) (mm_s2 10 rfl rfl) (T := TX10) (N := 13) rfl dX10_takeRight_75 (R.oC (r := 110) rfl lay_110) rfl (Nat.le_of_ble_eq_true rfl) (Nat.le_of_ble_eq_true rfl) rfl rfl (t_X10_finish (dL hd (by decide)) R H14) (fun o h q => th_cI q (fun R => ?_))
  refine mm_iret rfl rfl dX10_takeRight_78 ?_
  exact en_cI H R
def f_X10_takeRight (N : Nat) (x1 : Int32) (x2 : Int32) (x3 : Int32) (C : CS) : Option (Int32 × CS) :=
  bnd (f_X10_begin x1 C) fun q1 =>
  bd (sI q1 11008 (-2)) fun C3 =>
  bnd (f_X10_takeRest N x2 C3) fun q5 =>
  if q5.1 = 0 then (f_X10_takeRight_J46 N x2 x3 q5.2)
    else (if (gI q5.2 11006) ≤ (gI q5.2 11007) then (f_X10_takeRight_J42 N x2 x3 q5.2)
      else (bnd (f_X10_refuse 1 (gI q5.2 11007) q5.2) fun q15 =>
      if q15.1 = 0 then (f_X10_takeRight_J46 N x2 x3 q15.2)
        else (f_X10_takeRight_J42 N x2 x3 q15.2)))
theorem t_X10_takeRight {g : mm_G} {d : Nat} {h : mm_Hp} {C D : CS} {N : Nat} {x1 : Int32} {x2 : Int32} {x3 : Int32} {r : (Int32 × CS)} (hd : 5 ≤ d) (R : Rep h C D) (H : f_X10_takeRight N x1 x2 x3 C = some r) : mm_P g d MX10_takeRight 0 [some (.ref 110), some (.int x1), some (.int x2), some (.int x3), none] [] h (cI D r) := by
  unfold f_X10_takeRight at H
  refine mm_aload_n dX10_takeRight_0 rfl ?_
  refine mm_iload_n dX10_takeRight_1 rfl ?_
  obtain ⟨q1, H2, H⟩ := hC H
  refine mm_callV (d' := d - 1) (as := [.int x1]) (st := []) (dS hd) cm_X10_begin (mm_t3 139 rfl rfl) (mm_t3 141 rfl rfl) (mm_s1 7 rfl rfl) (T := TX10) (N := 13) rfl dX10_takeRight_2 (R.oC (r := 110) rfl lay_110) rfl (Nat.le_of_ble_eq_true rfl) (Nat.le_of_ble_eq_true rfl) rfl rfl (t_X10_begin (dL hd (by decide)) R H2) (fun o h q => th_cV q (fun R => ?_))
  refine mm_aload_n dX10_takeRight_5 rfl ?_
  refine mm_bipush (v := (-2)) dX10_takeRight_6 (by decide +kernel) ?_
  obtain ⟨C3, e4, H⟩ := hD H
  refine rC_put (key := 11008) lk_X10_54_X10 lay_110 rfl rfl rfl rfl rfl dX10_takeRight_8 R e4 (fun h R => ?_)
  refine mm_aload_n dX10_takeRight_11 rfl ?_
  refine mm_iload_n dX10_takeRight_12 rfl ?_
  obtain ⟨q5, H6, H⟩ := hC H
  refine mm_callV (d' := d - 1) (as := [.int x2]) (st := []) (dS hd) cm_X10_takeRest (mm_t4 94 rfl rfl) (mm_t4 96 rfl rfl) (mm_s2 5 rfl rfl) (T := TX10) (N := 13) rfl dX10_takeRight_13 (R.oC (r := 110) rfl lay_110) rfl (Nat.le_of_ble_eq_true rfl) (Nat.le_of_ble_eq_true rfl) rfl rfl (t_X10_takeRest (dL hd (by decide)) R H6) (fun o h q => th_cI q (fun R => ?_))
  refine mm_if_eq 46 dX10_takeRight_16 (by decide) (fun c7 => ?_) (fun c7 => ?_)
  · replace H := hT c7 H
    refine mm_fgt (ls' := [some (.ref 110), none, some (.int x2), some (.int x3), none]) ⟨rfl, rfl, rfl, trivial⟩ ?_
    exact t_X10_takeRight_J46 hd R H
  · replace H := hF c7 H
    refine mm_aload_n dX10_takeRight_19 rfl ?_
    refine rC_get (key := 11007) lk_X10_39_X10 lay_110 rfl rfl rfl dX10_takeRight_20 R ?_
    refine mm_aload_n dX10_takeRight_23 rfl ?_
    refine rC_get (key := 11006) lk_X10_43_X10 lay_110 rfl rfl rfl dX10_takeRight_24 R ?_
    refine mm_icmp_ge 42 dX10_takeRight_27 (by decide) (fun c10 => ?_) (fun c10 => ?_)
    · replace H := hT c10 H
      refine mm_fgt (ls' := [some (.ref 110), none, some (.int x2), some (.int x3), none]) ⟨rfl, rfl, rfl, trivial⟩ ?_
      exact t_X10_takeRight_J42 hd R H
    · replace H := hF c10 H
      refine mm_aload_n dX10_takeRight_30 rfl ?_
      refine mm_iconst (v := 1) dX10_takeRight_31 (by decide +kernel) ?_
      refine mm_aload_n dX10_takeRight_32 rfl ?_
      refine rC_get (key := 11007) lk_X10_39_X10 lay_110 rfl rfl rfl dX10_takeRight_33 R ?_
      obtain ⟨q15, H16, H⟩ := hC H
      refine mm_callV (d' := d - 1) (as := [.int 1, .int (gI q5.2 11007)]) (st := []) (dS hd) cm_X10_refuse (mm_t4 27 rfl rfl) (mm_t4 29 rfl rfl) (mm_s1 11 rfl rfl) (T := TX10) (N := 13) rfl dX10_takeRight_36 (R.oC (r := 110) rfl lay_110) rfl (Nat.le_of_ble_eq_true rfl) (Nat.le_of_ble_eq_true rfl) rfl rfl (t_X10_refuse (dL hd (by decide)) R H16) (fun o h q => th_cI q (fun R => ?_))
      refine mm_if_eq 46 dX10_takeRight_39 (by decide) (fun c17 => ?_) (fun c17 => ?_)
      · replace H := hT c17 H
        refine mm_fgt (ls' := [some (.ref 110), none, some (.int x2), some (.int x3), none]) ⟨rfl, rfl, rfl, trivial⟩ ?_
        exact t_X10_takeRight_J46 hd R H
      · replace H := hF c17 H
        refine mm_fgt (ls' := [some (.ref 110), none, some (.int x2), some (.int x3), none]) ⟨rfl, rfl, rfl, trivial⟩ ?_
        exact t_X10_takeRight_J42 hd R H
