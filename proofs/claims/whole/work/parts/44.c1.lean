def f_X10_isOfName_J12 (x0 : Int32) (C : CS) : Option Int32 :=
  if x0 < 48 then (some 0)
    else (if 57 < x0 then (some 0)
      else (some 1))
theorem t_X10_isOfName_J12 {g : mm_G} {d : Nat} {h : mm_Hp} {C D : CS} {x0 : Int32} {r : Int32} (hd : 0 ≤ d) (R : Rep h C D) (H : f_X10_isOfName_J12 x0 C = some r) : mm_P g d MX10_isOfName 12 [some (.int x0)] [] h (mm_pureI r h) := by
  unfold f_X10_isOfName_J12 at H
  refine mm_iload_n dX10_isOfName_12 rfl ?_
  refine mm_bipush (v := 48) dX10_isOfName_13 (by decide +kernel) ?_
  refine mm_icmp_lt 28 dX10_isOfName_15 (by decide) (fun c2 => ?_) (fun c2 => ?_)
  · replace H := hT c2 H
    refine mm_iconst (v := 0) dX10_isOfName_28 (by decide +kernel) ?_
    refine mm_iret rfl rfl dX10_isOfName_29 ?_
    exact en_pI H
  · replace H := hF c2 H
    refine mm_iload_n dX10_isOfName_18 rfl ?_
    refine mm_bipush (v := 57) dX10_isOfName_19 (by decide +kernel) ?_
    refine mm_icmp_gt 28 dX10_isOfName_21 (by decide) (fun c3 => ?_) (fun c3 => ?_)
    · replace H := hT c3 H
      refine mm_iconst (v := 0) dX10_isOfName_28 (by decide +kernel) ?_
      refine mm_iret rfl rfl dX10_isOfName_29 ?_
      exact en_pI H
    · replace H := hF c3 H
      refine mm_iconst (v := 1) dX10_isOfName_24 (by decide +kernel) ?_
      refine mm_goto 29 dX10_isOfName_25 (by decide) ?_
      refine mm_iret rfl rfl dX10_isOfName_29 ?_
      exact en_pI H
def f_X10_isOfName (x0 : Int32) (C : CS) : Option Int32 :=
  if x0 < 65 then (f_X10_isOfName_J12 x0 C)
    else (if x0 ≤ 90 then (some 1)
      else (f_X10_isOfName_J12 x0 C))
theorem t_X10_isOfName {g : mm_G} {d : Nat} {h : mm_Hp} {C D : CS} {x0 : Int32} {r : Int32} (hd : 0 ≤ d) (R : Rep h C D) (H : f_X10_isOfName x0 C = some r) : mm_P g d MX10_isOfName 0 [some (.int x0)] [] h (mm_pureI r h) := by
  unfold f_X10_isOfName at H
  refine mm_iload_n dX10_isOfName_0 rfl ?_
  refine mm_bipush (v := 65) dX10_isOfName_1 (by decide +kernel) ?_
  refine mm_icmp_lt 12 dX10_isOfName_3 (by decide) (fun c1 => ?_) (fun c1 => ?_)
  · replace H := hT c1 H
    exact t_X10_isOfName_J12 hd R H
  · replace H := hF c1 H
    refine mm_iload_n dX10_isOfName_6 rfl ?_
    refine mm_bipush (v := 90) dX10_isOfName_7 (by decide +kernel) ?_
    refine mm_icmp_le 24 dX10_isOfName_9 (by decide) (fun c4 => ?_) (fun c4 => ?_)
    · replace H := hT c4 H
      refine mm_iconst (v := 1) dX10_isOfName_24 (by decide +kernel) ?_
      refine mm_goto 29 dX10_isOfName_25 (by decide) ?_
      refine mm_iret rfl rfl dX10_isOfName_29 ?_
      exact en_pI H
    · replace H := hF c4 H
      exact t_X10_isOfName_J12 hd R H
def f_X10_takeName_L7 (N : Nat) : Nat → Int32 → CS → Option ((Int32 × CS) ⊕ (CS))
  | 0, _, _ => none
  | n + 1, x1, C => if 6 < x1 then (some (.inr C))
    else (bnd (f_X10_sign C) fun q4 =>
    bnd (f_X10_isOfName q4 C) fun q6 =>
    if q6 = 0 then (if 0 < x1 then (some (.inl (1, C)))
        else (bnd (f_X10_refuse 1 (gI C 11007) C) fun q19 =>
        if q19.1 = 0 then (some (.inl (0, q19.2)))
          else (some (.inl (1, q19.2)))))
      else (if x1 = 6 then (bnd (f_X10_refuse 2 (gI C 11007) C) fun q15 =>
        if q15.1 &&& 1 = q15.1 then some (.inl (q15.1, q15.2)) else none)
        else (bnd (f_X10_step C) fun q10 =>
        if q10.1 = 0 then (some (.inl (0, q10.2)))
          else (bd (sJ q10.2 11010 (((gJ q10.2 11010) <<< (Int32.toInt64 8 &&& 63)) ||| (Int32.toInt64 q4))) fun C13 =>
          f_X10_takeName_L7 N n (x1 + 1) C13))))
theorem t_X10_takeName_L7 {g : mm_G} {d : Nat} {Post : mm_Ou → mm_Hp → Prop} {D : CS} {N : Nat} {res : ((Int32 × CS) ⊕ (CS))} (hd : 2 ≤ d) (KR : ∀ (q : (Int32 × CS)) (h1 : mm_Hp), res = .inl q → Rep h1 q.2 D → Post (.inl (some (.int q.1))) h1) (KE : ∀ (q : CS) (h1 : mm_Hp), res = .inr q → Rep h1 q D → mm_P g d MX10_takeName 92 [none, none, none] [] h1 Post) : ∀ (n : Nat) (x1 : Int32) (C : CS) (h : mm_Hp) , Rep h C D → f_X10_takeName_L7 N n x1 C = some res → mm_P g d MX10_takeName 7 [some (.ref 110), some (.int x1), none] [] h Post := by
  intro n
  induction n with
  | zero =>
    intro x1 C h R H
    exact hN H
  | succ n ih =>
    intro x1 C h R H
    unfold f_X10_takeName_L7 at H
    refine mm_iload_n dX10_takeName_7 rfl ?_
    refine mm_bipush (v := 6) dX10_takeName_8 (by decide +kernel) ?_
    refine mm_icmp_gt 92 dX10_takeName_10 (by decide) (fun c3 => ?_) (fun c3 => ?_)
    · replace H := hT c3 H
      refine mm_fgt (ls' := [none, none, none]) trivial ?_
      exact KE _ _ (Option.some.inj H).symm R
    · replace H := hF c3 H
      refine mm_aload_n dX10_takeName_13 rfl ?_
      obtain ⟨q4, H5, H⟩ := hC H
      refine mm_callV (d' := d - 1) (as := []) (st := []) (dS hd) cm_X10_sign (mm_t3 170 rfl rfl) (mm_t3 172 rfl rfl) (mm_s1 9 rfl rfl) (T := TX10) (N := 13) rfl dX10_takeName_14 (R.oC (r := 110) rfl lay_110) rfl (Nat.le_of_ble_eq_true rfl) (Nat.le_of_ble_eq_true rfl) rfl rfl (t_X10_sign (dL hd (by decide)) R H5) (fun o u q => mm_thenI q ?_)
      refine mm_istore_n (ls' := [some (.ref 110), some (.int x1), some (.int q4)]) dX10_takeName_17 (Nat.le_of_ble_eq_true rfl) rfl ?_
      refine mm_iload_n dX10_takeName_18 rfl ?_
      obtain ⟨q6, H7, H⟩ := hC H
      refine mm_callS (d' := d - 1) (as := [.int q4]) (st := []) (dS hd) cm_X10_isOfName (mm_t4 70 rfl rfl) (mm_t4 71 rfl rfl) dX10_takeName_19 rfl (Nat.le_of_ble_eq_true rfl) (Nat.le_of_ble_eq_true rfl) rfl rfl (t_X10_isOfName (dL hd (by decide)) R H7) (fun o u q => mm_thenI q ?_)
      refine mm_if_ne 47 dX10_takeName_22 (by decide) (fun c8 => ?_) (fun c8 => ?_)
      · replace H := hF c8 H
        refine mm_iload_n dX10_takeName_47 rfl ?_
        refine mm_bipush (v := 6) dX10_takeName_48 (by decide +kernel) ?_
        refine mm_icmp_ne 63 dX10_takeName_50 (by decide) (fun c9 => ?_) (fun c9 => ?_)
        · replace H := hF c9 H
          refine mm_aload_n dX10_takeName_63 rfl ?_
          obtain ⟨q10, H11, H⟩ := hC H
          refine mm_callV (d' := d - 1) (as := []) (st := []) (dS hd) cm_X10_step (mm_t4 42 rfl rfl) (mm_t4 44 rfl rfl) (mm_s1 13 rfl rfl) (T := TX10) (N := 13) rfl dX10_takeName_64 (R.oC (r := 110) rfl lay_110) rfl (Nat.le_of_ble_eq_true rfl) (Nat.le_of_ble_eq_true rfl) rfl rfl (t_X10_step (dL hd (by decide)) R H11) (fun o h q => th_cI q (fun R => ?_))
          refine mm_if_ne 72 dX10_takeName_67 (by decide) (fun c12 => ?_) (fun c12 => ?_)
          · replace H := hF c12 H
            refine mm_aload_n dX10_takeName_72 rfl ?_
            refine mm_aload_n dX10_takeName_73 rfl ?_
            refine rC_getJ (key := 11010) lk_X10_188_X10 lay_110 rfl rfl rfl dX10_takeName_74 R ?_
            refine mm_bipush (v := 8) dX10_takeName_77 (by decide +kernel) ?_
            refine mm_lshl dX10_takeName_79 ?_
            refine mm_iload_n dX10_takeName_80 rfl ?_
            refine mm_i2l dX10_takeName_81 ?_
            refine mm_lor dX10_takeName_82 ?_
            obtain ⟨C13, e14, H⟩ := hD H
            refine rC_putJ (key := 11010) lk_X10_188_X10 lay_110 rfl rfl rfl rfl rfl dX10_takeName_83 R e14 (fun h R => ?_)
            refine mm_iinc (v := (x1 + 1)) (ls' := [some (.ref 110), some (.int (x1 + 1)), some (.int q4)]) dX10_takeName_86 rfl rfl rfl ?_
            refine mm_goto 7 dX10_takeName_89 (by decide) ?_
            refine mm_fgt (ls' := [some (.ref 110), some (.int (x1 + 1)), none]) ⟨rfl, rfl, trivial⟩ ?_
            exact ih _ _ _ R H
          · replace H := hT c12 H
            refine mm_iconst (v := 0) dX10_takeName_70 (by decide +kernel) ?_
            refine mm_iret rfl rfl dX10_takeName_71 ?_
            exact KR _ _ (Option.some.inj H).symm R
        · replace H := hT c9 H
          refine mm_aload_n dX10_takeName_53 rfl ?_
          refine mm_iconst (v := 2) dX10_takeName_54 (by decide +kernel) ?_
          refine mm_aload_n dX10_takeName_55 rfl ?_
          refine rC_get (key := 11007) lk_X10_39_X10 lay_110 rfl rfl rfl dX10_takeName_56 R ?_
          obtain ⟨q15, H16, H⟩ := hC H
          refine mm_callV (d' := d - 1) (as := [.int 2, .int (gI C 11007)]) (st := []) (dS hd) cm_X10_refuse (mm_t4 27 rfl rfl) (mm_t4 29 rfl rfl) (mm_s1 11 rfl rfl) (T := TX10) (N := 13) rfl dX10_takeName_59 (R.oC (r := 110) rfl lay_110) rfl (Nat.le_of_ble_eq_true rfl) (Nat.le_of_ble_eq_true rfl) rfl rfl (t_X10_refuse (dL hd (by decide)) R H16) (fun o h q => th_cI q (fun R => ?_))
          obtain ⟨b17, H⟩ := hB H
          refine mm_iret rfl (congrArg Value.int b17) dX10_takeName_62 ?_
          exact KR _ _ (Option.some.inj H).symm R
      · replace H := hT c8 H
        refine mm_iload_n dX10_takeName_25 rfl ?_
        refine mm_if_gt 41 dX10_takeName_26 (by decide) (fun c18 => ?_) (fun c18 => ?_)
        · replace H := hT c18 H
          refine mm_iconst (v := 1) dX10_takeName_41 (by decide +kernel) ?_
          refine mm_goto 46 dX10_takeName_42 (by decide) ?_
          refine mm_iret rfl rfl dX10_takeName_46 ?_
          exact KR _ _ (Option.some.inj H).symm R
        · replace H := hF c18 H
          refine mm_aload_n dX10_takeName_29 rfl ?_
          refine mm_iconst (v := 1) dX10_takeName_30 (by decide +kernel) ?_
          refine mm_aload_n dX10_takeName_31 rfl ?_
          refine rC_get (key := 11007) lk_X10_39_X10 lay_110 rfl rfl rfl dX10_takeName_32 R ?_
          obtain ⟨q19, H20, H⟩ := hC H
          refine mm_callV (d' := d - 1) (as := [.int 1, .int (gI C 11007)]) (st := []) (dS hd) cm_X10_refuse (mm_t4 27 rfl rfl) (mm_t4 29 rfl rfl) (mm_s1 11 rfl rfl) (T := TX10) (N := 13) rfl dX10_takeName_35 (R.oC (r := 110) rfl lay_110) rfl (Nat.le_of_ble_eq_true rfl) (Nat.le_of_ble_eq_true rfl) rfl rfl (t_X10_refuse (dL hd (by decide)) R H20) (fun o h q => th_cI q (fun R => ?_))
          refine mm_if_eq 45 dX10_takeName_38 (by decide) (fun c21 => ?_) (fun c21 => ?_)
          · replace H := hT c21 H
            refine mm_iconst (v := 0) dX10_takeName_45 (by decide +kernel) ?_
            refine mm_iret rfl rfl dX10_takeName_46 ?_
            exact KR _ _ (Option.some.inj H).symm R
          · replace H := hF c21 H
            refine mm_iconst (v := 1) dX10_takeName_41 (by decide +kernel) ?_
            refine mm_goto 46 dX10_takeName_42 (by decide) ?_
            refine mm_iret rfl rfl dX10_takeName_46 ?_
            exact KR _ _ (Option.some.inj H).symm R
def f_X10_takeName (N : Nat) (C : CS) : Option (Int32 × CS) :=
  bd (sJ C 11010 0) fun C1 =>
  bns (f_X10_takeName_L7 N N 0 C1) (fun q22 => some q22) fun q22 =>
    some (0, q22)
theorem t_X10_takeName {g : mm_G} {d : Nat} {h : mm_Hp} {C D : CS} {N : Nat} {r : (Int32 × CS)} (hd : 2 ≤ d) (R : Rep h C D) (H : f_X10_takeName N C = some r) : mm_P g d MX10_takeName 0 [some (.ref 110), none, none] [] h (cI D r) := by
  unfold f_X10_takeName at H
  refine mm_aload_n dX10_takeName_0 rfl ?_
  refine mm_lconst (v := 0) dX10_takeName_1 (by decide +kernel) ?_
  obtain ⟨C1, e2, H⟩ := hD H
  refine rC_putJ (key := 11010) lk_X10_188_X10 lay_110 rfl rfl rfl rfl rfl dX10_takeName_2 R e2 (fun h R => ?_)
  refine mm_iconst (v := 0) dX10_takeName_5 (by decide +kernel) ?_
  refine mm_istore_n (ls' := [some (.ref 110), some (.int 0), none]) dX10_takeName_6 (Nat.le_of_ble_eq_true rfl) rfl ?_
  rcases hS H with ⟨q22, H23, H⟩ | ⟨q22, H23, H⟩
  · refine t_X10_takeName_L7 hd (fun q h e R => ?_) (fun q h e R => by cases e) N _ _ _ R H23
    cases e
    exact en_cI H R
  · refine t_X10_takeName_L7 hd (fun q h e R => by cases e) (fun q h e R => ?_) N _ _ _ R H23
    cases e
    refine mm_iconst (v := 0) dX10_takeName_92 (by decide +kernel) ?_
    refine mm_iret rfl rfl dX10_takeName_93 ?_
    exact en_cI H R
def f_X6_holder_L6 (N : Nat) (x1 : Int64) (x3 : Int32) (C : CS) : Nat → Int32 → Int32 → Option (Int32)
  | 0, _, _ => none
  | n + 1, x4, x5 => if (gI C 9401) ≤ x5 then (some x4)
    else (if inb x5 200 = true then (if x3 < (gA C 95 (x5).toNatClampNeg) then (some x4)
      else (if inb x5 200 = true then (if (lg_cmp (gB C 97 (x5).toNatClampNeg) x1) = 0 then (if inb x5 200 = true then (f_X6_holder_L6 N x1 x3 C n (gA C 96 (x5).toNatClampNeg) (x5 + 1)) else none)
        else (if inb x5 200 = true then (if (gA C 96 (x5).toNatClampNeg) = x4 then (f_X6_holder_L6 N x1 x3 C n (-1) (x5 + 1))
          else (f_X6_holder_L6 N x1 x3 C n x4 (x5 + 1))) else none)) else none)) else none)
theorem t_X6_holder_L6 {g : mm_G} {d : Nat} {Post : mm_Ou → mm_Hp → Prop} {h : mm_Hp} {C D : CS} {N : Nat} {x1 : Int64} {x3 : Int32} {res : (Int32)} (hd : 0 ≤ d) (R : Rep h C D) (KE : mm_P g d MX6_holder 71 [none, none, none, none, some (.int res), none] [] h Post) : ∀ (n : Nat) (x4 : Int32) (x5 : Int32) , f_X6_holder_L6 N x1 x3 C n x4 x5 = some res → mm_P g d MX6_holder 6 [some (.ref 94), some (.long x1), none, some (.int x3), some (.int x4), some (.int x5)] [] h Post := by
  intro n
  induction n with
  | zero =>
    intro x4 x5 H
    exact hN H
  | succ n ih =>
    intro x4 x5 H
    unfold f_X6_holder_L6 at H
    refine mm_iload dX6_holder_6 rfl ?_
    refine mm_aload_n dX6_holder_8 rfl ?_
    refine rC_get (key := 9401) lk_X6_22_X6 lay_94 rfl rfl rfl dX6_holder_9 R ?_
    refine mm_icmp_ge 71 dX6_holder_12 (by decide) (fun c1 => ?_) (fun c1 => ?_)
    · replace H := hT c1 H
      refine mm_fgt (ls' := [none, none, none, none, some (.int x4), none]) ⟨rfl, trivial⟩ ?_
      cases H
      exact KE
    · replace H := hF c1 H
      refine mm_aload_n dX6_holder_15 rfl ?_
      refine rC_getR (t := 93) lk_X6_9_X6 lay_94 rfl rfl dX6_holder_16 R ?_
      refine mm_iload dX6_holder_19 rfl ?_
      obtain ⟨b2, H⟩ := hB H
      refine rC_iald lay_95 rfl dX6_holder_21 R b2 ?_
      refine mm_iload_n dX6_holder_22 rfl ?_
      refine mm_icmp_gt 71 dX6_holder_23 (by decide) (fun c3 => ?_) (fun c3 => ?_)
      · replace H := hT c3 H
        refine mm_fgt (ls' := [none, none, none, none, some (.int x4), none]) ⟨rfl, trivial⟩ ?_
        cases H
        exact KE
      · replace H := hF c3 H
        refine mm_aload_n dX6_holder_26 rfl ?_
        refine rC_getR (t := 95) lk_X6_18_X6 lay_94 rfl rfl dX6_holder_27 R ?_
        refine mm_iload dX6_holder_30 rfl ?_
        obtain ⟨b4, H⟩ := hB H
        refine rC_lald lay_97 rfl dX6_holder_32 R b4 ?_
        refine mm_lload_n dX6_holder_33 rfl ?_
        refine mm_lcmp dX6_holder_34 ?_
        refine mm_if_ne 50 dX6_holder_35 (by decide) (fun c5 => ?_) (fun c5 => ?_)
        · replace H := hF c5 H
          refine mm_aload_n dX6_holder_50 rfl ?_
          refine rC_getR (t := 94) lk_X6_15_X6 lay_94 rfl rfl dX6_holder_51 R ?_
          refine mm_iload dX6_holder_54 rfl ?_
          obtain ⟨b6, H⟩ := hB H
          refine rC_iald lay_96 rfl dX6_holder_56 R b6 ?_
          refine mm_iload dX6_holder_57 rfl ?_
          refine mm_icmp_ne 65 dX6_holder_59 (by decide) (fun c7 => ?_) (fun c7 => ?_)
          · replace H := hF c7 H
            refine mm_iinc (v := (x5 + 1)) (ls' := [some (.ref 94), some (.long x1), none, some (.int x3), some (.int x4), some (.int (x5 + 1))]) dX6_holder_65 rfl rfl rfl ?_
            refine mm_goto 6 dX6_holder_68 (by decide) ?_
            exact ih _ _ H
          · replace H := hT c7 H
            refine mm_iconst (v := (-1)) dX6_holder_62 (by decide +kernel) ?_
            refine mm_istore (ls' := [some (.ref 94), some (.long x1), none, some (.int x3), some (.int (-1)), some (.int x5)]) dX6_holder_63 (Nat.le_of_ble_eq_true rfl) rfl ?_
            refine mm_iinc (v := (x5 + 1)) (ls' := [some (.ref 94), some (.long x1), none, some (.int x3), some (.int (-1)), some (.int (x5 + 1))]) dX6_holder_65 rfl rfl rfl ?_
            refine mm_goto 6 dX6_holder_68 (by decide) ?_
            exact ih _ _ H
        · replace H := hT c5 H
          refine mm_aload_n dX6_holder_38 rfl ?_
          refine rC_getR (t := 94) lk_X6_15_X6 lay_94 rfl rfl dX6_holder_39 R ?_
          refine mm_iload dX6_holder_42 rfl ?_
          obtain ⟨b8, H⟩ := hB H
          refine rC_iald lay_96 rfl dX6_holder_44 R b8 ?_
          refine mm_istore (ls' := [some (.ref 94), some (.long x1), none, some (.int x3), some (.int (gA C 96 (x5).toNatClampNeg)), some (.int x5)]) dX6_holder_45 (Nat.le_of_ble_eq_true rfl) rfl ?_
          refine mm_goto 65 dX6_holder_47 (by decide) ?_
          refine mm_iinc (v := (x5 + 1)) (ls' := [some (.ref 94), some (.long x1), none, some (.int x3), some (.int (gA C 96 (x5).toNatClampNeg)), some (.int (x5 + 1))]) dX6_holder_65 rfl rfl rfl ?_
          refine mm_goto 6 dX6_holder_68 (by decide) ?_
          exact ih _ _ H
def f_X6_holder (N : Nat) (x1 : Int64) (x3 : Int32) (C : CS) : Option Int32 :=
  bnd (f_X6_holder_L6 N x1 x3 C N (-1) 0) fun q9 =>
    some q9
theorem t_X6_holder {g : mm_G} {d : Nat} {h : mm_Hp} {C D : CS} {N : Nat} {x1 : Int64} {x3 : Int32} {r : Int32} (hd : 0 ≤ d) (R : Rep h C D) (H : f_X6_holder N x1 x3 C = some r) : mm_P g d MX6_holder 0 [some (.ref 94), some (.long x1), none, some (.int x3), none, none] [] h (mm_pureI r h) := by
  unfold f_X6_holder at H
  refine mm_iconst (v := (-1)) dX6_holder_0 (by decide +kernel) ?_
  refine mm_istore (ls' := [some (.ref 94), some (.long x1), none, some (.int x3), some (.int (-1)), none]) dX6_holder_1 (Nat.le_of_ble_eq_true rfl) rfl ?_
  refine mm_iconst (v := 0) dX6_holder_3 (by decide +kernel) ?_
  refine mm_istore (ls' := [some (.ref 94), some (.long x1), none, some (.int x3), some (.int (-1)), some (.int 0)]) dX6_holder_4 (Nat.le_of_ble_eq_true rfl) rfl ?_
  obtain ⟨q9, H10, H⟩ := hC H
  refine t_X6_holder_L6 hd R ?_ N _ _ H10
  refine mm_iload dX6_holder_71 rfl ?_
  refine mm_iret rfl rfl dX6_holder_73 ?_
  exact en_pI H
def f_X5_add (x1 : Int32) (x2 : Int32) (C : CS) : Option CS :=
  if (gI C 9101) < (gI C 9100) then (if inb (gI C 9101) 100 = true then (bd (sA C 92 ((gI C 9101)).toNatClampNeg x1) fun C3 =>
    if inb (gI C3 9101) 100 = true then (bd (sA C3 93 ((gI C3 9101)).toNatClampNeg x2) fun C6 =>
    bd (sI C6 9101 ((gI C6 9101) + 1)) fun C8 =>
    some C8) else none) else none)
    else (some C)
theorem t_X5_add {g : mm_G} {d : Nat} {h : mm_Hp} {C D : CS} {x1 : Int32} {x2 : Int32} {r : CS} (hd : 0 ≤ d) (R : Rep h C D) (H : f_X5_add x1 x2 C = some r) : mm_P g d MX5_add 0 [some (.ref 91), some (.int x1), some (.int x2)] [] h (cV D r) := by
  unfold f_X5_add at H
  refine mm_aload_n dX5_add_0 rfl ?_
  refine rC_get (key := 9101) lk_X5_18_X5 lay_91 rfl rfl rfl dX5_add_1 R ?_
  refine mm_aload_n dX5_add_4 rfl ?_
  refine rC_get (key := 9100) lk_X5_22_X5 lay_91 rfl rfl rfl dX5_add_5 R ?_
  refine mm_icmp_lt 12 dX5_add_8 (by decide) (fun c1 => ?_) (fun c1 => ?_)
  · replace H := hT c1 H
    refine mm_aload_n dX5_add_12 rfl ?_
    refine rC_getR (t := 90) lk_X5_9_X5 lay_91 rfl rfl dX5_add_13 R ?_
    refine mm_aload_n dX5_add_16 rfl ?_
    refine rC_get (key := 9101) lk_X5_18_X5 lay_91 rfl rfl rfl dX5_add_17 R ?_
    refine mm_iload_n dX5_add_20 rfl ?_
    obtain ⟨b2, H⟩ := hB H
    obtain ⟨C3, e4, H⟩ := hD H
    refine rC_iast lay_92 rfl dX5_add_21 R b2 e4 (fun h R => ?_)
    refine mm_aload_n dX5_add_22 rfl ?_
    refine rC_getR (t := 91) lk_X5_15_X5 lay_91 rfl rfl dX5_add_23 R ?_
    refine mm_aload_n dX5_add_26 rfl ?_
    refine rC_get (key := 9101) lk_X5_18_X5 lay_91 rfl rfl rfl dX5_add_27 R ?_
    refine mm_iload_n dX5_add_30 rfl ?_
    obtain ⟨b5, H⟩ := hB H
    obtain ⟨C6, e7, H⟩ := hD H
    refine rC_iast lay_93 rfl dX5_add_31 R b5 e7 (fun h R => ?_)
    refine mm_aload_n dX5_add_32 rfl ?_
    refine mm_dup rfl dX5_add_33 ?_
    refine rC_get (key := 9101) lk_X5_18_X5 lay_91 rfl rfl rfl dX5_add_34 R ?_
    refine mm_iconst (v := 1) dX5_add_37 (by decide +kernel) ?_
    refine mm_iadd dX5_add_38 ?_
    obtain ⟨C8, e9, H⟩ := hD H
    refine rC_put (key := 9101) lk_X5_18_X5 lay_91 rfl rfl rfl rfl rfl dX5_add_39 R e9 (fun h R => ?_)
    refine mm_vret rfl dX5_add_42 ?_
    exact en_cV H R
  · replace H := hF c1 H
    refine mm_vret rfl dX5_add_11 ?_
    exact en_cV H R
def f_X10_takeMention (N : Nat) (x1 : Int32) (C : CS) : Option (Int32 × CS) :=
  bnd (f_X10_step C) fun q1 =>
  if q1.1 = 0 then (some (0, q1.2))
    else (if (fullT (gI q1.2 9101) (gI q1.2 9100)) = 0 then (bnd (f_X10_takeName N q1.2) fun q5 =>
      if q5.1 = 0 then (some (0, q5.2))
        else (bnd (f_X6_holder N (gJ q5.2 11010) x1 q5.2) fun q8 =>
        if q8 = (-1) then (bnd (f_X10_refuse 4 ((gI C 11007) + 1) q5.2) fun q16 =>
          if q16.1 &&& 1 = q16.1 then some (q16.1, q16.2) else none)
          else (bnd (f_X5_add x1 q8 q5.2) fun q11 =>
          bnd (f_X10_expect 62 q11) fun q13 =>
          if q13.1 &&& 1 = q13.1 then some (q13.1, q13.2) else none)))
      else (bnd (f_X10_refuse 5 (gI C 11007) q1.2) fun q19 =>
      if q19.1 &&& 1 = q19.1 then some (q19.1, q19.2) else none))
theorem t_X10_takeMention {g : mm_G} {d : Nat} {h : mm_Hp} {C D : CS} {N : Nat} {x1 : Int32} {r : (Int32 × CS)} (hd : 3 ≤ d) (R : Rep h C D) (H : f_X10_takeMention N x1 C = some r) : mm_P g d MX10_takeMention 0 [some (.ref 110), some (.int x1), none, none] [] h (cI D r) := by
  unfold f_X10_takeMention at H
  refine mm_aload_n dX10_takeMention_0 rfl ?_
  refine rC_get (key := 11007) lk_X10_39_X10 lay_110 rfl rfl rfl dX10_takeMention_1 R ?_
  refine mm_istore_n (ls' := [some (.ref 110), some (.int x1), some (.int (gI C 11007)), none]) dX10_takeMention_4 (Nat.le_of_ble_eq_true rfl) rfl ?_
  refine mm_aload_n dX10_takeMention_5 rfl ?_
  obtain ⟨q1, H2, H⟩ := hC H
  refine mm_callV (d' := d - 1) (as := []) (st := []) (dS hd) cm_X10_step (mm_t4 42 rfl rfl) (mm_t4 44 rfl rfl) (mm_s1 13 rfl rfl) (T := TX10) (N := 13) rfl dX10_takeMention_6 (R.oC (r := 110) rfl lay_110) rfl (Nat.le_of_ble_eq_true rfl) (Nat.le_of_ble_eq_true rfl) rfl rfl (t_X10_step (dL hd (by decide)) R H2) (fun o h q => th_cI q (fun R => ?_))
  refine mm_if_ne 14 dX10_takeMention_9 (by decide) (fun c3 => ?_) (fun c3 => ?_)
  · replace H := hF c3 H
    refine mm_aload_n dX10_takeMention_14 rfl ?_
    refine rC_getR (t := 89) lk_X10_27_X10 lay_110 rfl rfl dX10_takeMention_15 R ?_
    refine mm_callU (d' := d - 1) (x := ⟨"TestimonyBook$Mentions", "isFull", "()Z"⟩) (owner := "TestimonyBook$Rows") (as := []) (st := []) (dS hd) cm_X9_isFull rfl (mm_t4 121 rfl rfl) (mm_t4 122 rfl rfl) (mm_t3 40 rfl rfl) (mm_t4 123 rfl rfl) (T := TX5) (N := 5) rfl dX10_takeMention_18 (R.oC (r := 91) rfl lay_91) rfl (Nat.le_of_ble_eq_true rfl) (Nat.le_of_ble_eq_true rfl) rfl rfl (tr_full lk_X9_13_X5 lk_X9_7_X5 lay_91 rfl rfl rfl R) (fun E u q => by cases q.1) (fun v u q => th_pU q ?_)
    refine mm_if_eq 31 dX10_takeMention_21 (by decide) (fun c4 => ?_) (fun c4 => ?_)
    · replace H := hT c4 H
      refine mm_aload_n dX10_takeMention_31 rfl ?_
      obtain ⟨q5, H6, H⟩ := hC H
      refine mm_callV (d' := d - 1) (as := []) (st := []) (dS hd) cm_X10_takeName (mm_t4 66 rfl rfl) (mm_t4 68 rfl rfl) (mm_s2 2 rfl rfl) (T := TX10) (N := 13) rfl dX10_takeMention_32 (R.oC (r := 110) rfl lay_110) rfl (Nat.le_of_ble_eq_true rfl) (Nat.le_of_ble_eq_true rfl) rfl rfl (t_X10_takeName (dL hd (by decide)) R H6) (fun o h q => th_cI q (fun R => ?_))
      refine mm_if_ne 40 dX10_takeMention_35 (by decide) (fun c7 => ?_) (fun c7 => ?_)
      · replace H := hF c7 H
        refine mm_aload_n dX10_takeMention_40 rfl ?_
        refine rC_getR (t := 92) lk_X10_31_X10 lay_110 rfl rfl dX10_takeMention_41 R ?_
        refine mm_aload_n dX10_takeMention_44 rfl ?_
        refine rC_getJ (key := 11010) lk_X10_188_X10 lay_110 rfl rfl rfl dX10_takeMention_45 R ?_
        refine mm_iload_n dX10_takeMention_48 rfl ?_
        obtain ⟨q8, H9, H⟩ := hC H
        refine mm_callV (d' := d - 1) (as := [.long (gJ q5.2 11010), .int x1]) (st := []) (dS hd) cm_X6_holder (mm_t4 73 rfl rfl) (mm_t4 74 rfl rfl) (mm_t4 75 rfl rfl) (T := TX6) (N := 6) rfl dX10_takeMention_49 (R.oC (r := 94) rfl lay_94) rfl (Nat.le_of_ble_eq_true rfl) (Nat.le_of_ble_eq_true rfl) rfl rfl (t_X6_holder (dL hd (by decide)) R H9) (fun o u q => mm_thenI q ?_)
        refine mm_istore_n (ls' := [some (.ref 110), some (.int x1), some (.int (gI C 11007)), some (.int q8)]) dX10_takeMention_52 (Nat.le_of_ble_eq_true rfl) rfl ?_
        refine mm_iload_n dX10_takeMention_53 rfl ?_
        refine mm_iconst (v := (-1)) dX10_takeMention_54 (by decide +kernel) ?_
        refine mm_icmp_ne 67 dX10_takeMention_55 (by decide) (fun c10 => ?_) (fun c10 => ?_)
        · replace H := hF c10 H
          refine mm_aload_n dX10_takeMention_67 rfl ?_
          refine rC_getR (t := 89) lk_X10_27_X10 lay_110 rfl rfl dX10_takeMention_68 R ?_
          refine mm_iload_n dX10_takeMention_71 rfl ?_
          refine mm_iload_n dX10_takeMention_72 rfl ?_
          obtain ⟨q11, H12, H⟩ := hC H
          refine mm_callV (d' := d - 1) (as := [.int x1, .int q8]) (st := []) (dS hd) cm_X5_add (mm_t4 124 rfl rfl) (mm_t4 125 rfl rfl) (mm_t4 126 rfl rfl) (T := TX5) (N := 5) rfl dX10_takeMention_73 (R.oC (r := 91) rfl lay_91) rfl (Nat.le_of_ble_eq_true rfl) (Nat.le_of_ble_eq_true rfl) rfl rfl (t_X5_add (dL hd (by decide)) R H12) (fun o h q => th_cV q (fun R => ?_))
          refine mm_aload_n dX10_takeMention_76 rfl ?_
          refine mm_bipush (v := 62) dX10_takeMention_77 (by decide +kernel) ?_
          obtain ⟨q13, H14, H⟩ := hC H
          refine mm_callV (d' := d - 1) (as := [.int 62]) (st := []) (dS hd) cm_X10_expect (mm_t4 38 rfl rfl) (mm_t4 40 rfl rfl) (mm_s1 12 rfl rfl) (T := TX10) (N := 13) rfl dX10_takeMention_79 (R.oC (r := 110) rfl lay_110) rfl (Nat.le_of_ble_eq_true rfl) (Nat.le_of_ble_eq_true rfl) rfl rfl (t_X10_expect (dL hd (by decide)) R H14) (fun o h q => th_cI q (fun R => ?_))
          obtain ⟨b15, H⟩ := hB H
          refine mm_iret rfl (congrArg Value.int b15) dX10_takeMention_82 ?_
          exact en_cI H R
        · replace H := hT c10 H
          refine mm_aload_n dX10_takeMention_58 rfl ?_
          refine mm_iconst (v := 4) dX10_takeMention_59 (by decide +kernel) ?_
          refine mm_iload_n dX10_takeMention_60 rfl ?_
          refine mm_iconst (v := 1) dX10_takeMention_61 (by decide +kernel) ?_
          refine mm_iadd dX10_takeMention_62 ?_
          obtain ⟨q16, H17, H⟩ := hC H
          refine mm_callV (d' := d - 1) (as := [.int 4, .int ((gI C 11007) + 1)]) (st := []) (dS hd) cm_X10_refuse (mm_t4 27 rfl rfl) (mm_t4 29 rfl rfl) (mm_s1 11 rfl rfl) (T := TX10) (N := 13) rfl dX10_takeMention_63 (R.oC (r := 110) rfl lay_110) rfl (Nat.le_of_ble_eq_true rfl) (Nat.le_of_ble_eq_true rfl) rfl rfl (t_X10_refuse (dL hd (by decide)) R H17) (fun o h q => th_cI q (fun R => ?_))
          obtain ⟨b18, H⟩ := hB H
          refine mm_iret rfl (congrArg Value.int b18) dX10_takeMention_66 ?_
          exact en_cI H R
      · replace H := hT c7 H
        refine mm_iconst (v := 0) dX10_takeMention_38 (by decide +kernel) ?_
        refine mm_iret rfl rfl dX10_takeMention_39 ?_
        exact en_cI H R
    · replace H := hF c4 H
      refine mm_aload_n dX10_takeMention_24 rfl ?_
      refine mm_iconst (v := 5) dX10_takeMention_25 (by decide +kernel) ?_
      refine mm_iload_n dX10_takeMention_26 rfl ?_
      obtain ⟨q19, H20, H⟩ := hC H
      refine mm_callV (d' := d - 1) (as := [.int 5, .int (gI C 11007)]) (st := []) (dS hd) cm_X10_refuse (mm_t4 27 rfl rfl) (mm_t4 29 rfl rfl) (mm_s1 11 rfl rfl) (T := TX10) (N := 13) rfl dX10_takeMention_27 (R.oC (r := 110) rfl lay_110) rfl (Nat.le_of_ble_eq_true rfl) (Nat.le_of_ble_eq_true rfl) rfl rfl (t_X10_refuse (dL hd (by decide)) R H20) (fun o h q => th_cI q (fun R => ?_))
      obtain ⟨b21, H⟩ := hB H
      refine mm_iret rfl (congrArg Value.int b21) dX10_takeMention_30 ?_
      exact en_cI H R
  · replace H := hT c3 H
    refine mm_iconst (v := 0) dX10_takeMention_12 (by decide +kernel) ?_
    refine mm_iret rfl rfl dX10_takeMention_13 ?_
    exact en_cI H R
def f_X3_add (x1 : Int32) (x2 : Int32) (x3 : Int32) (C : CS) : Option CS :=
  if (gI C 8401) < (gI C 8400) then (if inb (gI C 8401) 150 = true then (bd (sA C 85 ((gI C 8401)).toNatClampNeg x1) fun C3 =>
    if inb (gI C3 8401) 150 = true then (bd (sA C3 86 ((gI C3 8401)).toNatClampNeg x2) fun C6 =>
    if inb (gI C6 8401) 150 = true then (bd (sA C6 87 ((gI C6 8401)).toNatClampNeg x3) fun C9 =>
    bd (sI C9 8401 ((gI C9 8401) + 1)) fun C11 =>
    some C11) else none) else none) else none)
    else (some C)
theorem t_X3_add {g : mm_G} {d : Nat} {h : mm_Hp} {C D : CS} {x1 : Int32} {x2 : Int32} {x3 : Int32} {r : CS} (hd : 0 ≤ d) (R : Rep h C D) (H : f_X3_add x1 x2 x3 C = some r) : mm_P g d MX3_add 0 [some (.ref 84), some (.int x1), some (.int x2), some (.int x3)] [] h (cV D r) := by
  unfold f_X3_add at H
  refine mm_aload_n dX3_add_0 rfl ?_
  refine rC_get (key := 8401) lk_X3_30_X3 lay_84 rfl rfl rfl dX3_add_1 R ?_
  refine mm_aload_n dX3_add_4 rfl ?_
  refine rC_get (key := 8400) lk_X3_34_X3 lay_84 rfl rfl rfl dX3_add_5 R ?_
  refine mm_icmp_lt 12 dX3_add_8 (by decide) (fun c1 => ?_) (fun c1 => ?_)
  · replace H := hT c1 H
    refine mm_aload_n dX3_add_12 rfl ?_
    refine rC_getR (t := 83) lk_X3_9_X3 lay_84 rfl rfl dX3_add_13 R ?_
    refine mm_aload_n dX3_add_16 rfl ?_
    refine rC_get (key := 8401) lk_X3_30_X3 lay_84 rfl rfl rfl dX3_add_17 R ?_
    refine mm_iload_n dX3_add_20 rfl ?_
    obtain ⟨b2, H⟩ := hB H
    obtain ⟨C3, e4, H⟩ := hD H
    refine rC_iast lay_85 rfl dX3_add_21 R b2 e4 (fun h R => ?_)
    refine mm_aload_n dX3_add_22 rfl ?_
    refine rC_getR (t := 84) lk_X3_15_X3 lay_84 rfl rfl dX3_add_23 R ?_
    refine mm_aload_n dX3_add_26 rfl ?_
    refine rC_get (key := 8401) lk_X3_30_X3 lay_84 rfl rfl rfl dX3_add_27 R ?_
    refine mm_iload_n dX3_add_30 rfl ?_
    obtain ⟨b5, H⟩ := hB H
    obtain ⟨C6, e7, H⟩ := hD H
    refine rC_iast lay_86 rfl dX3_add_31 R b5 e7 (fun h R => ?_)
    refine mm_aload_n dX3_add_32 rfl ?_
    refine rC_getR (t := 85) lk_X3_18_X3 lay_84 rfl rfl dX3_add_33 R ?_
    refine mm_aload_n dX3_add_36 rfl ?_
    refine rC_get (key := 8401) lk_X3_30_X3 lay_84 rfl rfl rfl dX3_add_37 R ?_
    refine mm_iload_n dX3_add_40 rfl ?_
    obtain ⟨b8, H⟩ := hB H
    obtain ⟨C9, e10, H⟩ := hD H
    refine rC_iast lay_87 rfl dX3_add_41 R b8 e10 (fun h R => ?_)
    refine mm_aload_n dX3_add_42 rfl ?_
    refine mm_dup rfl dX3_add_43 ?_
    refine rC_get (key := 8401) lk_X3_30_X3 lay_84 rfl rfl rfl dX3_add_44 R ?_
    refine mm_iconst (v := 1) dX3_add_47 (by decide +kernel) ?_
    refine mm_iadd dX3_add_48 ?_
    obtain ⟨C11, e12, H⟩ := hD H
    refine rC_put (key := 8401) lk_X3_30_X3 lay_84 rfl rfl rfl rfl rfl dX3_add_49 R e12 (fun h R => ?_)
    refine mm_vret rfl dX3_add_52 ?_
    exact en_cV H R
  · replace H := hF c1 H
    refine mm_vret rfl dX3_add_11 ?_
    exact en_cV H R
def f_X10_takeNumber_L7 (N : Nat) : Nat → Int32 → CS → Option ((Int32 × CS) ⊕ (CS))
  | 0, _, _ => none
  | n + 1, x1, C => if 4 < x1 then (some (.inr C))
    else (bnd (f_X10_sign C) fun q4 =>
    if q4 < 48 then (if 0 < x1 then (some (.inl (1, C)))
        else (bnd (f_X10_refuse 1 (gI C 11007) C) fun q8 =>
        if q8.1 = 0 then (some (.inl (0, q8.2)))
          else (some (.inl (1, q8.2)))))
      else (if q4 ≤ 57 then (if x1 = 4 then (bnd (f_X10_refuse 2 (gI C 11007) C) fun q18 =>
          if q18.1 &&& 1 = q18.1 then some (.inl (q18.1, q18.2)) else none)
          else (bnd (f_X10_step C) fun q13 =>
          if q13.1 = 0 then (some (.inl (0, q13.2)))
            else (bd (sI q13.2 11009 (((10 * (gI q13.2 11009)) + q4) - 48)) fun C16 =>
            f_X10_takeNumber_L7 N n (x1 + 1) C16)))
        else (if 0 < x1 then (some (.inl (1, C)))
          else (bnd (f_X10_refuse 1 (gI C 11007) C) fun q22 =>
          if q22.1 = 0 then (some (.inl (0, q22.2)))
            else (some (.inl (1, q22.2)))))))
theorem t_X10_takeNumber_L7 {g : mm_G} {d : Nat} {Post : mm_Ou → mm_Hp → Prop} {D : CS} {N : Nat} {res : ((Int32 × CS) ⊕ (CS))} (hd : 2 ≤ d) (KR : ∀ (q : (Int32 × CS)) (h1 : mm_Hp), res = .inl q → Rep h1 q.2 D → Post (.inl (some (.int q.1))) h1) (KE : ∀ (q : CS) (h1 : mm_Hp), res = .inr q → Rep h1 q D → mm_P g d MX10_takeNumber 97 [none, none, none] [] h1 Post) : ∀ (n : Nat) (x1 : Int32) (C : CS) (h : mm_Hp) , Rep h C D → f_X10_takeNumber_L7 N n x1 C = some res → mm_P g d MX10_takeNumber 7 [some (.ref 110), some (.int x1), none] [] h Post := by
  intro n
  induction n with
  | zero =>
    intro x1 C h R H
    exact hN H
  | succ n ih =>
    intro x1 C h R H
    unfold f_X10_takeNumber_L7 at H
    refine mm_iload_n dX10_takeNumber_7 rfl ?_
    refine mm_iconst (v := 4) dX10_takeNumber_8 (by decide +kernel) ?_
    refine mm_icmp_gt 97 dX10_takeNumber_9 (by decide) (fun c3 => ?_) (fun c3 => ?_)
    · replace H := hT c3 H
      refine mm_fgt (ls' := [none, none, none]) trivial ?_
      exact KE _ _ (Option.some.inj H).symm R
    · replace H := hF c3 H
      refine mm_aload_n dX10_takeNumber_12 rfl ?_
      obtain ⟨q4, H5, H⟩ := hC H
      refine mm_callV (d' := d - 1) (as := []) (st := []) (dS hd) cm_X10_sign (mm_t3 170 rfl rfl) (mm_t3 172 rfl rfl) (mm_s1 9 rfl rfl) (T := TX10) (N := 13) rfl dX10_takeNumber_13 (R.oC (r := 110) rfl lay_110) rfl (Nat.le_of_ble_eq_true rfl) (Nat.le_of_ble_eq_true rfl) rfl rfl (t_X10_sign (dL hd (by decide)) R H5) (fun o u q => mm_thenI q ?_)
      refine mm_istore_n (ls' := [some (.ref 110), some (.int x1), some (.int q4)]) dX10_takeNumber_16 (Nat.le_of_ble_eq_true rfl) rfl ?_
      refine mm_iload_n dX10_takeNumber_17 rfl ?_
      refine mm_bipush (v := 48) dX10_takeNumber_18 (by decide +kernel) ?_
      refine mm_icmp_lt 29 dX10_takeNumber_20 (by decide) (fun c6 => ?_) (fun c6 => ?_)
      · replace H := hT c6 H
        refine mm_iload_n dX10_takeNumber_29 rfl ?_
        refine mm_if_gt 45 dX10_takeNumber_30 (by decide) (fun c7 => ?_) (fun c7 => ?_)
        · replace H := hT c7 H
          refine mm_iconst (v := 1) dX10_takeNumber_45 (by decide +kernel) ?_
          refine mm_goto 50 dX10_takeNumber_46 (by decide) ?_
          refine mm_iret rfl rfl dX10_takeNumber_50 ?_
          exact KR _ _ (Option.some.inj H).symm R
        · replace H := hF c7 H
          refine mm_aload_n dX10_takeNumber_33 rfl ?_
          refine mm_iconst (v := 1) dX10_takeNumber_34 (by decide +kernel) ?_
          refine mm_aload_n dX10_takeNumber_35 rfl ?_
          refine rC_get (key := 11007) lk_X10_39_X10 lay_110 rfl rfl rfl dX10_takeNumber_36 R ?_
          obtain ⟨q8, H9, H⟩ := hC H
          refine mm_callV (d' := d - 1) (as := [.int 1, .int (gI C 11007)]) (st := []) (dS hd) cm_X10_refuse (mm_t4 27 rfl rfl) (mm_t4 29 rfl rfl) (mm_s1 11 rfl rfl) (T := TX10) (N := 13) rfl dX10_takeNumber_39 (R.oC (r := 110) rfl lay_110) rfl (Nat.le_of_ble_eq_true rfl) (Nat.le_of_ble_eq_true rfl) rfl rfl (t_X10_refuse (dL hd (by decide)) R H9) (fun o h q => th_cI q (fun R => ?_))
          refine mm_if_eq 49 dX10_takeNumber_42 (by decide) (fun c10 => ?_) (fun c10 => ?_)
          · replace H := hT c10 H
            refine mm_iconst (v := 0) dX10_takeNumber_49 (by decide +kernel) ?_
            refine mm_iret rfl rfl dX10_takeNumber_50 ?_
            exact KR _ _ (Option.some.inj H).symm R
          · replace H := hF c10 H
            refine mm_iconst (v := 1) dX10_takeNumber_45 (by decide +kernel) ?_
            refine mm_goto 50 dX10_takeNumber_46 (by decide) ?_
            refine mm_iret rfl rfl dX10_takeNumber_50 ?_
            exact KR _ _ (Option.some.inj H).symm R
      · replace H := hF c6 H
        refine mm_iload_n dX10_takeNumber_23 rfl ?_
        refine mm_bipush (v := 57) dX10_takeNumber_24 (by decide +kernel) ?_
        refine mm_icmp_le 51 dX10_takeNumber_26 (by decide) (fun c11 => ?_) (fun c11 => ?_)
        · replace H := hT c11 H
          refine mm_iload_n dX10_takeNumber_51 rfl ?_
          refine mm_iconst (v := 4) dX10_takeNumber_52 (by decide +kernel) ?_
          refine mm_icmp_ne 66 dX10_takeNumber_53 (by decide) (fun c12 => ?_) (fun c12 => ?_)
          · replace H := hF c12 H
            refine mm_aload_n dX10_takeNumber_66 rfl ?_
            obtain ⟨q13, H14, H⟩ := hC H
            refine mm_callV (d' := d - 1) (as := []) (st := []) (dS hd) cm_X10_step (mm_t4 42 rfl rfl) (mm_t4 44 rfl rfl) (mm_s1 13 rfl rfl) (T := TX10) (N := 13) rfl dX10_takeNumber_67 (R.oC (r := 110) rfl lay_110) rfl (Nat.le_of_ble_eq_true rfl) (Nat.le_of_ble_eq_true rfl) rfl rfl (t_X10_step (dL hd (by decide)) R H14) (fun o h q => th_cI q (fun R => ?_))
            refine mm_if_ne 75 dX10_takeNumber_70 (by decide) (fun c15 => ?_) (fun c15 => ?_)
            · replace H := hF c15 H
              refine mm_aload_n dX10_takeNumber_75 rfl ?_
              refine mm_bipush (v := 10) dX10_takeNumber_76 (by decide +kernel) ?_
              refine mm_aload_n dX10_takeNumber_78 rfl ?_
              refine rC_get (key := 11009) lk_X10_178_X10 lay_110 rfl rfl rfl dX10_takeNumber_79 R ?_
              refine mm_imul dX10_takeNumber_82 ?_
              refine mm_iload_n dX10_takeNumber_83 rfl ?_
              refine mm_iadd dX10_takeNumber_84 ?_
              refine mm_bipush (v := 48) dX10_takeNumber_85 (by decide +kernel) ?_
              refine mm_isub dX10_takeNumber_87 ?_
              obtain ⟨C16, e17, H⟩ := hD H
              refine rC_put (key := 11009) lk_X10_178_X10 lay_110 rfl rfl rfl rfl rfl dX10_takeNumber_88 R e17 (fun h R => ?_)
              refine mm_iinc (v := (x1 + 1)) (ls' := [some (.ref 110), some (.int (x1 + 1)), some (.int q4)]) dX10_takeNumber_91 rfl rfl rfl ?_
              refine mm_goto 7 dX10_takeNumber_94 (by decide) ?_
              refine mm_fgt (ls' := [some (.ref 110), some (.int (x1 + 1)), none]) ⟨rfl, rfl, trivial⟩ ?_
              exact ih _ _ _ R H
            · replace H := hT c15 H
              refine mm_iconst (v := 0) dX10_takeNumber_73 (by decide +kernel) ?_
              refine mm_iret rfl rfl dX10_takeNumber_74 ?_
              exact KR _ _ (Option.some.inj H).symm R
          · replace H := hT c12 H
            refine mm_aload_n dX10_takeNumber_56 rfl ?_
            refine mm_iconst (v := 2) dX10_takeNumber_57 (by decide +kernel) ?_
            refine mm_aload_n dX10_takeNumber_58 rfl ?_
            refine rC_get (key := 11007) lk_X10_39_X10 lay_110 rfl rfl rfl dX10_takeNumber_59 R ?_
            obtain ⟨q18, H19, H⟩ := hC H
            refine mm_callV (d' := d - 1) (as := [.int 2, .int (gI C 11007)]) (st := []) (dS hd) cm_X10_refuse (mm_t4 27 rfl rfl) (mm_t4 29 rfl rfl) (mm_s1 11 rfl rfl) (T := TX10) (N := 13) rfl dX10_takeNumber_62 (R.oC (r := 110) rfl lay_110) rfl (Nat.le_of_ble_eq_true rfl) (Nat.le_of_ble_eq_true rfl) rfl rfl (t_X10_refuse (dL hd (by decide)) R H19) (fun o h q => th_cI q (fun R => ?_))
            obtain ⟨b20, H⟩ := hB H
            refine mm_iret rfl (congrArg Value.int b20) dX10_takeNumber_65 ?_
            exact KR _ _ (Option.some.inj H).symm R
        · replace H := hF c11 H
          refine mm_iload_n dX10_takeNumber_29 rfl ?_
          refine mm_if_gt 45 dX10_takeNumber_30 (by decide) (fun c21 => ?_) (fun c21 => ?_)
          · replace H := hT c21 H
            refine mm_iconst (v := 1) dX10_takeNumber_45 (by decide +kernel) ?_
            refine mm_goto 50 dX10_takeNumber_46 (by decide) ?_
            refine mm_iret rfl rfl dX10_takeNumber_50 ?_
            exact KR _ _ (Option.some.inj H).symm R
          · replace H := hF c21 H
            refine mm_aload_n dX10_takeNumber_33 rfl ?_
            refine mm_iconst (v := 1) dX10_takeNumber_34 (by decide +kernel) ?_
            refine mm_aload_n dX10_takeNumber_35 rfl ?_
            refine rC_get (key := 11007) lk_X10_39_X10 lay_110 rfl rfl rfl dX10_takeNumber_36 R ?_
            obtain ⟨q22, H23, H⟩ := hC H
            refine mm_callV (d' := d - 1) (as := [.int 1, .int (gI C 11007)]) (st := []) (dS hd) cm_X10_refuse (mm_t4 27 rfl rfl) (mm_t4 29 rfl rfl) (mm_s1 11 rfl rfl) (T := TX10) (N := 13) rfl dX10_takeNumber_39 (R.oC (r := 110) rfl lay_110) rfl (Nat.le_of_ble_eq_true rfl) (Nat.le_of_ble_eq_true rfl) rfl rfl (t_X10_refuse (dL hd (by decide)) R H23) (fun o h q => th_cI q (fun R => ?_))
            refine mm_if_eq 49 dX10_takeNumber_42 (by decide) (fun c24 => ?_) (fun c24 => ?_)
            · replace H := hT c24 H
              refine mm_iconst (v := 0) dX10_takeNumber_49 (by decide +kernel) ?_
              refine mm_iret rfl rfl dX10_takeNumber_50 ?_
              exact KR _ _ (Option.some.inj H).symm R
            · replace H := hF c24 H
              refine mm_iconst (v := 1) dX10_takeNumber_45 (by decide +kernel) ?_
              refine mm_goto 50 dX10_takeNumber_46 (by decide) ?_
              refine mm_iret rfl rfl dX10_takeNumber_50 ?_
              exact KR _ _ (Option.some.inj H).symm R
def f_X10_takeNumber (N : Nat) (C : CS) : Option (Int32 × CS) :=
  bd (sI C 11009 0) fun C1 =>
  bns (f_X10_takeNumber_L7 N N 0 C1) (fun q25 => some q25) fun q25 =>
    some (0, q25)
theorem t_X10_takeNumber {g : mm_G} {d : Nat} {h : mm_Hp} {C D : CS} {N : Nat} {r : (Int32 × CS)} (hd : 2 ≤ d) (R : Rep h C D) (H : f_X10_takeNumber N C = some r) : mm_P g d MX10_takeNumber 0 [some (.ref 110), none, none] [] h (cI D r) := by
  unfold f_X10_takeNumber at H
  refine mm_aload_n dX10_takeNumber_0 rfl ?_
  refine mm_iconst (v := 0) dX10_takeNumber_1 (by decide +kernel) ?_
  obtain ⟨C1, e2, H⟩ := hD H
  refine rC_put (key := 11009) lk_X10_178_X10 lay_110 rfl rfl rfl rfl rfl dX10_takeNumber_2 R e2 (fun h R => ?_)
  refine mm_iconst (v := 0) dX10_takeNumber_5 (by decide +kernel) ?_
  refine mm_istore_n (ls' := [some (.ref 110), some (.int 0), none]) dX10_takeNumber_6 (Nat.le_of_ble_eq_true rfl) rfl ?_
  rcases hS H with ⟨q25, H26, H⟩ | ⟨q25, H26, H⟩
  · refine t_X10_takeNumber_L7 hd (fun q h e R => ?_) (fun q h e R => by cases e) N _ _ _ R H26
    cases e
    exact en_cI H R
  · refine t_X10_takeNumber_L7 hd (fun q h e R => by cases e) (fun q h e R => ?_) N _ _ _ R H26
    cases e
    refine mm_iconst (v := 0) dX10_takeNumber_97 (by decide +kernel) ?_
    refine mm_iret rfl rfl dX10_takeNumber_98 ?_
    exact en_cI H R
def f_X3_setNumbers (x1 : Int32) (x2 : Int32) (x3 : Int32) (C : CS) : Option CS :=
  if (gI C 8401) ≤ 0 then (some C)
    else (if inb ((gI C 8401) - 1) 150 = true then (bd (sA C 88 (((gI C 8401) - 1)).toNatClampNeg x1) fun C3 =>
    if inb ((gI C3 8401) - 1) 150 = true then (bd (sA C3 89 (((gI C3 8401) - 1)).toNatClampNeg x2) fun C6 =>
    if inb ((gI C6 8401) - 1) 150 = true then (bd (sA C6 90 (((gI C6 8401) - 1)).toNatClampNeg x3) fun C9 =>
    some C9) else none) else none) else none)
theorem t_X3_setNumbers {g : mm_G} {d : Nat} {h : mm_Hp} {C D : CS} {x1 : Int32} {x2 : Int32} {x3 : Int32} {r : CS} (hd : 0 ≤ d) (R : Rep h C D) (H : f_X3_setNumbers x1 x2 x3 C = some r) : mm_P g d MX3_setNumbers 0 [some (.ref 84), some (.int x1), some (.int x2), some (.int x3)] [] h (cV D r) := by
  unfold f_X3_setNumbers at H
  refine mm_aload_n dX3_setNumbers_0 rfl ?_
  refine rC_get (key := 8401) lk_X3_30_X3 lay_84 rfl rfl rfl dX3_setNumbers_1 R ?_
  refine mm_if_le 43 dX3_setNumbers_4 (by decide) (fun c1 => ?_) (fun c1 => ?_)
  · replace H := hT c1 H
    refine mm_vret rfl dX3_setNumbers_43 ?_
    exact en_cV H R
  · replace H := hF c1 H
    refine mm_aload_n dX3_setNumbers_7 rfl ?_
    refine rC_getR (t := 86) lk_X3_21_X3 lay_84 rfl rfl dX3_setNumbers_8 R ?_
    refine mm_aload_n dX3_setNumbers_11 rfl ?_
    refine rC_get (key := 8401) lk_X3_30_X3 lay_84 rfl rfl rfl dX3_setNumbers_12 R ?_
    refine mm_iconst (v := 1) dX3_setNumbers_15 (by decide +kernel) ?_
    refine mm_isub dX3_setNumbers_16 ?_
    refine mm_iload_n dX3_setNumbers_17 rfl ?_
    obtain ⟨b2, H⟩ := hB H
    obtain ⟨C3, e4, H⟩ := hD H
    refine rC_iast lay_88 rfl dX3_setNumbers_18 R b2 e4 (fun h R => ?_)
    refine mm_aload_n dX3_setNumbers_19 rfl ?_
    refine rC_getR (t := 87) lk_X3_24_X3 lay_84 rfl rfl dX3_setNumbers_20 R ?_
    refine mm_aload_n dX3_setNumbers_23 rfl ?_
    refine rC_get (key := 8401) lk_X3_30_X3 lay_84 rfl rfl rfl dX3_setNumbers_24 R ?_
    refine mm_iconst (v := 1) dX3_setNumbers_27 (by decide +kernel) ?_
    refine mm_isub dX3_setNumbers_28 ?_
    refine mm_iload_n dX3_setNumbers_29 rfl ?_
    obtain ⟨b5, H⟩ := hB H
    obtain ⟨C6, e7, H⟩ := hD H
    refine rC_iast lay_89 rfl dX3_setNumbers_30 R b5 e7 (fun h R => ?_)
    refine mm_aload_n dX3_setNumbers_31 rfl ?_
    refine rC_getR (t := 88) lk_X3_27_X3 lay_84 rfl rfl dX3_setNumbers_32 R ?_
    refine mm_aload_n dX3_setNumbers_35 rfl ?_
    refine rC_get (key := 8401) lk_X3_30_X3 lay_84 rfl rfl rfl dX3_setNumbers_36 R ?_
    refine mm_iconst (v := 1) dX3_setNumbers_39 (by decide +kernel) ?_
    refine mm_isub dX3_setNumbers_40 ?_
    refine mm_iload_n dX3_setNumbers_41 rfl ?_
    obtain ⟨b8, H⟩ := hB H
    obtain ⟨C9, e10, H⟩ := hD H
    refine rC_iast lay_90 rfl dX3_setNumbers_42 R b8 e10 (fun h R => ?_)
    refine mm_vret rfl dX3_setNumbers_43 ?_
    exact en_cV H R
def f_X10_takeFact (N : Nat) (x1 : Int32) (C : CS) : Option (Int32 × CS) :=
  bnd (f_X10_step C) fun q1 =>
  if q1.1 = 0 then (some (0, q1.2))
    else (if (fullT (gI q1.2 8401) (gI q1.2 8400)) = 0 then (bnd (f_X3_add x1 (gI q1.2 7601) ((gI C 11007) - (gI q1.2 11008)) q1.2) fun q5 =>
      bnd (f_X10_takeNumber N q5) fun q7 =>
      if q7.1 = 0 then (some (0, q7.2))
        else (bnd (f_X10_expect 64 q7.2) fun q10 =>
        if q10.1 = 0 then (some (0, q10.2))
          else (bnd (f_X10_takeNumber N q10.2) fun q13 =>
          if q13.1 = 0 then (some (0, q13.2))
            else (bnd (f_X10_expect 61 q13.2) fun q16 =>
            if q16.1 = 0 then (some (0, q16.2))
              else (bnd (f_X10_takeNumber N q16.2) fun q19 =>
              if q19.1 = 0 then (some (0, q19.2))
                else (bnd (f_X3_setNumbers (gI q7.2 11009) (gI q13.2 11009) (gI q19.2 11009) q19.2) fun q22 =>
                bnd (f_X10_expect 125 q22) fun q24 =>
                if q24.1 &&& 1 = q24.1 then some (q24.1, q24.2) else none))))))
      else (bnd (f_X10_refuse 5 (gI C 11007) q1.2) fun q27 =>
      if q27.1 &&& 1 = q27.1 then some (q27.1, q27.2) else none))
theorem t_X10_takeFact {g : mm_G} {d : Nat} {h : mm_Hp} {C D : CS} {N : Nat} {x1 : Int32} {r : (Int32 × CS)} (hd : 3 ≤ d) (R : Rep h C D) (H : f_X10_takeFact N x1 C = some r) : mm_P g d MX10_takeFact 0 [some (.ref 110), some (.int x1), none, none, none] [] h (cI D r) := by
  unfold f_X10_takeFact at H
  refine mm_aload_n dX10_takeFact_0 rfl ?_
  refine rC_get (key := 11007) lk_X10_39_X10 lay_110 rfl rfl rfl dX10_takeFact_1 R ?_
  refine mm_istore_n (ls' := [some (.ref 110), some (.int x1), some (.int (gI C 11007)), none, none]) dX10_takeFact_4 (Nat.le_of_ble_eq_true rfl) rfl ?_
  refine mm_aload_n dX10_takeFact_5 rfl ?_
  obtain ⟨q1, H2, H⟩ := hC H
  refine mm_callV (d' := d - 1) (as := []) (st := []) (dS hd) cm_X10_step (mm_t4 42 rfl rfl) (mm_t4 44 rfl rfl) (mm_s1 13 rfl rfl) (T := TX10) (N := 13) rfl dX10_takeFact_6 (R.oC (r := 110) rfl lay_110) rfl (Nat.le_of_ble_eq_true rfl) (Nat.le_of_ble_eq_true rfl) rfl rfl (t_X10_step (dL hd (by decide)) R H2) (fun o h q => th_cI q (fun R => ?_))
  refine mm_if_ne 14 dX10_takeFact_9 (by decide) (fun c3 => ?_) (fun c3 => ?_)
  · replace H := hF c3 H
    refine mm_aload_n dX10_takeFact_14 rfl ?_
    refine rC_getR (t := 82) lk_X10_23_X10 lay_110 rfl rfl dX10_takeFact_15 R ?_
    refine mm_callU (d' := d - 1) (x := ⟨"TestimonyBook$Facts", "isFull", "()Z"⟩) (owner := "TestimonyBook$Rows") (as := []) (st := []) (dS hd) cm_X9_isFull rfl (mm_t4 102 rfl rfl) (mm_t4 103 rfl rfl) (mm_t3 40 rfl rfl) (mm_t4 104 rfl rfl) (T := TX3) (N := 9) rfl dX10_takeFact_18 (R.oC (r := 84) rfl lay_84) rfl (Nat.le_of_ble_eq_true rfl) (Nat.le_of_ble_eq_true rfl) rfl rfl (tr_full lk_X9_13_X3 lk_X9_7_X3 lay_84 rfl rfl rfl R) (fun E u q => by cases q.1) (fun v u q => th_pU q ?_)
    refine mm_if_eq 31 dX10_takeFact_21 (by decide) (fun c4 => ?_) (fun c4 => ?_)
    · replace H := hT c4 H
      refine mm_aload_n dX10_takeFact_31 rfl ?_
      refine rC_getR (t := 82) lk_X10_23_X10 lay_110 rfl rfl dX10_takeFact_32 R ?_
      refine mm_iload_n dX10_takeFact_35 rfl ?_
      refine mm_aload_n dX10_takeFact_36 rfl ?_
      refine rC_getR (t := 74) lk_X10_19_X10 lay_110 rfl rfl dX10_takeFact_37 R ?_
      refine rC_get (key := 7601) lk_X10_171_X8 lay_76 rfl rfl rfl dX10_takeFact_40 R ?_
      refine mm_iload_n dX10_takeFact_43 rfl ?_
      refine mm_aload_n dX10_takeFact_44 rfl ?_
      refine rC_get (key := 11008) lk_X10_54_X10 lay_110 rfl rfl rfl dX10_takeFact_45 R ?_
      refine mm_isub dX10_takeFact_48 ?_
      obtain ⟨q5, H6, H⟩ := hC H
      refine mm_callV (d' := d - 1) (as := [.int x1, .int (gI q1.2 7601), .int ((gI C 11007) - (gI q1.2 11008))]) (st := []) (dS hd) cm_X3_add (mm_t4 105 rfl rfl) (mm_t4 106 rfl rfl) (mm_t4 107 rfl rfl) (T := TX3) (N := 9) rfl dX10_takeFact_49 (R.oC (r := 84) rfl lay_84) rfl (Nat.le_of_ble_eq_true rfl) (Nat.le_of_ble_eq_true rfl) rfl rfl (t_X3_add (dL hd (by decide)) R H6) (fun o h q => th_cV q (fun R => ?_))
      refine mm_aload_n dX10_takeFact_52 rfl ?_
      obtain ⟨q7, H8, H⟩ := hC H
      refine mm_callV (d' := d - 1) (as := []) (st := []) (dS hd) cm_X10_takeNumber (mm_t4 109 rfl rfl) (mm_t4 111 rfl rfl) (mm_s2 7 rfl rfl) (T := TX10) (N := 13) rfl dX10_takeFact_53 (R.oC (r := 110) rfl lay_110) rfl (Nat.le_of_ble_eq_true rfl) (Nat.le_of_ble_eq_true rfl) rfl rfl (t_X10_takeNumber (dL hd (by decide)) R H8) (fun o h q => th_cI q (fun R => ?_))
      refine mm_if_ne 61 dX10_takeFact_56 (by decide) (fun c9 => ?_) (fun c9 => ?_)
      · replace H := hF c9 H
        refine mm_aload_n dX10_takeFact_61 rfl ?_
        refine rC_get (key := 11009) lk_X10_178_X10 lay_110 rfl rfl rfl dX10_takeFact_62 R ?_
        refine mm_istore_n (ls' := [some (.ref 110), some (.int x1), some (.int (gI C 11007)), some (.int (gI q7.2 11009)), none]) dX10_takeFact_65 (Nat.le_of_ble_eq_true rfl) rfl ?_
        refine mm_aload_n dX10_takeFact_66 rfl ?_
        refine mm_bipush (v := 64) dX10_takeFact_67 (by decide +kernel) ?_
        obtain ⟨q10, H11, H⟩ := hC H
        refine mm_callV (d' := d - 1) (as := [.int 64]) (st := []) (dS hd) cm_X10_expect (mm_t4 38 rfl rfl) (mm_t4 40 rfl rfl) (mm_s1 12 rfl rfl) (T := TX10) (N := 13) rfl dX10_takeFact_69 (R.oC (r := 110) rfl lay_110) rfl (Nat.le_of_ble_eq_true rfl) (Nat.le_of_ble_eq_true rfl) rfl rfl (t_X10_expect (dL hd (by decide)) R H11) (fun o h q => th_cI q (fun R => ?_))
        refine mm_if_eq 82 dX10_takeFact_72 (by decide) (fun c12 => ?_) (fun c12 => ?_)
        · replace H := hT c12 H
          refine mm_iconst (v := 0) dX10_takeFact_82 (by decide +kernel) ?_
          refine mm_iret rfl rfl dX10_takeFact_83 ?_
          exact en_cI H R
        · replace H := hF c12 H
          refine mm_aload_n dX10_takeFact_75 rfl ?_
          obtain ⟨q13, H14, H⟩ := hC H
          refine mm_callV (d' := d - 1) (as := []) (st := []) (dS hd) cm_X10_takeNumber (mm_t4 109 rfl rfl) (mm_t4 111 rfl rfl) (mm_s2 7 rfl rfl) (T := TX10) (N := 13) rfl dX10_takeFact_76 (R.oC (r := 110) rfl lay_110) rfl (Nat.le_of_ble_eq_true rfl) (Nat.le_of_ble_eq_true rfl) rfl rfl (t_X10_takeNumber (dL hd (by decide)) R H14) (fun o h q => th_cI q (fun R => ?_))
          refine mm_if_ne 84 dX10_takeFact_79 (by decide) (fun c15 => ?_) (fun c15 => ?_)
          · replace H := hF c15 H
            refine mm_aload_n dX10_takeFact_84 rfl ?_
            refine rC_get (key := 11009) lk_X10_178_X10 lay_110 rfl rfl rfl dX10_takeFact_85 R ?_
            refine mm_istore (ls' := [some (.ref 110), some (.int x1), some (.int (gI C 11007)), some (.int (gI q7.2 11009)), some (.int (gI q13.2 11009))]) dX10_takeFact_88 (Nat.le_of_ble_eq_true rfl) rfl ?_
            refine mm_aload_n dX10_takeFact_90 rfl ?_
            refine mm_bipush (v := 61) dX10_takeFact_91 (by decide +kernel) ?_
            obtain ⟨q16, H17, H⟩ := hC H
            refine mm_callV (d' := d - 1) (as := [.int 61]) (st := []) (dS hd) cm_X10_expect (mm_t4 38 rfl rfl) (mm_t4 40 rfl rfl) (mm_s1 12 rfl rfl) (T := TX10) (N := 13) rfl dX10_takeFact_93 (R.oC (r := 110) rfl lay_110) rfl (Nat.le_of_ble_eq_true rfl) (Nat.le_of_ble_eq_true rfl) rfl rfl (t_X10_expect (dL hd (by decide)) R H17) (fun o h q => th_cI q (fun R => ?_))
            refine mm_if_eq 106 dX10_takeFact_96 (by decide) (fun c18 => ?_) (fun c18 => ?_)
            · replace H := hT c18 H
              refine mm_iconst (v := 0) dX10_takeFact_106 (by decide +kernel) ?_
              refine mm_iret rfl rfl dX10_takeFact_107 ?_
              exact en_cI H R
            · replace H := hF c18 H
              refine mm_aload_n dX10_takeFact_99 rfl ?_
              obtain ⟨q19, H20, H⟩ := hC H
              refine mm_callV (d' := d - 1) (as := []) (st := []) (dS hd) cm_X10_takeNumber (mm_t4 109 rfl rfl) (mm_t4 111 rfl rfl) (mm_s2 7 rfl rfl) (T := TX10) (N := 13) rfl dX10_takeFact_100 (R.oC (r := 110) rfl lay_110) rfl (Nat.le_of_ble_eq_true rfl) (Nat.le_of_ble_eq_true rfl) rfl rfl (t_X10_takeNumber (dL hd (by decide)) R H20) (fun o h q => th_cI q (fun R => ?_))
              refine mm_if_ne 108 dX10_takeFact_103 (by decide) (fun c21 => ?_) (fun c21 => ?_)
              · replace H := hF c21 H
                refine mm_aload_n dX10_takeFact_108 rfl ?_
                refine rC_getR (t := 82) lk_X10_23_X10 lay_110 rfl rfl dX10_takeFact_109 R ?_
                refine mm_iload_n dX10_takeFact_112 rfl ?_
                refine mm_iload dX10_takeFact_113 rfl ?_
                refine mm_aload_n dX10_takeFact_115 rfl ?_
                refine rC_get (key := 11009) lk_X10_178_X10 lay_110 rfl rfl rfl dX10_takeFact_116 R ?_
                obtain ⟨q22, H23, H⟩ := hC H
                refine mm_callV (d' := d - 1) (as := [.int (gI q7.2 11009), .int (gI q13.2 11009), .int (gI q19.2 11009)]) (st := []) (dS hd) cm_X3_setNumbers (mm_t4 113 rfl rfl) (mm_t4 114 rfl rfl) (mm_t4 115 rfl rfl) (T := TX3) (N := 9) rfl dX10_takeFact_119 (R.oC (r := 84) rfl lay_84) rfl (Nat.le_of_ble_eq_true rfl) (Nat.le_of_ble_eq_true rfl) rfl rfl (t_X3_setNumbers (dL hd (by decide)) R H23) (fun o h q => th_cV q (fun R => ?_))
                refine mm_aload_n dX10_takeFact_122 rfl ?_
                refine mm_bipush (v := 125) dX10_takeFact_123 (by decide +kernel) ?_
                obtain ⟨q24, H25, H⟩ := hC H
                refine mm_callV (d' := d - 1) (as := [.int 125]) (st := []) (dS hd) cm_X10_expect (mm_t4 38 rfl rfl) (mm_t4 40 rfl rfl) (mm_s1 12 rfl rfl) (T := TX10) (N := 13) rfl dX10_takeFact_125 (R.oC (r := 110) rfl lay_110) rfl (Nat.le_of_ble_eq_true rfl) (Nat.le_of_ble_eq_true rfl) rfl rfl (t_X10_expect (dL hd (by decide)) R H25) (fun o h q => th_cI q (fun R => ?_))
                obtain ⟨b26, H⟩ := hB H
                refine mm_iret rfl (congrArg Value.int b26) dX10_takeFact_128 ?_
                exact en_cI H R
              · replace H := hT c21 H
                refine mm_iconst (v := 0) dX10_takeFact_106 (by decide +kernel) ?_
                refine mm_iret rfl rfl dX10_takeFact_107 ?_
                exact en_cI H R
          · replace H := hT c15 H
            refine mm_iconst (v := 0) dX10_takeFact_82 (by decide +kernel) ?_
            refine mm_iret rfl rfl dX10_takeFact_83 ?_
            exact en_cI H R
      · replace H := hT c9 H
        refine mm_iconst (v := 0) dX10_takeFact_59 (by decide +kernel) ?_
        refine mm_iret rfl rfl dX10_takeFact_60 ?_
        exact en_cI H R
    · replace H := hF c4 H
      refine mm_aload_n dX10_takeFact_24 rfl ?_
      refine mm_iconst (v := 5) dX10_takeFact_25 (by decide +kernel) ?_
      refine mm_iload_n dX10_takeFact_26 rfl ?_
      obtain ⟨q27, H28, H⟩ := hC H
      refine mm_callV (d' := d - 1) (as := [.int 5, .int (gI C 11007)]) (st := []) (dS hd) cm_X10_refuse (mm_t4 27 rfl rfl) (mm_t4 29 rfl rfl) (mm_s1 11 rfl rfl) (T := TX10) (N := 13) rfl dX10_takeFact_27 (R.oC (r := 110) rfl lay_110) rfl (Nat.le_of_ble_eq_true rfl) (Nat.le_of_ble_eq_true rfl) rfl rfl (t_X10_refuse (dL hd (by decide)) R H28) (fun o h q => th_cI q (fun R => ?_))
      obtain ⟨b29, H⟩ := hB H
      refine mm_iret rfl (congrArg Value.int b29) dX10_takeFact_30 ?_
      exact en_cI H R
  · replace H := hT c3 H
    refine mm_iconst (v := 0) dX10_takeFact_12 (by decide +kernel) ?_
    refine mm_iret rfl rfl dX10_takeFact_13 ?_
    exact en_cI H R
def f_X10_takeRest_L10 (N : Nat) (x1 : Int32) (x2 : Int32) : Nat → Int32 → Int32 → CS → Option (Int32 × CS)
  | 0, _, _, _ => none
  | n + 1, x3, x4, C => if 60 < x4 then (some (x3, C))
    else (if x3 = 0 then (some (x3, C))
      else (bnd (f_X10_lineEnds C) fun q3 =>
      if q3 = 0 then (bnd (f_X10_sign C) fun q6 =>
        if q6 = 123 then (bnd (f_X10_takeFact N x1 C) fun q19 =>
          f_X10_takeRest_L10 N x1 x2 n q19.1 (x4 + 1) q19.2)
          else (if q6 = 60 then (bnd (f_X10_takeMention N x1 C) fun q17 =>
            f_X10_takeRest_L10 N x1 x2 n q17.1 (x4 + 1) q17.2)
            else (bnd (f_X10_isPlain q6 C) fun q10 =>
            if q10 = 0 then (bnd (f_X10_refuse 1 (gI C 11007) C) fun q13 =>
              f_X10_takeRest_L10 N x1 x2 n q13.1 (x4 + 1) q13.2)
              else (bnd (f_X10_step C) fun q15 =>
              f_X10_takeRest_L10 N x1 x2 n q15.1 (x4 + 1) q15.2))))
        else (some (x3, C))))
theorem t_X10_takeRest_L10 {g : mm_G} {d : Nat} {Post : mm_Ou → mm_Hp → Prop} {D : CS} {N : Nat} {x1 : Int32} {x2 : Int32} {res : (Int32 × CS)} (hd : 4 ≤ d) (KE : ∀ (h1 : mm_Hp), Rep h1 res.2 D → mm_P g d MX10_takeRest 97 [some (.ref 110), none, some (.int x2), some (.int res.1), none, none] [] h1 Post) : ∀ (n : Nat) (x3 : Int32) (x4 : Int32) (C : CS) (h : mm_Hp) , Rep h C D → f_X10_takeRest_L10 N x1 x2 n x3 x4 C = some res → mm_P g d MX10_takeRest 10 [some (.ref 110), some (.int x1), some (.int x2), some (.int x3), some (.int x4), none] [] h Post := by
  intro n
  induction n with
  | zero =>
    intro x3 x4 C h R H
    exact hN H
  | succ n ih =>
    intro x3 x4 C h R H
    unfold f_X10_takeRest_L10 at H
    refine mm_iload dX10_takeRest_10 rfl ?_
    refine mm_bipush (v := 60) dX10_takeRest_12 (by decide +kernel) ?_
    refine mm_icmp_gt 97 dX10_takeRest_14 (by decide) (fun c1 => ?_) (fun c1 => ?_)
    · replace H := hT c1 H
      refine mm_fgt (ls' := [some (.ref 110), none, some (.int x2), some (.int x3), none, none]) ⟨rfl, rfl, rfl, trivial⟩ ?_
      cases H
      exact KE _ R
    · replace H := hF c1 H
      refine mm_iload_n dX10_takeRest_17 rfl ?_
      refine mm_if_eq 97 dX10_takeRest_18 (by decide) (fun c2 => ?_) (fun c2 => ?_)
      · replace H := hT c2 H
        refine mm_fgt (ls' := [some (.ref 110), none, some (.int x2), some (.int x3), none, none]) ⟨rfl, rfl, rfl, trivial⟩ ?_
        cases H
        exact KE _ R
      · replace H := hF c2 H
        refine mm_aload_n dX10_takeRest_21 rfl ?_
        obtain ⟨q3, H4, H⟩ := hC H
        refine mm_callV (d' := d - 1) (as := []) (st := []) (dS hd) cm_X10_lineEnds (mm_t4 85 rfl rfl) (mm_t4 87 rfl rfl) (mm_s2 4 rfl rfl) (T := TX10) (N := 13) rfl dX10_takeRest_22 (R.oC (r := 110) rfl lay_110) rfl (Nat.le_of_ble_eq_true rfl) (Nat.le_of_ble_eq_true rfl) rfl rfl (t_X10_lineEnds (dL hd (by decide)) R H4) (fun o u q => mm_thenI q ?_)
        refine mm_if_ne 97 dX10_takeRest_25 (by decide) (fun c5 => ?_) (fun c5 => ?_)
        · replace H := hF c5 H
          refine mm_fgt (ls' := [some (.ref 110), none, some (.int x2), some (.int x3), none, none]) ⟨rfl, rfl, rfl, trivial⟩ ?_
          cases H
          exact KE _ R
        · replace H := hT c5 H
          refine mm_aload_n dX10_takeRest_28 rfl ?_
          obtain ⟨q6, H7, H⟩ := hC H
          refine mm_callV (d' := d - 1) (as := []) (st := []) (dS hd) cm_X10_sign (mm_t3 170 rfl rfl) (mm_t3 172 rfl rfl) (mm_s1 9 rfl rfl) (T := TX10) (N := 13) rfl dX10_takeRest_29 (R.oC (r := 110) rfl lay_110) rfl (Nat.le_of_ble_eq_true rfl) (Nat.le_of_ble_eq_true rfl) rfl rfl (t_X10_sign (dL hd (by decide)) R H7) (fun o u q => mm_thenI q ?_)
          refine mm_istore (ls' := [some (.ref 110), some (.int x1), some (.int x2), some (.int x3), some (.int x4), some (.int q6)]) dX10_takeRest_32 (Nat.le_of_ble_eq_true rfl) rfl ?_
          refine mm_iload dX10_takeRest_34 rfl ?_
          refine mm_bipush (v := 123) dX10_takeRest_36 (by decide +kernel) ?_
          refine mm_icmp_ne 50 dX10_takeRest_38 (by decide) (fun c8 => ?_) (fun c8 => ?_)
          · replace H := hF c8 H
            refine mm_iload dX10_takeRest_50 rfl ?_
            refine mm_bipush (v := 60) dX10_takeRest_52 (by decide +kernel) ?_
            refine mm_icmp_ne 66 dX10_takeRest_54 (by decide) (fun c9 => ?_) (fun c9 => ?_)
            · replace H := hF c9 H
              refine mm_iload dX10_takeRest_66 rfl ?_
              obtain ⟨q10, H11, H⟩ := hC H
              refine mm_callS (d' := d - 1) (as := [.int q6]) (st := []) (dS hd) cm_X10_isPlain (mm_t4 128 rfl rfl) (mm_t4 129 rfl rfl) dX10_takeRest_68 rfl (Nat.le_of_ble_eq_true rfl) (Nat.le_of_ble_eq_true rfl) rfl rfl (t_X10_isPlain (dL hd (by decide)) R H11) (fun o u q => mm_thenI q ?_)
              refine mm_if_eq 81 dX10_takeRest_71 (by decide) (fun c12 => ?_) (fun c12 => ?_)
              · replace H := hT c12 H
                refine mm_aload_n dX10_takeRest_81 rfl ?_
                refine mm_iconst (v := 1) dX10_takeRest_82 (by decide +kernel) ?_
                refine mm_aload_n dX10_takeRest_83 rfl ?_
                refine rC_get (key := 11007) lk_X10_39_X10 lay_110 rfl rfl rfl dX10_takeRest_84 R ?_
                obtain ⟨q13, H14, H⟩ := hC H
                refine mm_callV (d' := d - 1) (as := [.int 1, .int (gI C 11007)]) (st := []) (dS hd) cm_X10_refuse (mm_t4 27 rfl rfl) (mm_t4 29 rfl rfl) (mm_s1 11 rfl rfl) (T := TX10) (N := 13) rfl dX10_takeRest_87 (R.oC (r := 110) rfl lay_110) rfl (Nat.le_of_ble_eq_true rfl) (Nat.le_of_ble_eq_true rfl) rfl rfl (t_X10_refuse (dL hd (by decide)) R H14) (fun o h q => th_cI q (fun R => ?_))
                refine mm_istore_n (ls' := [some (.ref 110), some (.int x1), some (.int x2), some (.int q13.1), some (.int x4), some (.int q6)]) dX10_takeRest_90 (Nat.le_of_ble_eq_true rfl) rfl ?_
                refine mm_iinc (v := (x4 + 1)) (ls' := [some (.ref 110), some (.int x1), some (.int x2), some (.int q13.1), some (.int (x4 + 1)), some (.int q6)]) dX10_takeRest_91 rfl rfl rfl ?_
                refine mm_goto 10 dX10_takeRest_94 (by decide) ?_
                refine mm_fgt (ls' := [some (.ref 110), some (.int x1), some (.int x2), some (.int q13.1), some (.int (x4 + 1)), none]) ⟨rfl, rfl, rfl, rfl, rfl, trivial⟩ ?_
                exact ih _ _ _ _ R H
              · replace H := hF c12 H
                refine mm_aload_n dX10_takeRest_74 rfl ?_
                obtain ⟨q15, H16, H⟩ := hC H
                refine mm_callV (d' := d - 1) (as := []) (st := []) (dS hd) cm_X10_step (mm_t4 42 rfl rfl) (mm_t4 44 rfl rfl) (mm_s1 13 rfl rfl) (T := TX10) (N := 13) rfl dX10_takeRest_75 (R.oC (r := 110) rfl lay_110) rfl (Nat.le_of_ble_eq_true rfl) (Nat.le_of_ble_eq_true rfl) rfl rfl (t_X10_step (dL hd (by decide)) R H16) (fun o h q => th_cI q (fun R => ?_))
                refine mm_goto 90 dX10_takeRest_78 (by decide) ?_
                refine mm_istore_n (ls' := [some (.ref 110), some (.int x1), some (.int x2), some (.int q15.1), some (.int x4), some (.int q6)]) dX10_takeRest_90 (Nat.le_of_ble_eq_true rfl) rfl ?_
                refine mm_iinc (v := (x4 + 1)) (ls' := [some (.ref 110), some (.int x1), some (.int x2), some (.int q15.1), some (.int (x4 + 1)), some (.int q6)]) dX10_takeRest_91 rfl rfl rfl ?_
                refine mm_goto 10 dX10_takeRest_94 (by decide) ?_
                refine mm_fgt (ls' := [some (.ref 110), some (.int x1), some (.int x2), some (.int q15.1), some (.int (x4 + 1)), none]) ⟨rfl, rfl, rfl, rfl, rfl, trivial⟩ ?_
                exact ih _ _ _ _ R H
            · replace H := hT c9 H
              refine mm_aload_n dX10_takeRest_57 rfl ?_
              refine mm_iload_n dX10_takeRest_58 rfl ?_
              obtain ⟨q17, H18, H⟩ := hC H
              refine mm_callV (d' := d - 1) (as := [.int x1]) (st := []) (dS hd) cm_X10_takeMention (mm_t4 117 rfl rfl) (mm_t4 119 rfl rfl) (mm_s2 8 rfl rfl) (T := TX10) (N := 13) rfl dX10_takeRest_59 (R.oC (r := 110) rfl lay_110) rfl (Nat.le_of_ble_eq_true rfl) (Nat.le_of_ble_eq_true rfl) rfl rfl (t_X10_takeMention (dL hd (by decide)) R H18) (fun o h q => th_cI q (fun R => ?_))
              refine mm_istore_n (ls' := [some (.ref 110), some (.int x1), some (.int x2), some (.int q17.1), some (.int x4), some (.int q6)]) dX10_takeRest_62 (Nat.le_of_ble_eq_true rfl) rfl ?_
              refine mm_goto 91 dX10_takeRest_63 (by decide) ?_
              refine mm_iinc (v := (x4 + 1)) (ls' := [some (.ref 110), some (.int x1), some (.int x2), some (.int q17.1), some (.int (x4 + 1)), some (.int q6)]) dX10_takeRest_91 rfl rfl rfl ?_
              refine mm_goto 10 dX10_takeRest_94 (by decide) ?_
              refine mm_fgt (ls' := [some (.ref 110), some (.int x1), some (.int x2), some (.int q17.1), some (.int (x4 + 1)), none]) ⟨rfl, rfl, rfl, rfl, rfl, trivial⟩ ?_
              exact ih _ _ _ _ R H
          · replace H := hT c8 H
            refine mm_aload_n dX10_takeRest_41 rfl ?_
            refine mm_iload_n dX10_takeRest_42 rfl ?_
            obtain ⟨q19, H20, H⟩ := hC H
            refine mm_callV (d' := d - 1) (as := [.int x1]) (st := []) (dS hd) cm_X10_takeFact (mm_t4 98 rfl rfl) (mm_t4 100 rfl rfl) (mm_s2 6 rfl rfl) (T := TX10) (N := 13) rfl dX10_takeRest_43 (R.oC (r := 110) rfl lay_110) rfl (Nat.le_of_ble_eq_true rfl) (Nat.le_of_ble_eq_true rfl) rfl rfl (t_X10_takeFact (dL hd (by decide)) R H20) (fun o h q => th_cI q (fun R => ?_))
            refine mm_istore_n (ls' := [some (.ref 110), some (.int x1), some (.int x2), some (.int q19.1), some (.int x4), some (.int q6)]) dX10_takeRest_46 (Nat.le_of_ble_eq_true rfl) rfl ?_
            refine mm_goto 91 dX10_takeRest_47 (by decide) ?_
            refine mm_iinc (v := (x4 + 1)) (ls' := [some (.ref 110), some (.int x1), some (.int x2), some (.int q19.1), some (.int (x4 + 1)), some (.int q6)]) dX10_takeRest_91 rfl rfl rfl ?_
            refine mm_goto 10 dX10_takeRest_94 (by decide) ?_
            refine mm_fgt (ls' := [some (.ref 110), some (.int x1), some (.int x2), some (.int q19.1), some (.int (x4 + 1)), none]) ⟨rfl, rfl, rfl, rfl, rfl, trivial⟩ ?_
            exact ih _ _ _ _ R H
def f_X10_takeRest_J97 (N : Nat) (x2 : Int32) (x3 : Int32) (C : CS) : Option (Int32 × CS) :=
  if x3 = 0 then (some (0, C))
    else (if x2 < (gI C 11007) then (some (1, C))
      else (bnd (f_X10_refuse 1 (gI C 11007) C) fun q25 =>
      if q25.1 = 0 then (some (0, q25.2))
        else (some (1, q25.2))))
theorem t_X10_takeRest_J97 {g : mm_G} {d : Nat} {h : mm_Hp} {C D : CS} {N : Nat} {x2 : Int32} {x3 : Int32} {r : (Int32 × CS)} (hd : 4 ≤ d) (R : Rep h C D) (H : f_X10_takeRest_J97 N x2 x3 C = some r) : mm_P g d MX10_takeRest 97 [some (.ref 110), none, some (.int x2), some (.int x3), none, none] [] h (cI D r) := by
  unfold f_X10_takeRest_J97 at H
  refine mm_iload_n dX10_takeRest_97 rfl ?_
  refine mm_if_eq 125 dX10_takeRest_98 (by decide) (fun c23 => ?_) (fun c23 => ?_)
  · replace H := hT c23 H
    refine mm_iconst (v := 0) dX10_takeRest_125 (by decide +kernel) ?_
    refine mm_iret rfl rfl dX10_takeRest_126 ?_
    exact en_cI H R
  · replace H := hF c23 H
    refine mm_aload_n dX10_takeRest_101 rfl ?_
    refine rC_get (key := 11007) lk_X10_39_X10 lay_110 rfl rfl rfl dX10_takeRest_102 R ?_
    refine mm_iload_n dX10_takeRest_105 rfl ?_
    refine mm_icmp_gt 121 dX10_takeRest_106 (by decide) (fun c24 => ?_) (fun c24 => ?_)
    · replace H := hT c24 H
      refine mm_iconst (v := 1) dX10_takeRest_121 (by decide +kernel) ?_
      refine mm_goto 126 dX10_takeRest_122 (by decide) ?_
      refine mm_iret rfl rfl dX10_takeRest_126 ?_
      exact en_cI H R
    · replace H := hF c24 H
      refine mm_aload_n dX10_takeRest_109 rfl ?_
      refine mm_iconst (v := 1) dX10_takeRest_110 (by decide +kernel) ?_
      refine mm_aload_n dX10_takeRest_111 rfl ?_
      refine rC_get (key := 11007) lk_X10_39_X10 lay_110 rfl rfl rfl dX10_takeRest_112 R ?_
      obtain ⟨q25, H26, H⟩ := hC H
      refine mm_callV (d' := d - 1) (as := [.int 1, .int (gI C 11007)]) (st := []) (dS hd) cm_X10_refuse (mm_t4 27 rfl rfl) (mm_t4 29 rfl rfl) (mm_s1 11 rfl rfl) (T := TX10) (N := 13) rfl dX10_takeRest_115 (R.oC (r := 110) rfl lay_110) rfl (Nat.le_of_ble_eq_true rfl) (Nat.le_of_ble_eq_true rfl) rfl rfl (t_X10_refuse (dL hd (by decide)) R H26) (fun o h q => th_cI q (fun R => ?_))
      refine mm_if_eq 125 dX10_takeRest_118 (by decide) (fun c27 => ?_) (fun c27 => ?_)
      · replace H := hT c27 H
        refine mm_iconst (v := 0) dX10_takeRest_125 (by decide +kernel) ?_
        refine mm_iret rfl rfl dX10_takeRest_126 ?_
        exact en_cI H R
      · replace H := hF c27 H
        refine mm_iconst (v := 1) dX10_takeRest_121 (by decide +kernel) ?_
        refine mm_goto 126 dX10_takeRest_122 (by decide) ?_
        refine mm_iret rfl rfl dX10_takeRest_126 ?_
        exact en_cI H R
