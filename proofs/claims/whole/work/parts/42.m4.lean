def f_X12_isStruck (N : Nat) (x1 : Int32) (x2 : Int32) (D : CS) : Option Int32 :=
  bnd (f_X12_isStruck_L5 N x1 x2 D N 0 0) fun q7 =>
    if q7 &&& 1 = q7 then some q7 else none
theorem t_X12_isStruck {g : mm_G} {d : Nat} {h : mm_Hp} {C D : CS} {N : Nat} {x1 : Int32} {x2 : Int32} {r : Int32} (hd : 1 ≤ d) (R : Rep h C D) (H : f_X12_isStruck N x1 x2 D = some r) : mm_P g d MX12_isStruck 0 [some (.ref 113), some (.int x1), some (.int x2), none, none] [] h (mm_pureI r h) := by
  unfold f_X12_isStruck at H
  refine mm_iconst (v := 0) dX12_isStruck_0 (by decide +kernel) ?_
  refine mm_istore_n (ls' := [some (.ref 113), some (.int x1), some (.int x2), some (.int 0), none]) dX12_isStruck_1 (Nat.le_of_ble_eq_true rfl) rfl ?_
  refine mm_iconst (v := 0) dX12_isStruck_2 (by decide +kernel) ?_
  refine mm_istore (ls' := [some (.ref 113), some (.int x1), some (.int x2), some (.int 0), some (.int 0)]) dX12_isStruck_3 (Nat.le_of_ble_eq_true rfl) rfl ?_
  obtain ⟨q7, H8, H⟩ := hC H
  refine t_X12_isStruck_L5 hd R ?_ N _ _ H8
  refine mm_iload_n dX12_isStruck_43 rfl ?_
  obtain ⟨b9, H⟩ := hB H
  refine mm_iret rfl (congrArg Value.int b9) dX12_isStruck_44 ?_
  exact en_pI H
def f_X12_level_L5 (N : Nat) (x1 : Int32) (x2 : Int32) (D : CS) : Nat → Int32 → Int32 → Option (Int32)
  | 0, _, _ => none
  | n + 1, x3, x4 => if (gI D 11334) ≤ x4 then (some x3)
    else (bnd (f_X12_isOn x4 x1 x2 D) fun q2 =>
    if q2 = 0 then (f_X12_level_L5 N x1 x2 D n x3 (x4 + 1))
      else (if inb x4 60 = true then (f_X12_level_L5 N x1 x2 D n (if x3 < (gA D 138 (x4).toNatClampNeg) then (gA D 138 (x4).toNatClampNeg) else x3) (x4 + 1)) else none))
theorem t_X12_level_L5 {g : mm_G} {d : Nat} {Post : mm_Ou → mm_Hp → Prop} {h : mm_Hp} {C D : CS} {N : Nat} {x1 : Int32} {x2 : Int32} {res : (Int32)} (hd : 1 ≤ d) (R : Rep h C D) (KE : mm_P g d MX12_level 43 [none, none, none, some (.int res), none] [] h Post) : ∀ (n : Nat) (x3 : Int32) (x4 : Int32) , f_X12_level_L5 N x1 x2 D n x3 x4 = some res → mm_P g d MX12_level 5 [some (.ref 113), some (.int x1), some (.int x2), some (.int x3), some (.int x4)] [] h Post := by
  intro n
  induction n with
  | zero =>
    intro x3 x4 H
    exact hN H
  | succ n ih =>
    intro x3 x4 H
    unfold f_X12_level_L5 at H
    refine mm_iload dX12_level_5 rfl ?_
    refine mm_aload_n dX12_level_7 rfl ?_
    refine rD_get (key := 11334) lk_X12_240_X12 lay_113 rfl rfl rfl dX12_level_8 R ?_
    refine mm_icmp_ge 43 dX12_level_11 (by decide) (fun c1 => ?_) (fun c1 => ?_)
    · replace H := hT c1 H
      refine mm_fgt (ls' := [none, none, none, some (.int x3), none]) ⟨rfl, trivial⟩ ?_
      cases H
      exact KE
    · replace H := hF c1 H
      refine mm_aload_n dX12_level_14 rfl ?_
      refine mm_iload dX12_level_15 rfl ?_
      refine mm_iload_n dX12_level_17 rfl ?_
      refine mm_iload_n dX12_level_18 rfl ?_
      obtain ⟨q2, H3, H⟩ := hC H
      refine mm_callV (d' := d - 1) (as := [.int x4, .int x1, .int x2]) (st := []) (dS hd) cm_X12_isOn (mm_t7 13 rfl rfl) (mm_t7 15 rfl rfl) (mm_s4 5 rfl rfl) (T := TX12) (N := 54) rfl dX12_level_19 (R.oD (r := 113) rfl lay_113) rfl (Nat.le_of_ble_eq_true rfl) (Nat.le_of_ble_eq_true rfl) rfl rfl (t_X12_isOn (dL hd (by decide)) R H3) (fun o u q => mm_thenI q ?_)
      refine mm_if_eq 37 dX12_level_22 (by decide) (fun c4 => ?_) (fun c4 => ?_)
      · replace H := hT c4 H
        refine mm_iinc (v := (x4 + 1)) (ls' := [some (.ref 113), some (.int x1), some (.int x2), some (.int x3), some (.int (x4 + 1))]) dX12_level_37 rfl rfl rfl ?_
        refine mm_goto 5 dX12_level_40 (by decide) ?_
        exact ih _ _ H
      · replace H := hF c4 H
        refine mm_iload_n dX12_level_25 rfl ?_
        refine mm_aload_n dX12_level_26 rfl ?_
        refine rD_getR (t := 136) lk_X12_87_X12 lay_113 rfl rfl dX12_level_27 R ?_
        refine mm_iload dX12_level_30 rfl ?_
        obtain ⟨b5, H⟩ := hB H
        refine rD_iald lay_138 rfl dX12_level_32 R b5 ?_
        refine mm_max (mm_t7 58 rfl rfl) (mm_t3 179 rfl rfl) (mm_t1 15 rfl rfl) (mm_t3 180 rfl rfl) (Nat.le_trans (by decide) hd) rfl (Nat.le_of_ble_eq_true rfl) dX12_level_33 ?_
        refine mm_istore_n (ls' := [some (.ref 113), some (.int x1), some (.int x2), some (.int (if x3 < (gA D 138 (x4).toNatClampNeg) then (gA D 138 (x4).toNatClampNeg) else x3)), some (.int x4)]) dX12_level_36 (Nat.le_of_ble_eq_true rfl) rfl ?_
        refine mm_iinc (v := (x4 + 1)) (ls' := [some (.ref 113), some (.int x1), some (.int x2), some (.int (if x3 < (gA D 138 (x4).toNatClampNeg) then (gA D 138 (x4).toNatClampNeg) else x3)), some (.int (x4 + 1))]) dX12_level_37 rfl rfl rfl ?_
        refine mm_goto 5 dX12_level_40 (by decide) ?_
        exact ih _ _ H
def f_X12_level (N : Nat) (x1 : Int32) (x2 : Int32) (D : CS) : Option Int32 :=
  bnd (f_X12_level_L5 N x1 x2 D N 0 0) fun q6 =>
    some q6
theorem t_X12_level {g : mm_G} {d : Nat} {h : mm_Hp} {C D : CS} {N : Nat} {x1 : Int32} {x2 : Int32} {r : Int32} (hd : 1 ≤ d) (R : Rep h C D) (H : f_X12_level N x1 x2 D = some r) : mm_P g d MX12_level 0 [some (.ref 113), some (.int x1), some (.int x2), none, none] [] h (mm_pureI r h) := by
  unfold f_X12_level at H
  refine mm_iconst (v := 0) dX12_level_0 (by decide +kernel) ?_
  refine mm_istore_n (ls' := [some (.ref 113), some (.int x1), some (.int x2), some (.int 0), none]) dX12_level_1 (Nat.le_of_ble_eq_true rfl) rfl ?_
  refine mm_iconst (v := 0) dX12_level_2 (by decide +kernel) ?_
  refine mm_istore (ls' := [some (.ref 113), some (.int x1), some (.int x2), some (.int 0), some (.int 0)]) dX12_level_3 (Nat.le_of_ble_eq_true rfl) rfl ?_
  obtain ⟨q6, H7, H⟩ := hC H
  refine t_X12_level_L5 hd R ?_ N _ _ H7
  refine mm_iload_n dX12_level_43 rfl ?_
  refine mm_iret rfl rfl dX12_level_44 ?_
  exact en_pI H
def f_X12_standsOn (N : Nat) (x1 : Int32) (x2 : Int32) (D : CS) : Option Int32 :=
  if inb x1 150 = true then (if inb (gA D 126 (x1).toNatClampNeg) 300 = true then (bnd (f_X12_restOn N (gA D 122 ((gA D 126 (x1).toNatClampNeg)).toNatClampNeg) x2 D) fun q3 =>
  if inb x1 150 = true then (if q3 = (gA D 126 (x1).toNatClampNeg) then (bnd (f_X12_isStruck N (gA D 122 ((gA D 126 (x1).toNatClampNeg)).toNatClampNeg) x2 D) fun q7 =>
    if q7 = 0 then (if inb (gA D 122 ((gA D 126 (x1).toNatClampNeg)).toNatClampNeg) 200 = true then (if inb (gA D 118 ((gA D 122 ((gA D 126 (x1).toNatClampNeg)).toNatClampNeg)).toNatClampNeg) 200 = true then (if (gA D 116 ((gA D 118 ((gA D 122 ((gA D 126 (x1).toNatClampNeg)).toNatClampNeg)).toNatClampNeg)).toNatClampNeg) = 1 then (some 1)
        else (bnd (f_X12_answered N (gA D 122 ((gA D 126 (x1).toNatClampNeg)).toNatClampNeg) D) fun q13 =>
        if (gA D 116 ((gA D 118 ((gA D 122 ((gA D 126 (x1).toNatClampNeg)).toNatClampNeg)).toNatClampNeg)).toNatClampNeg) = 0 then (if q13 = (-1) then (some 0)
            else (bnd (f_X12_isStruck N q13 x2 D) fun q17 =>
            if q17 = 0 then (if inb q13 200 = true then (if (gA D 116 (q13).toNatClampNeg) = 2 then (some 1)
                else (if inb q13 200 = true then (if (gA D 116 (q13).toNatClampNeg) = 3 then (some (-1))
                  else (some 0)) else none)) else none)
              else (some 0)))
          else (some 0))) else none) else none)
      else (some 0))
    else (some 0)) else none) else none) else none
theorem t_X12_standsOn {g : mm_G} {d : Nat} {h : mm_Hp} {C D : CS} {N : Nat} {x1 : Int32} {x2 : Int32} {r : Int32} (hd : 2 ≤ d) (R : Rep h C D) (H : f_X12_standsOn N x1 x2 D = some r) : mm_P g d MX12_standsOn 0 [some (.ref 113), some (.int x1), some (.int x2), none, none, none] [] h (mm_pureI r h) := by
  unfold f_X12_standsOn at H
  refine mm_aload_n dX12_standsOn_0 rfl ?_
  refine rD_getR (t := 120) lk_X12_38_X12 lay_113 rfl rfl dX12_standsOn_1 R ?_
  refine mm_aload_n dX12_standsOn_4 rfl ?_
  refine rD_getR (t := 124) lk_X12_50_X12 lay_113 rfl rfl dX12_standsOn_5 R ?_
  refine mm_iload_n dX12_standsOn_8 rfl ?_
  obtain ⟨b1, H⟩ := hB H
  refine rD_iald lay_126 rfl dX12_standsOn_9 R b1 ?_
  obtain ⟨b2, H⟩ := hB H
  refine rD_iald lay_122 rfl dX12_standsOn_10 R b2 ?_
  refine mm_istore_n (ls' := [some (.ref 113), some (.int x1), some (.int x2), some (.int (gA D 122 ((gA D 126 (x1).toNatClampNeg)).toNatClampNeg)), none, none]) dX12_standsOn_11 (Nat.le_of_ble_eq_true rfl) rfl ?_
  refine mm_aload_n dX12_standsOn_12 rfl ?_
  refine mm_iload_n dX12_standsOn_13 rfl ?_
  refine mm_iload_n dX12_standsOn_14 rfl ?_
  obtain ⟨q3, H4, H⟩ := hC H
  refine mm_callV (d' := d - 1) (as := [.int (gA D 122 ((gA D 126 (x1).toNatClampNeg)).toNatClampNeg), .int x2]) (st := []) (dS hd) cm_X12_restOn (mm_t7 5 rfl rfl) (mm_t7 7 rfl rfl) (mm_s4 3 rfl rfl) (T := TX12) (N := 54) rfl dX12_standsOn_15 (R.oD (r := 113) rfl lay_113) rfl (Nat.le_of_ble_eq_true rfl) (Nat.le_of_ble_eq_true rfl) rfl rfl (t_X12_restOn (dL hd (by decide)) R H4) (fun o u q => mm_thenI q ?_)
  refine mm_aload_n dX12_standsOn_18 rfl ?_
  refine rD_getR (t := 124) lk_X12_50_X12 lay_113 rfl rfl dX12_standsOn_19 R ?_
  refine mm_iload_n dX12_standsOn_22 rfl ?_
  obtain ⟨b5, H⟩ := hB H
  refine rD_iald lay_126 rfl dX12_standsOn_23 R b5 ?_
  refine mm_icmp_ne 36 dX12_standsOn_24 (by decide) (fun c6 => ?_) (fun c6 => ?_)
  · replace H := hF c6 H
    refine mm_iconst (v := 0) dX12_standsOn_36 (by decide +kernel) ?_
    refine mm_iret rfl rfl dX12_standsOn_37 ?_
    exact en_pI H
  · replace H := hT c6 H
    refine mm_aload_n dX12_standsOn_27 rfl ?_
    refine mm_iload_n dX12_standsOn_28 rfl ?_
    refine mm_iload_n dX12_standsOn_29 rfl ?_
    obtain ⟨q7, H8, H⟩ := hC H
    refine mm_callV (d' := d - 1) (as := [.int (gA D 122 ((gA D 126 (x1).toNatClampNeg)).toNatClampNeg), .int x2]) (st := []) (dS hd) cm_X12_isStruck (mm_t7 9 rfl rfl) (mm_t7 11 rfl rfl) (mm_s4 4 rfl rfl) (T := TX12) (N := 54) rfl dX12_standsOn_30 (R.oD (r := 113) rfl lay_113) rfl (Nat.le_of_ble_eq_true rfl) (Nat.le_of_ble_eq_true rfl) rfl rfl (t_X12_isStruck (dL hd (by decide)) R H8) (fun o u q => mm_thenI q ?_)
    refine mm_if_eq 38 dX12_standsOn_33 (by decide) (fun c9 => ?_) (fun c9 => ?_)
    · replace H := hT c9 H
      refine mm_aload_n dX12_standsOn_38 rfl ?_
      refine rD_getR (t := 114) lk_X12_20_X12 lay_113 rfl rfl dX12_standsOn_39 R ?_
      refine mm_aload_n dX12_standsOn_42 rfl ?_
      refine rD_getR (t := 116) lk_X12_26_X12 lay_113 rfl rfl dX12_standsOn_43 R ?_
      refine mm_iload_n dX12_standsOn_46 rfl ?_
      obtain ⟨b10, H⟩ := hB H
      refine rD_iald lay_118 rfl dX12_standsOn_47 R b10 ?_
      obtain ⟨b11, H⟩ := hB H
      refine rD_iald lay_116 rfl dX12_standsOn_48 R b11 ?_
      refine mm_istore (ls' := [some (.ref 113), some (.int x1), some (.int x2), some (.int (gA D 122 ((gA D 126 (x1).toNatClampNeg)).toNatClampNeg)), some (.int (gA D 116 ((gA D 118 ((gA D 122 ((gA D 126 (x1).toNatClampNeg)).toNatClampNeg)).toNatClampNeg)).toNatClampNeg)), none]) dX12_standsOn_49 (Nat.le_of_ble_eq_true rfl) rfl ?_
      refine mm_iload dX12_standsOn_51 rfl ?_
      refine mm_iconst (v := 1) dX12_standsOn_53 (by decide +kernel) ?_
      refine mm_icmp_ne 59 dX12_standsOn_54 (by decide) (fun c12 => ?_) (fun c12 => ?_)
      · replace H := hF c12 H
        refine mm_aload_n dX12_standsOn_59 rfl ?_
        refine mm_iload_n dX12_standsOn_60 rfl ?_
        obtain ⟨q13, H14, H⟩ := hC H
        refine mm_callV (d' := d - 1) (as := [.int (gA D 122 ((gA D 126 (x1).toNatClampNeg)).toNatClampNeg)]) (st := []) (dS hd) cm_X12_answered (mm_t6 221 rfl rfl) (mm_t6 223 rfl rfl) (mm_s4 0 rfl rfl) (T := TX12) (N := 54) rfl dX12_standsOn_61 (R.oD (r := 113) rfl lay_113) rfl (Nat.le_of_ble_eq_true rfl) (Nat.le_of_ble_eq_true rfl) rfl rfl (t_X12_answered (dL hd (by decide)) R H14) (fun o u q => mm_thenI q ?_)
        refine mm_istore (ls' := [some (.ref 113), some (.int x1), some (.int x2), some (.int (gA D 122 ((gA D 126 (x1).toNatClampNeg)).toNatClampNeg)), some (.int (gA D 116 ((gA D 118 ((gA D 122 ((gA D 126 (x1).toNatClampNeg)).toNatClampNeg)).toNatClampNeg)).toNatClampNeg)), some (.int q13)]) dX12_standsOn_64 (Nat.le_of_ble_eq_true rfl) rfl ?_
        refine mm_iload dX12_standsOn_66 rfl ?_
        refine mm_if_ne 87 dX12_standsOn_68 (by decide) (fun c15 => ?_) (fun c15 => ?_)
        · replace H := hF c15 H
          refine mm_iconst (v := 0) dX12_standsOn_87 (by decide +kernel) ?_
          refine mm_iret rfl rfl dX12_standsOn_88 ?_
          exact en_pI H
        · replace H := hT c15 H
          refine mm_iload dX12_standsOn_71 rfl ?_
          refine mm_iconst (v := (-1)) dX12_standsOn_73 (by decide +kernel) ?_
          refine mm_icmp_eq 87 dX12_standsOn_74 (by decide) (fun c16 => ?_) (fun c16 => ?_)
          · replace H := hT c16 H
            refine mm_iconst (v := 0) dX12_standsOn_87 (by decide +kernel) ?_
            refine mm_iret rfl rfl dX12_standsOn_88 ?_
            exact en_pI H
          · replace H := hF c16 H
            refine mm_aload_n dX12_standsOn_77 rfl ?_
            refine mm_iload dX12_standsOn_78 rfl ?_
            refine mm_iload_n dX12_standsOn_80 rfl ?_
            obtain ⟨q17, H18, H⟩ := hC H
            refine mm_callV (d' := d - 1) (as := [.int q13, .int x2]) (st := []) (dS hd) cm_X12_isStruck (mm_t7 9 rfl rfl) (mm_t7 11 rfl rfl) (mm_s4 4 rfl rfl) (T := TX12) (N := 54) rfl dX12_standsOn_81 (R.oD (r := 113) rfl lay_113) rfl (Nat.le_of_ble_eq_true rfl) (Nat.le_of_ble_eq_true rfl) rfl rfl (t_X12_isStruck (dL hd (by decide)) R H18) (fun o u q => mm_thenI q ?_)
            refine mm_if_eq 89 dX12_standsOn_84 (by decide) (fun c19 => ?_) (fun c19 => ?_)
            · replace H := hT c19 H
              refine mm_aload_n dX12_standsOn_89 rfl ?_
              refine rD_getR (t := 114) lk_X12_20_X12 lay_113 rfl rfl dX12_standsOn_90 R ?_
              refine mm_iload dX12_standsOn_93 rfl ?_
              obtain ⟨b20, H⟩ := hB H
              refine rD_iald lay_116 rfl dX12_standsOn_95 R b20 ?_
              refine mm_iconst (v := 2) dX12_standsOn_96 (by decide +kernel) ?_
              refine mm_icmp_ne 104 dX12_standsOn_97 (by decide) (fun c21 => ?_) (fun c21 => ?_)
              · replace H := hF c21 H
                refine mm_aload_n dX12_standsOn_104 rfl ?_
                refine rD_getR (t := 114) lk_X12_20_X12 lay_113 rfl rfl dX12_standsOn_105 R ?_
                refine mm_iload dX12_standsOn_108 rfl ?_
                obtain ⟨b22, H⟩ := hB H
                refine rD_iald lay_116 rfl dX12_standsOn_110 R b22 ?_
                refine mm_iconst (v := 3) dX12_standsOn_111 (by decide +kernel) ?_
                refine mm_icmp_ne 119 dX12_standsOn_112 (by decide) (fun c23 => ?_) (fun c23 => ?_)
                · replace H := hF c23 H
                  refine mm_iconst (v := 0) dX12_standsOn_119 (by decide +kernel) ?_
                  refine mm_iret rfl rfl dX12_standsOn_120 ?_
                  exact en_pI H
                · replace H := hT c23 H
                  refine mm_iconst (v := (-1)) dX12_standsOn_115 (by decide +kernel) ?_
                  refine mm_goto 120 dX12_standsOn_116 (by decide) ?_
                  refine mm_iret rfl rfl dX12_standsOn_120 ?_
                  exact en_pI H
              · replace H := hT c21 H
                refine mm_iconst (v := 1) dX12_standsOn_100 (by decide +kernel) ?_
                refine mm_goto 120 dX12_standsOn_101 (by decide) ?_
                refine mm_iret rfl rfl dX12_standsOn_120 ?_
                exact en_pI H
            · replace H := hF c19 H
              refine mm_iconst (v := 0) dX12_standsOn_87 (by decide +kernel) ?_
              refine mm_iret rfl rfl dX12_standsOn_88 ?_
              exact en_pI H
      · replace H := hT c12 H
        refine mm_iconst (v := 1) dX12_standsOn_57 (by decide +kernel) ?_
        refine mm_iret rfl rfl dX12_standsOn_58 ?_
        exact en_pI H
    · replace H := hF c9 H
      refine mm_iconst (v := 0) dX12_standsOn_36 (by decide +kernel) ?_
      refine mm_iret rfl rfl dX12_standsOn_37 ?_
      exact en_pI H
def f_X12_stands (N : Nat) (x1 : Int32) (x2 : Int32) (D : CS) : Option (Int32 × CS) :=
  bd (sI D 11300 0) fun D1 =>
  bnd (f_X12_isFact x1 D1) fun q3 =>
  if q3 = 0 then (bnd (f_X12_fail 1 D1) fun q6 =>
    some (q6.1, q6.2))
    else (bnd (f_X12_standsOn N x1 x2 D1) fun q8 =>
    some (q8, D1))
theorem t_X12_stands {g : mm_G} {d : Nat} {h : mm_Hp} {C D : CS} {N : Nat} {x1 : Int32} {x2 : Int32} {r : (Int32 × CS)} (hd : 3 ≤ d) (R : Rep h C D) (H : f_X12_stands N x1 x2 D = some r) : mm_P g d MX12_stands 0 [some (.ref 113), some (.int x1), some (.int x2)] [] h (dI C r) := by
  unfold f_X12_stands at H
  refine mm_aload_n dX12_stands_0 rfl ?_
  refine mm_iconst (v := 0) dX12_stands_1 (by decide +kernel) ?_
  obtain ⟨D1, e2, H⟩ := hD H
  refine rD_put (key := 11300) lk_X12_111_X12 lay_113 rfl rfl rfl rfl rfl dX12_stands_2 R e2 (fun h R => ?_)
  refine mm_aload_n dX12_stands_5 rfl ?_
  refine mm_iload_n dX12_stands_6 rfl ?_
  obtain ⟨q3, H4, H⟩ := hC H
  refine mm_callV (d' := d - 1) (as := [.int x1]) (st := []) (dS hd) cm_X12_isFact (mm_t6 233 rfl rfl) (mm_t6 235 rfl rfl) (mm_s4 1 rfl rfl) (T := TX12) (N := 54) rfl dX12_stands_7 (R.oD (r := 113) rfl lay_113) rfl (Nat.le_of_ble_eq_true rfl) (Nat.le_of_ble_eq_true rfl) rfl rfl (t_X12_isFact (dL hd (by decide)) R H4) (fun o u q => mm_thenI q ?_)
  refine mm_if_eq 22 dX12_stands_10 (by decide) (fun c5 => ?_) (fun c5 => ?_)
  · replace H := hT c5 H
    refine mm_aload_n dX12_stands_22 rfl ?_
    refine mm_iconst (v := 1) dX12_stands_23 (by decide +kernel) ?_
    obtain ⟨q6, H7, H⟩ := hC H
    refine mm_callV (d' := d - 1) (as := [.int 1]) (st := []) (dS hd) cm_X12_fail (mm_t6 129 rfl rfl) (mm_t6 131 rfl rfl) (mm_s2 15 rfl rfl) (T := TX12) (N := 54) rfl dX12_stands_24 (R.oD (r := 113) rfl lay_113) rfl (Nat.le_of_ble_eq_true rfl) (Nat.le_of_ble_eq_true rfl) rfl rfl (t_X12_fail (dL hd (by decide)) R H7) (fun o h q => th_dI q (fun R => ?_))
    refine mm_iret rfl rfl dX12_stands_27 ?_
    exact en_dI H R
  · replace H := hF c5 H
    refine mm_aload_n dX12_stands_13 rfl ?_
    refine mm_iload_n dX12_stands_14 rfl ?_
    refine mm_iload_n dX12_stands_15 rfl ?_
    obtain ⟨q8, H9, H⟩ := hC H
    refine mm_callV (d' := d - 1) (as := [.int x1, .int x2]) (st := []) (dS hd) cm_X12_standsOn (mm_t7 1 rfl rfl) (mm_t7 3 rfl rfl) (mm_s4 2 rfl rfl) (T := TX12) (N := 54) rfl dX12_stands_16 (R.oD (r := 113) rfl lay_113) rfl (Nat.le_of_ble_eq_true rfl) (Nat.le_of_ble_eq_true rfl) rfl rfl (t_X12_standsOn (dL hd (by decide)) R H9) (fun o u q => mm_thenI q ?_)
    refine mm_goto 27 dX12_stands_19 (by decide) ?_
    refine mm_iret rfl rfl dX12_stands_27 ?_
    exact en_dI H R
def f_X12_doQuarrel_J75 (N : Nat) (x1 : Int32) (x2 : Int32) (x4 : Int32) (x5 : Int32) (D : CS) : Option Int32 :=
  if (x4 * x5) = (-1) then (if inb x1 150 = true then (if inb x2 150 = true then (if (gA D 129 (x1).toNatClampNeg) = (gA D 129 (x2).toNatClampNeg) then (some 1)
      else (some 0)) else none) else none)
    else (some 0)
theorem t_X12_doQuarrel_J75 {g : mm_G} {d : Nat} {h : mm_Hp} {C D : CS} {N : Nat} {x1 : Int32} {x2 : Int32} {x4 : Int32} {x5 : Int32} {r : Int32} (hd : 3 ≤ d) (R : Rep h C D) (H : f_X12_doQuarrel_J75 N x1 x2 x4 x5 D = some r) : mm_P g d MX12_doQuarrel 75 [some (.ref 113), some (.int x1), some (.int x2), none, some (.int x4), some (.int x5)] [] h (mm_pureI r h) := by
  unfold f_X12_doQuarrel_J75 at H
  refine mm_iload dX12_doQuarrel_75 rfl ?_
  refine mm_iload dX12_doQuarrel_77 rfl ?_
  refine mm_imul dX12_doQuarrel_79 ?_
  refine mm_iconst (v := (-1)) dX12_doQuarrel_80 (by decide +kernel) ?_
  refine mm_icmp_ne 103 dX12_doQuarrel_81 (by decide) (fun c12 => ?_) (fun c12 => ?_)
  · replace H := hF c12 H
    refine mm_iconst (v := 0) dX12_doQuarrel_103 (by decide +kernel) ?_
    refine mm_iret rfl rfl dX12_doQuarrel_104 ?_
    exact en_pI H
  · replace H := hT c12 H
    refine mm_aload_n dX12_doQuarrel_84 rfl ?_
    refine rD_getR (t := 127) lk_X12_59_X12 lay_113 rfl rfl dX12_doQuarrel_85 R ?_
    refine mm_iload_n dX12_doQuarrel_88 rfl ?_
    obtain ⟨b13, H⟩ := hB H
    refine rD_iald lay_129 rfl dX12_doQuarrel_89 R b13 ?_
    refine mm_aload_n dX12_doQuarrel_90 rfl ?_
    refine rD_getR (t := 127) lk_X12_59_X12 lay_113 rfl rfl dX12_doQuarrel_91 R ?_
    refine mm_iload_n dX12_doQuarrel_94 rfl ?_
    obtain ⟨b14, H⟩ := hB H
    refine rD_iald lay_129 rfl dX12_doQuarrel_95 R b14 ?_
    refine mm_icmp_ne 103 dX12_doQuarrel_96 (by decide) (fun c15 => ?_) (fun c15 => ?_)
    · replace H := hF c15 H
      refine mm_iconst (v := 0) dX12_doQuarrel_103 (by decide +kernel) ?_
      refine mm_iret rfl rfl dX12_doQuarrel_104 ?_
      exact en_pI H
    · replace H := hT c15 H
      refine mm_iconst (v := 1) dX12_doQuarrel_99 (by decide +kernel) ?_
      refine mm_goto 104 dX12_doQuarrel_100 (by decide) ?_
      refine mm_iret rfl rfl dX12_doQuarrel_104 ?_
      exact en_pI H
def f_X12_doQuarrel (N : Nat) (x1 : Int32) (x2 : Int32) (x3 : Int32) (D : CS) : Option Int32 :=
  if inb x1 150 = true then (if inb x2 150 = true then (if (gA D 127 (x1).toNatClampNeg) = (gA D 127 (x2).toNatClampNeg) then (if inb x1 150 = true then (if inb x2 150 = true then (if (gA D 128 (x1).toNatClampNeg) = (gA D 128 (x2).toNatClampNeg) then (bnd (f_X12_standsOn N x1 x3 D) fun q7 =>
      bnd (f_X12_standsOn N x2 x3 D) fun q9 =>
      if q7 = 1 then (if q9 = 1 then (if inb x1 150 = true then (if inb x2 150 = true then (if (gA D 129 (x1).toNatClampNeg) = (gA D 129 (x2).toNatClampNeg) then (f_X12_doQuarrel_J75 N x1 x2 q7 q9 D)
            else (some 1)) else none) else none)
          else (f_X12_doQuarrel_J75 N x1 x2 q7 q9 D))
        else (f_X12_doQuarrel_J75 N x1 x2 q7 q9 D))
      else (some 0)) else none) else none)
    else (some 0)) else none) else none
theorem t_X12_doQuarrel {g : mm_G} {d : Nat} {h : mm_Hp} {C D : CS} {N : Nat} {x1 : Int32} {x2 : Int32} {x3 : Int32} {r : Int32} (hd : 3 ≤ d) (R : Rep h C D) (H : f_X12_doQuarrel N x1 x2 x3 D = some r) : mm_P g d MX12_doQuarrel 0 [some (.ref 113), some (.int x1), some (.int x2), some (.int x3), none, none] [] h (mm_pureI r h) := by
  unfold f_X12_doQuarrel at H
  refine mm_aload_n dX12_doQuarrel_0 rfl ?_
  refine rD_getR (t := 125) lk_X12_53_X12 lay_113 rfl rfl dX12_doQuarrel_1 R ?_
  refine mm_iload_n dX12_doQuarrel_4 rfl ?_
  obtain ⟨b1, H⟩ := hB H
  refine rD_iald lay_127 rfl dX12_doQuarrel_5 R b1 ?_
  refine mm_aload_n dX12_doQuarrel_6 rfl ?_
  refine rD_getR (t := 125) lk_X12_53_X12 lay_113 rfl rfl dX12_doQuarrel_7 R ?_
  refine mm_iload_n dX12_doQuarrel_10 rfl ?_
  obtain ⟨b2, H⟩ := hB H
  refine rD_iald lay_127 rfl dX12_doQuarrel_11 R b2 ?_
  refine mm_icmp_ne 30 dX12_doQuarrel_12 (by decide) (fun c3 => ?_) (fun c3 => ?_)
  · replace H := hF c3 H
    refine mm_iconst (v := 0) dX12_doQuarrel_30 (by decide +kernel) ?_
    refine mm_iret rfl rfl dX12_doQuarrel_31 ?_
    exact en_pI H
  · replace H := hT c3 H
    refine mm_aload_n dX12_doQuarrel_15 rfl ?_
    refine rD_getR (t := 126) lk_X12_56_X12 lay_113 rfl rfl dX12_doQuarrel_16 R ?_
    refine mm_iload_n dX12_doQuarrel_19 rfl ?_
    obtain ⟨b4, H⟩ := hB H
    refine rD_iald lay_128 rfl dX12_doQuarrel_20 R b4 ?_
    refine mm_aload_n dX12_doQuarrel_21 rfl ?_
    refine rD_getR (t := 126) lk_X12_56_X12 lay_113 rfl rfl dX12_doQuarrel_22 R ?_
    refine mm_iload_n dX12_doQuarrel_25 rfl ?_
    obtain ⟨b5, H⟩ := hB H
    refine rD_iald lay_128 rfl dX12_doQuarrel_26 R b5 ?_
    refine mm_icmp_eq 32 dX12_doQuarrel_27 (by decide) (fun c6 => ?_) (fun c6 => ?_)
    · replace H := hT c6 H
      refine mm_aload_n dX12_doQuarrel_32 rfl ?_
      refine mm_iload_n dX12_doQuarrel_33 rfl ?_
      refine mm_iload_n dX12_doQuarrel_34 rfl ?_
      obtain ⟨q7, H8, H⟩ := hC H
      refine mm_callV (d' := d - 1) (as := [.int x1, .int x3]) (st := []) (dS hd) cm_X12_standsOn (mm_t7 1 rfl rfl) (mm_t7 3 rfl rfl) (mm_s4 2 rfl rfl) (T := TX12) (N := 54) rfl dX12_doQuarrel_35 (R.oD (r := 113) rfl lay_113) rfl (Nat.le_of_ble_eq_true rfl) (Nat.le_of_ble_eq_true rfl) rfl rfl (t_X12_standsOn (dL hd (by decide)) R H8) (fun o u q => mm_thenI q ?_)
      refine mm_istore (ls' := [some (.ref 113), some (.int x1), some (.int x2), some (.int x3), some (.int q7), none]) dX12_doQuarrel_38 (Nat.le_of_ble_eq_true rfl) rfl ?_
      refine mm_aload_n dX12_doQuarrel_40 rfl ?_
      refine mm_iload_n dX12_doQuarrel_41 rfl ?_
      refine mm_iload_n dX12_doQuarrel_42 rfl ?_
      obtain ⟨q9, H10, H⟩ := hC H
      refine mm_callV (d' := d - 1) (as := [.int x2, .int x3]) (st := []) (dS hd) cm_X12_standsOn (mm_t7 1 rfl rfl) (mm_t7 3 rfl rfl) (mm_s4 2 rfl rfl) (T := TX12) (N := 54) rfl dX12_doQuarrel_43 (R.oD (r := 113) rfl lay_113) rfl (Nat.le_of_ble_eq_true rfl) (Nat.le_of_ble_eq_true rfl) rfl rfl (t_X12_standsOn (dL hd (by decide)) R H10) (fun o u q => mm_thenI q ?_)
      refine mm_istore (ls' := [some (.ref 113), some (.int x1), some (.int x2), some (.int x3), some (.int q7), some (.int q9)]) dX12_doQuarrel_46 (Nat.le_of_ble_eq_true rfl) rfl ?_
      refine mm_iload dX12_doQuarrel_48 rfl ?_
      refine mm_iconst (v := 1) dX12_doQuarrel_50 (by decide +kernel) ?_
      refine mm_icmp_ne 75 dX12_doQuarrel_51 (by decide) (fun c11 => ?_) (fun c11 => ?_)
      · replace H := hF c11 H
        refine mm_fgt (ls' := [some (.ref 113), some (.int x1), some (.int x2), none, some (.int q7), some (.int q9)]) ⟨rfl, rfl, rfl, rfl, rfl, trivial⟩ ?_
        exact t_X12_doQuarrel_J75 hd R H
      · replace H := hT c11 H
        refine mm_iload dX12_doQuarrel_54 rfl ?_
        refine mm_iconst (v := 1) dX12_doQuarrel_56 (by decide +kernel) ?_
        refine mm_icmp_ne 75 dX12_doQuarrel_57 (by decide) (fun c16 => ?_) (fun c16 => ?_)
        · replace H := hF c16 H
          refine mm_fgt (ls' := [some (.ref 113), some (.int x1), some (.int x2), none, some (.int q7), some (.int q9)]) ⟨rfl, rfl, rfl, rfl, rfl, trivial⟩ ?_
          exact t_X12_doQuarrel_J75 hd R H
        · replace H := hT c16 H
          refine mm_aload_n dX12_doQuarrel_60 rfl ?_
          refine rD_getR (t := 127) lk_X12_59_X12 lay_113 rfl rfl dX12_doQuarrel_61 R ?_
          refine mm_iload_n dX12_doQuarrel_64 rfl ?_
          obtain ⟨b17, H⟩ := hB H
          refine rD_iald lay_129 rfl dX12_doQuarrel_65 R b17 ?_
          refine mm_aload_n dX12_doQuarrel_66 rfl ?_
          refine rD_getR (t := 127) lk_X12_59_X12 lay_113 rfl rfl dX12_doQuarrel_67 R ?_
          refine mm_iload_n dX12_doQuarrel_70 rfl ?_
          obtain ⟨b18, H⟩ := hB H
          refine rD_iald lay_129 rfl dX12_doQuarrel_71 R b18 ?_
          refine mm_icmp_ne 99 dX12_doQuarrel_72 (by decide) (fun c19 => ?_) (fun c19 => ?_)
          · replace H := hF c19 H
            refine mm_iconst (v := 1) dX12_doQuarrel_99 (by decide +kernel) ?_
            refine mm_goto 104 dX12_doQuarrel_100 (by decide) ?_
            refine mm_iret rfl rfl dX12_doQuarrel_104 ?_
            exact en_pI H
          · replace H := hT c19 H
            refine mm_fgt (ls' := [some (.ref 113), some (.int x1), some (.int x2), none, some (.int q7), some (.int q9)]) ⟨rfl, rfl, rfl, rfl, rfl, trivial⟩ ?_
            exact t_X12_doQuarrel_J75 hd R H
    · replace H := hF c6 H
      refine mm_iconst (v := 0) dX12_doQuarrel_30 (by decide +kernel) ?_
      refine mm_iret rfl rfl dX12_doQuarrel_31 ?_
      exact en_pI H
def f_X12_quarrels_L22 (N : Nat) (x1 : Int32) (x3 : Int32) (D : CS) : Nat → Int32 → Int32 → Option (Int32)
  | 0, _, _ => none
  | n + 1, x2, x4 => if (gI D 11320) ≤ x4 then (some x2)
    else (bnd (f_X12_doQuarrel N x3 x4 x1 D) fun q5 =>
    if q5 = 0 then (f_X12_quarrels_L22 N x1 x3 D n (x2 + 0) (x4 + 1))
      else (f_X12_quarrels_L22 N x1 x3 D n (x2 + 1) (x4 + 1)))
theorem t_X12_quarrels_L22 {g : mm_G} {d : Nat} {Post : mm_Ou → mm_Hp → Prop} {h : mm_Hp} {C D : CS} {N : Nat} {x1 : Int32} {x3 : Int32} {res : (Int32)} (hd : 4 ≤ d) (R : Rep h C D) (KE : mm_P g d MX12_quarrels 56 [some (.ref 113), some (.int x1), some (.int res), some (.int x3), none] [] h Post) : ∀ (n : Nat) (x2 : Int32) (x4 : Int32) , f_X12_quarrels_L22 N x1 x3 D n x2 x4 = some res → mm_P g d MX12_quarrels 22 [some (.ref 113), some (.int x1), some (.int x2), some (.int x3), some (.int x4)] [] h Post := by
  intro n
  induction n with
  | zero =>
    intro x2 x4 H
    exact hN H
  | succ n ih =>
    intro x2 x4 H
    unfold f_X12_quarrels_L22 at H
    refine mm_iload dX12_quarrels_22 rfl ?_
    refine mm_aload_n dX12_quarrels_24 rfl ?_
    refine rD_get (key := 11320) lk_X12_188_X12 lay_113 rfl rfl rfl dX12_quarrels_25 R ?_
    refine mm_icmp_ge 56 dX12_quarrels_28 (by decide) (fun c4 => ?_) (fun c4 => ?_)
    · replace H := hT c4 H
      refine mm_fgt (ls' := [some (.ref 113), some (.int x1), some (.int x2), some (.int x3), none]) ⟨rfl, rfl, rfl, rfl, trivial⟩ ?_
      cases H
      exact KE
    · replace H := hF c4 H
      refine mm_iload_n dX12_quarrels_31 rfl ?_
      refine mm_aload_n dX12_quarrels_32 rfl ?_
      refine mm_iload_n dX12_quarrels_33 rfl ?_
      refine mm_iload dX12_quarrels_34 rfl ?_
      refine mm_iload_n dX12_quarrels_36 rfl ?_
      obtain ⟨q5, H6, H⟩ := hC H
      refine mm_callV (d' := d - 1) (as := [.int x3, .int x4, .int x1]) (st := [.int x2]) (dS hd) cm_X12_doQuarrel (mm_t7 21 rfl rfl) (mm_t7 23 rfl rfl) (mm_s4 6 rfl rfl) (T := TX12) (N := 54) rfl dX12_quarrels_37 (R.oD (r := 113) rfl lay_113) rfl (Nat.le_of_ble_eq_true rfl) (Nat.le_of_ble_eq_true rfl) rfl rfl (t_X12_doQuarrel (dL hd (by decide)) R H6) (fun o u q => mm_thenI q ?_)
      refine mm_if_eq 47 dX12_quarrels_40 (by decide) (fun c7 => ?_) (fun c7 => ?_)
      · replace H := hT c7 H
        refine mm_iconst (v := 0) dX12_quarrels_47 (by decide +kernel) ?_
        refine mm_iadd dX12_quarrels_48 ?_
        refine mm_istore_n (ls' := [some (.ref 113), some (.int x1), some (.int (x2 + 0)), some (.int x3), some (.int x4)]) dX12_quarrels_49 (Nat.le_of_ble_eq_true rfl) rfl ?_
        refine mm_iinc (v := (x4 + 1)) (ls' := [some (.ref 113), some (.int x1), some (.int (x2 + 0)), some (.int x3), some (.int (x4 + 1))]) dX12_quarrels_50 rfl rfl rfl ?_
        refine mm_goto 22 dX12_quarrels_53 (by decide) ?_
        exact ih _ _ H
      · replace H := hF c7 H
        refine mm_iconst (v := 1) dX12_quarrels_43 (by decide +kernel) ?_
        refine mm_goto 48 dX12_quarrels_44 (by decide) ?_
        refine mm_iadd dX12_quarrels_48 ?_
        refine mm_istore_n (ls' := [some (.ref 113), some (.int x1), some (.int (x2 + 1)), some (.int x3), some (.int x4)]) dX12_quarrels_49 (Nat.le_of_ble_eq_true rfl) rfl ?_
        refine mm_iinc (v := (x4 + 1)) (ls' := [some (.ref 113), some (.int x1), some (.int (x2 + 1)), some (.int x3), some (.int (x4 + 1))]) dX12_quarrels_50 rfl rfl rfl ?_
        refine mm_goto 22 dX12_quarrels_53 (by decide) ?_
        exact ih _ _ H
def f_X12_quarrels_L9 (N : Nat) (x1 : Int32) (D : CS) : Nat → Int32 → Int32 → Option (Int32)
  | 0, _, _ => none
  | n + 1, x2, x3 => if (gI D 11320) ≤ x3 then (some x2)
    else (bnd (f_X12_quarrels_L22 N x1 x3 D N x2 (x3 + 1)) fun q8 =>
      f_X12_quarrels_L9 N x1 D n q8 (x3 + 1))
theorem t_X12_quarrels_L9 {g : mm_G} {d : Nat} {Post : mm_Ou → mm_Hp → Prop} {h : mm_Hp} {C D : CS} {N : Nat} {x1 : Int32} {res : (Int32)} (hd : 4 ≤ d) (R : Rep h C D) (KE : mm_P g d MX12_quarrels 62 [none, none, some (.int res), none, none] [] h Post) : ∀ (n : Nat) (x2 : Int32) (x3 : Int32) , f_X12_quarrels_L9 N x1 D n x2 x3 = some res → mm_P g d MX12_quarrels 9 [some (.ref 113), some (.int x1), some (.int x2), some (.int x3), none] [] h Post := by
  intro n
  induction n with
  | zero =>
    intro x2 x3 H
    exact hN H
  | succ n ih =>
    intro x2 x3 H
    unfold f_X12_quarrels_L9 at H
    refine mm_iload_n dX12_quarrels_9 rfl ?_
    refine mm_aload_n dX12_quarrels_10 rfl ?_
    refine rD_get (key := 11320) lk_X12_188_X12 lay_113 rfl rfl rfl dX12_quarrels_11 R ?_
    refine mm_icmp_ge 62 dX12_quarrels_14 (by decide) (fun c3 => ?_) (fun c3 => ?_)
    · replace H := hT c3 H
      refine mm_fgt (ls' := [none, none, some (.int x2), none, none]) ⟨rfl, trivial⟩ ?_
      cases H
      exact KE
    · replace H := hF c3 H
      refine mm_iload_n dX12_quarrels_17 rfl ?_
      refine mm_iconst (v := 1) dX12_quarrels_18 (by decide +kernel) ?_
      refine mm_iadd dX12_quarrels_19 ?_
      refine mm_istore (ls' := [some (.ref 113), some (.int x1), some (.int x2), some (.int x3), some (.int (x3 + 1))]) dX12_quarrels_20 (Nat.le_of_ble_eq_true rfl) rfl ?_
      obtain ⟨q8, H9, H⟩ := hC H
      refine t_X12_quarrels_L22 hd R ?_ N _ _ H9
      refine mm_iinc (v := (x3 + 1)) (ls' := [some (.ref 113), some (.int x1), some (.int q8), some (.int (x3 + 1)), none]) dX12_quarrels_56 rfl rfl rfl ?_
      refine mm_goto 9 dX12_quarrels_59 (by decide) ?_
      exact ih _ _ H
def f_X12_quarrels (N : Nat) (x1 : Int32) (D : CS) : Option (Int32 × CS) :=
  bd (sI D 11300 0) fun D1 =>
  bnd (f_X12_quarrels_L9 N x1 D1 N 0 0) fun q10 =>
    some (q10, D1)
theorem t_X12_quarrels {g : mm_G} {d : Nat} {h : mm_Hp} {C D : CS} {N : Nat} {x1 : Int32} {r : (Int32 × CS)} (hd : 4 ≤ d) (R : Rep h C D) (H : f_X12_quarrels N x1 D = some r) : mm_P g d MX12_quarrels 0 [some (.ref 113), some (.int x1), none, none, none] [] h (dI C r) := by
  unfold f_X12_quarrels at H
  refine mm_aload_n dX12_quarrels_0 rfl ?_
  refine mm_iconst (v := 0) dX12_quarrels_1 (by decide +kernel) ?_
  obtain ⟨D1, e2, H⟩ := hD H
  refine rD_put (key := 11300) lk_X12_111_X12 lay_113 rfl rfl rfl rfl rfl dX12_quarrels_2 R e2 (fun h R => ?_)
  refine mm_iconst (v := 0) dX12_quarrels_5 (by decide +kernel) ?_
  refine mm_istore_n (ls' := [some (.ref 113), some (.int x1), some (.int 0), none, none]) dX12_quarrels_6 (Nat.le_of_ble_eq_true rfl) rfl ?_
  refine mm_iconst (v := 0) dX12_quarrels_7 (by decide +kernel) ?_
  refine mm_istore_n (ls' := [some (.ref 113), some (.int x1), some (.int 0), some (.int 0), none]) dX12_quarrels_8 (Nat.le_of_ble_eq_true rfl) rfl ?_
  obtain ⟨q10, H11, H⟩ := hC H
  refine t_X12_quarrels_L9 hd R ?_ N _ _ H11
  refine mm_iload_n dX12_quarrels_62 rfl ?_
  refine mm_iret rfl rfl dX12_quarrels_63 ?_
  exact en_dI H R
def f_X12_quarrel_L39 (N : Nat) (x1 : Int32) (x2 : Int32) (x3 : Int32) (x5 : Int32) (D : CS) : Nat → Int32 → Int32 → Option ((Int32 × CS) ⊕ (Int32))
  | 0, _, _ => none
  | n + 1, x4, x6 => if (gI D 11320) ≤ x6 then (some (.inr x4))
    else (bnd (f_X12_doQuarrel N x5 x6 x2 D) fun q8 =>
    if q8 = 0 then (f_X12_quarrel_L39 N x1 x2 x3 x5 D n x4 (x6 + 1))
      else (if x4 = x1 then (if x3 = 0 then (some (.inl (x5, D)))
          else (some (.inl (x6, D))))
        else (f_X12_quarrel_L39 N x1 x2 x3 x5 D n (x4 + 1) (x6 + 1))))
theorem t_X12_quarrel_L39 {g : mm_G} {d : Nat} {Post : mm_Ou → mm_Hp → Prop} {h : mm_Hp} {C D : CS} {N : Nat} {x1 : Int32} {x2 : Int32} {x3 : Int32} {x5 : Int32} {res : ((Int32 × CS) ⊕ (Int32))} (hd : 4 ≤ d) (R : Rep h C D) (KR : ∀ (q : (Int32 × CS)) (h1 : mm_Hp), res = .inl q → Rep h1 C q.2 → Post (.inl (some (.int q.1))) h1) (KE : ∀ (q : Int32), res = .inr q → mm_P g d MX12_quarrel 90 [some (.ref 113), some (.int x1), some (.int x2), some (.int x3), some (.int q), some (.int x5), none] [] h Post) : ∀ (n : Nat) (x4 : Int32) (x6 : Int32) , f_X12_quarrel_L39 N x1 x2 x3 x5 D n x4 x6 = some res → mm_P g d MX12_quarrel 39 [some (.ref 113), some (.int x1), some (.int x2), some (.int x3), some (.int x4), some (.int x5), some (.int x6)] [] h Post := by
  intro n
  induction n with
  | zero =>
    intro x4 x6 H
    exact hN H
  | succ n ih =>
    intro x4 x6 H
    unfold f_X12_quarrel_L39 at H
    refine mm_iload dX12_quarrel_39 rfl ?_
    refine mm_aload_n dX12_quarrel_41 rfl ?_
    refine rD_get (key := 11320) lk_X12_188_X12 lay_113 rfl rfl rfl dX12_quarrel_42 R ?_
    refine mm_icmp_ge 90 dX12_quarrel_45 (by decide) (fun c7 => ?_) (fun c7 => ?_)
    · replace H := hT c7 H
      refine mm_fgt (ls' := [some (.ref 113), some (.int x1), some (.int x2), some (.int x3), some (.int x4), some (.int x5), none]) ⟨rfl, rfl, rfl, rfl, rfl, rfl, trivial⟩ ?_
      exact KE _ (Option.some.inj H).symm
    · replace H := hF c7 H
      refine mm_aload_n dX12_quarrel_48 rfl ?_
      refine mm_iload dX12_quarrel_49 rfl ?_
      refine mm_iload dX12_quarrel_51 rfl ?_
      refine mm_iload_n dX12_quarrel_53 rfl ?_
      obtain ⟨q8, H9, H⟩ := hC H
      refine mm_callV (d' := d - 1) (as := [.int x5, .int x6, .int x2]) (st := []) (dS hd) cm_X12_doQuarrel (mm_t7 21 rfl rfl) (mm_t7 23 rfl rfl) (mm_s4 6 rfl rfl) (T := TX12) (N := 54) rfl dX12_quarrel_54 (R.oD (r := 113) rfl lay_113) rfl (Nat.le_of_ble_eq_true rfl) (Nat.le_of_ble_eq_true rfl) rfl rfl (t_X12_doQuarrel (dL hd (by decide)) R H9) (fun o u q => mm_thenI q ?_)
      refine mm_if_ne 63 dX12_quarrel_57 (by decide) (fun c10 => ?_) (fun c10 => ?_)
      · replace H := hF c10 H
        refine mm_iload dX12_quarrel_63 rfl ?_
        refine mm_iload_n dX12_quarrel_65 rfl ?_
        refine mm_icmp_ne 81 dX12_quarrel_66 (by decide) (fun c11 => ?_) (fun c11 => ?_)
        · replace H := hF c11 H
          refine mm_iinc (v := (x4 + 1)) (ls' := [some (.ref 113), some (.int x1), some (.int x2), some (.int x3), some (.int (x4 + 1)), some (.int x5), some (.int x6)]) dX12_quarrel_81 rfl rfl rfl ?_
          refine mm_iinc (v := (x6 + 1)) (ls' := [some (.ref 113), some (.int x1), some (.int x2), some (.int x3), some (.int (x4 + 1)), some (.int x5), some (.int (x6 + 1))]) dX12_quarrel_84 rfl rfl rfl ?_
          refine mm_goto 39 dX12_quarrel_87 (by decide) ?_
          exact ih _ _ H
        · replace H := hT c11 H
          refine mm_iload_n dX12_quarrel_69 rfl ?_
          refine mm_if_ne 78 dX12_quarrel_70 (by decide) (fun c12 => ?_) (fun c12 => ?_)
          · replace H := hF c12 H
            refine mm_iload dX12_quarrel_78 rfl ?_
            refine mm_iret rfl rfl dX12_quarrel_80 ?_
            exact KR _ _ (Option.some.inj H).symm R
          · replace H := hT c12 H
            refine mm_iload dX12_quarrel_73 rfl ?_
            refine mm_goto 80 dX12_quarrel_75 (by decide) ?_
            refine mm_iret rfl rfl dX12_quarrel_80 ?_
            exact KR _ _ (Option.some.inj H).symm R
      · replace H := hT c10 H
        refine mm_goto 84 dX12_quarrel_60 (by decide) ?_
        refine mm_iinc (v := (x6 + 1)) (ls' := [some (.ref 113), some (.int x1), some (.int x2), some (.int x3), some (.int x4), some (.int x5), some (.int (x6 + 1))]) dX12_quarrel_84 rfl rfl rfl ?_
        refine mm_goto 39 dX12_quarrel_87 (by decide) ?_
        exact ih _ _ H
def f_X12_quarrel_L11 (N : Nat) (x1 : Int32) (x2 : Int32) (x3 : Int32) (D : CS) : Nat → Int32 → Int32 → Option ((Int32 × CS) ⊕ (Unit))
  | 0, _, _ => none
  | n + 1, x4, x5 => if (gI D 11320) ≤ x5 then (some (.inr ()))
    else (if x1 < 0 then (some (.inr ()))
      else (if x3 < 0 then (some (.inr ()))
        else (if 1 < x3 then (some (.inr ()))
          else (bns (f_X12_quarrel_L39 N x1 x2 x3 x5 D N x4 (x5 + 1)) (fun q13 => some (.inl q13)) fun q13 =>
            f_X12_quarrel_L11 N x1 x2 x3 D n q13 (x5 + 1)))))
theorem t_X12_quarrel_L11 {g : mm_G} {d : Nat} {Post : mm_Ou → mm_Hp → Prop} {h : mm_Hp} {C D : CS} {N : Nat} {x1 : Int32} {x2 : Int32} {x3 : Int32} {res : ((Int32 × CS) ⊕ (Unit))} (hd : 4 ≤ d) (R : Rep h C D) (KR : ∀ (q : (Int32 × CS)) (h1 : mm_Hp), res = .inl q → Rep h1 C q.2 → Post (.inl (some (.int q.1))) h1) (KE : ∀ (q : Unit), res = .inr q → mm_P g d MX12_quarrel 96 [some (.ref 113), none, none, none, none, none, none] [] h Post) : ∀ (n : Nat) (x4 : Int32) (x5 : Int32) , f_X12_quarrel_L11 N x1 x2 x3 D n x4 x5 = some res → mm_P g d MX12_quarrel 11 [some (.ref 113), some (.int x1), some (.int x2), some (.int x3), some (.int x4), some (.int x5), none] [] h Post := by
  intro n
  induction n with
  | zero =>
    intro x4 x5 H
    exact hN H
  | succ n ih =>
    intro x4 x5 H
    unfold f_X12_quarrel_L11 at H
    refine mm_iload dX12_quarrel_11 rfl ?_
    refine mm_aload_n dX12_quarrel_13 rfl ?_
    refine rD_get (key := 11320) lk_X12_188_X12 lay_113 rfl rfl rfl dX12_quarrel_14 R ?_
    refine mm_icmp_ge 96 dX12_quarrel_17 (by decide) (fun c3 => ?_) (fun c3 => ?_)
    · replace H := hT c3 H
      refine mm_fgt (ls' := [some (.ref 113), none, none, none, none, none, none]) ⟨rfl, trivial⟩ ?_
      exact KE _ (Option.some.inj H).symm
    · replace H := hF c3 H
      refine mm_iload_n dX12_quarrel_20 rfl ?_
      refine mm_if_lt 96 dX12_quarrel_21 (by decide) (fun c4 => ?_) (fun c4 => ?_)
      · replace H := hT c4 H
        refine mm_fgt (ls' := [some (.ref 113), none, none, none, none, none, none]) ⟨rfl, trivial⟩ ?_
        exact KE _ (Option.some.inj H).symm
      · replace H := hF c4 H
        refine mm_iload_n dX12_quarrel_24 rfl ?_
        refine mm_if_lt 96 dX12_quarrel_25 (by decide) (fun c5 => ?_) (fun c5 => ?_)
        · replace H := hT c5 H
          refine mm_fgt (ls' := [some (.ref 113), none, none, none, none, none, none]) ⟨rfl, trivial⟩ ?_
          exact KE _ (Option.some.inj H).symm
        · replace H := hF c5 H
          refine mm_iload_n dX12_quarrel_28 rfl ?_
          refine mm_iconst (v := 1) dX12_quarrel_29 (by decide +kernel) ?_
          refine mm_icmp_gt 96 dX12_quarrel_30 (by decide) (fun c6 => ?_) (fun c6 => ?_)
          · replace H := hT c6 H
            refine mm_fgt (ls' := [some (.ref 113), none, none, none, none, none, none]) ⟨rfl, trivial⟩ ?_
            exact KE _ (Option.some.inj H).symm
          · replace H := hF c6 H
            refine mm_iload dX12_quarrel_33 rfl ?_
            refine mm_iconst (v := 1) dX12_quarrel_35 (by decide +kernel) ?_
            refine mm_iadd dX12_quarrel_36 ?_
            refine mm_istore (ls' := [some (.ref 113), some (.int x1), some (.int x2), some (.int x3), some (.int x4), some (.int x5), some (.int (x5 + 1))]) dX12_quarrel_37 (Nat.le_of_ble_eq_true rfl) rfl ?_
            rcases hS H with ⟨q13, H14, H⟩ | ⟨q13, H14, H⟩
            · refine t_X12_quarrel_L39 hd R (fun q h e R => ?_) (fun q e => by cases e) N _ _ H14
              cases e
              exact KR _ _ (Option.some.inj H).symm R
            · refine t_X12_quarrel_L39 hd R (fun q h e R => by cases e) (fun q e => ?_) N _ _ H14
              cases e
              refine mm_iinc (v := (x5 + 1)) (ls' := [some (.ref 113), some (.int x1), some (.int x2), some (.int x3), some (.int q13), some (.int (x5 + 1)), none]) dX12_quarrel_90 rfl rfl rfl ?_
              refine mm_goto 11 dX12_quarrel_93 (by decide) ?_
              exact ih _ _ H
def f_X12_quarrel (N : Nat) (x1 : Int32) (x2 : Int32) (x3 : Int32) (D : CS) : Option (Int32 × CS) :=
  bd (sI D 11300 0) fun D1 =>
  bns (f_X12_quarrel_L11 N x1 x2 x3 D1 N 0 0) (fun q15 => some q15) fun q15 =>
    bnd (f_X12_fail 1 D1) fun q17 =>
    some (q17.1, q17.2)
theorem t_X12_quarrel {g : mm_G} {d : Nat} {h : mm_Hp} {C D : CS} {N : Nat} {x1 : Int32} {x2 : Int32} {x3 : Int32} {r : (Int32 × CS)} (hd : 4 ≤ d) (R : Rep h C D) (H : f_X12_quarrel N x1 x2 x3 D = some r) : mm_P g d MX12_quarrel 0 [some (.ref 113), some (.int x1), some (.int x2), some (.int x3), none, none, none] [] h (dI C r) := by
  unfold f_X12_quarrel at H
  refine mm_aload_n dX12_quarrel_0 rfl ?_
  refine mm_iconst (v := 0) dX12_quarrel_1 (by decide +kernel) ?_
  obtain ⟨D1, e2, H⟩ := hD H
  refine rD_put (key := 11300) lk_X12_111_X12 lay_113 rfl rfl rfl rfl rfl dX12_quarrel_2 R e2 (fun h R => ?_)
  refine mm_iconst (v := 0) dX12_quarrel_5 (by decide +kernel) ?_
  refine mm_istore (ls' := [some (.ref 113), some (.int x1), some (.int x2), some (.int x3), some (.int 0), none, none]) dX12_quarrel_6 (Nat.le_of_ble_eq_true rfl) rfl ?_
  refine mm_iconst (v := 0) dX12_quarrel_8 (by decide +kernel) ?_
  refine mm_istore (ls' := [some (.ref 113), some (.int x1), some (.int x2), some (.int x3), some (.int 0), some (.int 0), none]) dX12_quarrel_9 (Nat.le_of_ble_eq_true rfl) rfl ?_
  rcases hS H with ⟨q15, H16, H⟩ | ⟨q15, H16, H⟩
  · refine t_X12_quarrel_L11 hd R (fun q h e R => ?_) (fun q e => by cases e) N _ _ H16
    cases e
    exact en_dI H R
  · refine t_X12_quarrel_L11 hd R (fun q h e R => by cases e) (fun q e => ?_) N _ _ H16
    cases e
    refine mm_aload_n dX12_quarrel_96 rfl ?_
    refine mm_iconst (v := 1) dX12_quarrel_97 (by decide +kernel) ?_
    obtain ⟨q17, H18, H⟩ := hC H
    refine mm_callV (d' := d - 1) (as := [.int 1]) (st := []) (dS hd) cm_X12_fail (mm_t6 129 rfl rfl) (mm_t6 131 rfl rfl) (mm_s2 15 rfl rfl) (T := TX12) (N := 54) rfl dX12_quarrel_98 (R.oD (r := 113) rfl lay_113) rfl (Nat.le_of_ble_eq_true rfl) (Nat.le_of_ble_eq_true rfl) rfl rfl (t_X12_fail (dL hd (by decide)) R H18) (fun o h q => th_dI q (fun R => ?_))
    refine mm_iret rfl rfl dX12_quarrel_101 ?_
    exact en_dI H R
def f_X12_mention (x1 : Int32) (x2 : Int32) (D : CS) : Option (Int32 × CS) :=
  bd (sI D 11300 0) fun D1 =>
  if x1 < 0 then (bnd (f_X12_fail 1 D1) fun q4 =>
    some (q4.1, q4.2))
    else (if (gI D1 11321) ≤ x1 then (bnd (f_X12_fail 1 D1) fun q7 =>
      some (q7.1, q7.2))
      else (if x2 < 0 then (bnd (f_X12_fail 1 D1) fun q10 =>
        some (q10.1, q10.2))
        else (if x2 ≤ 1 then (if x2 = 0 then (if inb x1 100 = true then (some ((gA D1 131 (x1).toNatClampNeg), D1)) else none)
            else (if inb x1 100 = true then (some ((gA D1 132 (x1).toNatClampNeg), D1)) else none))
          else (bnd (f_X12_fail 1 D1) fun q16 =>
          some (q16.1, q16.2)))))
theorem t_X12_mention {g : mm_G} {d : Nat} {h : mm_Hp} {C D : CS} {x1 : Int32} {x2 : Int32} {r : (Int32 × CS)} (hd : 1 ≤ d) (R : Rep h C D) (H : f_X12_mention x1 x2 D = some r) : mm_P g d MX12_mention 0 [some (.ref 113), some (.int x1), some (.int x2)] [] h (dI C r) := by
  unfold f_X12_mention at H
  refine mm_aload_n dX12_mention_0 rfl ?_
  refine mm_iconst (v := 0) dX12_mention_1 (by decide +kernel) ?_
  obtain ⟨D1, e2, H⟩ := hD H
  refine rD_put (key := 11300) lk_X12_111_X12 lay_113 rfl rfl rfl rfl rfl dX12_mention_2 R e2 (fun h R => ?_)
  refine mm_iload_n dX12_mention_5 rfl ?_
  refine mm_if_lt 26 dX12_mention_6 (by decide) (fun c3 => ?_) (fun c3 => ?_)
  · replace H := hT c3 H
    refine mm_aload_n dX12_mention_26 rfl ?_
    refine mm_iconst (v := 1) dX12_mention_27 (by decide +kernel) ?_
    obtain ⟨q4, H5, H⟩ := hC H
    refine mm_callV (d' := d - 1) (as := [.int 1]) (st := []) (dS hd) cm_X12_fail (mm_t6 129 rfl rfl) (mm_t6 131 rfl rfl) (mm_s2 15 rfl rfl) (T := TX12) (N := 54) rfl dX12_mention_28 (R.oD (r := 113) rfl lay_113) rfl (Nat.le_of_ble_eq_true rfl) (Nat.le_of_ble_eq_true rfl) rfl rfl (t_X12_fail (dL hd (by decide)) R H5) (fun o h q => th_dI q (fun R => ?_))
    refine mm_iret rfl rfl dX12_mention_31 ?_
    exact en_dI H R
  · replace H := hF c3 H
    refine mm_iload_n dX12_mention_9 rfl ?_
    refine mm_aload_n dX12_mention_10 rfl ?_
    refine rD_get (key := 11321) lk_X12_174_X12 lay_113 rfl rfl rfl dX12_mention_11 R ?_
    refine mm_icmp_ge 26 dX12_mention_14 (by decide) (fun c6 => ?_) (fun c6 => ?_)
    · replace H := hT c6 H
      refine mm_aload_n dX12_mention_26 rfl ?_
      refine mm_iconst (v := 1) dX12_mention_27 (by decide +kernel) ?_
      obtain ⟨q7, H8, H⟩ := hC H
      refine mm_callV (d' := d - 1) (as := [.int 1]) (st := []) (dS hd) cm_X12_fail (mm_t6 129 rfl rfl) (mm_t6 131 rfl rfl) (mm_s2 15 rfl rfl) (T := TX12) (N := 54) rfl dX12_mention_28 (R.oD (r := 113) rfl lay_113) rfl (Nat.le_of_ble_eq_true rfl) (Nat.le_of_ble_eq_true rfl) rfl rfl (t_X12_fail (dL hd (by decide)) R H8) (fun o h q => th_dI q (fun R => ?_))
      refine mm_iret rfl rfl dX12_mention_31 ?_
      exact en_dI H R
    · replace H := hF c6 H
      refine mm_iload_n dX12_mention_17 rfl ?_
      refine mm_if_lt 26 dX12_mention_18 (by decide) (fun c9 => ?_) (fun c9 => ?_)
      · replace H := hT c9 H
        refine mm_aload_n dX12_mention_26 rfl ?_
        refine mm_iconst (v := 1) dX12_mention_27 (by decide +kernel) ?_
        obtain ⟨q10, H11, H⟩ := hC H
        refine mm_callV (d' := d - 1) (as := [.int 1]) (st := []) (dS hd) cm_X12_fail (mm_t6 129 rfl rfl) (mm_t6 131 rfl rfl) (mm_s2 15 rfl rfl) (T := TX12) (N := 54) rfl dX12_mention_28 (R.oD (r := 113) rfl lay_113) rfl (Nat.le_of_ble_eq_true rfl) (Nat.le_of_ble_eq_true rfl) rfl rfl (t_X12_fail (dL hd (by decide)) R H11) (fun o h q => th_dI q (fun R => ?_))
        refine mm_iret rfl rfl dX12_mention_31 ?_
        exact en_dI H R
      · replace H := hF c9 H
        refine mm_iload_n dX12_mention_21 rfl ?_
        refine mm_iconst (v := 1) dX12_mention_22 (by decide +kernel) ?_
        refine mm_icmp_le 32 dX12_mention_23 (by decide) (fun c12 => ?_) (fun c12 => ?_)
        · replace H := hT c12 H
          refine mm_iload_n dX12_mention_32 rfl ?_
          refine mm_if_ne 45 dX12_mention_33 (by decide) (fun c13 => ?_) (fun c13 => ?_)
          · replace H := hF c13 H
            refine mm_aload_n dX12_mention_45 rfl ?_
            refine rD_getR (t := 130) lk_X12_68_X12 lay_113 rfl rfl dX12_mention_46 R ?_
            refine mm_iload_n dX12_mention_49 rfl ?_
            obtain ⟨b14, H⟩ := hB H
            refine rD_iald lay_132 rfl dX12_mention_50 R b14 ?_
            refine mm_iret rfl rfl dX12_mention_51 ?_
            exact en_dI H R
          · replace H := hT c13 H
            refine mm_aload_n dX12_mention_36 rfl ?_
            refine rD_getR (t := 129) lk_X12_65_X12 lay_113 rfl rfl dX12_mention_37 R ?_
            refine mm_iload_n dX12_mention_40 rfl ?_
            obtain ⟨b15, H⟩ := hB H
            refine rD_iald lay_131 rfl dX12_mention_41 R b15 ?_
            refine mm_goto 51 dX12_mention_42 (by decide) ?_
            refine mm_iret rfl rfl dX12_mention_51 ?_
            exact en_dI H R
        · replace H := hF c12 H
          refine mm_aload_n dX12_mention_26 rfl ?_
          refine mm_iconst (v := 1) dX12_mention_27 (by decide +kernel) ?_
          obtain ⟨q16, H17, H⟩ := hC H
          refine mm_callV (d' := d - 1) (as := [.int 1]) (st := []) (dS hd) cm_X12_fail (mm_t6 129 rfl rfl) (mm_t6 131 rfl rfl) (mm_s2 15 rfl rfl) (T := TX12) (N := 54) rfl dX12_mention_28 (R.oD (r := 113) rfl lay_113) rfl (Nat.le_of_ble_eq_true rfl) (Nat.le_of_ble_eq_true rfl) rfl rfl (t_X12_fail (dL hd (by decide)) R H17) (fun o h q => th_dI q (fun R => ?_))
          refine mm_iret rfl rfl dX12_mention_31 ?_
          exact en_dI H R
def f_X12_say (x1 : Int32) (D : CS) : Option CS :=
  if 3000 ≤ (gI D 11304) then (bd (sI D 11304 ((gI D 11304) + 1)) fun D2 =>
    some D2)
    else (if inb (gI D 11304) 3000 = true then (bd (sA D 115 ((gI D 11304)).toNatClampNeg x1) fun D5 =>
    bd (sI D5 11304 ((gI D5 11304) + 1)) fun D7 =>
    some D7) else none)
theorem t_X12_say {g : mm_G} {d : Nat} {h : mm_Hp} {C D : CS} {x1 : Int32} {r : CS} (hd : 0 ≤ d) (R : Rep h C D) (H : f_X12_say x1 D = some r) : mm_P g d MX12_say 0 [some (.ref 113), some (.int x1)] [] h (dV C r) := by
  unfold f_X12_say at H
  refine mm_aload_n dX12_say_0 rfl ?_
  refine rD_get (key := 11304) lk_X12_266_X12 lay_113 rfl rfl rfl dX12_say_1 R ?_
  refine mm_sipush (v := 3000) dX12_say_4 (by decide +kernel) ?_
  refine mm_icmp_ge 20 dX12_say_7 (by decide) (fun c1 => ?_) (fun c1 => ?_)
  · replace H := hT c1 H
    refine mm_aload_n dX12_say_20 rfl ?_
    refine mm_dup rfl dX12_say_21 ?_
    refine rD_get (key := 11304) lk_X12_266_X12 lay_113 rfl rfl rfl dX12_say_22 R ?_
    refine mm_iconst (v := 1) dX12_say_25 (by decide +kernel) ?_
    refine mm_iadd dX12_say_26 ?_
    obtain ⟨D2, e3, H⟩ := hD H
    refine rD_put (key := 11304) lk_X12_266_X12 lay_113 rfl rfl rfl rfl rfl dX12_say_27 R e3 (fun h R => ?_)
    refine mm_vret rfl dX12_say_30 ?_
    exact en_dV H R
  · replace H := hF c1 H
    refine mm_aload_n dX12_say_10 rfl ?_
    refine rD_getR (t := 113) lk_X12_13_X12 lay_113 rfl rfl dX12_say_11 R ?_
    refine mm_aload_n dX12_say_14 rfl ?_
    refine rD_get (key := 11304) lk_X12_266_X12 lay_113 rfl rfl rfl dX12_say_15 R ?_
    refine mm_iload_n dX12_say_18 rfl ?_
    obtain ⟨b4, H⟩ := hB H
    obtain ⟨D5, e6, H⟩ := hD H
    refine rD_iast lay_115 rfl dX12_say_19 R b4 e6 (fun h R => ?_)
    refine mm_aload_n dX12_say_20 rfl ?_
    refine mm_dup rfl dX12_say_21 ?_
    refine rD_get (key := 11304) lk_X12_266_X12 lay_113 rfl rfl rfl dX12_say_22 R ?_
    refine mm_iconst (v := 1) dX12_say_25 (by decide +kernel) ?_
    refine mm_iadd dX12_say_26 ?_
    obtain ⟨D7, e8, H⟩ := hD H
    refine rD_put (key := 11304) lk_X12_266_X12 lay_113 rfl rfl rfl rfl rfl dX12_say_27 R e8 (fun h R => ?_)
    refine mm_vret rfl dX12_say_30 ?_
    exact en_dV H R
def f_X12_name__L47 (N : Nat) (x3 : Int64) : Nat → Int32 → CS → Option (CS)
  | 0, _, _ => none
  | n + 1, x5, D => if x5 < 0 then (some D)
    else (if (lg_cmp ((x3 >>> (Int32.toInt64 x5 &&& 63)) &&& 255) 0) = 0 then (f_X12_name__L47 N x3 n (x5 + (-8)) D)
      else (bnd (f_X12_say (Int64.toInt32 ((x3 >>> (Int32.toInt64 x5 &&& 63)) &&& 255)) D) fun q18 =>
      f_X12_name__L47 N x3 n (x5 + (-8)) q18))
theorem t_X12_name__L47 {g : mm_G} {d : Nat} {Post : mm_Ou → mm_Hp → Prop} {C : CS} {N : Nat} {x3 : Int64} {res : (CS)} (hd : 1 ≤ d) (KE : ∀ (h1 : mm_Hp), Rep h1 C res → mm_P g d MX12_name_ 84 [some (.ref 113), none, none, none, none, none] [] h1 Post) : ∀ (n : Nat) (x5 : Int32) (D : CS) (h : mm_Hp) , Rep h C D → f_X12_name__L47 N x3 n x5 D = some res → mm_P g d MX12_name_ 47 [some (.ref 113), none, none, some (.long x3), none, some (.int x5)] [] h Post := by
  intro n
  induction n with
  | zero =>
    intro x5 D h R H
    exact hN H
  | succ n ih =>
    intro x5 D h R H
    unfold f_X12_name__L47 at H
    refine mm_iload dX12_name__47 rfl ?_
    refine mm_if_lt 84 dX12_name__49 (by decide) (fun c16 => ?_) (fun c16 => ?_)
    · replace H := hT c16 H
      refine mm_fgt (ls' := [some (.ref 113), none, none, none, none, none]) ⟨rfl, trivial⟩ ?_
      cases H
      exact KE _ R
    · replace H := hF c16 H
      refine mm_lload_n dX12_name__52 rfl ?_
      refine mm_iload dX12_name__53 rfl ?_
      refine mm_lshr dX12_name__55 ?_
      refine mm_ldc2 (v := 255) (mm_t7 37 rfl rfl) dX12_name__56 ?_
      refine mm_land dX12_name__59 ?_
      refine mm_lconst (v := 0) dX12_name__60 (by decide +kernel) ?_
      refine mm_lcmp dX12_name__61 ?_
      refine mm_if_eq 78 dX12_name__62 (by decide) (fun c17 => ?_) (fun c17 => ?_)
      · replace H := hT c17 H
        refine mm_iinc (v := (x5 + (-8))) (ls' := [some (.ref 113), none, none, some (.long x3), none, some (.int (x5 + (-8)))]) dX12_name__78 rfl rfl rfl ?_
        refine mm_goto 47 dX12_name__81 (by decide) ?_
        exact ih _ _ _ R H
      · replace H := hF c17 H
        refine mm_aload_n dX12_name__65 rfl ?_
        refine mm_lload_n dX12_name__66 rfl ?_
        refine mm_iload dX12_name__67 rfl ?_
        refine mm_lshr dX12_name__69 ?_
        refine mm_ldc2 (v := 255) (mm_t7 37 rfl rfl) dX12_name__70 ?_
        refine mm_land dX12_name__73 ?_
        refine mm_l2i dX12_name__74 ?_
        obtain ⟨q18, H19, H⟩ := hC H
        refine mm_callV (d' := d - 1) (as := [.int (Int64.toInt32 ((x3 >>> (Int32.toInt64 x5 &&& 63)) &&& 255))]) (st := []) (dS hd) cm_X12_say (mm_t7 38 rfl rfl) (mm_t7 40 rfl rfl) (mm_s4 7 rfl rfl) (T := TX12) (N := 54) rfl dX12_name__75 (R.oD (r := 113) rfl lay_113) rfl (Nat.le_of_ble_eq_true rfl) (Nat.le_of_ble_eq_true rfl) rfl rfl (t_X12_say (dL hd (by decide)) R H19) (fun o h q => th_dV q (fun R => ?_))
        refine mm_iinc (v := (x5 + (-8))) (ls' := [some (.ref 113), none, none, some (.long x3), none, some (.int (x5 + (-8)))]) dX12_name__78 rfl rfl rfl ?_
        refine mm_goto 47 dX12_name__81 (by decide) ?_
        exact ih _ _ _ R H
def f_X12_name_ (N : Nat) (x1 : Int32) (x2 : Int32) (D : CS) : Option (Int32 × CS) :=
  bd (sI D 11300 0) fun D1 =>
  if x1 < 0 then (bnd (f_X12_fail 1 D1) fun q4 =>
    some (q4.1, q4.2))
    else (if (gI D1 11322) ≤ x1 then (bnd (f_X12_fail 1 D1) fun q7 =>
      some (q7.1, q7.2))
      else (bnd (f_X12_isLine x2 D1) fun q9 =>
      if q9 = 0 then (bnd (f_X12_fail 1 D1) fun q23 =>
        some (q23.1, q23.2))
          else (bd (sI D1 11304 0) fun D12 =>
        bnd (f_X12_nameAt N x1 x2 D12) fun q14 =>
        bnd (f_X12_name__L47 N q14 N 40 D12) fun q20 =>
          if (gI q20 11304) = 0 then (some ((-1), q20))
            else (some ((gI q20 11304), q20)))))
theorem t_X12_name_ {g : mm_G} {d : Nat} {h : mm_Hp} {C D : CS} {N : Nat} {x1 : Int32} {x2 : Int32} {r : (Int32 × CS)} (hd : 1 ≤ d) (R : Rep h C D) (H : f_X12_name_ N x1 x2 D = some r) : mm_P g d MX12_name_ 0 [some (.ref 113), some (.int x1), some (.int x2), none, none, none] [] h (dI C r) := by
  unfold f_X12_name_ at H
  refine mm_aload_n dX12_name__0 rfl ?_
  refine mm_iconst (v := 0) dX12_name__1 (by decide +kernel) ?_
  obtain ⟨D1, e2, H⟩ := hD H
  refine rD_put (key := 11300) lk_X12_111_X12 lay_113 rfl rfl rfl rfl rfl dX12_name__2 R e2 (fun h R => ?_)
  refine mm_iload_n dX12_name__5 rfl ?_
  refine mm_if_lt 25 dX12_name__6 (by decide) (fun c3 => ?_) (fun c3 => ?_)
  · replace H := hT c3 H
    refine mm_aload_n dX12_name__25 rfl ?_
    refine mm_iconst (v := 1) dX12_name__26 (by decide +kernel) ?_
    obtain ⟨q4, H5, H⟩ := hC H
    refine mm_callV (d' := d - 1) (as := [.int 1]) (st := []) (dS hd) cm_X12_fail (mm_t6 129 rfl rfl) (mm_t6 131 rfl rfl) (mm_s2 15 rfl rfl) (T := TX12) (N := 54) rfl dX12_name__27 (R.oD (r := 113) rfl lay_113) rfl (Nat.le_of_ble_eq_true rfl) (Nat.le_of_ble_eq_true rfl) rfl rfl (t_X12_fail (dL hd (by decide)) R H5) (fun o h q => th_dI q (fun R => ?_))
    refine mm_iret rfl rfl dX12_name__30 ?_
    exact en_dI H R
  · replace H := hF c3 H
    refine mm_iload_n dX12_name__9 rfl ?_
    refine mm_aload_n dX12_name__10 rfl ?_
    refine rD_get (key := 11322) lk_X12_120_X12 lay_113 rfl rfl rfl dX12_name__11 R ?_
    refine mm_icmp_ge 25 dX12_name__14 (by decide) (fun c6 => ?_) (fun c6 => ?_)
    · replace H := hT c6 H
      refine mm_aload_n dX12_name__25 rfl ?_
      refine mm_iconst (v := 1) dX12_name__26 (by decide +kernel) ?_
      obtain ⟨q7, H8, H⟩ := hC H
      refine mm_callV (d' := d - 1) (as := [.int 1]) (st := []) (dS hd) cm_X12_fail (mm_t6 129 rfl rfl) (mm_t6 131 rfl rfl) (mm_s2 15 rfl rfl) (T := TX12) (N := 54) rfl dX12_name__27 (R.oD (r := 113) rfl lay_113) rfl (Nat.le_of_ble_eq_true rfl) (Nat.le_of_ble_eq_true rfl) rfl rfl (t_X12_fail (dL hd (by decide)) R H8) (fun o h q => th_dI q (fun R => ?_))
      refine mm_iret rfl rfl dX12_name__30 ?_
      exact en_dI H R
    · replace H := hF c6 H
      refine mm_aload_n dX12_name__17 rfl ?_
      refine mm_iload_n dX12_name__18 rfl ?_
      obtain ⟨q9, H10, H⟩ := hC H
      refine mm_callV (d' := d - 1) (as := [.int x2]) (st := []) (dS hd) cm_X12_isLine (mm_t6 208 rfl rfl) (mm_t6 210 rfl rfl) (mm_s3 15 rfl rfl) (T := TX12) (N := 54) rfl dX12_name__19 (R.oD (r := 113) rfl lay_113) rfl (Nat.le_of_ble_eq_true rfl) (Nat.le_of_ble_eq_true rfl) rfl rfl (t_X12_isLine (dL hd (by decide)) R H10) (fun o u q => mm_thenI q ?_)
      refine mm_if_ne 31 dX12_name__22 (by decide) (fun c11 => ?_) (fun c11 => ?_)
      · replace H := hF c11 H
        refine mm_aload_n dX12_name__31 rfl ?_
        refine mm_iconst (v := 0) dX12_name__32 (by decide +kernel) ?_
        obtain ⟨D12, e13, H⟩ := hD H
        refine rD_put (key := 11304) lk_X12_266_X12 lay_113 rfl rfl rfl rfl rfl dX12_name__33 R e13 (fun h R => ?_)
        refine mm_aload_n dX12_name__36 rfl ?_
        refine mm_iload_n dX12_name__37 rfl ?_
        refine mm_iload_n dX12_name__38 rfl ?_
        obtain ⟨q14, H15, H⟩ := hC H
        refine mm_callV (d' := d - 1) (as := [.int x1, .int x2]) (st := []) (dS hd) cm_X12_nameAt (mm_t6 167 rfl rfl) (mm_t6 169 rfl rfl) (mm_s3 7 rfl rfl) (T := TX12) (N := 54) rfl dX12_name__39 (R.oD (r := 113) rfl lay_113) rfl (Nat.le_of_ble_eq_true rfl) (Nat.le_of_ble_eq_true rfl) rfl rfl (t_X12_nameAt (dL hd (by decide)) R H15) (fun o u q => th_pJ q ?_)
        refine mm_lstore_n (ls' := [some (.ref 113), some (.int x1), some (.int x2), some (.long q14), none, none]) dX12_name__42 (Nat.le_of_ble_eq_true rfl) rfl ?_
        refine mm_bipush (v := 40) dX12_name__43 (by decide +kernel) ?_
        refine mm_istore (ls' := [some (.ref 113), some (.int x1), some (.int x2), some (.long q14), none, some (.int 40)]) dX12_name__45 (Nat.le_of_ble_eq_true rfl) rfl ?_
        obtain ⟨q20, H21, H⟩ := hC H
        refine mm_fgt (ls' := [some (.ref 113), none, none, some (.long q14), none, some (.int 40)]) ⟨rfl, rfl, rfl, trivial⟩ ?_
        refine t_X12_name__L47 hd (fun h R => ?_) N _ _ _ R H21
        refine mm_aload_n dX12_name__84 rfl ?_
        refine rD_get (key := 11304) lk_X12_266_X12 lay_113 rfl rfl rfl dX12_name__85 R ?_
        refine mm_if_ne 95 dX12_name__88 (by decide) (fun c22 => ?_) (fun c22 => ?_)
        · replace H := hF c22 H
          refine mm_aload_n dX12_name__95 rfl ?_
          refine rD_get (key := 11304) lk_X12_266_X12 lay_113 rfl rfl rfl dX12_name__96 R ?_
          refine mm_iret rfl rfl dX12_name__99 ?_
          exact en_dI H R
        · replace H := hT c22 H
          refine mm_iconst (v := (-1)) dX12_name__91 (by decide +kernel) ?_
          refine mm_goto 99 dX12_name__92 (by decide) ?_
          refine mm_iret rfl rfl dX12_name__99 ?_
          exact en_dI H R
      · replace H := hT c11 H
        refine mm_aload_n dX12_name__25 rfl ?_
        refine mm_iconst (v := 1) dX12_name__26 (by decide +kernel) ?_
        obtain ⟨q23, H24, H⟩ := hC H
        refine mm_callV (d' := d - 1) (as := [.int 1]) (st := []) (dS hd) cm_X12_fail (mm_t6 129 rfl rfl) (mm_t6 131 rfl rfl) (mm_s2 15 rfl rfl) (T := TX12) (N := 54) rfl dX12_name__27 (R.oD (r := 113) rfl lay_113) rfl (Nat.le_of_ble_eq_true rfl) (Nat.le_of_ble_eq_true rfl) rfl rfl (t_X12_fail (dL hd (by decide)) R H24) (fun o h q => th_dI q (fun R => ?_))
        refine mm_iret rfl rfl dX12_name__30 ?_
        exact en_dI H R
def f_X12_order (x1 : Int32) (x2 : Int32) (x3 : Int32) (D : CS) : Option (Int32 × CS) :=
  bd (sI D 11300 0) fun D1 =>
  bnd (f_X12_isLine x1 D1) fun q3 =>
  if q3 = 0 then (bnd (f_X12_fail 1 D1) fun q6 =>
    some (q6.1, q6.2))
    else (bnd (f_X12_isLine x2 D1) fun q8 =>
    if q8 = 0 then (bnd (f_X12_fail 1 D1) fun q11 =>
      some (q11.1, q11.2))
      else (if x1 ≤ x2 then (if (gI D1 11334) = 60 then (some ((-1), D1))
          else (if x3 < 0 then (some ((-1), D1))
            else (if x3 ≤ 3 then (if inb (gI D1 11334) 60 = true then (bd (sA D1 136 ((gI D1 11334)).toNatClampNeg x1) fun D18 =>
              if inb (gI D18 11334) 60 = true then (bd (sA D18 137 ((gI D18 11334)).toNatClampNeg x2) fun D21 =>
              if inb (gI D21 11334) 60 = true then (bd (sA D21 138 ((gI D21 11334)).toNatClampNeg x3) fun D24 =>
              if inb (gI D24 11334) 60 = true then (bd (sA D24 139 ((gI D24 11334)).toNatClampNeg (gI D24 11305)) fun D27 =>
              if inb (gI D27 11334) 60 = true then (bd (sA D27 140 ((gI D27 11334)).toNatClampNeg (-1)) fun D30 =>
              bd (sI D30 11334 ((gI D30 11334) + 1)) fun D32 =>
              some (((gI D32 11334) - 1), D32)) else none) else none) else none) else none) else none)
              else (some ((-1), D1)))))
        else (bnd (f_X12_fail 1 D1) fun q34 =>
        some (q34.1, q34.2))))
theorem t_X12_order {g : mm_G} {d : Nat} {h : mm_Hp} {C D : CS} {x1 : Int32} {x2 : Int32} {x3 : Int32} {r : (Int32 × CS)} (hd : 1 ≤ d) (R : Rep h C D) (H : f_X12_order x1 x2 x3 D = some r) : mm_P g d MX12_order 0 [some (.ref 113), some (.int x1), some (.int x2), some (.int x3)] [] h (dI C r) := by
  unfold f_X12_order at H
  refine mm_aload_n dX12_order_0 rfl ?_
  refine mm_iconst (v := 0) dX12_order_1 (by decide +kernel) ?_
  obtain ⟨D1, e2, H⟩ := hD H
  refine rD_put (key := 11300) lk_X12_111_X12 lay_113 rfl rfl rfl rfl rfl dX12_order_2 R e2 (fun h R => ?_)
  refine mm_aload_n dX12_order_5 rfl ?_
  refine mm_iload_n dX12_order_6 rfl ?_
  obtain ⟨q3, H4, H⟩ := hC H
  refine mm_callV (d' := d - 1) (as := [.int x1]) (st := []) (dS hd) cm_X12_isLine (mm_t6 208 rfl rfl) (mm_t6 210 rfl rfl) (mm_s3 15 rfl rfl) (T := TX12) (N := 54) rfl dX12_order_7 (R.oD (r := 113) rfl lay_113) rfl (Nat.le_of_ble_eq_true rfl) (Nat.le_of_ble_eq_true rfl) rfl rfl (t_X12_isLine (dL hd (by decide)) R H4) (fun o u q => mm_thenI q ?_)
  refine mm_if_eq 26 dX12_order_10 (by decide) (fun c5 => ?_) (fun c5 => ?_)
  · replace H := hT c5 H
    refine mm_aload_n dX12_order_26 rfl ?_
    refine mm_iconst (v := 1) dX12_order_27 (by decide +kernel) ?_
    obtain ⟨q6, H7, H⟩ := hC H
    refine mm_callV (d' := d - 1) (as := [.int 1]) (st := []) (dS hd) cm_X12_fail (mm_t6 129 rfl rfl) (mm_t6 131 rfl rfl) (mm_s2 15 rfl rfl) (T := TX12) (N := 54) rfl dX12_order_28 (R.oD (r := 113) rfl lay_113) rfl (Nat.le_of_ble_eq_true rfl) (Nat.le_of_ble_eq_true rfl) rfl rfl (t_X12_fail (dL hd (by decide)) R H7) (fun o h q => th_dI q (fun R => ?_))
    refine mm_iret rfl rfl dX12_order_31 ?_
    exact en_dI H R
  · replace H := hF c5 H
    refine mm_aload_n dX12_order_13 rfl ?_
    refine mm_iload_n dX12_order_14 rfl ?_
    obtain ⟨q8, H9, H⟩ := hC H
    refine mm_callV (d' := d - 1) (as := [.int x2]) (st := []) (dS hd) cm_X12_isLine (mm_t6 208 rfl rfl) (mm_t6 210 rfl rfl) (mm_s3 15 rfl rfl) (T := TX12) (N := 54) rfl dX12_order_15 (R.oD (r := 113) rfl lay_113) rfl (Nat.le_of_ble_eq_true rfl) (Nat.le_of_ble_eq_true rfl) rfl rfl (t_X12_isLine (dL hd (by decide)) R H9) (fun o u q => mm_thenI q ?_)
    refine mm_if_eq 26 dX12_order_18 (by decide) (fun c10 => ?_) (fun c10 => ?_)
    · replace H := hT c10 H
      refine mm_aload_n dX12_order_26 rfl ?_
      refine mm_iconst (v := 1) dX12_order_27 (by decide +kernel) ?_
      obtain ⟨q11, H12, H⟩ := hC H
      refine mm_callV (d' := d - 1) (as := [.int 1]) (st := []) (dS hd) cm_X12_fail (mm_t6 129 rfl rfl) (mm_t6 131 rfl rfl) (mm_s2 15 rfl rfl) (T := TX12) (N := 54) rfl dX12_order_28 (R.oD (r := 113) rfl lay_113) rfl (Nat.le_of_ble_eq_true rfl) (Nat.le_of_ble_eq_true rfl) rfl rfl (t_X12_fail (dL hd (by decide)) R H12) (fun o h q => th_dI q (fun R => ?_))
      refine mm_iret rfl rfl dX12_order_31 ?_
      exact en_dI H R
    · replace H := hF c10 H
      refine mm_iload_n dX12_order_21 rfl ?_
      refine mm_iload_n dX12_order_22 rfl ?_
      refine mm_icmp_le 32 dX12_order_23 (by decide) (fun c13 => ?_) (fun c13 => ?_)
      · replace H := hT c13 H
        refine mm_aload_n dX12_order_32 rfl ?_
        refine rD_get (key := 11334) lk_X12_240_X12 lay_113 rfl rfl rfl dX12_order_33 R ?_
        refine mm_bipush (v := 60) dX12_order_36 (by decide +kernel) ?_
        refine mm_icmp_eq 50 dX12_order_38 (by decide) (fun c14 => ?_) (fun c14 => ?_)
        · replace H := hT c14 H
          refine mm_iconst (v := (-1)) dX12_order_50 (by decide +kernel) ?_
          refine mm_iret rfl rfl dX12_order_51 ?_
          exact en_dI H R
        · replace H := hF c14 H
          refine mm_iload_n dX12_order_41 rfl ?_
          refine mm_if_lt 50 dX12_order_42 (by decide) (fun c15 => ?_) (fun c15 => ?_)
          · replace H := hT c15 H
            refine mm_iconst (v := (-1)) dX12_order_50 (by decide +kernel) ?_
            refine mm_iret rfl rfl dX12_order_51 ?_
            exact en_dI H R
          · replace H := hF c15 H
            refine mm_iload_n dX12_order_45 rfl ?_
            refine mm_iconst (v := 3) dX12_order_46 (by decide +kernel) ?_
            refine mm_icmp_le 52 dX12_order_47 (by decide) (fun c16 => ?_) (fun c16 => ?_)
            · replace H := hT c16 H
              refine mm_aload_n dX12_order_52 rfl ?_
              refine rD_getR (t := 134) lk_X12_81_X12 lay_113 rfl rfl dX12_order_53 R ?_
              refine mm_aload_n dX12_order_56 rfl ?_
              refine rD_get (key := 11334) lk_X12_240_X12 lay_113 rfl rfl rfl dX12_order_57 R ?_
              refine mm_iload_n dX12_order_60 rfl ?_
              obtain ⟨b17, H⟩ := hB H
              obtain ⟨D18, e19, H⟩ := hD H
              refine rD_iast lay_136 rfl dX12_order_61 R b17 e19 (fun h R => ?_)
              refine mm_aload_n dX12_order_62 rfl ?_
              refine rD_getR (t := 135) lk_X12_84_X12 lay_113 rfl rfl dX12_order_63 R ?_
              refine mm_aload_n dX12_order_66 rfl ?_
              refine rD_get (key := 11334) lk_X12_240_X12 lay_113 rfl rfl rfl dX12_order_67 R ?_
              refine mm_iload_n dX12_order_70 rfl ?_
              obtain ⟨b20, H⟩ := hB H
              obtain ⟨D21, e22, H⟩ := hD H
              refine rD_iast lay_137 rfl dX12_order_71 R b20 e22 (fun h R => ?_)
              refine mm_aload_n dX12_order_72 rfl ?_
              refine rD_getR (t := 136) lk_X12_87_X12 lay_113 rfl rfl dX12_order_73 R ?_
              refine mm_aload_n dX12_order_76 rfl ?_
              refine rD_get (key := 11334) lk_X12_240_X12 lay_113 rfl rfl rfl dX12_order_77 R ?_
              refine mm_iload_n dX12_order_80 rfl ?_
              obtain ⟨b23, H⟩ := hB H
              obtain ⟨D24, e25, H⟩ := hD H
              refine rD_iast lay_138 rfl dX12_order_81 R b23 e25 (fun h R => ?_)
              refine mm_aload_n dX12_order_82 rfl ?_
              refine rD_getR (t := 137) lk_X12_90_X12 lay_113 rfl rfl dX12_order_83 R ?_
              refine mm_aload_n dX12_order_86 rfl ?_
              refine rD_get (key := 11334) lk_X12_240_X12 lay_113 rfl rfl rfl dX12_order_87 R ?_
              refine mm_aload_n dX12_order_90 rfl ?_
              refine rD_get (key := 11305) lk_X12_229_X12 lay_113 rfl rfl rfl dX12_order_91 R ?_
              obtain ⟨b26, H⟩ := hB H
              obtain ⟨D27, e28, H⟩ := hD H
              refine rD_iast lay_139 rfl dX12_order_94 R b26 e28 (fun h R => ?_)
              refine mm_aload_n dX12_order_95 rfl ?_
              refine rD_getR (t := 138) lk_X12_93_X12 lay_113 rfl rfl dX12_order_96 R ?_
              refine mm_aload_n dX12_order_99 rfl ?_
              refine rD_get (key := 11334) lk_X12_240_X12 lay_113 rfl rfl rfl dX12_order_100 R ?_
              refine mm_iconst (v := (-1)) dX12_order_103 (by decide +kernel) ?_
              obtain ⟨b29, H⟩ := hB H
              obtain ⟨D30, e31, H⟩ := hD H
              refine rD_iast lay_140 rfl dX12_order_104 R b29 e31 (fun h R => ?_)
              refine mm_aload_n dX12_order_105 rfl ?_
              refine mm_dup rfl dX12_order_106 ?_
              refine rD_get (key := 11334) lk_X12_240_X12 lay_113 rfl rfl rfl dX12_order_107 R ?_
              refine mm_iconst (v := 1) dX12_order_110 (by decide +kernel) ?_
              refine mm_iadd dX12_order_111 ?_
              obtain ⟨D32, e33, H⟩ := hD H
              refine rD_put (key := 11334) lk_X12_240_X12 lay_113 rfl rfl rfl rfl rfl dX12_order_112 R e33 (fun h R => ?_)
              refine mm_aload_n dX12_order_115 rfl ?_
              refine rD_get (key := 11334) lk_X12_240_X12 lay_113 rfl rfl rfl dX12_order_116 R ?_
              refine mm_iconst (v := 1) dX12_order_119 (by decide +kernel) ?_
              refine mm_isub dX12_order_120 ?_
              refine mm_iret rfl rfl dX12_order_121 ?_
              exact en_dI H R
            · replace H := hF c16 H
              refine mm_iconst (v := (-1)) dX12_order_50 (by decide +kernel) ?_
              refine mm_iret rfl rfl dX12_order_51 ?_
              exact en_dI H R
      · replace H := hF c13 H
        refine mm_aload_n dX12_order_26 rfl ?_
        refine mm_iconst (v := 1) dX12_order_27 (by decide +kernel) ?_
        obtain ⟨q34, H35, H⟩ := hC H
        refine mm_callV (d' := d - 1) (as := [.int 1]) (st := []) (dS hd) cm_X12_fail (mm_t6 129 rfl rfl) (mm_t6 131 rfl rfl) (mm_s2 15 rfl rfl) (T := TX12) (N := 54) rfl dX12_order_28 (R.oD (r := 113) rfl lay_113) rfl (Nat.le_of_ble_eq_true rfl) (Nat.le_of_ble_eq_true rfl) rfl rfl (t_X12_fail (dL hd (by decide)) R H35) (fun o h q => th_dI q (fun R => ?_))
        refine mm_iret rfl rfl dX12_order_31 ?_
        exact en_dI H R
