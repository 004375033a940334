def f_X12_lift (x1 : Int32) (D : CS) : Option (Int32 × CS) :=
  bd (sI D 11300 0) fun D1 =>
  if x1 < 0 then (bnd (f_X12_fail 1 D1) fun q4 =>
    some (0, q4.2))
    else (if x1 < (gI D1 11334) then (if inb x1 60 = true then (if (gA D1 140 (x1).toNatClampNeg) = (-1) then (if inb x1 60 = true then (bd (sA D1 140 (x1).toNatClampNeg (gI D1 11305)) fun D10 =>
        some (1, D10)) else none)
        else (some (0, D1))) else none)
      else (bnd (f_X12_fail 1 D1) fun q12 =>
      some (0, q12.2)))
theorem t_X12_lift {g : mm_G} {d : Nat} {h : mm_Hp} {C D : CS} {x1 : Int32} {r : (Int32 × CS)} (hd : 1 ≤ d) (R : Rep h C D) (H : f_X12_lift x1 D = some r) : mm_P g d MX12_lift 0 [some (.ref 113), some (.int x1)] [] h (dI C r) := by
  unfold f_X12_lift at H
  refine mm_aload_n dX12_lift_0 rfl ?_
  refine mm_iconst (v := 0) dX12_lift_1 (by decide +kernel) ?_
  obtain ⟨D1, e2, H⟩ := hD H
  refine rD_put (key := 11300) lk_X12_111_X12 lay_113 rfl rfl rfl rfl rfl dX12_lift_2 R e2 (fun h R => ?_)
  refine mm_iload_n dX12_lift_5 rfl ?_
  refine mm_if_lt 17 dX12_lift_6 (by decide) (fun c3 => ?_) (fun c3 => ?_)
  · replace H := hT c3 H
    refine mm_aload_n dX12_lift_17 rfl ?_
    refine mm_iconst (v := 1) dX12_lift_18 (by decide +kernel) ?_
    obtain ⟨q4, H5, H⟩ := hC H
    refine mm_callV (d' := d - 1) (as := [.int 1]) (st := []) (dS hd) cm_X12_fail (mm_t6 129 rfl rfl) (mm_t6 131 rfl rfl) (mm_s2 15 rfl rfl) (T := TX12) (N := 54) rfl dX12_lift_19 (R.oD (r := 113) rfl lay_113) rfl (Nat.le_of_ble_eq_true rfl) (Nat.le_of_ble_eq_true rfl) rfl rfl (t_X12_fail (dL hd (by decide)) R H5) (fun o h q => th_dI q (fun R => ?_))
    refine mm_pop rfl dX12_lift_22 ?_
    refine mm_iconst (v := 0) dX12_lift_23 (by decide +kernel) ?_
    refine mm_iret rfl rfl dX12_lift_24 ?_
    exact en_dI H R
  · replace H := hF c3 H
    refine mm_iload_n dX12_lift_9 rfl ?_
    refine mm_aload_n dX12_lift_10 rfl ?_
    refine rD_get (key := 11334) lk_X12_240_X12 lay_113 rfl rfl rfl dX12_lift_11 R ?_
    refine mm_icmp_lt 25 dX12_lift_14 (by decide) (fun c6 => ?_) (fun c6 => ?_)
    · replace H := hT c6 H
      refine mm_aload_n dX12_lift_25 rfl ?_
      refine rD_getR (t := 138) lk_X12_93_X12 lay_113 rfl rfl dX12_lift_26 R ?_
      refine mm_iload_n dX12_lift_29 rfl ?_
      obtain ⟨b7, H⟩ := hB H
      refine rD_iald lay_140 rfl dX12_lift_30 R b7 ?_
      refine mm_iconst (v := (-1)) dX12_lift_31 (by decide +kernel) ?_
      refine mm_icmp_eq 37 dX12_lift_32 (by decide) (fun c8 => ?_) (fun c8 => ?_)
      · replace H := hT c8 H
        refine mm_aload_n dX12_lift_37 rfl ?_
        refine rD_getR (t := 138) lk_X12_93_X12 lay_113 rfl rfl dX12_lift_38 R ?_
        refine mm_iload_n dX12_lift_41 rfl ?_
        refine mm_aload_n dX12_lift_42 rfl ?_
        refine rD_get (key := 11305) lk_X12_229_X12 lay_113 rfl rfl rfl dX12_lift_43 R ?_
        obtain ⟨b9, H⟩ := hB H
        obtain ⟨D10, e11, H⟩ := hD H
        refine rD_iast lay_140 rfl dX12_lift_46 R b9 e11 (fun h R => ?_)
        refine mm_iconst (v := 1) dX12_lift_47 (by decide +kernel) ?_
        refine mm_iret rfl rfl dX12_lift_48 ?_
        exact en_dI H R
      · replace H := hF c8 H
        refine mm_iconst (v := 0) dX12_lift_35 (by decide +kernel) ?_
        refine mm_iret rfl rfl dX12_lift_36 ?_
        exact en_dI H R
    · replace H := hF c6 H
      refine mm_aload_n dX12_lift_17 rfl ?_
      refine mm_iconst (v := 1) dX12_lift_18 (by decide +kernel) ?_
      obtain ⟨q12, H13, H⟩ := hC H
      refine mm_callV (d' := d - 1) (as := [.int 1]) (st := []) (dS hd) cm_X12_fail (mm_t6 129 rfl rfl) (mm_t6 131 rfl rfl) (mm_s2 15 rfl rfl) (T := TX12) (N := 54) rfl dX12_lift_19 (R.oD (r := 113) rfl lay_113) rfl (Nat.le_of_ble_eq_true rfl) (Nat.le_of_ble_eq_true rfl) rfl rfl (t_X12_fail (dL hd (by decide)) R H13) (fun o h q => th_dI q (fun R => ?_))
      refine mm_pop rfl dX12_lift_22 ?_
      refine mm_iconst (v := 0) dX12_lift_23 (by decide +kernel) ?_
      refine mm_iret rfl rfl dX12_lift_24 ?_
      exact en_dI H R
def f_X12_status (N : Nat) (x1 : Int32) (x2 : Int32) (x3 : Int32) (D : CS) : Option (Int32 × CS) :=
  bd (sI D 11300 0) fun D1 =>
  bnd (f_X12_isLine x1 D1) fun q3 =>
  if q3 = 0 then (bnd (f_X12_fail 1 D1) fun q6 =>
    some (q6.1, q6.2))
    else (if x3 < 0 then (bnd (f_X12_fail 1 D1) fun q9 =>
      some (q9.1, q9.2))
      else (if x3 ≤ 1 then (if x3 = 1 then (bnd (f_X12_level N x1 x2 D1) fun q16 =>
          some (q16, D1))
          else (bnd (f_X12_isStruck N x1 x2 D1) fun q13 =>
          if q13 = 0 then (some (0, D1))
            else (some (1, D1))))
        else (bnd (f_X12_fail 1 D1) fun q18 =>
        some (q18.1, q18.2))))
theorem t_X12_status {g : mm_G} {d : Nat} {h : mm_Hp} {C D : CS} {N : Nat} {x1 : Int32} {x2 : Int32} {x3 : Int32} {r : (Int32 × CS)} (hd : 2 ≤ d) (R : Rep h C D) (H : f_X12_status N x1 x2 x3 D = some r) : mm_P g d MX12_status 0 [some (.ref 113), some (.int x1), some (.int x2), some (.int x3)] [] h (dI C r) := by
  unfold f_X12_status at H
  refine mm_aload_n dX12_status_0 rfl ?_
  refine mm_iconst (v := 0) dX12_status_1 (by decide +kernel) ?_
  obtain ⟨D1, e2, H⟩ := hD H
  refine rD_put (key := 11300) lk_X12_111_X12 lay_113 rfl rfl rfl rfl rfl dX12_status_2 R e2 (fun h R => ?_)
  refine mm_aload_n dX12_status_5 rfl ?_
  refine mm_iload_n dX12_status_6 rfl ?_
  obtain ⟨q3, H4, H⟩ := hC H
  refine mm_callV (d' := d - 1) (as := [.int x1]) (st := []) (dS hd) cm_X12_isLine (mm_t6 208 rfl rfl) (mm_t6 210 rfl rfl) (mm_s3 15 rfl rfl) (T := TX12) (N := 54) rfl dX12_status_7 (R.oD (r := 113) rfl lay_113) rfl (Nat.le_of_ble_eq_true rfl) (Nat.le_of_ble_eq_true rfl) rfl rfl (t_X12_isLine (dL hd (by decide)) R H4) (fun o u q => mm_thenI q ?_)
  refine mm_if_eq 22 dX12_status_10 (by decide) (fun c5 => ?_) (fun c5 => ?_)
  · replace H := hT c5 H
    refine mm_aload_n dX12_status_22 rfl ?_
    refine mm_iconst (v := 1) dX12_status_23 (by decide +kernel) ?_
    obtain ⟨q6, H7, H⟩ := hC H
    refine mm_callV (d' := d - 1) (as := [.int 1]) (st := []) (dS hd) cm_X12_fail (mm_t6 129 rfl rfl) (mm_t6 131 rfl rfl) (mm_s2 15 rfl rfl) (T := TX12) (N := 54) rfl dX12_status_24 (R.oD (r := 113) rfl lay_113) rfl (Nat.le_of_ble_eq_true rfl) (Nat.le_of_ble_eq_true rfl) rfl rfl (t_X12_fail (dL hd (by decide)) R H7) (fun o h q => th_dI q (fun R => ?_))
    refine mm_iret rfl rfl dX12_status_27 ?_
    exact en_dI H R
  · replace H := hF c5 H
    refine mm_iload_n dX12_status_13 rfl ?_
    refine mm_if_lt 22 dX12_status_14 (by decide) (fun c8 => ?_) (fun c8 => ?_)
    · replace H := hT c8 H
      refine mm_aload_n dX12_status_22 rfl ?_
      refine mm_iconst (v := 1) dX12_status_23 (by decide +kernel) ?_
      obtain ⟨q9, H10, H⟩ := hC H
      refine mm_callV (d' := d - 1) (as := [.int 1]) (st := []) (dS hd) cm_X12_fail (mm_t6 129 rfl rfl) (mm_t6 131 rfl rfl) (mm_s2 15 rfl rfl) (T := TX12) (N := 54) rfl dX12_status_24 (R.oD (r := 113) rfl lay_113) rfl (Nat.le_of_ble_eq_true rfl) (Nat.le_of_ble_eq_true rfl) rfl rfl (t_X12_fail (dL hd (by decide)) R H10) (fun o h q => th_dI q (fun R => ?_))
      refine mm_iret rfl rfl dX12_status_27 ?_
      exact en_dI H R
    · replace H := hF c8 H
      refine mm_iload_n dX12_status_17 rfl ?_
      refine mm_iconst (v := 1) dX12_status_18 (by decide +kernel) ?_
      refine mm_icmp_le 28 dX12_status_19 (by decide) (fun c11 => ?_) (fun c11 => ?_)
      · replace H := hT c11 H
        refine mm_iload_n dX12_status_28 rfl ?_
        refine mm_iconst (v := 1) dX12_status_29 (by decide +kernel) ?_
        refine mm_icmp_ne 42 dX12_status_30 (by decide) (fun c12 => ?_) (fun c12 => ?_)
        · replace H := hF c12 H
          refine mm_aload_n dX12_status_42 rfl ?_
          refine mm_iload_n dX12_status_43 rfl ?_
          refine mm_iload_n dX12_status_44 rfl ?_
          obtain ⟨q13, H14, H⟩ := hC H
          refine mm_callV (d' := d - 1) (as := [.int x1, .int x2]) (st := []) (dS hd) cm_X12_isStruck (mm_t7 9 rfl rfl) (mm_t7 11 rfl rfl) (mm_s4 4 rfl rfl) (T := TX12) (N := 54) rfl dX12_status_45 (R.oD (r := 113) rfl lay_113) rfl (Nat.le_of_ble_eq_true rfl) (Nat.le_of_ble_eq_true rfl) rfl rfl (t_X12_isStruck (dL hd (by decide)) R H14) (fun o u q => mm_thenI q ?_)
          refine mm_if_eq 55 dX12_status_48 (by decide) (fun c15 => ?_) (fun c15 => ?_)
          · replace H := hT c15 H
            refine mm_iconst (v := 0) dX12_status_55 (by decide +kernel) ?_
            refine mm_iret rfl rfl dX12_status_56 ?_
            exact en_dI H R
          · replace H := hF c15 H
            refine mm_iconst (v := 1) dX12_status_51 (by decide +kernel) ?_
            refine mm_goto 56 dX12_status_52 (by decide) ?_
            refine mm_iret rfl rfl dX12_status_56 ?_
            exact en_dI H R
        · replace H := hT c12 H
          refine mm_aload_n dX12_status_33 rfl ?_
          refine mm_iload_n dX12_status_34 rfl ?_
          refine mm_iload_n dX12_status_35 rfl ?_
          obtain ⟨q16, H17, H⟩ := hC H
          refine mm_callV (d' := d - 1) (as := [.int x1, .int x2]) (st := []) (dS hd) cm_X12_level (mm_t7 54 rfl rfl) (mm_t7 56 rfl rfl) (mm_s4 8 rfl rfl) (T := TX12) (N := 54) rfl dX12_status_36 (R.oD (r := 113) rfl lay_113) rfl (Nat.le_of_ble_eq_true rfl) (Nat.le_of_ble_eq_true rfl) rfl rfl (t_X12_level (dL hd (by decide)) R H17) (fun o u q => mm_thenI q ?_)
          refine mm_goto 56 dX12_status_39 (by decide) ?_
          refine mm_iret rfl rfl dX12_status_56 ?_
          exact en_dI H R
      · replace H := hF c11 H
        refine mm_aload_n dX12_status_22 rfl ?_
        refine mm_iconst (v := 1) dX12_status_23 (by decide +kernel) ?_
        obtain ⟨q18, H19, H⟩ := hC H
        refine mm_callV (d' := d - 1) (as := [.int 1]) (st := []) (dS hd) cm_X12_fail (mm_t6 129 rfl rfl) (mm_t6 131 rfl rfl) (mm_s2 15 rfl rfl) (T := TX12) (N := 54) rfl dX12_status_24 (R.oD (r := 113) rfl lay_113) rfl (Nat.le_of_ble_eq_true rfl) (Nat.le_of_ble_eq_true rfl) rfl rfl (t_X12_fail (dL hd (by decide)) R H19) (fun o h q => th_dI q (fun R => ?_))
        refine mm_iret rfl rfl dX12_status_27 ?_
        exact en_dI H R
def f_X12_sayHidden_L16 (N : Nat) : Nat → Int32 → CS → Option (CS)
  | 0, _, _ => none
  | n + 1, x3, D => if (nI (sl 3)) ≤ x3 then (some D)
    else (if inb x3 (sl 3) = true then (bnd (f_X12_say (chOf 3 (x3).toNatClampNeg) D) fun q4 =>
    f_X12_sayHidden_L16 N n (x3 + 1) q4) else none)
theorem t_X12_sayHidden_L16 {g : mm_G} {d : Nat} {Post : mm_Ou → mm_Hp → Prop} {C : CS} {N : Nat} {res : (CS)} (hd : 4 ≤ d) (KE : ∀ (h1 : mm_Hp), Rep h1 C res → mm_P g d MX12_sayHidden 39 [none, none, none, none] [] h1 Post) : ∀ (n : Nat) (x3 : Int32) (D : CS) (h : mm_Hp) , Rep h C D → f_X12_sayHidden_L16 N n x3 D = some res → mm_P g d MX12_sayHidden 16 [some (.ref 113), none, some (.ref 3), some (.int x3)] [] h Post := by
  intro n
  induction n with
  | zero =>
    intro x3 D h R H
    exact hN H
  | succ n ih =>
    intro x3 D h R H
    unfold f_X12_sayHidden_L16 at H
    refine mm_iload_n dX12_sayHidden_16 rfl ?_
    refine mm_aload_n dX12_sayHidden_17 rfl ?_
    refine mm_callF (i := 3) (d' := d - 1) (as := []) (st := [.int x3]) (by decide) (by decide) (dS hd) cm_J0_length_8abf5 (mm_t7 69 rfl rfl) (mm_t3 196 rfl rfl) (mm_t3 197 rfl rfl) dX12_sayHidden_18 rfl (Nat.le_of_ble_eq_true rfl) (Nat.le_of_ble_eq_true rfl) rfl rfl (tx_len (by decide) (by decide) (dL hd (by decide))) (fun o u q => mm_thenI q ?_)
    refine mm_icmp_ge 39 dX12_sayHidden_21 (by decide) (fun c2 => ?_) (fun c2 => ?_)
    · replace H := hT c2 H
      refine mm_fgt (ls' := [none, none, none, none]) trivial ?_
      cases H
      exact KE _ R
    · replace H := hF c2 H
      refine mm_aload_n dX12_sayHidden_24 rfl ?_
      refine mm_aload_n dX12_sayHidden_25 rfl ?_
      refine mm_iload_n dX12_sayHidden_26 rfl ?_
      obtain ⟨b3, H⟩ := hB H
      refine mm_callF (i := 3) (d' := d - 1) (as := [.int x3]) (st := [.ref 113]) (by decide) (by decide) (dS hd) cm_J0_charAt_5068e (mm_t7 70 rfl rfl) (mm_t5 102 rfl rfl) (mm_t5 103 rfl rfl) dX12_sayHidden_27 rfl (Nat.le_of_ble_eq_true rfl) (Nat.le_of_ble_eq_true rfl) rfl rfl (tx_at (by decide) (by decide) (dL hd (by decide)) b3) (fun o u q => mm_thenI q ?_)
      obtain ⟨q4, H5, H⟩ := hC H
      refine mm_callV (d' := d - 1) (as := [.int (chOf 3 (x3).toNatClampNeg)]) (st := []) (dS hd) cm_X12_say (mm_t7 38 rfl rfl) (mm_t7 40 rfl rfl) (mm_s4 7 rfl rfl) (T := TX12) (N := 54) rfl dX12_sayHidden_30 (R.oD (r := 113) rfl lay_113) rfl (Nat.le_of_ble_eq_true rfl) (Nat.le_of_ble_eq_true rfl) rfl rfl (t_X12_say (dL hd (by decide)) R H5) (fun o h q => th_dV q (fun R => ?_))
      refine mm_iinc (v := (x3 + 1)) (ls' := [some (.ref 113), none, some (.ref 3), some (.int (x3 + 1))]) dX12_sayHidden_33 rfl rfl rfl ?_
      refine mm_goto 16 dX12_sayHidden_36 (by decide) ?_
      exact ih _ _ _ R H
def f_X12_sayHidden_L16_1 (N : Nat) : Nat → Int32 → CS → Option (CS)
  | 0, _, _ => none
  | n + 1, x3, D => if (nI (sl 2)) ≤ x3 then (some D)
    else (if inb x3 (sl 2) = true then (bnd (f_X12_say (chOf 2 (x3).toNatClampNeg) D) fun q10 =>
    f_X12_sayHidden_L16_1 N n (x3 + 1) q10) else none)
theorem t_X12_sayHidden_L16_1 {g : mm_G} {d : Nat} {Post : mm_Ou → mm_Hp → Prop} {C : CS} {N : Nat} {res : (CS)} (hd : 4 ≤ d) (KE : ∀ (h1 : mm_Hp), Rep h1 C res → mm_P g d MX12_sayHidden 39 [none, none, none, none] [] h1 Post) : ∀ (n : Nat) (x3 : Int32) (D : CS) (h : mm_Hp) , Rep h C D → f_X12_sayHidden_L16_1 N n x3 D = some res → mm_P g d MX12_sayHidden 16 [some (.ref 113), none, some (.ref 2), some (.int x3)] [] h Post := by
  intro n
  induction n with
  | zero =>
    intro x3 D h R H
    exact hN H
  | succ n ih =>
    intro x3 D h R H
    unfold f_X12_sayHidden_L16_1 at H
    refine mm_iload_n dX12_sayHidden_16 rfl ?_
    refine mm_aload_n dX12_sayHidden_17 rfl ?_
    refine mm_callF (i := 2) (d' := d - 1) (as := []) (st := [.int x3]) (by decide) (by decide) (dS hd) cm_J0_length_8abf5 (mm_t7 69 rfl rfl) (mm_t3 196 rfl rfl) (mm_t3 197 rfl rfl) dX12_sayHidden_18 rfl (Nat.le_of_ble_eq_true rfl) (Nat.le_of_ble_eq_true rfl) rfl rfl (tx_len (by decide) (by decide) (dL hd (by decide))) (fun o u q => mm_thenI q ?_)
    refine mm_icmp_ge 39 dX12_sayHidden_21 (by decide) (fun c8 => ?_) (fun c8 => ?_)
    · replace H := hT c8 H
      refine mm_fgt (ls' := [none, none, none, none]) trivial ?_
      cases H
      exact KE _ R
    · replace H := hF c8 H
      refine mm_aload_n dX12_sayHidden_24 rfl ?_
      refine mm_aload_n dX12_sayHidden_25 rfl ?_
      refine mm_iload_n dX12_sayHidden_26 rfl ?_
      obtain ⟨b9, H⟩ := hB H
      refine mm_callF (i := 2) (d' := d - 1) (as := [.int x3]) (st := [.ref 113]) (by decide) (by decide) (dS hd) cm_J0_charAt_5068e (mm_t7 70 rfl rfl) (mm_t5 102 rfl rfl) (mm_t5 103 rfl rfl) dX12_sayHidden_27 rfl (Nat.le_of_ble_eq_true rfl) (Nat.le_of_ble_eq_true rfl) rfl rfl (tx_at (by decide) (by decide) (dL hd (by decide)) b9) (fun o u q => mm_thenI q ?_)
      obtain ⟨q10, H11, H⟩ := hC H
      refine mm_callV (d' := d - 1) (as := [.int (chOf 2 (x3).toNatClampNeg)]) (st := []) (dS hd) cm_X12_say (mm_t7 38 rfl rfl) (mm_t7 40 rfl rfl) (mm_s4 7 rfl rfl) (T := TX12) (N := 54) rfl dX12_sayHidden_30 (R.oD (r := 113) rfl lay_113) rfl (Nat.le_of_ble_eq_true rfl) (Nat.le_of_ble_eq_true rfl) rfl rfl (t_X12_say (dL hd (by decide)) R H11) (fun o h q => th_dV q (fun R => ?_))
      refine mm_iinc (v := (x3 + 1)) (ls' := [some (.ref 113), none, some (.ref 2), some (.int (x3 + 1))]) dX12_sayHidden_33 rfl rfl rfl ?_
      refine mm_goto 16 dX12_sayHidden_36 (by decide) ?_
      exact ih _ _ _ R H
def f_X12_sayHidden (N : Nat) (x1 : Int32) (D : CS) : Option CS :=
  if x1 = 0 then (bnd (f_X12_sayHidden_L16 N N 0 D) fun q6 =>
      some q6)
      else (bnd (f_X12_sayHidden_L16_1 N N 0 D) fun q12 =>
      some q12)
theorem t_X12_sayHidden {g : mm_G} {d : Nat} {h : mm_Hp} {C D : CS} {N : Nat} {x1 : Int32} {r : CS} (hd : 4 ≤ d) (R : Rep h C D) (H : f_X12_sayHidden N x1 D = some r) : mm_P g d MX12_sayHidden 0 [some (.ref 113), some (.int x1), none, none] [] h (dV C r) := by
  unfold f_X12_sayHidden at H
  refine mm_iload_n dX12_sayHidden_0 rfl ?_
  refine mm_if_eq 10 dX12_sayHidden_1 (by decide) (fun c1 => ?_) (fun c1 => ?_)
  · replace H := hT c1 H
    refine mm_ldcSw (no := 3) (tx := "- sealed") (by decide) (by decide) dX12_sayHidden_10 ?_
    refine mm_astore_n (ls' := [some (.ref 113), some (.int x1), some (.ref 3), none]) dX12_sayHidden_13 (Nat.le_of_ble_eq_true rfl) rfl ?_
    refine mm_iconst (v := 0) dX12_sayHidden_14 (by decide +kernel) ?_
    refine mm_istore_n (ls' := [some (.ref 113), some (.int x1), some (.ref 3), some (.int 0)]) dX12_sayHidden_15 (Nat.le_of_ble_eq_true rfl) rfl ?_
    obtain ⟨q6, H7, H⟩ := hC H
    refine mm_fgt (ls' := [some (.ref 113), none, some (.ref 3), some (.int 0)]) ⟨rfl, rfl, rfl, trivial⟩ ?_
    refine t_X12_sayHidden_L16 hd (fun h R => ?_) N _ _ _ R H7
    refine mm_vret rfl dX12_sayHidden_39 ?_
    exact en_dV H R
  · replace H := hF c1 H
    refine mm_ldcSw (no := 2) (tx := "- struck") (by decide) (by decide) dX12_sayHidden_4 ?_
    refine mm_goto 13 dX12_sayHidden_7 (by decide) ?_
    refine mm_astore_n (ls' := [some (.ref 113), some (.int x1), some (.ref 2), none]) dX12_sayHidden_13 (Nat.le_of_ble_eq_true rfl) rfl ?_
    refine mm_iconst (v := 0) dX12_sayHidden_14 (by decide +kernel) ?_
    refine mm_istore_n (ls' := [some (.ref 113), some (.int x1), some (.ref 2), some (.int 0)]) dX12_sayHidden_15 (Nat.le_of_ble_eq_true rfl) rfl ?_
    obtain ⟨q12, H13, H⟩ := hC H
    refine mm_fgt (ls' := [some (.ref 113), none, some (.ref 2), some (.int 0)]) ⟨rfl, rfl, rfl, trivial⟩ ?_
    refine t_X12_sayHidden_L16_1 hd (fun h R => ?_) N _ _ _ R H13
    refine mm_vret rfl dX12_sayHidden_39 ?_
    exact en_dV H R
def f_X12_read_L124 (N : Nat) (x1 : Int32) (x2 : Int32) (x3 : Int32) (x4 : Int32) (x5 : Int32) (x6 : Int32) : Nat → Int32 → CS → Option (CS)
  | 0, _, _ => none
  | n + 1, x7, D => if inb x6 300 = true then (if (gA D 124 (x6).toNatClampNeg) ≤ x7 then (some D)
    else (if inb ((60 * x6) + x7) 18000 = true then (bnd (f_X12_say (gA D 125 (((60 * x6) + x7)).toNatClampNeg) D) fun q37 =>
    f_X12_read_L124 N x1 x2 x3 x4 x5 x6 n (x7 + 1) q37) else none)) else none
theorem t_X12_read_L124 {g : mm_G} {d : Nat} {Post : mm_Ou → mm_Hp → Prop} {C : CS} {N : Nat} {x1 : Int32} {x2 : Int32} {x3 : Int32} {x4 : Int32} {x5 : Int32} {x6 : Int32} {res : (CS)} (hd : 5 ≤ d) (KE : ∀ (h1 : mm_Hp), Rep h1 C res → mm_P g d MX12_read 159 [some (.ref 113), some (.int x1), some (.int x2), some (.int x3), some (.int x4), some (.int x5), none, none] [] h1 Post) : ∀ (n : Nat) (x7 : Int32) (D : CS) (h : mm_Hp) , Rep h C D → f_X12_read_L124 N x1 x2 x3 x4 x5 x6 n x7 D = some res → mm_P g d MX12_read 124 [some (.ref 113), some (.int x1), some (.int x2), some (.int x3), some (.int x4), some (.int x5), some (.int x6), some (.int x7)] [] h Post := by
  intro n
  induction n with
  | zero =>
    intro x7 D h R H
    exact hN H
  | succ n ih =>
    intro x7 D h R H
    unfold f_X12_read_L124 at H
    refine mm_iload dX12_read_124 rfl ?_
    refine mm_aload_n dX12_read_126 rfl ?_
    refine rD_getR (t := 122) lk_X12_44_X12 lay_113 rfl rfl dX12_read_127 R ?_
    refine mm_iload dX12_read_130 rfl ?_
    obtain ⟨b34, H⟩ := hB H
    refine rD_iald lay_124 rfl dX12_read_132 R b34 ?_
    refine mm_icmp_ge 159 dX12_read_133 (by decide) (fun c35 => ?_) (fun c35 => ?_)
    · replace H := hT c35 H
      refine mm_fgt (ls' := [some (.ref 113), some (.int x1), some (.int x2), some (.int x3), some (.int x4), some (.int x5), none, none]) ⟨rfl, rfl, rfl, rfl, rfl, rfl, trivial⟩ ?_
      cases H
      exact KE _ R
    · replace H := hF c35 H
      refine mm_aload_n dX12_read_136 rfl ?_
      refine mm_aload_n dX12_read_137 rfl ?_
      refine rD_getR (t := 123) lk_X12_47_X12 lay_113 rfl rfl dX12_read_138 R ?_
      refine mm_bipush (v := 60) dX12_read_141 (by decide +kernel) ?_
      refine mm_iload dX12_read_143 rfl ?_
      refine mm_imul dX12_read_145 ?_
      refine mm_iload dX12_read_146 rfl ?_
      refine mm_iadd dX12_read_148 ?_
      obtain ⟨b36, H⟩ := hB H
      refine rD_iald lay_125 rfl dX12_read_149 R b36 ?_
      obtain ⟨q37, H38, H⟩ := hC H
      refine mm_callV (d' := d - 1) (as := [.int (gA D 125 (((60 * x6) + x7)).toNatClampNeg)]) (st := []) (dS hd) cm_X12_say (mm_t7 38 rfl rfl) (mm_t7 40 rfl rfl) (mm_s4 7 rfl rfl) (T := TX12) (N := 54) rfl dX12_read_150 (R.oD (r := 113) rfl lay_113) rfl (Nat.le_of_ble_eq_true rfl) (Nat.le_of_ble_eq_true rfl) rfl rfl (t_X12_say (dL hd (by decide)) R H38) (fun o h q => th_dV q (fun R => ?_))
      refine mm_iinc (v := (x7 + 1)) (ls' := [some (.ref 113), some (.int x1), some (.int x2), some (.int x3), some (.int x4), some (.int x5), some (.int x6), some (.int (x7 + 1))]) dX12_read_153 rfl rfl rfl ?_
      refine mm_goto 124 dX12_read_156 (by decide) ?_
      exact ih _ _ _ R H
def f_X12_read_L55 (N : Nat) (x1 : Int32) (x2 : Int32) (x3 : Int32) (x4 : Int32) : Nat → Int32 → CS → Option (CS)
  | 0, _, _ => none
  | n + 1, x5, D => if x2 < x5 then (some D)
    else (if x5 ≤ x1 then (bnd (f_X12_isStruck N x5 x4 D) fun q22 =>
      if q22 = 0 then (bnd (f_X12_level N x5 x4 D) fun q29 =>
        if q29 ≤ x3 then (bnd (f_X12_restOn N x5 x4 D) fun q32 =>
          bnd (f_X12_read_L124 N x1 x2 x3 x4 x5 q32 N 0 D) fun q39 =>
            f_X12_read_L55 N x1 x2 x3 x4 n (x5 + 1) q39)
            else (bnd (f_X12_isStruck N x5 x4 D) fun q41 =>
          bnd (f_X12_sayHidden N q41 D) fun q43 =>
          f_X12_read_L55 N x1 x2 x3 x4 n (x5 + 1) q43))
        else (bnd (f_X12_isStruck N x5 x4 D) fun q25 =>
        bnd (f_X12_sayHidden N q25 D) fun q27 =>
        f_X12_read_L55 N x1 x2 x3 x4 n (x5 + 1) q27))
      else (bnd (f_X12_say 10 D) fun q45 =>
      bnd (f_X12_isStruck N x5 x4 q45) fun q47 =>
      if q47 = 0 then (bnd (f_X12_level N x5 x4 q45) fun q54 =>
        if q54 ≤ x3 then (bnd (f_X12_restOn N x5 x4 q45) fun q57 =>
          bnd (f_X12_read_L124 N x1 x2 x3 x4 x5 q57 N 0 q45) fun q59 =>
            f_X12_read_L55 N x1 x2 x3 x4 n (x5 + 1) q59)
            else (bnd (f_X12_isStruck N x5 x4 q45) fun q61 =>
          bnd (f_X12_sayHidden N q61 q45) fun q63 =>
          f_X12_read_L55 N x1 x2 x3 x4 n (x5 + 1) q63))
        else (bnd (f_X12_isStruck N x5 x4 q45) fun q50 =>
        bnd (f_X12_sayHidden N q50 q45) fun q52 =>
        f_X12_read_L55 N x1 x2 x3 x4 n (x5 + 1) q52)))
theorem t_X12_read_L55 {g : mm_G} {d : Nat} {Post : mm_Ou → mm_Hp → Prop} {C : CS} {N : Nat} {x1 : Int32} {x2 : Int32} {x3 : Int32} {x4 : Int32} {res : (CS)} (hd : 5 ≤ d) (KE : ∀ (h1 : mm_Hp), Rep h1 C res → mm_P g d MX12_read 165 [some (.ref 113), none, none, none, none, none, none, none] [] h1 Post) : ∀ (n : Nat) (x5 : Int32) (D : CS) (h : mm_Hp) , Rep h C D → f_X12_read_L55 N x1 x2 x3 x4 n x5 D = some res → mm_P g d MX12_read 55 [some (.ref 113), some (.int x1), some (.int x2), some (.int x3), some (.int x4), some (.int x5), none, none] [] h Post := by
  intro n
  induction n with
  | zero =>
    intro x5 D h R H
    exact hN H
  | succ n ih =>
    intro x5 D h R H
    unfold f_X12_read_L55 at H
    refine mm_iload dX12_read_55 rfl ?_
    refine mm_iload_n dX12_read_57 rfl ?_
    refine mm_icmp_gt 165 dX12_read_58 (by decide) (fun c20 => ?_) (fun c20 => ?_)
    · replace H := hT c20 H
      refine mm_fgt (ls' := [some (.ref 113), none, none, none, none, none, none, none]) ⟨rfl, trivial⟩ ?_
      cases H
      exact KE _ R
    · replace H := hF c20 H
      refine mm_iload dX12_read_61 rfl ?_
      refine mm_iload_n dX12_read_63 rfl ?_
      refine mm_icmp_le 73 dX12_read_64 (by decide) (fun c21 => ?_) (fun c21 => ?_)
      · replace H := hT c21 H
        refine mm_aload_n dX12_read_73 rfl ?_
        refine mm_iload dX12_read_74 rfl ?_
        refine mm_iload dX12_read_76 rfl ?_
        obtain ⟨q22, H23, H⟩ := hC H
        refine mm_callV (d' := d - 1) (as := [.int x5, .int x4]) (st := []) (dS hd) cm_X12_isStruck (mm_t7 9 rfl rfl) (mm_t7 11 rfl rfl) (mm_s4 4 rfl rfl) (T := TX12) (N := 54) rfl dX12_read_78 (R.oD (r := 113) rfl lay_113) rfl (Nat.le_of_ble_eq_true rfl) (Nat.le_of_ble_eq_true rfl) rfl rfl (t_X12_isStruck (dL hd (by decide)) R H23) (fun o u q => mm_thenI q ?_)
        refine mm_if_ne 96 dX12_read_81 (by decide) (fun c24 => ?_) (fun c24 => ?_)
        · replace H := hF c24 H
          refine mm_aload_n dX12_read_96 rfl ?_
          refine mm_aload_n dX12_read_97 rfl ?_
          refine mm_iload dX12_read_98 rfl ?_
          refine mm_iload dX12_read_100 rfl ?_
          obtain ⟨q25, H26, H⟩ := hC H
          refine mm_callV (d' := d - 1) (as := [.int x5, .int x4]) (st := [.ref 113]) (dS hd) cm_X12_isStruck (mm_t7 9 rfl rfl) (mm_t7 11 rfl rfl) (mm_s4 4 rfl rfl) (T := TX12) (N := 54) rfl dX12_read_102 (R.oD (r := 113) rfl lay_113) rfl (Nat.le_of_ble_eq_true rfl) (Nat.le_of_ble_eq_true rfl) rfl rfl (t_X12_isStruck (dL hd (by decide)) R H26) (fun o u q => mm_thenI q ?_)
          obtain ⟨q27, H28, H⟩ := hC H
          refine mm_callV (d' := d - 1) (as := [.int q25]) (st := []) (dS hd) cm_X12_sayHidden (mm_t7 63 rfl rfl) (mm_t7 65 rfl rfl) (mm_s4 9 rfl rfl) (T := TX12) (N := 54) rfl dX12_read_105 (R.oD (r := 113) rfl lay_113) rfl (Nat.le_of_ble_eq_true rfl) (Nat.le_of_ble_eq_true rfl) rfl rfl (t_X12_sayHidden (dL hd (by decide)) R H28) (fun o h q => th_dV q (fun R => ?_))
          refine mm_goto 159 dX12_read_108 (by decide) ?_
          refine mm_iinc (v := (x5 + 1)) (ls' := [some (.ref 113), some (.int x1), some (.int x2), some (.int x3), some (.int x4), some (.int (x5 + 1)), none, none]) dX12_read_159 rfl rfl rfl ?_
          refine mm_goto 55 dX12_read_162 (by decide) ?_
          exact ih _ _ _ R H
        · replace H := hT c24 H
          refine mm_aload_n dX12_read_84 rfl ?_
          refine mm_iload dX12_read_85 rfl ?_
          refine mm_iload dX12_read_87 rfl ?_
          obtain ⟨q29, H30, H⟩ := hC H
          refine mm_callV (d' := d - 1) (as := [.int x5, .int x4]) (st := []) (dS hd) cm_X12_level (mm_t7 54 rfl rfl) (mm_t7 56 rfl rfl) (mm_s4 8 rfl rfl) (T := TX12) (N := 54) rfl dX12_read_89 (R.oD (r := 113) rfl lay_113) rfl (Nat.le_of_ble_eq_true rfl) (Nat.le_of_ble_eq_true rfl) rfl rfl (t_X12_level (dL hd (by decide)) R H30) (fun o u q => mm_thenI q ?_)
          refine mm_iload_n dX12_read_92 rfl ?_
          refine mm_icmp_le 111 dX12_read_93 (by decide) (fun c31 => ?_) (fun c31 => ?_)
          · replace H := hT c31 H
            refine mm_aload_n dX12_read_111 rfl ?_
            refine mm_iload dX12_read_112 rfl ?_
            refine mm_iload dX12_read_114 rfl ?_
            obtain ⟨q32, H33, H⟩ := hC H
            refine mm_callV (d' := d - 1) (as := [.int x5, .int x4]) (st := []) (dS hd) cm_X12_restOn (mm_t7 5 rfl rfl) (mm_t7 7 rfl rfl) (mm_s4 3 rfl rfl) (T := TX12) (N := 54) rfl dX12_read_116 (R.oD (r := 113) rfl lay_113) rfl (Nat.le_of_ble_eq_true rfl) (Nat.le_of_ble_eq_true rfl) rfl rfl (t_X12_restOn (dL hd (by decide)) R H33) (fun o u q => mm_thenI q ?_)
            refine mm_istore (ls' := [some (.ref 113), some (.int x1), some (.int x2), some (.int x3), some (.int x4), some (.int x5), some (.int q32), none]) dX12_read_119 (Nat.le_of_ble_eq_true rfl) rfl ?_
            refine mm_iconst (v := 0) dX12_read_121 (by decide +kernel) ?_
            refine mm_istore (ls' := [some (.ref 113), some (.int x1), some (.int x2), some (.int x3), some (.int x4), some (.int x5), some (.int q32), some (.int 0)]) dX12_read_122 (Nat.le_of_ble_eq_true rfl) rfl ?_
            obtain ⟨q39, H40, H⟩ := hC H
            refine t_X12_read_L124 hd (fun h R => ?_) N _ _ _ R H40
            refine mm_iinc (v := (x5 + 1)) (ls' := [some (.ref 113), some (.int x1), some (.int x2), some (.int x3), some (.int x4), some (.int (x5 + 1)), none, none]) dX12_read_159 rfl rfl rfl ?_
            refine mm_goto 55 dX12_read_162 (by decide) ?_
            exact ih _ _ _ R H
          · replace H := hF c31 H
            refine mm_aload_n dX12_read_96 rfl ?_
            refine mm_aload_n dX12_read_97 rfl ?_
            refine mm_iload dX12_read_98 rfl ?_
            refine mm_iload dX12_read_100 rfl ?_
            obtain ⟨q41, H42, H⟩ := hC H
            refine mm_callV (d' := d - 1) (as := [.int x5, .int x4]) (st := [.ref 113]) (dS hd) cm_X12_isStruck (mm_t7 9 rfl rfl) (mm_t7 11 rfl rfl) (mm_s4 4 rfl rfl) (T := TX12) (N := 54) rfl dX12_read_102 (R.oD (r := 113) rfl lay_113) rfl (Nat.le_of_ble_eq_true rfl) (Nat.le_of_ble_eq_true rfl) rfl rfl (t_X12_isStruck (dL hd (by decide)) R H42) (fun o u q => mm_thenI q ?_)
            obtain ⟨q43, H44, H⟩ := hC H
            refine mm_callV (d' := d - 1) (as := [.int q41]) (st := []) (dS hd) cm_X12_sayHidden (mm_t7 63 rfl rfl) (mm_t7 65 rfl rfl) (mm_s4 9 rfl rfl) (T := TX12) (N := 54) rfl dX12_read_105 (R.oD (r := 113) rfl lay_113) rfl (Nat.le_of_ble_eq_true rfl) (Nat.le_of_ble_eq_true rfl) rfl rfl (t_X12_sayHidden (dL hd (by decide)) R H44) (fun o h q => th_dV q (fun R => ?_))
            refine mm_goto 159 dX12_read_108 (by decide) ?_
            refine mm_iinc (v := (x5 + 1)) (ls' := [some (.ref 113), some (.int x1), some (.int x2), some (.int x3), some (.int x4), some (.int (x5 + 1)), none, none]) dX12_read_159 rfl rfl rfl ?_
            refine mm_goto 55 dX12_read_162 (by decide) ?_
            exact ih _ _ _ R H
      · replace H := hF c21 H
        refine mm_aload_n dX12_read_67 rfl ?_
        refine mm_bipush (v := 10) dX12_read_68 (by decide +kernel) ?_
        obtain ⟨q45, H46, H⟩ := hC H
        refine mm_callV (d' := d - 1) (as := [.int 10]) (st := []) (dS hd) cm_X12_say (mm_t7 38 rfl rfl) (mm_t7 40 rfl rfl) (mm_s4 7 rfl rfl) (T := TX12) (N := 54) rfl dX12_read_70 (R.oD (r := 113) rfl lay_113) rfl (Nat.le_of_ble_eq_true rfl) (Nat.le_of_ble_eq_true rfl) rfl rfl (t_X12_say (dL hd (by decide)) R H46) (fun o h q => th_dV q (fun R => ?_))
        refine mm_aload_n dX12_read_73 rfl ?_
        refine mm_iload dX12_read_74 rfl ?_
        refine mm_iload dX12_read_76 rfl ?_
        obtain ⟨q47, H48, H⟩ := hC H
        refine mm_callV (d' := d - 1) (as := [.int x5, .int x4]) (st := []) (dS hd) cm_X12_isStruck (mm_t7 9 rfl rfl) (mm_t7 11 rfl rfl) (mm_s4 4 rfl rfl) (T := TX12) (N := 54) rfl dX12_read_78 (R.oD (r := 113) rfl lay_113) rfl (Nat.le_of_ble_eq_true rfl) (Nat.le_of_ble_eq_true rfl) rfl rfl (t_X12_isStruck (dL hd (by decide)) R H48) (fun o u q => mm_thenI q ?_)
        refine mm_if_ne 96 dX12_read_81 (by decide) (fun c49 => ?_) (fun c49 => ?_)
        · replace H := hF c49 H
          refine mm_aload_n dX12_read_96 rfl ?_
          refine mm_aload_n dX12_read_97 rfl ?_
          refine mm_iload dX12_read_98 rfl ?_
          refine mm_iload dX12_read_100 rfl ?_
          obtain ⟨q50, H51, H⟩ := hC H
          refine mm_callV (d' := d - 1) (as := [.int x5, .int x4]) (st := [.ref 113]) (dS hd) cm_X12_isStruck (mm_t7 9 rfl rfl) (mm_t7 11 rfl rfl) (mm_s4 4 rfl rfl) (T := TX12) (N := 54) rfl dX12_read_102 (R.oD (r := 113) rfl lay_113) rfl (Nat.le_of_ble_eq_true rfl) (Nat.le_of_ble_eq_true rfl) rfl rfl (t_X12_isStruck (dL hd (by decide)) R H51) (fun o u q => mm_thenI q ?_)
          obtain ⟨q52, H53, H⟩ := hC H
          refine mm_callV (d' := d - 1) (as := [.int q50]) (st := []) (dS hd) cm_X12_sayHidden (mm_t7 63 rfl rfl) (mm_t7 65 rfl rfl) (mm_s4 9 rfl rfl) (T := TX12) (N := 54) rfl dX12_read_105 (R.oD (r := 113) rfl lay_113) rfl (Nat.le_of_ble_eq_true rfl) (Nat.le_of_ble_eq_true rfl) rfl rfl (t_X12_sayHidden (dL hd (by decide)) R H53) (fun o h q => th_dV q (fun R => ?_))
          refine mm_goto 159 dX12_read_108 (by decide) ?_
          refine mm_iinc (v := (x5 + 1)) (ls' := [some (.ref 113), some (.int x1), some (.int x2), some (.int x3), some (.int x4), some (.int (x5 + 1)), none, none]) dX12_read_159 rfl rfl rfl ?_
          refine mm_goto 55 dX12_read_162 (by decide) ?_
          exact ih _ _ _ R H
        · replace H := hT c49 H
          refine mm_aload_n dX12_read_84 rfl ?_
          refine mm_iload dX12_read_85 rfl ?_
          refine mm_iload dX12_read_87 rfl ?_
          obtain ⟨q54, H55, H⟩ := hC H
          refine mm_callV (d' := d - 1) (as := [.int x5, .int x4]) (st := []) (dS hd) cm_X12_level (mm_t7 54 rfl rfl) (mm_t7 56 rfl rfl) (mm_s4 8 rfl rfl) (T := TX12) (N := 54) rfl dX12_read_89 (R.oD (r := 113) rfl lay_113) rfl (Nat.le_of_ble_eq_true rfl) (Nat.le_of_ble_eq_true rfl) rfl rfl (t_X12_level (dL hd (by decide)) R H55) (fun o u q => mm_thenI q ?_)
          refine mm_iload_n dX12_read_92 rfl ?_
          refine mm_icmp_le 111 dX12_read_93 (by decide) (fun c56 => ?_) (fun c56 => ?_)
          · replace H := hT c56 H
            refine mm_aload_n dX12_read_111 rfl ?_
            refine mm_iload dX12_read_112 rfl ?_
            refine mm_iload dX12_read_114 rfl ?_
            obtain ⟨q57, H58, H⟩ := hC H
            refine mm_callV (d' := d - 1) (as := [.int x5, .int x4]) (st := []) (dS hd) cm_X12_restOn (mm_t7 5 rfl rfl) (mm_t7 7 rfl rfl) (mm_s4 3 rfl rfl) (T := TX12) (N := 54) rfl dX12_read_116 (R.oD (r := 113) rfl lay_113) rfl (Nat.le_of_ble_eq_true rfl) (Nat.le_of_ble_eq_true rfl) rfl rfl (t_X12_restOn (dL hd (by decide)) R H58) (fun o u q => mm_thenI q ?_)
            refine mm_istore (ls' := [some (.ref 113), some (.int x1), some (.int x2), some (.int x3), some (.int x4), some (.int x5), some (.int q57), none]) dX12_read_119 (Nat.le_of_ble_eq_true rfl) rfl ?_
            refine mm_iconst (v := 0) dX12_read_121 (by decide +kernel) ?_
            refine mm_istore (ls' := [some (.ref 113), some (.int x1), some (.int x2), some (.int x3), some (.int x4), some (.int x5), some (.int q57), some (.int 0)]) dX12_read_122 (Nat.le_of_ble_eq_true rfl) rfl ?_
            obtain ⟨q59, H60, H⟩ := hC H
            refine t_X12_read_L124 hd (fun h R => ?_) N _ _ _ R H60
            refine mm_iinc (v := (x5 + 1)) (ls' := [some (.ref 113), some (.int x1), some (.int x2), some (.int x3), some (.int x4), some (.int (x5 + 1)), none, none]) dX12_read_159 rfl rfl rfl ?_
            refine mm_goto 55 dX12_read_162 (by decide) ?_
            exact ih _ _ _ R H
          · replace H := hF c56 H
            refine mm_aload_n dX12_read_96 rfl ?_
            refine mm_aload_n dX12_read_97 rfl ?_
            refine mm_iload dX12_read_98 rfl ?_
            refine mm_iload dX12_read_100 rfl ?_
            obtain ⟨q61, H62, H⟩ := hC H
            refine mm_callV (d' := d - 1) (as := [.int x5, .int x4]) (st := [.ref 113]) (dS hd) cm_X12_isStruck (mm_t7 9 rfl rfl) (mm_t7 11 rfl rfl) (mm_s4 4 rfl rfl) (T := TX12) (N := 54) rfl dX12_read_102 (R.oD (r := 113) rfl lay_113) rfl (Nat.le_of_ble_eq_true rfl) (Nat.le_of_ble_eq_true rfl) rfl rfl (t_X12_isStruck (dL hd (by decide)) R H62) (fun o u q => mm_thenI q ?_)
            obtain ⟨q63, H64, H⟩ := hC H
            refine mm_callV (d' := d - 1) (as := [.int q61]) (st := []) (dS hd) cm_X12_sayHidden (mm_t7 63 rfl rfl) (mm_t7 65 rfl rfl) (mm_s4 9 rfl rfl) (T := TX12) (N := 54) rfl dX12_read_105 (R.oD (r := 113) rfl lay_113) rfl (Nat.le_of_ble_eq_true rfl) (Nat.le_of_ble_eq_true rfl) rfl rfl (t_X12_sayHidden (dL hd (by decide)) R H64) (fun o h q => th_dV q (fun R => ?_))
            refine mm_goto 159 dX12_read_108 (by decide) ?_
            refine mm_iinc (v := (x5 + 1)) (ls' := [some (.ref 113), some (.int x1), some (.int x2), some (.int x3), some (.int x4), some (.int (x5 + 1)), none, none]) dX12_read_159 rfl rfl rfl ?_
            refine mm_goto 55 dX12_read_162 (by decide) ?_
            exact ih _ _ _ R H
def f_X12_read (N : Nat) (x1 : Int32) (x2 : Int32) (x3 : Int32) (x4 : Int32) (D : CS) : Option (Int32 × CS) :=
  bd (sI D 11300 0) fun D1 =>
  bnd (f_X12_isLine x1 D1) fun q3 =>
  if q3 = 0 then (bnd (f_X12_fail 1 D1) fun q6 =>
    some (q6.1, q6.2))
    else (bnd (f_X12_isLine x2 D1) fun q8 =>
    if q8 = 0 then (bnd (f_X12_fail 1 D1) fun q11 =>
      some (q11.1, q11.2))
      else (if x1 ≤ x2 then (if x3 < 0 then (bnd (f_X12_fail 2 D1) fun q15 =>
          some (q15.1, q15.2))
          else (if x3 ≤ 3 then (bd (sI D1 11304 0) fun D18 =>
            bnd (f_X12_read_L55 N x1 x2 x3 x4 N x1 D18) fun q65 =>
              some ((gI q65 11304), q65))
              else (bnd (f_X12_fail 2 D1) fun q67 =>
            some (q67.1, q67.2))))
        else (bnd (f_X12_fail 1 D1) fun q69 =>
        some (q69.1, q69.2))))
theorem t_X12_read {g : mm_G} {d : Nat} {h : mm_Hp} {C D : CS} {N : Nat} {x1 : Int32} {x2 : Int32} {x3 : Int32} {x4 : Int32} {r : (Int32 × CS)} (hd : 5 ≤ d) (R : Rep h C D) (H : f_X12_read N x1 x2 x3 x4 D = some r) : mm_P g d MX12_read 0 [some (.ref 113), some (.int x1), some (.int x2), some (.int x3), some (.int x4), none, none, none] [] h (dI C r) := by
  unfold f_X12_read at H
  refine mm_aload_n dX12_read_0 rfl ?_
  refine mm_iconst (v := 0) dX12_read_1 (by decide +kernel) ?_
  obtain ⟨D1, e2, H⟩ := hD H
  refine rD_put (key := 11300) lk_X12_111_X12 lay_113 rfl rfl rfl rfl rfl dX12_read_2 R e2 (fun h R => ?_)
  refine mm_aload_n dX12_read_5 rfl ?_
  refine mm_iload_n dX12_read_6 rfl ?_
  obtain ⟨q3, H4, H⟩ := hC H
  refine mm_callV (d' := d - 1) (as := [.int x1]) (st := []) (dS hd) cm_X12_isLine (mm_t6 208 rfl rfl) (mm_t6 210 rfl rfl) (mm_s3 15 rfl rfl) (T := TX12) (N := 54) rfl dX12_read_7 (R.oD (r := 113) rfl lay_113) rfl (Nat.le_of_ble_eq_true rfl) (Nat.le_of_ble_eq_true rfl) rfl rfl (t_X12_isLine (dL hd (by decide)) R H4) (fun o u q => mm_thenI q ?_)
  refine mm_if_eq 26 dX12_read_10 (by decide) (fun c5 => ?_) (fun c5 => ?_)
  · replace H := hT c5 H
    refine mm_aload_n dX12_read_26 rfl ?_
    refine mm_iconst (v := 1) dX12_read_27 (by decide +kernel) ?_
    obtain ⟨q6, H7, H⟩ := hC H
    refine mm_callV (d' := d - 1) (as := [.int 1]) (st := []) (dS hd) cm_X12_fail (mm_t6 129 rfl rfl) (mm_t6 131 rfl rfl) (mm_s2 15 rfl rfl) (T := TX12) (N := 54) rfl dX12_read_28 (R.oD (r := 113) rfl lay_113) rfl (Nat.le_of_ble_eq_true rfl) (Nat.le_of_ble_eq_true rfl) rfl rfl (t_X12_fail (dL hd (by decide)) R H7) (fun o h q => th_dI q (fun R => ?_))
    refine mm_iret rfl rfl dX12_read_31 ?_
    exact en_dI H R
  · replace H := hF c5 H
    refine mm_aload_n dX12_read_13 rfl ?_
    refine mm_iload_n dX12_read_14 rfl ?_
    obtain ⟨q8, H9, H⟩ := hC H
    refine mm_callV (d' := d - 1) (as := [.int x2]) (st := []) (dS hd) cm_X12_isLine (mm_t6 208 rfl rfl) (mm_t6 210 rfl rfl) (mm_s3 15 rfl rfl) (T := TX12) (N := 54) rfl dX12_read_15 (R.oD (r := 113) rfl lay_113) rfl (Nat.le_of_ble_eq_true rfl) (Nat.le_of_ble_eq_true rfl) rfl rfl (t_X12_isLine (dL hd (by decide)) R H9) (fun o u q => mm_thenI q ?_)
    refine mm_if_eq 26 dX12_read_18 (by decide) (fun c10 => ?_) (fun c10 => ?_)
    · replace H := hT c10 H
      refine mm_aload_n dX12_read_26 rfl ?_
      refine mm_iconst (v := 1) dX12_read_27 (by decide +kernel) ?_
      obtain ⟨q11, H12, H⟩ := hC H
      refine mm_callV (d' := d - 1) (as := [.int 1]) (st := []) (dS hd) cm_X12_fail (mm_t6 129 rfl rfl) (mm_t6 131 rfl rfl) (mm_s2 15 rfl rfl) (T := TX12) (N := 54) rfl dX12_read_28 (R.oD (r := 113) rfl lay_113) rfl (Nat.le_of_ble_eq_true rfl) (Nat.le_of_ble_eq_true rfl) rfl rfl (t_X12_fail (dL hd (by decide)) R H12) (fun o h q => th_dI q (fun R => ?_))
      refine mm_iret rfl rfl dX12_read_31 ?_
      exact en_dI H R
    · replace H := hF c10 H
      refine mm_iload_n dX12_read_21 rfl ?_
      refine mm_iload_n dX12_read_22 rfl ?_
      refine mm_icmp_le 32 dX12_read_23 (by decide) (fun c13 => ?_) (fun c13 => ?_)
      · replace H := hT c13 H
        refine mm_iload_n dX12_read_32 rfl ?_
        refine mm_if_lt 41 dX12_read_33 (by decide) (fun c14 => ?_) (fun c14 => ?_)
        · replace H := hT c14 H
          refine mm_aload_n dX12_read_41 rfl ?_
          refine mm_iconst (v := 2) dX12_read_42 (by decide +kernel) ?_
          obtain ⟨q15, H16, H⟩ := hC H
          refine mm_callV (d' := d - 1) (as := [.int 2]) (st := []) (dS hd) cm_X12_fail (mm_t6 129 rfl rfl) (mm_t6 131 rfl rfl) (mm_s2 15 rfl rfl) (T := TX12) (N := 54) rfl dX12_read_43 (R.oD (r := 113) rfl lay_113) rfl (Nat.le_of_ble_eq_true rfl) (Nat.le_of_ble_eq_true rfl) rfl rfl (t_X12_fail (dL hd (by decide)) R H16) (fun o h q => th_dI q (fun R => ?_))
          refine mm_iret rfl rfl dX12_read_46 ?_
          exact en_dI H R
        · replace H := hF c14 H
          refine mm_iload_n dX12_read_36 rfl ?_
          refine mm_iconst (v := 3) dX12_read_37 (by decide +kernel) ?_
          refine mm_icmp_le 47 dX12_read_38 (by decide) (fun c17 => ?_) (fun c17 => ?_)
          · replace H := hT c17 H
            refine mm_aload_n dX12_read_47 rfl ?_
            refine mm_iconst (v := 0) dX12_read_48 (by decide +kernel) ?_
            obtain ⟨D18, e19, H⟩ := hD H
            refine rD_put (key := 11304) lk_X12_266_X12 lay_113 rfl rfl rfl rfl rfl dX12_read_49 R e19 (fun h R => ?_)
            refine mm_iload_n dX12_read_52 rfl ?_
            refine mm_istore (ls' := [some (.ref 113), some (.int x1), some (.int x2), some (.int x3), some (.int x4), some (.int x1), none, none]) dX12_read_53 (Nat.le_of_ble_eq_true rfl) rfl ?_
            obtain ⟨q65, H66, H⟩ := hC H
            refine t_X12_read_L55 hd (fun h R => ?_) N _ _ _ R H66
            refine mm_aload_n dX12_read_165 rfl ?_
            refine rD_get (key := 11304) lk_X12_266_X12 lay_113 rfl rfl rfl dX12_read_166 R ?_
            refine mm_iret rfl rfl dX12_read_169 ?_
            exact en_dI H R
          · replace H := hF c17 H
            refine mm_aload_n dX12_read_41 rfl ?_
            refine mm_iconst (v := 2) dX12_read_42 (by decide +kernel) ?_
            obtain ⟨q67, H68, H⟩ := hC H
            refine mm_callV (d' := d - 1) (as := [.int 2]) (st := []) (dS hd) cm_X12_fail (mm_t6 129 rfl rfl) (mm_t6 131 rfl rfl) (mm_s2 15 rfl rfl) (T := TX12) (N := 54) rfl dX12_read_43 (R.oD (r := 113) rfl lay_113) rfl (Nat.le_of_ble_eq_true rfl) (Nat.le_of_ble_eq_true rfl) rfl rfl (t_X12_fail (dL hd (by decide)) R H68) (fun o h q => th_dI q (fun R => ?_))
            refine mm_iret rfl rfl dX12_read_46 ?_
            exact en_dI H R
      · replace H := hF c13 H
        refine mm_aload_n dX12_read_26 rfl ?_
        refine mm_iconst (v := 1) dX12_read_27 (by decide +kernel) ?_
        obtain ⟨q69, H70, H⟩ := hC H
        refine mm_callV (d' := d - 1) (as := [.int 1]) (st := []) (dS hd) cm_X12_fail (mm_t6 129 rfl rfl) (mm_t6 131 rfl rfl) (mm_s2 15 rfl rfl) (T := TX12) (N := 54) rfl dX12_read_28 (R.oD (r := 113) rfl lay_113) rfl (Nat.le_of_ble_eq_true rfl) (Nat.le_of_ble_eq_true rfl) rfl rfl (t_X12_fail (dL hd (by decide)) R H70) (fun o h q => th_dI q (fun R => ?_))
        refine mm_iret rfl rfl dX12_read_31 ?_
        exact en_dI H R
def f_X12_bytes (D : CS) : Option Int32 :=
  some (if 3000 < (gI D 11304) then 3000 else (gI D 11304))
theorem t_X12_bytes {g : mm_G} {d : Nat} {h : mm_Hp} {C D : CS} {r : Int32} (hd : 1 ≤ d) (R : Rep h C D) (H : f_X12_bytes D = some r) : mm_P g d MX12_bytes 0 [some (.ref 113)] [] h (mm_pureI r h) := by
  unfold f_X12_bytes at H
  refine mm_aload_n dX12_bytes_0 rfl ?_
  refine rD_get (key := 11304) lk_X12_266_X12 lay_113 rfl rfl rfl dX12_bytes_1 R ?_
  refine mm_sipush (v := 3000) dX12_bytes_4 (by decide +kernel) ?_
  refine mm_min (mm_t7 79 rfl rfl) (mm_t2 204 rfl rfl) (mm_t1 15 rfl rfl) (mm_t2 205 rfl rfl) (Nat.le_trans (by decide) hd) rfl (Nat.le_of_ble_eq_true rfl) dX12_bytes_7 ?_
  refine mm_iret rfl rfl dX12_bytes_10 ?_
  exact en_pI H
def f_X12_told (x1 : Int32) (D : CS) : Option (Int32 × CS) :=
  bd (sI D 11300 0) fun D1 =>
  if x1 < 0 then (bnd (f_X12_fail 1 D1) fun q4 =>
    some (q4.1, q4.2))
    else (bnd (f_X12_bytes D1) fun q6 =>
    if x1 < q6 then (if inb x1 3000 = true then (some ((gA D1 115 (x1).toNatClampNeg), D1)) else none)
      else (bnd (f_X12_fail 1 D1) fun q10 =>
      some (q10.1, q10.2)))
theorem t_X12_told {g : mm_G} {d : Nat} {h : mm_Hp} {C D : CS} {x1 : Int32} {r : (Int32 × CS)} (hd : 2 ≤ d) (R : Rep h C D) (H : f_X12_told x1 D = some r) : mm_P g d MX12_told 0 [some (.ref 113), some (.int x1)] [] h (dI C r) := by
  unfold f_X12_told at H
  refine mm_aload_n dX12_told_0 rfl ?_
  refine mm_iconst (v := 0) dX12_told_1 (by decide +kernel) ?_
  obtain ⟨D1, e2, H⟩ := hD H
  refine rD_put (key := 11300) lk_X12_111_X12 lay_113 rfl rfl rfl rfl rfl dX12_told_2 R e2 (fun h R => ?_)
  refine mm_iload_n dX12_told_5 rfl ?_
  refine mm_if_lt 17 dX12_told_6 (by decide) (fun c3 => ?_) (fun c3 => ?_)
  · replace H := hT c3 H
    refine mm_aload_n dX12_told_17 rfl ?_
    refine mm_iconst (v := 1) dX12_told_18 (by decide +kernel) ?_
    obtain ⟨q4, H5, H⟩ := hC H
    refine mm_callV (d' := d - 1) (as := [.int 1]) (st := []) (dS hd) cm_X12_fail (mm_t6 129 rfl rfl) (mm_t6 131 rfl rfl) (mm_s2 15 rfl rfl) (T := TX12) (N := 54) rfl dX12_told_19 (R.oD (r := 113) rfl lay_113) rfl (Nat.le_of_ble_eq_true rfl) (Nat.le_of_ble_eq_true rfl) rfl rfl (t_X12_fail (dL hd (by decide)) R H5) (fun o h q => th_dI q (fun R => ?_))
    refine mm_goto 31 dX12_told_22 (by decide) ?_
    refine mm_iret rfl rfl dX12_told_31 ?_
    exact en_dI H R
  · replace H := hF c3 H
    refine mm_iload_n dX12_told_9 rfl ?_
    refine mm_aload_n dX12_told_10 rfl ?_
    obtain ⟨q6, H7, H⟩ := hC H
    refine mm_callV (d' := d - 1) (as := []) (st := [.int x1]) (dS hd) cm_X12_bytes (mm_t7 75 rfl rfl) (mm_t7 77 rfl rfl) (mm_s4 10 rfl rfl) (T := TX12) (N := 54) rfl dX12_told_11 (R.oD (r := 113) rfl lay_113) rfl (Nat.le_of_ble_eq_true rfl) (Nat.le_of_ble_eq_true rfl) rfl rfl (t_X12_bytes (dL hd (by decide)) R H7) (fun o u q => mm_thenI q ?_)
    refine mm_icmp_lt 25 dX12_told_14 (by decide) (fun c8 => ?_) (fun c8 => ?_)
    · replace H := hT c8 H
      refine mm_aload_n dX12_told_25 rfl ?_
      refine rD_getR (t := 113) lk_X12_13_X12 lay_113 rfl rfl dX12_told_26 R ?_
      refine mm_iload_n dX12_told_29 rfl ?_
      obtain ⟨b9, H⟩ := hB H
      refine rD_iald lay_115 rfl dX12_told_30 R b9 ?_
      refine mm_iret rfl rfl dX12_told_31 ?_
      exact en_dI H R
    · replace H := hF c8 H
      refine mm_aload_n dX12_told_17 rfl ?_
      refine mm_iconst (v := 1) dX12_told_18 (by decide +kernel) ?_
      obtain ⟨q10, H11, H⟩ := hC H
      refine mm_callV (d' := d - 1) (as := [.int 1]) (st := []) (dS hd) cm_X12_fail (mm_t6 129 rfl rfl) (mm_t6 131 rfl rfl) (mm_s2 15 rfl rfl) (T := TX12) (N := 54) rfl dX12_told_19 (R.oD (r := 113) rfl lay_113) rfl (Nat.le_of_ble_eq_true rfl) (Nat.le_of_ble_eq_true rfl) rfl rfl (t_X12_fail (dL hd (by decide)) R H11) (fun o h q => th_dI q (fun R => ?_))
      refine mm_goto 31 dX12_told_22 (by decide) ?_
      refine mm_iret rfl rfl dX12_told_31 ?_
      exact en_dI H R
def f_X12_digest (x1 : Int32) (x2 : Int32) (x3 : Int32) (D : CS) : Option (Int32 × CS) :=
  bd (sI D 11300 0) fun D1 =>
  if (gI D1 11335) = 40 then (some ((-1), D1))
    else (if x1 < 0 then (some ((-1), D1))
      else (if 9999 < x1 then (some ((-1), D1))
        else (if x2 < 0 then (some ((-1), D1))
          else (if 9999 < x2 then (some ((-1), D1))
            else (if x3 < 0 then (some ((-1), D1))
              else (if x3 ≤ 9999 then (if inb (gI D1 11335) 40 = true then (bd (sA D1 141 ((gI D1 11335)).toNatClampNeg x1) fun D11 =>
                if inb (gI D11 11335) 40 = true then (bd (sA D11 142 ((gI D11 11335)).toNatClampNeg x2) fun D14 =>
                if inb (gI D14 11335) 40 = true then (bd (sA D14 143 ((gI D14 11335)).toNatClampNeg x3) fun D17 =>
                bd (sI D17 11335 ((gI D17 11335) + 1)) fun D19 =>
                some (((gI D19 11335) - 1), D19)) else none) else none) else none)
                else (some ((-1), D1))))))))
theorem t_X12_digest {g : mm_G} {d : Nat} {h : mm_Hp} {C D : CS} {x1 : Int32} {x2 : Int32} {x3 : Int32} {r : (Int32 × CS)} (hd : 0 ≤ d) (R : Rep h C D) (H : f_X12_digest x1 x2 x3 D = some r) : mm_P g d MX12_digest 0 [some (.ref 113), some (.int x1), some (.int x2), some (.int x3)] [] h (dI C r) := by
  unfold f_X12_digest at H
  refine mm_aload_n dX12_digest_0 rfl ?_
  refine mm_iconst (v := 0) dX12_digest_1 (by decide +kernel) ?_
  obtain ⟨D1, e2, H⟩ := hD H
  refine rD_put (key := 11300) lk_X12_111_X12 lay_113 rfl rfl rfl rfl rfl dX12_digest_2 R e2 (fun h R => ?_)
  refine mm_aload_n dX12_digest_5 rfl ?_
  refine rD_get (key := 11335) lk_X12_300_X12 lay_113 rfl rfl rfl dX12_digest_6 R ?_
  refine mm_bipush (v := 40) dX12_digest_9 (by decide +kernel) ?_
  refine mm_icmp_eq 47 dX12_digest_11 (by decide) (fun c3 => ?_) (fun c3 => ?_)
  · replace H := hT c3 H
    refine mm_iconst (v := (-1)) dX12_digest_47 (by decide +kernel) ?_
    refine mm_iret rfl rfl dX12_digest_48 ?_
    exact en_dI H R
  · replace H := hF c3 H
    refine mm_iload_n dX12_digest_14 rfl ?_
    refine mm_if_lt 47 dX12_digest_15 (by decide) (fun c4 => ?_) (fun c4 => ?_)
    · replace H := hT c4 H
      refine mm_iconst (v := (-1)) dX12_digest_47 (by decide +kernel) ?_
      refine mm_iret rfl rfl dX12_digest_48 ?_
      exact en_dI H R
    · replace H := hF c4 H
      refine mm_iload_n dX12_digest_18 rfl ?_
      refine mm_sipush (v := 9999) dX12_digest_19 (by decide +kernel) ?_
      refine mm_icmp_gt 47 dX12_digest_22 (by decide) (fun c5 => ?_) (fun c5 => ?_)
      · replace H := hT c5 H
        refine mm_iconst (v := (-1)) dX12_digest_47 (by decide +kernel) ?_
        refine mm_iret rfl rfl dX12_digest_48 ?_
        exact en_dI H R
      · replace H := hF c5 H
        refine mm_iload_n dX12_digest_25 rfl ?_
        refine mm_if_lt 47 dX12_digest_26 (by decide) (fun c6 => ?_) (fun c6 => ?_)
        · replace H := hT c6 H
          refine mm_iconst (v := (-1)) dX12_digest_47 (by decide +kernel) ?_
          refine mm_iret rfl rfl dX12_digest_48 ?_
          exact en_dI H R
        · replace H := hF c6 H
          refine mm_iload_n dX12_digest_29 rfl ?_
          refine mm_sipush (v := 9999) dX12_digest_30 (by decide +kernel) ?_
          refine mm_icmp_gt 47 dX12_digest_33 (by decide) (fun c7 => ?_) (fun c7 => ?_)
          · replace H := hT c7 H
            refine mm_iconst (v := (-1)) dX12_digest_47 (by decide +kernel) ?_
            refine mm_iret rfl rfl dX12_digest_48 ?_
            exact en_dI H R
          · replace H := hF c7 H
            refine mm_iload_n dX12_digest_36 rfl ?_
            refine mm_if_lt 47 dX12_digest_37 (by decide) (fun c8 => ?_) (fun c8 => ?_)
            · replace H := hT c8 H
              refine mm_iconst (v := (-1)) dX12_digest_47 (by decide +kernel) ?_
              refine mm_iret rfl rfl dX12_digest_48 ?_
              exact en_dI H R
            · replace H := hF c8 H
              refine mm_iload_n dX12_digest_40 rfl ?_
              refine mm_sipush (v := 9999) dX12_digest_41 (by decide +kernel) ?_
              refine mm_icmp_le 49 dX12_digest_44 (by decide) (fun c9 => ?_) (fun c9 => ?_)
              · replace H := hT c9 H
                refine mm_aload_n dX12_digest_49 rfl ?_
                refine rD_getR (t := 139) lk_X12_96_X12 lay_113 rfl rfl dX12_digest_50 R ?_
                refine mm_aload_n dX12_digest_53 rfl ?_
                refine rD_get (key := 11335) lk_X12_300_X12 lay_113 rfl rfl rfl dX12_digest_54 R ?_
                refine mm_iload_n dX12_digest_57 rfl ?_
                obtain ⟨b10, H⟩ := hB H
                obtain ⟨D11, e12, H⟩ := hD H
                refine rD_iast lay_141 rfl dX12_digest_58 R b10 e12 (fun h R => ?_)
                refine mm_aload_n dX12_digest_59 rfl ?_
                refine rD_getR (t := 140) lk_X12_99_X12 lay_113 rfl rfl dX12_digest_60 R ?_
                refine mm_aload_n dX12_digest_63 rfl ?_
                refine rD_get (key := 11335) lk_X12_300_X12 lay_113 rfl rfl rfl dX12_digest_64 R ?_
                refine mm_iload_n dX12_digest_67 rfl ?_
                obtain ⟨b13, H⟩ := hB H
                obtain ⟨D14, e15, H⟩ := hD H
                refine rD_iast lay_142 rfl dX12_digest_68 R b13 e15 (fun h R => ?_)
                refine mm_aload_n dX12_digest_69 rfl ?_
                refine rD_getR (t := 141) lk_X12_102_X12 lay_113 rfl rfl dX12_digest_70 R ?_
                refine mm_aload_n dX12_digest_73 rfl ?_
                refine rD_get (key := 11335) lk_X12_300_X12 lay_113 rfl rfl rfl dX12_digest_74 R ?_
                refine mm_iload_n dX12_digest_77 rfl ?_
                obtain ⟨b16, H⟩ := hB H
                obtain ⟨D17, e18, H⟩ := hD H
                refine rD_iast lay_143 rfl dX12_digest_78 R b16 e18 (fun h R => ?_)
                refine mm_aload_n dX12_digest_79 rfl ?_
                refine mm_dup rfl dX12_digest_80 ?_
                refine rD_get (key := 11335) lk_X12_300_X12 lay_113 rfl rfl rfl dX12_digest_81 R ?_
                refine mm_iconst (v := 1) dX12_digest_84 (by decide +kernel) ?_
                refine mm_iadd dX12_digest_85 ?_
                obtain ⟨D19, e20, H⟩ := hD H
                refine rD_put (key := 11335) lk_X12_300_X12 lay_113 rfl rfl rfl rfl rfl dX12_digest_86 R e20 (fun h R => ?_)
                refine mm_aload_n dX12_digest_89 rfl ?_
                refine rD_get (key := 11335) lk_X12_300_X12 lay_113 rfl rfl rfl dX12_digest_90 R ?_
                refine mm_iconst (v := 1) dX12_digest_93 (by decide +kernel) ?_
                refine mm_isub dX12_digest_94 ?_
                refine mm_iret rfl rfl dX12_digest_95 ?_
                exact en_dI H R
              · replace H := hF c9 H
                refine mm_iconst (v := (-1)) dX12_digest_47 (by decide +kernel) ?_
                refine mm_iret rfl rfl dX12_digest_48 ?_
                exact en_dI H R
def f_X12_cite_L51 (N : Nat) (x1 : Int32) (x2 : Int32) (D : CS) : Nat → Int32 → Int32 → Option (Int32)
  | 0, _, _ => none
  | n + 1, x3, x4 => if inb x1 40 = true then (if (gA D 144 (x1).toNatClampNeg) ≤ x4 then (some x3)
    else (if inb ((8 * x1) + x4) 320 = true then (if (gA D 145 (((8 * x1) + x4)).toNatClampNeg) = x2 then (f_X12_cite_L51 N x1 x2 D n 1 (x4 + 1))
      else (f_X12_cite_L51 N x1 x2 D n x3 (x4 + 1))) else none)) else none
theorem t_X12_cite_L51 {g : mm_G} {d : Nat} {Post : mm_Ou → mm_Hp → Prop} {h : mm_Hp} {C D : CS} {N : Nat} {x1 : Int32} {x2 : Int32} {res : (Int32)} (hd : 1 ≤ d) (R : Rep h C D) (KE : mm_P g d MX12_cite 86 [some (.ref 113), some (.int x1), some (.int x2), some (.int res), none] [] h Post) : ∀ (n : Nat) (x3 : Int32) (x4 : Int32) , f_X12_cite_L51 N x1 x2 D n x3 x4 = some res → mm_P g d MX12_cite 51 [some (.ref 113), some (.int x1), some (.int x2), some (.int x3), some (.int x4)] [] h Post := by
  intro n
  induction n with
  | zero =>
    intro x3 x4 H
    exact hN H
  | succ n ih =>
    intro x3 x4 H
    unfold f_X12_cite_L51 at H
    refine mm_iload dX12_cite_51 rfl ?_
    refine mm_aload_n dX12_cite_53 rfl ?_
    refine rD_getR (t := 142) lk_X12_105_X12 lay_113 rfl rfl dX12_cite_54 R ?_
    refine mm_iload_n dX12_cite_57 rfl ?_
    obtain ⟨b14, H⟩ := hB H
    refine rD_iald lay_144 rfl dX12_cite_58 R b14 ?_
    refine mm_icmp_ge 86 dX12_cite_59 (by decide) (fun c15 => ?_) (fun c15 => ?_)
    · replace H := hT c15 H
      refine mm_fgt (ls' := [some (.ref 113), some (.int x1), some (.int x2), some (.int x3), none]) ⟨rfl, rfl, rfl, rfl, trivial⟩ ?_
      cases H
      exact KE
    · replace H := hF c15 H
      refine mm_aload_n dX12_cite_62 rfl ?_
      refine rD_getR (t := 143) lk_X12_108_X12 lay_113 rfl rfl dX12_cite_63 R ?_
      refine mm_bipush (v := 8) dX12_cite_66 (by decide +kernel) ?_
      refine mm_iload_n dX12_cite_68 rfl ?_
      refine mm_imul dX12_cite_69 ?_
      refine mm_iload dX12_cite_70 rfl ?_
      refine mm_iadd dX12_cite_72 ?_
      obtain ⟨b16, H⟩ := hB H
      refine rD_iald lay_145 rfl dX12_cite_73 R b16 ?_
      refine mm_iload_n dX12_cite_74 rfl ?_
      refine mm_icmp_ne 80 dX12_cite_75 (by decide) (fun c17 => ?_) (fun c17 => ?_)
      · replace H := hF c17 H
        refine mm_iinc (v := (x4 + 1)) (ls' := [some (.ref 113), some (.int x1), some (.int x2), some (.int x3), some (.int (x4 + 1))]) dX12_cite_80 rfl rfl rfl ?_
        refine mm_goto 51 dX12_cite_83 (by decide) ?_
        exact ih _ _ H
      · replace H := hT c17 H
        refine mm_iconst (v := 1) dX12_cite_78 (by decide +kernel) ?_
        refine mm_istore_n (ls' := [some (.ref 113), some (.int x1), some (.int x2), some (.int 1), some (.int x4)]) dX12_cite_79 (Nat.le_of_ble_eq_true rfl) rfl ?_
        refine mm_iinc (v := (x4 + 1)) (ls' := [some (.ref 113), some (.int x1), some (.int x2), some (.int 1), some (.int (x4 + 1))]) dX12_cite_80 rfl rfl rfl ?_
        refine mm_goto 51 dX12_cite_83 (by decide) ?_
        exact ih _ _ H
def f_X12_cite (N : Nat) (x1 : Int32) (x2 : Int32) (D : CS) : Option (Int32 × CS) :=
  bd (sI D 11300 0) fun D1 =>
  if x1 < 0 then (bnd (f_X12_fail 1 D1) fun q4 =>
    some (q4.1, q4.2))
    else (if (gI D1 11335) ≤ x1 then (bnd (f_X12_fail 1 D1) fun q7 =>
      some (q7.1, q7.2))
      else (bnd (f_X12_isFact x2 D1) fun q9 =>
      if q9 = 0 then (bnd (f_X12_fail 1 D1) fun q42 =>
        some (q42.1, q42.2))
        else (if inb x1 40 = true then (if (gA D1 144 (x1).toNatClampNeg) = 8 then (bnd (f_X12_cite_L51 N x1 x2 D1 N 1 0) fun q30 =>
            if q30 = 0 then (if inb x1 40 = true then (if inb ((8 * x1) + (gA D1 144 (x1).toNatClampNeg)) 320 = true then (bd (sA D1 145 (((8 * x1) + (gA D1 144 (x1).toNatClampNeg))).toNatClampNeg x2) fun D35 =>
              if inb x1 40 = true then (if inb x1 40 = true then (bd (sA D35 144 (x1).toNatClampNeg ((gA D35 144 (x1).toNatClampNeg) + 1)) fun D39 =>
              if inb x1 40 = true then (some ((gA D39 144 (x1).toNatClampNeg), D39)) else none) else none) else none) else none) else none)
              else (some ((-1), D1)))
            else (bnd (f_X12_cite_L51 N x1 x2 D1 N 0 0) fun q18 =>
            if q18 = 0 then (if inb x1 40 = true then (if inb ((8 * x1) + (gA D1 144 (x1).toNatClampNeg)) 320 = true then (bd (sA D1 145 (((8 * x1) + (gA D1 144 (x1).toNatClampNeg))).toNatClampNeg x2) fun D23 =>
              if inb x1 40 = true then (if inb x1 40 = true then (bd (sA D23 144 (x1).toNatClampNeg ((gA D23 144 (x1).toNatClampNeg) + 1)) fun D27 =>
              if inb x1 40 = true then (some ((gA D27 144 (x1).toNatClampNeg), D27)) else none) else none) else none) else none) else none)
              else (some ((-1), D1)))) else none)))
theorem t_X12_cite {g : mm_G} {d : Nat} {h : mm_Hp} {C D : CS} {N : Nat} {x1 : Int32} {x2 : Int32} {r : (Int32 × CS)} (hd : 1 ≤ d) (R : Rep h C D) (H : f_X12_cite N x1 x2 D = some r) : mm_P g d MX12_cite 0 [some (.ref 113), some (.int x1), some (.int x2), none, none] [] h (dI C r) := by
  unfold f_X12_cite at H
  refine mm_aload_n dX12_cite_0 rfl ?_
  refine mm_iconst (v := 0) dX12_cite_1 (by decide +kernel) ?_
  obtain ⟨D1, e2, H⟩ := hD H
  refine rD_put (key := 11300) lk_X12_111_X12 lay_113 rfl rfl rfl rfl rfl dX12_cite_2 R e2 (fun h R => ?_)
  refine mm_iload_n dX12_cite_5 rfl ?_
  refine mm_if_lt 25 dX12_cite_6 (by decide) (fun c3 => ?_) (fun c3 => ?_)
  · replace H := hT c3 H
    refine mm_aload_n dX12_cite_25 rfl ?_
    refine mm_iconst (v := 1) dX12_cite_26 (by decide +kernel) ?_
    obtain ⟨q4, H5, H⟩ := hC H
    refine mm_callV (d' := d - 1) (as := [.int 1]) (st := []) (dS hd) cm_X12_fail (mm_t6 129 rfl rfl) (mm_t6 131 rfl rfl) (mm_s2 15 rfl rfl) (T := TX12) (N := 54) rfl dX12_cite_27 (R.oD (r := 113) rfl lay_113) rfl (Nat.le_of_ble_eq_true rfl) (Nat.le_of_ble_eq_true rfl) rfl rfl (t_X12_fail (dL hd (by decide)) R H5) (fun o h q => th_dI q (fun R => ?_))
    refine mm_iret rfl rfl dX12_cite_30 ?_
    exact en_dI H R
  · replace H := hF c3 H
    refine mm_iload_n dX12_cite_9 rfl ?_
    refine mm_aload_n dX12_cite_10 rfl ?_
    refine rD_get (key := 11335) lk_X12_300_X12 lay_113 rfl rfl rfl dX12_cite_11 R ?_
    refine mm_icmp_ge 25 dX12_cite_14 (by decide) (fun c6 => ?_) (fun c6 => ?_)
    · replace H := hT c6 H
      refine mm_aload_n dX12_cite_25 rfl ?_
      refine mm_iconst (v := 1) dX12_cite_26 (by decide +kernel) ?_
      obtain ⟨q7, H8, H⟩ := hC H
      refine mm_callV (d' := d - 1) (as := [.int 1]) (st := []) (dS hd) cm_X12_fail (mm_t6 129 rfl rfl) (mm_t6 131 rfl rfl) (mm_s2 15 rfl rfl) (T := TX12) (N := 54) rfl dX12_cite_27 (R.oD (r := 113) rfl lay_113) rfl (Nat.le_of_ble_eq_true rfl) (Nat.le_of_ble_eq_true rfl) rfl rfl (t_X12_fail (dL hd (by decide)) R H8) (fun o h q => th_dI q (fun R => ?_))
      refine mm_iret rfl rfl dX12_cite_30 ?_
      exact en_dI H R
    · replace H := hF c6 H
      refine mm_aload_n dX12_cite_17 rfl ?_
      refine mm_iload_n dX12_cite_18 rfl ?_
      obtain ⟨q9, H10, H⟩ := hC H
      refine mm_callV (d' := d - 1) (as := [.int x2]) (st := []) (dS hd) cm_X12_isFact (mm_t6 233 rfl rfl) (mm_t6 235 rfl rfl) (mm_s4 1 rfl rfl) (T := TX12) (N := 54) rfl dX12_cite_19 (R.oD (r := 113) rfl lay_113) rfl (Nat.le_of_ble_eq_true rfl) (Nat.le_of_ble_eq_true rfl) rfl rfl (t_X12_isFact (dL hd (by decide)) R H10) (fun o u q => mm_thenI q ?_)
      refine mm_if_ne 31 dX12_cite_22 (by decide) (fun c11 => ?_) (fun c11 => ?_)
      · replace H := hF c11 H
        refine mm_aload_n dX12_cite_31 rfl ?_
        refine rD_getR (t := 142) lk_X12_105_X12 lay_113 rfl rfl dX12_cite_32 R ?_
        refine mm_iload_n dX12_cite_35 rfl ?_
        obtain ⟨b12, H⟩ := hB H
        refine rD_iald lay_144 rfl dX12_cite_36 R b12 ?_
        refine mm_bipush (v := 8) dX12_cite_37 (by decide +kernel) ?_
        refine mm_icmp_ne 46 dX12_cite_39 (by decide) (fun c13 => ?_) (fun c13 => ?_)
        · replace H := hF c13 H
          refine mm_iconst (v := 0) dX12_cite_46 (by decide +kernel) ?_
          refine mm_istore_n (ls' := [some (.ref 113), some (.int x1), some (.int x2), some (.int 0), none]) dX12_cite_47 (Nat.le_of_ble_eq_true rfl) rfl ?_
          refine mm_iconst (v := 0) dX12_cite_48 (by decide +kernel) ?_
          refine mm_istore (ls' := [some (.ref 113), some (.int x1), some (.int x2), some (.int 0), some (.int 0)]) dX12_cite_49 (Nat.le_of_ble_eq_true rfl) rfl ?_
          obtain ⟨q18, H19, H⟩ := hC H
          refine t_X12_cite_L51 hd R ?_ N _ _ H19
          refine mm_iload_n dX12_cite_86 rfl ?_
          refine mm_if_eq 92 dX12_cite_87 (by decide) (fun c20 => ?_) (fun c20 => ?_)
          · replace H := hT c20 H
            refine mm_aload_n dX12_cite_92 rfl ?_
            refine rD_getR (t := 143) lk_X12_108_X12 lay_113 rfl rfl dX12_cite_93 R ?_
            refine mm_bipush (v := 8) dX12_cite_96 (by decide +kernel) ?_
            refine mm_iload_n dX12_cite_98 rfl ?_
            refine mm_imul dX12_cite_99 ?_
            refine mm_aload_n dX12_cite_100 rfl ?_
            refine rD_getR (t := 142) lk_X12_105_X12 lay_113 rfl rfl dX12_cite_101 R ?_
            refine mm_iload_n dX12_cite_104 rfl ?_
            obtain ⟨b21, H⟩ := hB H
            refine rD_iald lay_144 rfl dX12_cite_105 R b21 ?_
            refine mm_iadd dX12_cite_106 ?_
            refine mm_iload_n dX12_cite_107 rfl ?_
            obtain ⟨b22, H⟩ := hB H
            obtain ⟨D23, e24, H⟩ := hD H
            refine rD_iast lay_145 rfl dX12_cite_108 R b22 e24 (fun h R => ?_)
            refine mm_aload_n dX12_cite_109 rfl ?_
            refine rD_getR (t := 142) lk_X12_105_X12 lay_113 rfl rfl dX12_cite_110 R ?_
            refine mm_iload_n dX12_cite_113 rfl ?_
            refine mm_dup2 rfl rfl dX12_cite_114 ?_
            obtain ⟨b25, H⟩ := hB H
            refine rD_iald lay_144 rfl dX12_cite_115 R b25 ?_
            refine mm_iconst (v := 1) dX12_cite_116 (by decide +kernel) ?_
            refine mm_iadd dX12_cite_117 ?_
            obtain ⟨b26, H⟩ := hB H
            obtain ⟨D27, e28, H⟩ := hD H
            refine rD_iast lay_144 rfl dX12_cite_118 R b26 e28 (fun h R => ?_)
            refine mm_aload_n dX12_cite_119 rfl ?_
            refine rD_getR (t := 142) lk_X12_105_X12 lay_113 rfl rfl dX12_cite_120 R ?_
            refine mm_iload_n dX12_cite_123 rfl ?_
            obtain ⟨b29, H⟩ := hB H
            refine rD_iald lay_144 rfl dX12_cite_124 R b29 ?_
            refine mm_iret rfl rfl dX12_cite_125 ?_
            exact en_dI H R
          · replace H := hF c20 H
            refine mm_iconst (v := (-1)) dX12_cite_90 (by decide +kernel) ?_
            refine mm_iret rfl rfl dX12_cite_91 ?_
            exact en_dI H R
        · replace H := hT c13 H
          refine mm_iconst (v := 1) dX12_cite_42 (by decide +kernel) ?_
          refine mm_goto 47 dX12_cite_43 (by decide) ?_
          refine mm_istore_n (ls' := [some (.ref 113), some (.int x1), some (.int x2), some (.int 1), none]) dX12_cite_47 (Nat.le_of_ble_eq_true rfl) rfl ?_
          refine mm_iconst (v := 0) dX12_cite_48 (by decide +kernel) ?_
          refine mm_istore (ls' := [some (.ref 113), some (.int x1), some (.int x2), some (.int 1), some (.int 0)]) dX12_cite_49 (Nat.le_of_ble_eq_true rfl) rfl ?_
          obtain ⟨q30, H31, H⟩ := hC H
          refine t_X12_cite_L51 hd R ?_ N _ _ H31
          refine mm_iload_n dX12_cite_86 rfl ?_
          refine mm_if_eq 92 dX12_cite_87 (by decide) (fun c32 => ?_) (fun c32 => ?_)
          · replace H := hT c32 H
            refine mm_aload_n dX12_cite_92 rfl ?_
            refine rD_getR (t := 143) lk_X12_108_X12 lay_113 rfl rfl dX12_cite_93 R ?_
            refine mm_bipush (v := 8) dX12_cite_96 (by decide +kernel) ?_
            refine mm_iload_n dX12_cite_98 rfl ?_
            refine mm_imul dX12_cite_99 ?_
            refine mm_aload_n dX12_cite_100 rfl ?_
            refine rD_getR (t := 142) lk_X12_105_X12 lay_113 rfl rfl dX12_cite_101 R ?_
            refine mm_iload_n dX12_cite_104 rfl ?_
            obtain ⟨b33, H⟩ := hB H
            refine rD_iald lay_144 rfl dX12_cite_105 R b33 ?_
            refine mm_iadd dX12_cite_106 ?_
            refine mm_iload_n dX12_cite_107 rfl ?_
            obtain ⟨b34, H⟩ := hB H
            obtain ⟨D35, e36, H⟩ := hD H
            refine rD_iast lay_145 rfl dX12_cite_108 R b34 e36 (fun h R => ?_)
            refine mm_aload_n dX12_cite_109 rfl ?_
            refine rD_getR (t := 142) lk_X12_105_X12 lay_113 rfl rfl dX12_cite_110 R ?_
            refine mm_iload_n dX12_cite_113 rfl ?_
            refine mm_dup2 rfl rfl dX12_cite_114 ?_
            obtain ⟨b37, H⟩ := hB H
            refine rD_iald lay_144 rfl dX12_cite_115 R b37 ?_
            refine mm_iconst (v := 1) dX12_cite_116 (by decide +kernel) ?_
            refine mm_iadd dX12_cite_117 ?_
            obtain ⟨b38, H⟩ := hB H
            obtain ⟨D39, e40, H⟩ := hD H
            refine rD_iast lay_144 rfl dX12_cite_118 R b38 e40 (fun h R => ?_)
            refine mm_aload_n dX12_cite_119 rfl ?_
            refine rD_getR (t := 142) lk_X12_105_X12 lay_113 rfl rfl dX12_cite_120 R ?_
            refine mm_iload_n dX12_cite_123 rfl ?_
            obtain ⟨b41, H⟩ := hB H
            refine rD_iald lay_144 rfl dX12_cite_124 R b41 ?_
            refine mm_iret rfl rfl dX12_cite_125 ?_
            exact en_dI H R
          · replace H := hF c32 H
            refine mm_iconst (v := (-1)) dX12_cite_90 (by decide +kernel) ?_
            refine mm_iret rfl rfl dX12_cite_91 ?_
            exact en_dI H R
      · replace H := hT c11 H
        refine mm_aload_n dX12_cite_25 rfl ?_
        refine mm_iconst (v := 1) dX12_cite_26 (by decide +kernel) ?_
        obtain ⟨q42, H43, H⟩ := hC H
        refine mm_callV (d' := d - 1) (as := [.int 1]) (st := []) (dS hd) cm_X12_fail (mm_t6 129 rfl rfl) (mm_t6 131 rfl rfl) (mm_s2 15 rfl rfl) (T := TX12) (N := 54) rfl dX12_cite_27 (R.oD (r := 113) rfl lay_113) rfl (Nat.le_of_ble_eq_true rfl) (Nat.le_of_ble_eq_true rfl) rfl rfl (t_X12_fail (dL hd (by decide)) R H43) (fun o h q => th_dI q (fun R => ?_))
        refine mm_iret rfl rfl dX12_cite_30 ?_
        exact en_dI H R
