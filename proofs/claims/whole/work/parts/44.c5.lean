def f_X11_order (x1 : Int32) (x2 : Int32) (x3 : Int32) (C : CS) : Option ((String ⊕ Int32) × CS) :=
  bnx (f_X11_demandLines x1 x2 C) fun vq1 q1 =>
    if (fullT (gI q1 9801) (gI q1 9800)) = 0 then (bnd (f_X11_isLevel x3 q1) fun q4 =>
      if q4 = 0 then (some (.inr (-1), q1))
        else (bnd (f_X7_add x1 x2 x3 (gI q1 6412) q1) fun q7 =>
        some (.inr q7.1, q7.2)))
      else (some (.inr (-1), q1))
theorem t_X11_order {g : mm_G} {d : Nat} {h : mm_Hp} {C D : CS} {x1 : Int32} {x2 : Int32} {x3 : Int32} {r : ((String ⊕ Int32) × CS)} (hd : 8 ≤ d) (R : Rep h C D) (H : f_X11_order x1 x2 x3 C = some r) : mm_P g d MX11_order 0 [some (.ref 64), some (.int x1), some (.int x2), some (.int x3)] [] h (cXI D r) := by
  unfold f_X11_order at H
  refine mm_aload_n dX11_order_0 rfl ?_
  refine mm_iload_n dX11_order_1 rfl ?_
  refine mm_iload_n dX11_order_2 rfl ?_
  rcases hX H with ⟨E1, q1, H2, H⟩ | ⟨vq1, q1, H2, H⟩
  · refine mm_callV (d' := d - 1) (as := [.int x1, .int x2]) (st := []) (dS hd) cm_X11_demandLines (mm_t5 42 rfl rfl) (mm_t5 44 rfl rfl) (mm_s2 11 rfl rfl) (T := TX11) (N := 14) rfl dX11_order_3 (R.oC (r := 64) rfl lay_64) rfl (Nat.le_of_ble_eq_true rfl) (Nat.le_of_ble_eq_true rfl) rfl rfl (t_X11_demandLines (dL hd (by decide)) R H2) (fun o h q => th_eV rfl q (fun R => ?_))
    exact en_xI2 H R
  · refine mm_callV (d' := d - 1) (as := [.int x1, .int x2]) (st := []) (dS hd) cm_X11_demandLines (mm_t5 42 rfl rfl) (mm_t5 44 rfl rfl) (mm_s2 11 rfl rfl) (T := TX11) (N := 14) rfl dX11_order_3 (R.oC (r := 64) rfl lay_64) rfl (Nat.le_of_ble_eq_true rfl) (Nat.le_of_ble_eq_true rfl) rfl rfl (t_X11_demandLines (dL hd (by decide)) R H2) (fun o h q => th_xV q (fun R => ?_))
    refine mm_aload_n dX11_order_6 rfl ?_
    refine rC_getR (t := 96) lk_X11_59_X11 lay_64 rfl rfl dX11_order_7 R ?_
    refine mm_callU (d' := d - 1) (x := ⟨"TestimonyBook$Orders", "isFull", "()Z"⟩) (owner := "TestimonyBook$Rows") (as := []) (st := []) (dS hd) cm_X9_isFull rfl (mm_t5 46 rfl rfl) (mm_t5 47 rfl rfl) (mm_t3 40 rfl rfl) (mm_t5 48 rfl rfl) (T := TX7) (N := 8) rfl dX11_order_10 (R.oC (r := 98) rfl lay_98) rfl (Nat.le_of_ble_eq_true rfl) (Nat.le_of_ble_eq_true rfl) rfl rfl (tr_full lk_X9_13_X7 lk_X9_7_X7 lay_98 rfl rfl rfl R) (fun E u q => by cases q.1) (fun v u q => th_pU q ?_)
    refine mm_if_ne 23 dX11_order_13 (by decide) (fun c3 => ?_) (fun c3 => ?_)
    · replace H := hF c3 H
      refine mm_iconst (v := (-1)) dX11_order_23 (by decide +kernel) ?_
      refine mm_iret rfl rfl dX11_order_24 ?_
      exact en_xI H R
    · replace H := hT c3 H
      refine mm_iload_n dX11_order_16 rfl ?_
      obtain ⟨q4, H5, H⟩ := hC H
      refine mm_callS (d' := d - 1) (as := [.int x3]) (st := []) (dS hd) cm_X11_isLevel (mm_t5 49 rfl rfl) (mm_t5 50 rfl rfl) dX11_order_17 rfl (Nat.le_of_ble_eq_true rfl) (Nat.le_of_ble_eq_true rfl) rfl rfl (t_X11_isLevel (dL hd (by decide)) R H5) (fun o u q => mm_thenI q ?_)
      refine mm_if_ne 25 dX11_order_20 (by decide) (fun c6 => ?_) (fun c6 => ?_)
      · replace H := hF c6 H
        refine mm_aload_n dX11_order_25 rfl ?_
        refine rC_getR (t := 96) lk_X11_59_X11 lay_64 rfl rfl dX11_order_26 R ?_
        refine mm_iload_n dX11_order_29 rfl ?_
        refine mm_iload_n dX11_order_30 rfl ?_
        refine mm_iload_n dX11_order_31 rfl ?_
        refine mm_aload_n dX11_order_32 rfl ?_
        refine rC_get (key := 6412) lk_X11_128_X11 lay_64 rfl rfl rfl dX11_order_33 R ?_
        obtain ⟨q7, H8, H⟩ := hC H
        refine mm_callV (d' := d - 1) (as := [.int x1, .int x2, .int x3, .int (gI q1 6412)]) (st := []) (dS hd) cm_X7_add (mm_t5 52 rfl rfl) (mm_t5 53 rfl rfl) (mm_t5 54 rfl rfl) (T := TX7) (N := 8) rfl dX11_order_36 (R.oC (r := 98) rfl lay_98) rfl (Nat.le_of_ble_eq_true rfl) (Nat.le_of_ble_eq_true rfl) rfl rfl (t_X7_add (dL hd (by decide)) R H8) (fun o h q => th_cI q (fun R => ?_))
        refine mm_iret rfl rfl dX11_order_39 ?_
        exact en_xI H R
      · replace H := hT c6 H
        refine mm_iconst (v := (-1)) dX11_order_23 (by decide +kernel) ?_
        refine mm_iret rfl rfl dX11_order_24 ?_
        exact en_xI H R
def f_X7_liftOn (x1 : Int32) (x2 : Int32) (C : CS) : Option (Int32 × CS) :=
  if inb x1 60 = true then (if (gA C 103 (x1).toNatClampNeg) = (-1) then (if inb x1 60 = true then (bd (sA C 103 (x1).toNatClampNeg x2) fun C4 =>
    some (1, C4)) else none)
    else (some (0, C))) else none
theorem t_X7_liftOn {g : mm_G} {d : Nat} {h : mm_Hp} {C D : CS} {x1 : Int32} {x2 : Int32} {r : (Int32 × CS)} (hd : 0 ≤ d) (R : Rep h C D) (H : f_X7_liftOn x1 x2 C = some r) : mm_P g d MX7_liftOn 0 [some (.ref 98), some (.int x1), some (.int x2)] [] h (cI D r) := by
  unfold f_X7_liftOn at H
  refine mm_aload_n dX7_liftOn_0 rfl ?_
  refine rC_getR (t := 101) lk_X7_24_X7 lay_98 rfl rfl dX7_liftOn_1 R ?_
  refine mm_iload_n dX7_liftOn_4 rfl ?_
  obtain ⟨b1, H⟩ := hB H
  refine rC_iald lay_103 rfl dX7_liftOn_5 R b1 ?_
  refine mm_iconst (v := (-1)) dX7_liftOn_6 (by decide +kernel) ?_
  refine mm_icmp_eq 12 dX7_liftOn_7 (by decide) (fun c2 => ?_) (fun c2 => ?_)
  · replace H := hT c2 H
    refine mm_aload_n dX7_liftOn_12 rfl ?_
    refine rC_getR (t := 101) lk_X7_24_X7 lay_98 rfl rfl dX7_liftOn_13 R ?_
    refine mm_iload_n dX7_liftOn_16 rfl ?_
    refine mm_iload_n dX7_liftOn_17 rfl ?_
    obtain ⟨b3, H⟩ := hB H
    obtain ⟨C4, e5, H⟩ := hD H
    refine rC_iast lay_103 rfl dX7_liftOn_18 R b3 e5 (fun h R => ?_)
    refine mm_iconst (v := 1) dX7_liftOn_19 (by decide +kernel) ?_
    refine mm_iret rfl rfl dX7_liftOn_20 ?_
    exact en_cI H R
  · replace H := hF c2 H
    refine mm_iconst (v := 0) dX7_liftOn_10 (by decide +kernel) ?_
    refine mm_iret rfl rfl dX7_liftOn_11 ?_
    exact en_cI H R
def f_X11_lift (x1 : Int32) (C : CS) : Option ((String ⊕ Int32) × CS) :=
  bnx (f_X11_demand (hasT (gI C 9801) x1) C) fun vq1 q1 =>
    bnd (f_X7_liftOn x1 (gI q1 6412) q1) fun q3 =>
    if q3.1 &&& 1 = q3.1 then some (.inr q3.1, q3.2) else none
theorem t_X11_lift {g : mm_G} {d : Nat} {h : mm_Hp} {C D : CS} {x1 : Int32} {r : ((String ⊕ Int32) × CS)} (hd : 7 ≤ d) (R : Rep h C D) (H : f_X11_lift x1 C = some r) : mm_P g d MX11_lift 0 [some (.ref 64), some (.int x1)] [] h (cXI D r) := by
  unfold f_X11_lift at H
  refine mm_aload_n dX11_lift_0 rfl ?_
  refine rC_getR (t := 96) lk_X11_59_X11 lay_64 rfl rfl dX11_lift_1 R ?_
  refine mm_iload_n dX11_lift_4 rfl ?_
  refine mm_callU (d' := d - 1) (x := ⟨"TestimonyBook$Orders", "has", "(I)Z"⟩) (owner := "TestimonyBook$Rows") (as := [.int x1]) (st := []) (dS hd) cm_X9_has rfl (mm_t5 63 rfl rfl) (mm_t5 64 rfl rfl) (mm_t3 17 rfl rfl) (mm_t5 65 rfl rfl) (T := TX7) (N := 8) rfl dX11_lift_5 (R.oC (r := 98) rfl lay_98) rfl (Nat.le_of_ble_eq_true rfl) (Nat.le_of_ble_eq_true rfl) rfl rfl (tr_has lk_X9_13_X7 lay_98 rfl rfl R) (fun E u q => by cases q.1) (fun v u q => th_pU q ?_)
  rcases hX H with ⟨E1, q1, H2, H⟩ | ⟨vq1, q1, H2, H⟩
  · refine mm_callS (d' := d - 1) (as := [.int (hasT (gI C 9801) x1)]) (st := []) (dS hd) cm_X11_demand (mm_t4 175 rfl rfl) (mm_t4 176 rfl rfl) dX11_lift_8 rfl (Nat.le_of_ble_eq_true rfl) (Nat.le_of_ble_eq_true rfl) rfl rfl (t_X11_demand (dL hd (by decide)) R H2) (fun o h q => th_eV rfl q (fun R => ?_))
    exact en_xI2 H R
  · refine mm_callS (d' := d - 1) (as := [.int (hasT (gI C 9801) x1)]) (st := []) (dS hd) cm_X11_demand (mm_t4 175 rfl rfl) (mm_t4 176 rfl rfl) dX11_lift_8 rfl (Nat.le_of_ble_eq_true rfl) (Nat.le_of_ble_eq_true rfl) rfl rfl (t_X11_demand (dL hd (by decide)) R H2) (fun o h q => th_xV q (fun R => ?_))
    refine mm_aload_n dX11_lift_11 rfl ?_
    refine rC_getR (t := 96) lk_X11_59_X11 lay_64 rfl rfl dX11_lift_12 R ?_
    refine mm_iload_n dX11_lift_15 rfl ?_
    refine mm_aload_n dX11_lift_16 rfl ?_
    refine rC_get (key := 6412) lk_X11_128_X11 lay_64 rfl rfl rfl dX11_lift_17 R ?_
    obtain ⟨q3, H4, H⟩ := hC H
    refine mm_callV (d' := d - 1) (as := [.int x1, .int (gI q1 6412)]) (st := []) (dS hd) cm_X7_liftOn (mm_t5 66 rfl rfl) (mm_t5 67 rfl rfl) (mm_t5 68 rfl rfl) (T := TX7) (N := 8) rfl dX11_lift_20 (R.oC (r := 98) rfl lay_98) rfl (Nat.le_of_ble_eq_true rfl) (Nat.le_of_ble_eq_true rfl) rfl rfl (t_X7_liftOn (dL hd (by decide)) R H4) (fun o h q => th_cI q (fun R => ?_))
    obtain ⟨b5, H⟩ := hB H
    refine mm_iret rfl (congrArg Value.int b5) dX11_lift_23 ?_
    exact en_xI H R
def f_X7_levelOf_L5 (N : Nat) (x1 : Int32) (x2 : Int32) (C : CS) : Nat → Int32 → Int32 → Option (Int32)
  | 0, _, _ => none
  | n + 1, x3, x4 => if (gI C 9801) ≤ x4 then (some x3)
    else (if inb x4 60 = true then (if (gA C 101 (x4).toNatClampNeg) ≤ x3 then (f_X7_levelOf_L5 N x1 x2 C n x3 (x4 + 1))
      else (bnd (f_X7_holds x4 x1 x2 C) fun q4 =>
      if q4 = 0 then (f_X7_levelOf_L5 N x1 x2 C n x3 (x4 + 1))
        else (if inb x4 60 = true then (f_X7_levelOf_L5 N x1 x2 C n (gA C 101 (x4).toNatClampNeg) (x4 + 1)) else none))) else none)
theorem t_X7_levelOf_L5 {g : mm_G} {d : Nat} {Post : mm_Ou → mm_Hp → Prop} {h : mm_Hp} {C D : CS} {N : Nat} {x1 : Int32} {x2 : Int32} {res : (Int32)} (hd : 1 ≤ d) (R : Rep h C D) (KE : mm_P g d MX7_levelOf 50 [none, none, none, some (.int res), none] [] h Post) : ∀ (n : Nat) (x3 : Int32) (x4 : Int32) , f_X7_levelOf_L5 N x1 x2 C n x3 x4 = some res → mm_P g d MX7_levelOf 5 [some (.ref 98), some (.int x1), some (.int x2), some (.int x3), some (.int x4)] [] h Post := by
  intro n
  induction n with
  | zero =>
    intro x3 x4 H
    exact hN H
  | succ n ih =>
    intro x3 x4 H
    unfold f_X7_levelOf_L5 at H
    refine mm_iload dX7_levelOf_5 rfl ?_
    refine mm_aload_n dX7_levelOf_7 rfl ?_
    refine rC_get (key := 9801) lk_X7_27_X7 lay_98 rfl rfl rfl dX7_levelOf_8 R ?_
    refine mm_icmp_ge 50 dX7_levelOf_11 (by decide) (fun c1 => ?_) (fun c1 => ?_)
    · replace H := hT c1 H
      refine mm_fgt (ls' := [none, none, none, some (.int x3), none]) ⟨rfl, trivial⟩ ?_
      cases H
      exact KE
    · replace H := hF c1 H
      refine mm_aload_n dX7_levelOf_14 rfl ?_
      refine rC_getR (t := 99) lk_X7_18_X7 lay_98 rfl rfl dX7_levelOf_15 R ?_
      refine mm_iload dX7_levelOf_18 rfl ?_
      obtain ⟨b2, H⟩ := hB H
      refine rC_iald lay_101 rfl dX7_levelOf_20 R b2 ?_
      refine mm_iload_n dX7_levelOf_21 rfl ?_
      refine mm_icmp_le 44 dX7_levelOf_22 (by decide) (fun c3 => ?_) (fun c3 => ?_)
      · replace H := hT c3 H
        refine mm_iinc (v := (x4 + 1)) (ls' := [some (.ref 98), some (.int x1), some (.int x2), some (.int x3), some (.int (x4 + 1))]) dX7_levelOf_44 rfl rfl rfl ?_
        refine mm_goto 5 dX7_levelOf_47 (by decide) ?_
        exact ih _ _ H
      · replace H := hF c3 H
        refine mm_aload_n dX7_levelOf_25 rfl ?_
        refine mm_iload dX7_levelOf_26 rfl ?_
        refine mm_iload_n dX7_levelOf_28 rfl ?_
        refine mm_iload_n dX7_levelOf_29 rfl ?_
        obtain ⟨q4, H5, H⟩ := hC H
        refine mm_callV (d' := d - 1) (as := [.int x4, .int x1, .int x2]) (st := []) (dS hd) cm_X7_holds (mm_t3 5 rfl rfl) (mm_t3 7 rfl rfl) (mm_s1 1 rfl rfl) (T := TX7) (N := 8) rfl dX7_levelOf_30 (R.oC (r := 98) rfl lay_98) rfl (Nat.le_of_ble_eq_true rfl) (Nat.le_of_ble_eq_true rfl) rfl rfl (t_X7_holds (dL hd (by decide)) R H5) (fun o u q => mm_thenI q ?_)
        refine mm_if_eq 44 dX7_levelOf_33 (by decide) (fun c6 => ?_) (fun c6 => ?_)
        · replace H := hT c6 H
          refine mm_iinc (v := (x4 + 1)) (ls' := [some (.ref 98), some (.int x1), some (.int x2), some (.int x3), some (.int (x4 + 1))]) dX7_levelOf_44 rfl rfl rfl ?_
          refine mm_goto 5 dX7_levelOf_47 (by decide) ?_
          exact ih _ _ H
        · replace H := hF c6 H
          refine mm_aload_n dX7_levelOf_36 rfl ?_
          refine rC_getR (t := 99) lk_X7_18_X7 lay_98 rfl rfl dX7_levelOf_37 R ?_
          refine mm_iload dX7_levelOf_40 rfl ?_
          obtain ⟨b7, H⟩ := hB H
          refine rC_iald lay_101 rfl dX7_levelOf_42 R b7 ?_
          refine mm_istore_n (ls' := [some (.ref 98), some (.int x1), some (.int x2), some (.int (gA C 101 (x4).toNatClampNeg)), some (.int x4)]) dX7_levelOf_43 (Nat.le_of_ble_eq_true rfl) rfl ?_
          refine mm_iinc (v := (x4 + 1)) (ls' := [some (.ref 98), some (.int x1), some (.int x2), some (.int (gA C 101 (x4).toNatClampNeg)), some (.int (x4 + 1))]) dX7_levelOf_44 rfl rfl rfl ?_
          refine mm_goto 5 dX7_levelOf_47 (by decide) ?_
          exact ih _ _ H
def f_X7_levelOf (N : Nat) (x1 : Int32) (x2 : Int32) (C : CS) : Option Int32 :=
  bnd (f_X7_levelOf_L5 N x1 x2 C N 0 0) fun q8 =>
    some q8
theorem t_X7_levelOf {g : mm_G} {d : Nat} {h : mm_Hp} {C D : CS} {N : Nat} {x1 : Int32} {x2 : Int32} {r : Int32} (hd : 1 ≤ d) (R : Rep h C D) (H : f_X7_levelOf N x1 x2 C = some r) : mm_P g d MX7_levelOf 0 [some (.ref 98), some (.int x1), some (.int x2), none, none] [] h (mm_pureI r h) := by
  unfold f_X7_levelOf at H
  refine mm_iconst (v := 0) dX7_levelOf_0 (by decide +kernel) ?_
  refine mm_istore_n (ls' := [some (.ref 98), some (.int x1), some (.int x2), some (.int 0), none]) dX7_levelOf_1 (Nat.le_of_ble_eq_true rfl) rfl ?_
  refine mm_iconst (v := 0) dX7_levelOf_2 (by decide +kernel) ?_
  refine mm_istore (ls' := [some (.ref 98), some (.int x1), some (.int x2), some (.int 0), some (.int 0)]) dX7_levelOf_3 (Nat.le_of_ble_eq_true rfl) rfl ?_
  obtain ⟨q8, H9, H⟩ := hC H
  refine t_X7_levelOf_L5 hd R ?_ N _ _ H9
  refine mm_iload_n dX7_levelOf_50 rfl ?_
  refine mm_iret rfl rfl dX7_levelOf_51 ?_
  exact en_pI H
def f_X11_status_J24 (N : Nat) (x1 : Int32) (x2 : Int32) (x3 : Int32) (C : CS) : Option ((String ⊕ Int32) × CS) :=
  bnx (f_X11_demand 0 C) fun vq2 q2 =>
    if x3 = 1 then (bnd (f_X7_levelOf N x1 x2 q2) fun q8 =>
      some (.inr q8, q2))
      else (bnd (f_X7_strike N x1 x2 q2) fun q5 =>
      if q5 = 0 then (some (.inr 0, q2))
        else (some (.inr 1, q2)))
theorem t_X11_status_J24 {g : mm_G} {d : Nat} {h : mm_Hp} {C D : CS} {N : Nat} {x1 : Int32} {x2 : Int32} {x3 : Int32} {r : ((String ⊕ Int32) × CS)} (hd : 7 ≤ d) (R : Rep h C D) (H : f_X11_status_J24 N x1 x2 x3 C = some r) : mm_P g d MX11_status 24 [some (.ref 64), some (.int x1), some (.int x2), some (.int x3)] [] h (cXI D r) := by
  unfold f_X11_status_J24 at H
  refine mm_iconst (v := 0) dX11_status_24 (by decide +kernel) ?_
  rcases hX H with ⟨E1, q2, H3, H⟩ | ⟨vq2, q2, H3, H⟩
  · refine mm_callS (d' := d - 1) (as := [.int 0]) (st := []) (dS hd) cm_X11_demand (mm_t4 175 rfl rfl) (mm_t4 176 rfl rfl) dX11_status_25 rfl (Nat.le_of_ble_eq_true rfl) (Nat.le_of_ble_eq_true rfl) rfl rfl (t_X11_demand (dL hd (by decide)) R H3) (fun o h q => th_eV rfl q (fun R => ?_))
    exact en_xI2 H R
  · refine mm_callS (d' := d - 1) (as := [.int 0]) (st := []) (dS hd) cm_X11_demand (mm_t4 175 rfl rfl) (mm_t4 176 rfl rfl) dX11_status_25 rfl (Nat.le_of_ble_eq_true rfl) (Nat.le_of_ble_eq_true rfl) rfl rfl (t_X11_demand (dL hd (by decide)) R H3) (fun o h q => th_xV q (fun R => ?_))
    refine mm_iload_n dX11_status_28 rfl ?_
    refine mm_iconst (v := 1) dX11_status_29 (by decide +kernel) ?_
    refine mm_icmp_ne 43 dX11_status_30 (by decide) (fun c4 => ?_) (fun c4 => ?_)
    · replace H := hF c4 H
      refine mm_aload_n dX11_status_43 rfl ?_
      refine rC_getR (t := 96) lk_X11_59_X11 lay_64 rfl rfl dX11_status_44 R ?_
      refine mm_iload_n dX11_status_47 rfl ?_
      refine mm_iload_n dX11_status_48 rfl ?_
      obtain ⟨q5, H6, H⟩ := hC H
      refine mm_callV (d' := d - 1) (as := [.int x1, .int x2]) (st := []) (dS hd) cm_X7_strike (mm_t5 81 rfl rfl) (mm_t3 2 rfl rfl) (mm_t3 3 rfl rfl) (T := TX7) (N := 8) rfl dX11_status_49 (R.oC (r := 98) rfl lay_98) rfl (Nat.le_of_ble_eq_true rfl) (Nat.le_of_ble_eq_true rfl) rfl rfl (t_X7_strike (dL hd (by decide)) R H6) (fun o u q => mm_thenI q ?_)
      refine mm_if_eq 59 dX11_status_52 (by decide) (fun c7 => ?_) (fun c7 => ?_)
      · replace H := hT c7 H
        refine mm_iconst (v := 0) dX11_status_59 (by decide +kernel) ?_
        refine mm_iret rfl rfl dX11_status_60 ?_
        exact en_xI H R
      · replace H := hF c7 H
        refine mm_iconst (v := 1) dX11_status_55 (by decide +kernel) ?_
        refine mm_goto 60 dX11_status_56 (by decide) ?_
        refine mm_iret rfl rfl dX11_status_60 ?_
        exact en_xI H R
    · replace H := hT c4 H
      refine mm_aload_n dX11_status_33 rfl ?_
      refine rC_getR (t := 96) lk_X11_59_X11 lay_64 rfl rfl dX11_status_34 R ?_
      refine mm_iload_n dX11_status_37 rfl ?_
      refine mm_iload_n dX11_status_38 rfl ?_
      obtain ⟨q8, H9, H⟩ := hC H
      refine mm_callV (d' := d - 1) (as := [.int x1, .int x2]) (st := []) (dS hd) cm_X7_levelOf (mm_t5 77 rfl rfl) (mm_t5 78 rfl rfl) (mm_t5 79 rfl rfl) (T := TX7) (N := 8) rfl dX11_status_39 (R.oC (r := 98) rfl lay_98) rfl (Nat.le_of_ble_eq_true rfl) (Nat.le_of_ble_eq_true rfl) rfl rfl (t_X7_levelOf (dL hd (by decide)) R H9) (fun o u q => mm_thenI q ?_)
      refine mm_iret rfl rfl dX11_status_42 ?_
      exact en_xI H R
def f_X11_status_J20 (N : Nat) (x1 : Int32) (x2 : Int32) (x3 : Int32) (C : CS) : Option ((String ⊕ Int32) × CS) :=
  bnx (f_X11_demand 1 C) fun vq11 q11 =>
    if x3 = 1 then (bnd (f_X7_levelOf N x1 x2 q11) fun q17 =>
      some (.inr q17, q11))
      else (bnd (f_X7_strike N x1 x2 q11) fun q14 =>
      if q14 = 0 then (some (.inr 0, q11))
        else (some (.inr 1, q11)))
theorem t_X11_status_J20 {g : mm_G} {d : Nat} {h : mm_Hp} {C D : CS} {N : Nat} {x1 : Int32} {x2 : Int32} {x3 : Int32} {r : ((String ⊕ Int32) × CS)} (hd : 7 ≤ d) (R : Rep h C D) (H : f_X11_status_J20 N x1 x2 x3 C = some r) : mm_P g d MX11_status 20 [some (.ref 64), some (.int x1), some (.int x2), some (.int x3)] [] h (cXI D r) := by
  unfold f_X11_status_J20 at H
  refine mm_iconst (v := 1) dX11_status_20 (by decide +kernel) ?_
  refine mm_goto 25 dX11_status_21 (by decide) ?_
  rcases hX H with ⟨E1, q11, H12, H⟩ | ⟨vq11, q11, H12, H⟩
  · refine mm_callS (d' := d - 1) (as := [.int 1]) (st := []) (dS hd) cm_X11_demand (mm_t4 175 rfl rfl) (mm_t4 176 rfl rfl) dX11_status_25 rfl (Nat.le_of_ble_eq_true rfl) (Nat.le_of_ble_eq_true rfl) rfl rfl (t_X11_demand (dL hd (by decide)) R H12) (fun o h q => th_eV rfl q (fun R => ?_))
    exact en_xI2 H R
  · refine mm_callS (d' := d - 1) (as := [.int 1]) (st := []) (dS hd) cm_X11_demand (mm_t4 175 rfl rfl) (mm_t4 176 rfl rfl) dX11_status_25 rfl (Nat.le_of_ble_eq_true rfl) (Nat.le_of_ble_eq_true rfl) rfl rfl (t_X11_demand (dL hd (by decide)) R H12) (fun o h q => th_xV q (fun R => ?_))
    refine mm_iload_n dX11_status_28 rfl ?_
    refine mm_iconst (v := 1) dX11_status_29 (by decide +kernel) ?_
    refine mm_icmp_ne 43 dX11_status_30 (by decide) (fun c13 => ?_) (fun c13 => ?_)
    · replace H := hF c13 H
      refine mm_aload_n dX11_status_43 rfl ?_
      refine rC_getR (t := 96) lk_X11_59_X11 lay_64 rfl rfl dX11_status_44 R ?_
      refine mm_iload_n dX11_status_47 rfl ?_
      refine mm_iload_n dX11_status_48 rfl ?_
      obtain ⟨q14, H15, H⟩ := hC H
      refine mm_callV (d' := d - 1) (as := [.int x1, .int x2]) (st := []) (dS hd) cm_X7_strike (mm_t5 81 rfl rfl) (mm_t3 2 rfl rfl) (mm_t3 3 rfl rfl) (T := TX7) (N := 8) rfl dX11_status_49 (R.oC (r := 98) rfl lay_98) rfl (Nat.le_of_ble_eq_true rfl) (Nat.le_of_ble_eq_true rfl) rfl rfl (t_X7_strike (dL hd (by decide)) R H15) (fun o u q => mm_thenI q ?_)
      refine mm_if_eq 59 dX11_status_52 (by decide) (fun c16 => ?_) (fun c16 => ?_)
      · replace H := hT c16 H
        refine mm_iconst (v := 0) dX11_status_59 (by decide +kernel) ?_
        refine mm_iret rfl rfl dX11_status_60 ?_
        exact en_xI H R
      · replace H := hF c16 H
        refine mm_iconst (v := 1) dX11_status_55 (by decide +kernel) ?_
        refine mm_goto 60 dX11_status_56 (by decide) ?_
        refine mm_iret rfl rfl dX11_status_60 ?_
        exact en_xI H R
    · replace H := hT c13 H
      refine mm_aload_n dX11_status_33 rfl ?_
      refine rC_getR (t := 96) lk_X11_59_X11 lay_64 rfl rfl dX11_status_34 R ?_
      refine mm_iload_n dX11_status_37 rfl ?_
      refine mm_iload_n dX11_status_38 rfl ?_
      obtain ⟨q17, H18, H⟩ := hC H
      refine mm_callV (d' := d - 1) (as := [.int x1, .int x2]) (st := []) (dS hd) cm_X7_levelOf (mm_t5 77 rfl rfl) (mm_t5 78 rfl rfl) (mm_t5 79 rfl rfl) (T := TX7) (N := 8) rfl dX11_status_39 (R.oC (r := 98) rfl lay_98) rfl (Nat.le_of_ble_eq_true rfl) (Nat.le_of_ble_eq_true rfl) rfl rfl (t_X7_levelOf (dL hd (by decide)) R H18) (fun o u q => mm_thenI q ?_)
      refine mm_iret rfl rfl dX11_status_42 ?_
      exact en_xI H R
def f_X11_status (N : Nat) (x1 : Int32) (x2 : Int32) (x3 : Int32) (C : CS) : Option ((String ⊕ Int32) × CS) :=
  if (hasT (gI C 6901) x1) = 0 then (f_X11_status_J24 N x1 x2 x3 C)
    else (if x3 = 0 then (f_X11_status_J20 N x1 x2 x3 C)
      else (if x3 = 1 then (f_X11_status_J20 N x1 x2 x3 C)
        else (f_X11_status_J24 N x1 x2 x3 C)))
theorem t_X11_status {g : mm_G} {d : Nat} {h : mm_Hp} {C D : CS} {N : Nat} {x1 : Int32} {x2 : Int32} {x3 : Int32} {r : ((String ⊕ Int32) × CS)} (hd : 7 ≤ d) (R : Rep h C D) (H : f_X11_status N x1 x2 x3 C = some r) : mm_P g d MX11_status 0 [some (.ref 64), some (.int x1), some (.int x2), some (.int x3)] [] h (cXI D r) := by
  unfold f_X11_status at H
  refine mm_aload_n dX11_status_0 rfl ?_
  refine rC_getR (t := 67) lk_X11_24_X11 lay_64 rfl rfl dX11_status_1 R ?_
  refine mm_iload_n dX11_status_4 rfl ?_
  refine mm_callU (d' := d - 1) (x := ⟨"TestimonyBook$Lines", "has", "(I)Z"⟩) (owner := "TestimonyBook$Rows") (as := [.int x1]) (st := []) (dS hd) cm_X9_has rfl (mm_t4 174 rfl rfl) (mm_t3 14 rfl rfl) (mm_t3 17 rfl rfl) (mm_t3 16 rfl rfl) (T := TX4) (N := 9) rfl dX11_status_5 (R.oC (r := 69) rfl lay_69) rfl (Nat.le_of_ble_eq_true rfl) (Nat.le_of_ble_eq_true rfl) rfl rfl (tr_has lk_X9_13_X4 lay_69 rfl rfl R) (fun E u q => by cases q.1) (fun v u q => th_pU q ?_)
  refine mm_if_eq 24 dX11_status_8 (by decide) (fun c1 => ?_) (fun c1 => ?_)
  · replace H := hT c1 H
    exact t_X11_status_J24 hd R H
  · replace H := hF c1 H
    refine mm_iload_n dX11_status_11 rfl ?_
    refine mm_if_eq 20 dX11_status_12 (by decide) (fun c10 => ?_) (fun c10 => ?_)
    · replace H := hT c10 H
      exact t_X11_status_J20 hd R H
    · replace H := hF c10 H
      refine mm_iload_n dX11_status_15 rfl ?_
      refine mm_iconst (v := 1) dX11_status_16 (by decide +kernel) ?_
      refine mm_icmp_ne 24 dX11_status_17 (by decide) (fun c19 => ?_) (fun c19 => ?_)
      · replace H := hF c19 H
        exact t_X11_status_J24 hd R H
      · replace H := hT c19 H
        exact t_X11_status_J20 hd R H
def f_X8_tell_L2 (N : Nat) (x1 : Int32) : Nat → Int32 → CS → Option (CS)
  | 0, _, _ => none
  | n + 1, x3, C => if inb x1 300 = true then (if (gA C 83 (x1).toNatClampNeg) ≤ x3 then (some C)
    else (if inb x1 300 = true then (bd (badd 67 (bat 77 ((gA C 82 (x1).toNatClampNeg) + x3) C) C) fun C4 =>
    f_X8_tell_L2 N x1 n (x3 + 1) C4) else none)) else none
theorem t_X8_tell_L2 {g : mm_G} {d : Nat} {Post : mm_Ou → mm_Hp → Prop} {D : CS} {N : Nat} {x1 : Int32} {res : (CS)} (hd : 3 ≤ d) (KE : ∀ (h1 : mm_Hp), Rep h1 res D → mm_P g d MX8_tell 37 [some (.ref 76), some (.int x1), none, none] [] h1 Post) : ∀ (n : Nat) (x3 : Int32) (C : CS) (h : mm_Hp) , Rep h C D → f_X8_tell_L2 N x1 n x3 C = some res → mm_P g d MX8_tell 2 [some (.ref 76), some (.int x1), some (.ref 67), some (.int x3)] [] h Post := by
  intro n
  induction n with
  | zero =>
    intro x3 C h R H
    exact hN H
  | succ n ih =>
    intro x3 C h R H
    unfold f_X8_tell_L2 at H
    refine mm_iload_n dX8_tell_2 rfl ?_
    refine mm_aload_n dX8_tell_3 rfl ?_
    refine rC_getR (t := 81) lk_X8_31_X8 lay_76 rfl rfl dX8_tell_4 R ?_
    refine mm_iload_n dX8_tell_7 rfl ?_
    obtain ⟨b1, H⟩ := hB H
    refine rC_iald lay_83 rfl dX8_tell_8 R b1 ?_
    refine mm_icmp_ge 37 dX8_tell_9 (by decide) (fun c2 => ?_) (fun c2 => ?_)
    · replace H := hT c2 H
      refine mm_fgt (ls' := [some (.ref 76), some (.int x1), none, none]) ⟨rfl, rfl, trivial⟩ ?_
      cases H
      exact KE _ R
    · replace H := hF c2 H
      refine mm_aload_n dX8_tell_12 rfl ?_
      refine mm_aload_n dX8_tell_13 rfl ?_
      refine rC_getR (t := 75) lk_X8_14_X8 lay_76 rfl rfl dX8_tell_14 R ?_
      refine mm_aload_n dX8_tell_17 rfl ?_
      refine rC_getR (t := 80) lk_X8_28_X8 lay_76 rfl rfl dX8_tell_18 R ?_
      refine mm_iload_n dX8_tell_21 rfl ?_
      obtain ⟨b3, H⟩ := hB H
      refine rC_iald lay_82 rfl dX8_tell_22 R b3 ?_
      refine mm_iload_n dX8_tell_23 rfl ?_
      refine mm_iadd dX8_tell_24 ?_
      refine mm_callV (d' := d - 1) (as := [.int ((gA C 82 (x1).toNatClampNeg) + x3)]) (st := [.ref 67]) (dS hd) cm_X1_byteAt (mm_t4 139 rfl rfl) (mm_t3 175 rfl rfl) (mm_t3 176 rfl rfl) (T := TX1) (N := 4) rfl dX8_tell_25 (R.oB (Or.inr (Or.inr rfl))).choose_spec rfl (Nat.le_of_ble_eq_true rfl) (Nat.le_of_ble_eq_true rfl) rfl rfl (tb_at (Or.inr (Or.inr rfl)) R) (fun o u q => mm_thenI q ?_)
      obtain ⟨C4, e5, H⟩ := hD H
      refine mm_callV (d' := d - 1) (as := [.int (bat 77 ((gA C 82 (x1).toNatClampNeg) + x3) C)]) (st := []) (dS hd) cm_X1_add (mm_t4 140 rfl rfl) (mm_t2 190 rfl rfl) (mm_t2 191 rfl rfl) (T := TX1) (N := 4) rfl dX8_tell_28 (R.oB (Or.inr (Or.inl rfl))).choose_spec rfl (Nat.le_of_ble_eq_true rfl) (Nat.le_of_ble_eq_true rfl) rfl rfl (tb_add (Or.inr (Or.inl rfl)) (dL hd (by decide)) R) (fun o h q => th_cV q (fun R => ?_))
      replace R := Rep.cg e5 R
      refine mm_iinc (v := (x3 + 1)) (ls' := [some (.ref 76), some (.int x1), some (.ref 67), some (.int (x3 + 1))]) dX8_tell_31 rfl rfl rfl ?_
      refine mm_goto 2 dX8_tell_34 (by decide) ?_
      exact ih _ _ _ R H
def f_X8_tell (N : Nat) (x1 : Int32) (C : CS) : Option (Int32 × CS) :=
  bnd (f_X8_tell_L2 N x1 N 0 C) fun q6 =>
    if inb x1 300 = true then (some ((gA q6 83 (x1).toNatClampNeg), q6)) else none
theorem t_X8_tell {g : mm_G} {d : Nat} {h : mm_Hp} {C D : CS} {N : Nat} {x1 : Int32} {r : (Int32 × CS)} (hd : 3 ≤ d) (R : Rep h C D) (H : f_X8_tell N x1 C = some r) : mm_P g d MX8_tell 0 [some (.ref 76), some (.int x1), some (.ref 67), none] [] h (cI D r) := by
  unfold f_X8_tell at H
  refine mm_iconst (v := 0) dX8_tell_0 (by decide +kernel) ?_
  refine mm_istore_n (ls' := [some (.ref 76), some (.int x1), some (.ref 67), some (.int 0)]) dX8_tell_1 (Nat.le_of_ble_eq_true rfl) rfl ?_
  obtain ⟨q6, H7, H⟩ := hC H
  refine t_X8_tell_L2 hd (fun h R => ?_) N _ _ _ R H7
  refine mm_aload_n dX8_tell_37 rfl ?_
  refine rC_getR (t := 81) lk_X8_31_X8 lay_76 rfl rfl dX8_tell_38 R ?_
  refine mm_iload_n dX8_tell_41 rfl ?_
  obtain ⟨b8, H⟩ := hB H
  refine rC_iald lay_83 rfl dX8_tell_42 R b8 ?_
  refine mm_iret rfl rfl dX8_tell_43 ?_
  exact en_cI H R
def f_X1_addText_67_3_L2 (N : Nat) : Nat → Int32 → CS → Option (CS)
  | 0, _, _ => none
  | n + 1, x2, C => if (nI (sl 3)) ≤ x2 then (some C)
    else (if inb x2 (sl 3) = true then (bd (badd 67 (chOf 3 (x2).toNatClampNeg) C) fun C3 =>
    f_X1_addText_67_3_L2 N n (x2 + 1) C3) else none)
theorem t_X1_addText_67_3_L2 {g : mm_G} {d : Nat} {Post : mm_Ou → mm_Hp → Prop} {D : CS} {N : Nat} {res : (CS)} (hd : 4 ≤ d) (KE : ∀ (h1 : mm_Hp), Rep h1 res D → mm_P g d MX1_addText 25 [none, some (.ref 3), none] [] h1 Post) : ∀ (n : Nat) (x2 : Int32) (C : CS) (h : mm_Hp) , Rep h C D → f_X1_addText_67_3_L2 N n x2 C = some res → mm_P g d MX1_addText 2 [some (.ref 67), some (.ref 3), some (.int x2)] [] h Post := by
  intro n
  induction n with
  | zero =>
    intro x2 C h R H
    exact hN H
  | succ n ih =>
    intro x2 C h R H
    unfold f_X1_addText_67_3_L2 at H
    refine mm_iload_n dX1_addText_2 rfl ?_
    refine mm_aload_n dX1_addText_3 rfl ?_
    refine mm_callF (i := 3) (d' := d - 1) (as := []) (st := [.int x2]) (by decide) (by decide) (dS hd) cm_J0_length_8abf5 (mm_t5 100 rfl rfl) (mm_t3 196 rfl rfl) (mm_t3 197 rfl rfl) dX1_addText_4 rfl (Nat.le_of_ble_eq_true rfl) (Nat.le_of_ble_eq_true rfl) rfl rfl (tx_len (by decide) (by decide) (dL hd (by decide))) (fun o u q => mm_thenI q ?_)
    refine mm_icmp_ge 25 dX1_addText_7 (by decide) (fun c1 => ?_) (fun c1 => ?_)
    · replace H := hT c1 H
      refine mm_fgt (ls' := [none, some (.ref 3), none]) ⟨rfl, trivial⟩ ?_
      cases H
      exact KE _ R
    · replace H := hF c1 H
      refine mm_aload_n dX1_addText_10 rfl ?_
      refine mm_aload_n dX1_addText_11 rfl ?_
      refine mm_iload_n dX1_addText_12 rfl ?_
      obtain ⟨b2, H⟩ := hB H
      refine mm_callF (i := 3) (d' := d - 1) (as := [.int x2]) (st := [.ref 67]) (by decide) (by decide) (dS hd) cm_J0_charAt_5068e (mm_t5 101 rfl rfl) (mm_t5 102 rfl rfl) (mm_t5 103 rfl rfl) dX1_addText_13 rfl (Nat.le_of_ble_eq_true rfl) (Nat.le_of_ble_eq_true rfl) rfl rfl (tx_at (by decide) (by decide) (dL hd (by decide)) b2) (fun o u q => mm_thenI q ?_)
      obtain ⟨C3, e4, H⟩ := hD H
      refine mm_callV (d' := d - 1) (as := [.int (chOf 3 (x2).toNatClampNeg)]) (st := []) (dS hd) cm_X1_add (mm_t2 189 rfl rfl) (mm_t2 190 rfl rfl) (mm_t2 191 rfl rfl) (T := TX1) (N := 4) rfl dX1_addText_16 (R.oB (Or.inr (Or.inl rfl))).choose_spec rfl (Nat.le_of_ble_eq_true rfl) (Nat.le_of_ble_eq_true rfl) rfl rfl (tb_add (Or.inr (Or.inl rfl)) (dL hd (by decide)) R) (fun o h q => th_cV q (fun R => ?_))
      replace R := Rep.cg e4 R
      refine mm_iinc (v := (x2 + 1)) (ls' := [some (.ref 67), some (.ref 3), some (.int (x2 + 1))]) dX1_addText_19 rfl rfl rfl ?_
      refine mm_goto 2 dX1_addText_22 (by decide) ?_
      exact ih _ _ _ R H
def f_X1_addText_67_3 (N : Nat) (C : CS) : Option (Int32 × CS) :=
  bnd (f_X1_addText_67_3_L2 N N 0 C) fun q5 =>
    some ((nI (sl 3)), q5)
theorem t_X1_addText_67_3 {g : mm_G} {d : Nat} {h : mm_Hp} {C D : CS} {N : Nat} {r : (Int32 × CS)} (hd : 4 ≤ d) (R : Rep h C D) (H : f_X1_addText_67_3 N C = some r) : mm_P g d MX1_addText 0 [some (.ref 67), some (.ref 3), none] [] h (cI D r) := by
  unfold f_X1_addText_67_3 at H
  refine mm_iconst (v := 0) dX1_addText_0 (by decide +kernel) ?_
  refine mm_istore_n (ls' := [some (.ref 67), some (.ref 3), some (.int 0)]) dX1_addText_1 (Nat.le_of_ble_eq_true rfl) rfl ?_
  obtain ⟨q5, H6, H⟩ := hC H
  refine t_X1_addText_67_3_L2 hd (fun h R => ?_) N _ _ _ R H6
  refine mm_aload_n dX1_addText_25 rfl ?_
  refine mm_callF (i := 3) (d' := d - 1) (as := []) (st := []) (by decide) (by decide) (dS hd) cm_J0_length_8abf5 (mm_t5 100 rfl rfl) (mm_t3 196 rfl rfl) (mm_t3 197 rfl rfl) dX1_addText_26 rfl (Nat.le_of_ble_eq_true rfl) (Nat.le_of_ble_eq_true rfl) rfl rfl (tx_len (by decide) (by decide) (dL hd (by decide))) (fun o u q => mm_thenI q ?_)
  refine mm_iret rfl rfl dX1_addText_29 ?_
  exact en_cI H R
def f_X1_addText_67_2_L2 (N : Nat) : Nat → Int32 → CS → Option (CS)
  | 0, _, _ => none
  | n + 1, x2, C => if (nI (sl 2)) ≤ x2 then (some C)
    else (if inb x2 (sl 2) = true then (bd (badd 67 (chOf 2 (x2).toNatClampNeg) C) fun C3 =>
    f_X1_addText_67_2_L2 N n (x2 + 1) C3) else none)
theorem t_X1_addText_67_2_L2 {g : mm_G} {d : Nat} {Post : mm_Ou → mm_Hp → Prop} {D : CS} {N : Nat} {res : (CS)} (hd : 4 ≤ d) (KE : ∀ (h1 : mm_Hp), Rep h1 res D → mm_P g d MX1_addText 25 [none, some (.ref 2), none] [] h1 Post) : ∀ (n : Nat) (x2 : Int32) (C : CS) (h : mm_Hp) , Rep h C D → f_X1_addText_67_2_L2 N n x2 C = some res → mm_P g d MX1_addText 2 [some (.ref 67), some (.ref 2), some (.int x2)] [] h Post := by
  intro n
  induction n with
  | zero =>
    intro x2 C h R H
    exact hN H
  | succ n ih =>
    intro x2 C h R H
    unfold f_X1_addText_67_2_L2 at H
    refine mm_iload_n dX1_addText_2 rfl ?_
    refine mm_aload_n dX1_addText_3 rfl ?_
    refine mm_callF (i := 2) (d' := d - 1) (as := []) (st := [.int x2]) (by decide) (by decide) (dS hd) cm_J0_length_8abf5 (mm_t5 100 rfl rfl) (mm_t3 196 rfl rfl) (mm_t3 197 rfl rfl) dX1_addText_4 rfl (Nat.le_of_ble_eq_true rfl) (Nat.le_of_ble_eq_true rfl) rfl rfl (tx_len (by decide) (by decide) (dL hd (by decide))) (fun o u q => mm_thenI q ?_)
    refine mm_icmp_ge 25 dX1_addText_7 (by decide) (fun c1 => ?_) (fun c1 => ?_)
    · replace H := hT c1 H
      refine mm_fgt (ls' := [none, some (.ref 2), none]) ⟨rfl, trivial⟩ ?_
      cases H
      exact KE _ R
    · replace H := hF c1 H
      refine mm_aload_n dX1_addText_10 rfl ?_
      refine mm_aload_n dX1_addText_11 rfl ?_
      refine mm_iload_n dX1_addText_12 rfl ?_
      obtain ⟨b2, H⟩ := hB H
      refine mm_callF (i := 2) (d' := d - 1) (as := [.int x2]) (st := [.ref 67]) (by decide) (by decide) (dS hd) cm_J0_charAt_5068e (mm_t5 101 rfl rfl) (mm_t5 102 rfl rfl) (mm_t5 103 rfl rfl) dX1_addText_13 rfl (Nat.le_of_ble_eq_true rfl) (Nat.le_of_ble_eq_true rfl) rfl rfl (tx_at (by decide) (by decide) (dL hd (by decide)) b2) (fun o u q => mm_thenI q ?_)
      obtain ⟨C3, e4, H⟩ := hD H
      refine mm_callV (d' := d - 1) (as := [.int (chOf 2 (x2).toNatClampNeg)]) (st := []) (dS hd) cm_X1_add (mm_t2 189 rfl rfl) (mm_t2 190 rfl rfl) (mm_t2 191 rfl rfl) (T := TX1) (N := 4) rfl dX1_addText_16 (R.oB (Or.inr (Or.inl rfl))).choose_spec rfl (Nat.le_of_ble_eq_true rfl) (Nat.le_of_ble_eq_true rfl) rfl rfl (tb_add (Or.inr (Or.inl rfl)) (dL hd (by decide)) R) (fun o h q => th_cV q (fun R => ?_))
      replace R := Rep.cg e4 R
      refine mm_iinc (v := (x2 + 1)) (ls' := [some (.ref 67), some (.ref 2), some (.int (x2 + 1))]) dX1_addText_19 rfl rfl rfl ?_
      refine mm_goto 2 dX1_addText_22 (by decide) ?_
      exact ih _ _ _ R H
def f_X1_addText_67_2 (N : Nat) (C : CS) : Option (Int32 × CS) :=
  bnd (f_X1_addText_67_2_L2 N N 0 C) fun q5 =>
    some ((nI (sl 2)), q5)
theorem t_X1_addText_67_2 {g : mm_G} {d : Nat} {h : mm_Hp} {C D : CS} {N : Nat} {r : (Int32 × CS)} (hd : 4 ≤ d) (R : Rep h C D) (H : f_X1_addText_67_2 N C = some r) : mm_P g d MX1_addText 0 [some (.ref 67), some (.ref 2), none] [] h (cI D r) := by
  unfold f_X1_addText_67_2 at H
  refine mm_iconst (v := 0) dX1_addText_0 (by decide +kernel) ?_
  refine mm_istore_n (ls' := [some (.ref 67), some (.ref 2), some (.int 0)]) dX1_addText_1 (Nat.le_of_ble_eq_true rfl) rfl ?_
  obtain ⟨q5, H6, H⟩ := hC H
  refine t_X1_addText_67_2_L2 hd (fun h R => ?_) N _ _ _ R H6
  refine mm_aload_n dX1_addText_25 rfl ?_
  refine mm_callF (i := 2) (d' := d - 1) (as := []) (st := []) (by decide) (by decide) (dS hd) cm_J0_length_8abf5 (mm_t5 100 rfl rfl) (mm_t3 196 rfl rfl) (mm_t3 197 rfl rfl) dX1_addText_26 rfl (Nat.le_of_ble_eq_true rfl) (Nat.le_of_ble_eq_true rfl) rfl rfl (tx_len (by decide) (by decide) (dL hd (by decide))) (fun o u q => mm_thenI q ?_)
  refine mm_iret rfl rfl dX1_addText_29 ?_
  exact en_cI H R
def f_X11_readBack (N : Nat) (x1 : Int32) (x2 : Int32) (x3 : Int32) (C : CS) : Option (Int32 × CS) :=
  bnd (f_X7_strike N x1 x3 C) fun q1 =>
  if q1 = 0 then (bnd (f_X7_levelOf N x1 x3 C) fun q4 =>
    if q4 ≤ x2 then (if inb x1 200 = true then (if (gA C 70 (x1).toNatClampNeg) < 0 then (bd (badd 67 32 C) fun C9 =>
        bd (badd 67 32 C9) fun C11 =>
        bnd (f_X8_heldOn N x1 x3 C11) fun q13 =>
        bnd (f_X8_tell N q13 C11) fun q15 =>
        some ((2 + q15.1), q15.2))
        else (if (nI (sl 1)) ≤ (gA C 70 (x1).toNatClampNeg) then (bd (badd 67 32 C) fun C18 =>
          bd (badd 67 32 C18) fun C20 =>
          bnd (f_X8_heldOn N x1 x3 C20) fun q22 =>
          bnd (f_X8_tell N q22 C20) fun q24 =>
          some ((2 + q24.1), q24.2))
          else (if inb (gA C 70 (x1).toNatClampNeg) (sl 1) = true then (bd (badd 67 (chOf 1 ((gA C 70 (x1).toNatClampNeg)).toNatClampNeg) C) fun C27 =>
          bd (badd 67 32 C27) fun C29 =>
          bnd (f_X8_heldOn N x1 x3 C29) fun q31 =>
          bnd (f_X8_tell N q31 C29) fun q33 =>
          some ((2 + q33.1), q33.2)) else none))) else none)
      else (bnd (f_X1_addText_67_3 N C) fun q35 =>
      some (q35.1, q35.2)))
    else (bnd (f_X1_addText_67_2 N C) fun q37 =>
    some (q37.1, q37.2))
theorem t_X11_readBack {g : mm_G} {d : Nat} {h : mm_Hp} {C D : CS} {N : Nat} {x1 : Int32} {x2 : Int32} {x3 : Int32} {r : (Int32 × CS)} (hd : 5 ≤ d) (R : Rep h C D) (H : f_X11_readBack N x1 x2 x3 C = some r) : mm_P g d MX11_readBack 0 [some (.ref 64), some (.int x1), some (.int x2), some (.int x3), none] [] h (cI D r) := by
  unfold f_X11_readBack at H
  refine mm_aload_n dX11_readBack_0 rfl ?_
  refine rC_getR (t := 96) lk_X11_59_X11 lay_64 rfl rfl dX11_readBack_1 R ?_
  refine mm_iload_n dX11_readBack_4 rfl ?_
  refine mm_iload_n dX11_readBack_5 rfl ?_
  obtain ⟨q1, H2, H⟩ := hC H
  refine mm_callV (d' := d - 1) (as := [.int x1, .int x3]) (st := []) (dS hd) cm_X7_strike (mm_t5 81 rfl rfl) (mm_t3 2 rfl rfl) (mm_t3 3 rfl rfl) (T := TX7) (N := 8) rfl dX11_readBack_6 (R.oC (r := 98) rfl lay_98) rfl (Nat.le_of_ble_eq_true rfl) (Nat.le_of_ble_eq_true rfl) rfl rfl (t_X7_strike (dL hd (by decide)) R H2) (fun o u q => mm_thenI q ?_)
  refine mm_if_eq 23 dX11_readBack_9 (by decide) (fun c3 => ?_) (fun c3 => ?_)
  · replace H := hT c3 H
    refine mm_aload_n dX11_readBack_23 rfl ?_
    refine rC_getR (t := 96) lk_X11_59_X11 lay_64 rfl rfl dX11_readBack_24 R ?_
    refine mm_iload_n dX11_readBack_27 rfl ?_
    refine mm_iload_n dX11_readBack_28 rfl ?_
    obtain ⟨q4, H5, H⟩ := hC H
    refine mm_callV (d' := d - 1) (as := [.int x1, .int x3]) (st := []) (dS hd) cm_X7_levelOf (mm_t5 77 rfl rfl) (mm_t5 78 rfl rfl) (mm_t5 79 rfl rfl) (T := TX7) (N := 8) rfl dX11_readBack_29 (R.oC (r := 98) rfl lay_98) rfl (Nat.le_of_ble_eq_true rfl) (Nat.le_of_ble_eq_true rfl) rfl rfl (t_X7_levelOf (dL hd (by decide)) R H5) (fun o u q => mm_thenI q ?_)
    refine mm_iload_n dX11_readBack_32 rfl ?_
    refine mm_icmp_le 47 dX11_readBack_33 (by decide) (fun c6 => ?_) (fun c6 => ?_)
    · replace H := hT c6 H
      refine mm_aload_n dX11_readBack_47 rfl ?_
      refine rC_getR (t := 67) lk_X11_24_X11 lay_64 rfl rfl dX11_readBack_48 R ?_
      refine rC_getR (t := 68) lk_X11_123_X4 lay_69 rfl rfl dX11_readBack_51 R ?_
      refine mm_iload_n dX11_readBack_54 rfl ?_
      obtain ⟨b7, H⟩ := hB H
      refine rC_iald lay_70 rfl dX11_readBack_55 R b7 ?_
      refine mm_istore (ls' := [some (.ref 64), some (.int x1), some (.int x2), some (.int x3), some (.int (gA C 70 (x1).toNatClampNeg))]) dX11_readBack_56 (Nat.le_of_ble_eq_true rfl) rfl ?_
      refine mm_aload_n dX11_readBack_58 rfl ?_
      refine rC_getR (t := 65) lk_X11_18_X11 lay_64 rfl rfl dX11_readBack_59 R ?_
      refine mm_iload dX11_readBack_62 rfl ?_
      refine mm_if_lt 89 dX11_readBack_64 (by decide) (fun c8 => ?_) (fun c8 => ?_)
      · replace H := hT c8 H
        refine mm_bipush (v := 32) dX11_readBack_89 (by decide +kernel) ?_
        obtain ⟨C9, e10, H⟩ := hD H
        refine mm_callV (d' := d - 1) (as := [.int 32]) (st := []) (dS hd) cm_X1_add (mm_t5 90 rfl rfl) (mm_t2 190 rfl rfl) (mm_t2 191 rfl rfl) (T := TX1) (N := 4) rfl dX11_readBack_91 (R.oB (Or.inr (Or.inl rfl))).choose_spec rfl (Nat.le_of_ble_eq_true rfl) (Nat.le_of_ble_eq_true rfl) rfl rfl (tb_add (Or.inr (Or.inl rfl)) (dL hd (by decide)) R) (fun o h q => th_cV q (fun R => ?_))
        replace R := Rep.cg e10 R
        refine mm_aload_n dX11_readBack_94 rfl ?_
        refine rC_getR (t := 65) lk_X11_18_X11 lay_64 rfl rfl dX11_readBack_95 R ?_
        refine mm_bipush (v := 32) dX11_readBack_98 (by decide +kernel) ?_
        obtain ⟨C11, e12, H⟩ := hD H
        refine mm_callV (d' := d - 1) (as := [.int 32]) (st := []) (dS hd) cm_X1_add (mm_t5 90 rfl rfl) (mm_t2 190 rfl rfl) (mm_t2 191 rfl rfl) (T := TX1) (N := 4) rfl dX11_readBack_100 (R.oB (Or.inr (Or.inl rfl))).choose_spec rfl (Nat.le_of_ble_eq_true rfl) (Nat.le_of_ble_eq_true rfl) rfl rfl (tb_add (Or.inr (Or.inl rfl)) (dL hd (by decide)) R) (fun o h q => th_cV q (fun R => ?_))
        replace R := Rep.cg e12 R
        refine mm_iconst (v := 2) dX11_readBack_103 (by decide +kernel) ?_
        refine mm_aload_n dX11_readBack_104 rfl ?_
        refine rC_getR (t := 74) lk_X11_31_X11 lay_64 rfl rfl dX11_readBack_105 R ?_
        refine mm_aload_n dX11_readBack_108 rfl ?_
        refine rC_getR (t := 74) lk_X11_31_X11 lay_64 rfl rfl dX11_readBack_109 R ?_
        refine mm_iload_n dX11_readBack_112 rfl ?_
        refine mm_iload_n dX11_readBack_113 rfl ?_
        obtain ⟨q13, H14, H⟩ := hC H
        refine mm_callV (d' := d - 1) (as := [.int x1, .int x3]) (st := [.ref 76, .int 2]) (dS hd) cm_X8_heldOn (mm_t5 125 rfl rfl) (mm_t2 238 rfl rfl) (mm_t2 239 rfl rfl) (T := TX8) (N := 9) rfl dX11_readBack_114 (R.oC (r := 76) rfl lay_76) rfl (Nat.le_of_ble_eq_true rfl) (Nat.le_of_ble_eq_true rfl) rfl rfl (t_X8_heldOn (dL hd (by decide)) R H14) (fun o u q => mm_thenI q ?_)
        refine mm_aload_n dX11_readBack_117 rfl ?_
        refine rC_getR (t := 65) lk_X11_18_X11 lay_64 rfl rfl dX11_readBack_118 R ?_
        obtain ⟨q15, H16, H⟩ := hC H
        refine mm_callV (d' := d - 1) (as := [.int q13, .ref 67]) (st := [.int 2]) (dS hd) cm_X8_tell (mm_t5 126 rfl rfl) (mm_t5 127 rfl rfl) (mm_t5 128 rfl rfl) (T := TX8) (N := 9) rfl dX11_readBack_121 (R.oC (r := 76) rfl lay_76) rfl (Nat.le_of_ble_eq_true rfl) (Nat.le_of_ble_eq_true rfl) rfl rfl (t_X8_tell (dL hd (by decide)) R H16) (fun o h q => th_cI q (fun R => ?_))
        refine mm_iadd dX11_readBack_124 ?_
        refine mm_iret rfl rfl dX11_readBack_125 ?_
        exact en_cI H R
      · replace H := hF c8 H
        refine mm_iload dX11_readBack_67 rfl ?_
        refine mm_ldcSw (no := 1) (tx := "QAYN !") (by decide) (by decide) dX11_readBack_69 ?_
        refine mm_callF (i := 1) (d' := d - 1) (as := []) (st := [.int (gA C 70 (x1).toNatClampNeg), .ref 67]) (by decide) (by decide) (dS hd) cm_J0_length_8abf5 (mm_t5 123 rfl rfl) (mm_t3 196 rfl rfl) (mm_t3 197 rfl rfl) dX11_readBack_72 rfl (Nat.le_of_ble_eq_true rfl) (Nat.le_of_ble_eq_true rfl) rfl rfl (tx_len (by decide) (by decide) (dL hd (by decide))) (fun o u q => mm_thenI q ?_)
        refine mm_icmp_ge 89 dX11_readBack_75 (by decide) (fun c17 => ?_) (fun c17 => ?_)
        · replace H := hT c17 H
          refine mm_bipush (v := 32) dX11_readBack_89 (by decide +kernel) ?_
          obtain ⟨C18, e19, H⟩ := hD H
          refine mm_callV (d' := d - 1) (as := [.int 32]) (st := []) (dS hd) cm_X1_add (mm_t5 90 rfl rfl) (mm_t2 190 rfl rfl) (mm_t2 191 rfl rfl) (T := TX1) (N := 4) rfl dX11_readBack_91 (R.oB (Or.inr (Or.inl rfl))).choose_spec rfl (Nat.le_of_ble_eq_true rfl) (Nat.le_of_ble_eq_true rfl) rfl rfl (tb_add (Or.inr (Or.inl rfl)) (dL hd (by decide)) R) (fun o h q => th_cV q (fun R => ?_))
          replace R := Rep.cg e19 R
          refine mm_aload_n dX11_readBack_94 rfl ?_
          refine rC_getR (t := 65) lk_X11_18_X11 lay_64 rfl rfl dX11_readBack_95 R ?_
          refine mm_bipush (v := 32) dX11_readBack_98 (by decide +kernel) ?_
          obtain ⟨C20, e21, H⟩ := hD H
          refine mm_callV (d' := d - 1) (as := [.int 32]) (st := []) (dS hd) cm_X1_add (mm_t5 90 rfl rfl) (mm_t2 190 rfl rfl) (mm_t2 191 rfl rfl) (T := TX1) (N := 4) rfl dX11_readBack_100 (R.oB (Or.inr (Or.inl rfl))).choose_spec rfl (Nat.le_of_ble_eq_true rfl) (Nat.le_of_ble_eq_true rfl) rfl rfl (tb_add (Or.inr (Or.inl rfl)) (dL hd (by decide)) R) (fun o h q => th_cV q (fun R => ?_))
          replace R := Rep.cg e21 R
          refine mm_iconst (v := 2) dX11_readBack_103 (by decide +kernel) ?_
          refine mm_aload_n dX11_readBack_104 rfl ?_
          refine rC_getR (t := 74) lk_X11_31_X11 lay_64 rfl rfl dX11_readBack_105 R ?_
          refine mm_aload_n dX11_readBack_108 rfl ?_
          refine rC_getR (t := 74) lk_X11_31_X11 lay_64 rfl rfl dX11_readBack_109 R ?_
          refine mm_iload_n dX11_readBack_112 rfl ?_
          refine mm_iload_n dX11_readBack_113 rfl ?_
          obtain ⟨q22, H23, H⟩ := hC H
          refine mm_callV (d' := d - 1) (as := [.int x1, .int x3]) (st := [.ref 76, .int 2]) (dS hd) cm_X8_heldOn (mm_t5 125 rfl rfl) (mm_t2 238 rfl rfl) (mm_t2 239 rfl rfl) (T := TX8) (N := 9) rfl dX11_readBack_114 (R.oC (r := 76) rfl lay_76) rfl (Nat.le_of_ble_eq_true rfl) (Nat.le_of_ble_eq_true rfl) rfl rfl (t_X8_heldOn (dL hd (by decide)) R H23) (fun o u q => mm_thenI q ?_)
          refine mm_aload_n dX11_readBack_117 rfl ?_
          refine rC_getR (t := 65) lk_X11_18_X11 lay_64 rfl rfl dX11_readBack_118 R ?_
          obtain ⟨q24, H25, H⟩ := hC H
          refine mm_callV (d' := d - 1) (as := [.int q22, .ref 67]) (st := [.int 2]) (dS hd) cm_X8_tell (mm_t5 126 rfl rfl) (mm_t5 127 rfl rfl) (mm_t5 128 rfl rfl) (T := TX8) (N := 9) rfl dX11_readBack_121 (R.oC (r := 76) rfl lay_76) rfl (Nat.le_of_ble_eq_true rfl) (Nat.le_of_ble_eq_true rfl) rfl rfl (t_X8_tell (dL hd (by decide)) R H25) (fun o h q => th_cI q (fun R => ?_))
          refine mm_iadd dX11_readBack_124 ?_
          refine mm_iret rfl rfl dX11_readBack_125 ?_
          exact en_cI H R
        · replace H := hF c17 H
          refine mm_ldcSw (no := 1) (tx := "QAYN !") (by decide) (by decide) dX11_readBack_78 ?_
          refine mm_iload dX11_readBack_81 rfl ?_
          obtain ⟨b26, H⟩ := hB H
          refine mm_callF (i := 1) (d' := d - 1) (as := [.int (gA C 70 (x1).toNatClampNeg)]) (st := [.ref 67]) (by decide) (by decide) (dS hd) cm_J0_charAt_5068e (mm_t5 124 rfl rfl) (mm_t5 102 rfl rfl) (mm_t5 103 rfl rfl) dX11_readBack_83 rfl (Nat.le_of_ble_eq_true rfl) (Nat.le_of_ble_eq_true rfl) rfl rfl (tx_at (by decide) (by decide) (dL hd (by decide)) b26) (fun o u q => mm_thenI q ?_)
          refine mm_goto 91 dX11_readBack_86 (by decide) ?_
          obtain ⟨C27, e28, H⟩ := hD H
          refine mm_callV (d' := d - 1) (as := [.int (chOf 1 ((gA C 70 (x1).toNatClampNeg)).toNatClampNeg)]) (st := []) (dS hd) cm_X1_add (mm_t5 90 rfl rfl) (mm_t2 190 rfl rfl) (mm_t2 191 rfl rfl) (T := TX1) (N := 4) rfl dX11_readBack_91 (R.oB (Or.inr (Or.inl rfl))).choose_spec rfl (Nat.le_of_ble_eq_true rfl) (Nat.le_of_ble_eq_true rfl) rfl rfl (tb_add (Or.inr (Or.inl rfl)) (dL hd (by decide)) R) (fun o h q => th_cV q (fun R => ?_))
          replace R := Rep.cg e28 R
          refine mm_aload_n dX11_readBack_94 rfl ?_
          refine rC_getR (t := 65) lk_X11_18_X11 lay_64 rfl rfl dX11_readBack_95 R ?_
          refine mm_bipush (v := 32) dX11_readBack_98 (by decide +kernel) ?_
          obtain ⟨C29, e30, H⟩ := hD H
          refine mm_callV (d' := d - 1) (as := [.int 32]) (st := []) (dS hd) cm_X1_add (mm_t5 90 rfl rfl) (mm_t2 190 rfl rfl) (mm_t2 191 rfl rfl) (T := TX1) (N := 4) rfl dX11_readBack_100 (R.oB (Or.inr (Or.inl rfl))).choose_spec rfl (Nat.le_of_ble_eq_true rfl) (Nat.le_of_ble_eq_true rfl) rfl rfl (tb_add (Or.inr (Or.inl rfl)) (dL hd (by decide)) R) (fun o h q => th_cV q (fun R => ?_))
          replace R := Rep.cg e30 R
          refine mm_iconst (v := 2) dX11_readBack_103 (by decide +kernel) ?_
          refine mm_aload_n dX11_readBack_104 rfl ?_
          refine rC_getR (t := 74) lk_X11_31_X11 lay_64 rfl rfl dX11_readBack_105 R ?_
          refine mm_aload_n dX11_readBack_108 rfl ?_
          refine rC_getR (t := 74) lk_X11_31_X11 lay_64 rfl rfl dX11_readBack_109 R ?_
          refine mm_iload_n dX11_readBack_112 rfl ?_
          refine mm_iload_n dX11_readBack_113 rfl ?_
          obtain ⟨q31, H32, H⟩ := hC H
          refine mm_callV (d' := d - 1) (as := [.int x1, .int x3]) (st := [.ref 76, .int 2]) (dS hd) cm_X8_heldOn (mm_t5 125 rfl rfl) (mm_t2 238 rfl rfl) (mm_t2 239 rfl rfl) (T := TX8) (N := 9) rfl dX11_readBack_114 (R.oC (r := 76) rfl lay_76) rfl (Nat.le_of_ble_eq_true rfl) (Nat.le_of_ble_eq_true rfl) rfl rfl (t_X8_heldOn (dL hd (by decide)) R H32) (fun o u q => mm_thenI q ?_)
          refine mm_aload_n dX11_readBack_117 rfl ?_
          refine rC_getR (t := 65) lk_X11_18_X11 lay_64 rfl rfl dX11_readBack_118 R ?_
          obtain ⟨q33, H34, H⟩ := hC H
          refine mm_callV (d' := d - 1) (as := [.int q31, .ref 67]) (st := [.int 2]) (dS hd) cm_X8_tell (mm_t5 126 rfl rfl) (mm_t5 127 rfl rfl) (mm_t5 128 rfl rfl) (T := TX8) (N := 9) rfl dX11_readBack_121 (R.oC (r := 76) rfl lay_76) rfl (Nat.le_of_ble_eq_true rfl) (Nat.le_of_ble_eq_true rfl) rfl rfl (t_X8_tell (dL hd (by decide)) R H34) (fun o h q => th_cI q (fun R => ?_))
          refine mm_iadd dX11_readBack_124 ?_
          refine mm_iret rfl rfl dX11_readBack_125 ?_
          exact en_cI H R
    · replace H := hF c6 H
      refine mm_aload_n dX11_readBack_36 rfl ?_
      refine rC_getR (t := 65) lk_X11_18_X11 lay_64 rfl rfl dX11_readBack_37 R ?_
      refine mm_ldcSw (no := 3) (tx := "- sealed") (by decide) (by decide) dX11_readBack_40 ?_
      obtain ⟨q35, H36, H⟩ := hC H
      refine mm_callV (d' := d - 1) (as := [.ref 3]) (st := []) (dS hd) cm_X1_addText (mm_t5 96 rfl rfl) (mm_t5 97 rfl rfl) (mm_t5 98 rfl rfl) (T := TX1) (N := 4) rfl dX11_readBack_43 (R.oB (Or.inr (Or.inl rfl))).choose_spec rfl (Nat.le_of_ble_eq_true rfl) (Nat.le_of_ble_eq_true rfl) rfl rfl (t_X1_addText_67_3 (dL hd (by decide)) R H36) (fun o h q => th_cI q (fun R => ?_))
      refine mm_iret rfl rfl dX11_readBack_46 ?_
      exact en_cI H R
  · replace H := hF c3 H
    refine mm_aload_n dX11_readBack_12 rfl ?_
    refine rC_getR (t := 65) lk_X11_18_X11 lay_64 rfl rfl dX11_readBack_13 R ?_
    refine mm_ldcSw (no := 2) (tx := "- struck") (by decide) (by decide) dX11_readBack_16 ?_
    obtain ⟨q37, H38, H⟩ := hC H
    refine mm_callV (d' := d - 1) (as := [.ref 2]) (st := []) (dS hd) cm_X1_addText (mm_t5 96 rfl rfl) (mm_t5 97 rfl rfl) (mm_t5 98 rfl rfl) (T := TX1) (N := 4) rfl dX11_readBack_19 (R.oB (Or.inr (Or.inl rfl))).choose_spec rfl (Nat.le_of_ble_eq_true rfl) (Nat.le_of_ble_eq_true rfl) rfl rfl (t_X1_addText_67_2 (dL hd (by decide)) R H38) (fun o h q => th_cI q (fun R => ?_))
    refine mm_iret rfl rfl dX11_readBack_22 ?_
    exact en_cI H R
def f_X11_read_L36 (N : Nat) (x1 : Int32) (x2 : Int32) (x3 : Int32) (x4 : Int32) : Nat → Int32 → Int32 → CS → Option (Int32 × CS)
  | 0, _, _, _ => none
  | n + 1, x5, x6, C => if x2 < x6 then (some (x5, C))
    else (if x6 ≤ x1 then (bnd (f_X11_readBack N x6 x3 x4 C) fun q10 =>
      f_X11_read_L36 N x1 x2 x3 x4 n (x5 + q10.1) (x6 + 1) q10.2)
      else (bd (badd 67 10 C) fun C12 =>
      bnd (f_X11_readBack N x6 x3 x4 C12) fun q14 =>
      f_X11_read_L36 N x1 x2 x3 x4 n ((x5 + 1) + q14.1) (x6 + 1) q14.2))
theorem t_X11_read_L36 {g : mm_G} {d : Nat} {Post : mm_Ou → mm_Hp → Prop} {D : CS} {N : Nat} {x1 : Int32} {x2 : Int32} {x3 : Int32} {x4 : Int32} {res : (Int32 × CS)} (hd : 8 ≤ d) (KE : ∀ (h1 : mm_Hp), Rep h1 res.2 D → mm_P g d MX11_read 80 [none, none, none, none, none, some (.int res.1), none] [] h1 Post) : ∀ (n : Nat) (x5 : Int32) (x6 : Int32) (C : CS) (h : mm_Hp) , Rep h C D → f_X11_read_L36 N x1 x2 x3 x4 n x5 x6 C = some res → mm_P g d MX11_read 36 [some (.ref 64), some (.int x1), some (.int x2), some (.int x3), some (.int x4), some (.int x5), some (.int x6)] [] h Post := by
  intro n
  induction n with
  | zero =>
    intro x5 x6 C h R H
    exact hN H
  | succ n ih =>
    intro x5 x6 C h R H
    unfold f_X11_read_L36 at H
    refine mm_iload dX11_read_36 rfl ?_
    refine mm_iload_n dX11_read_38 rfl ?_
    refine mm_icmp_gt 80 dX11_read_39 (by decide) (fun c8 => ?_) (fun c8 => ?_)
    · replace H := hT c8 H
      refine mm_fgt (ls' := [none, none, none, none, none, some (.int x5), none]) ⟨rfl, trivial⟩ ?_
      cases H
      exact KE _ R
    · replace H := hF c8 H
      refine mm_iload dX11_read_42 rfl ?_
      refine mm_iload_n dX11_read_44 rfl ?_
      refine mm_icmp_le 60 dX11_read_45 (by decide) (fun c9 => ?_) (fun c9 => ?_)
      · replace H := hT c9 H
        refine mm_iload dX11_read_60 rfl ?_
        refine mm_aload_n dX11_read_62 rfl ?_
        refine mm_iload dX11_read_63 rfl ?_
        refine mm_iload_n dX11_read_65 rfl ?_
        refine mm_iload dX11_read_66 rfl ?_
        obtain ⟨q10, H11, H⟩ := hC H
        refine mm_callV (d' := d - 1) (as := [.int x6, .int x3, .int x4]) (st := [.int x5]) (dS hd) cm_X11_readBack (mm_t5 91 rfl rfl) (mm_t5 93 rfl rfl) (mm_s2 12 rfl rfl) (T := TX11) (N := 14) rfl dX11_read_68 (R.oC (r := 64) rfl lay_64) rfl (Nat.le_of_ble_eq_true rfl) (Nat.le_of_ble_eq_true rfl) rfl rfl (t_X11_readBack (dL hd (by decide)) R H11) (fun o h q => th_cI q (fun R => ?_))
        refine mm_iadd dX11_read_71 ?_
        refine mm_istore (ls' := [some (.ref 64), some (.int x1), some (.int x2), some (.int x3), some (.int x4), some (.int (x5 + q10.1)), some (.int x6)]) dX11_read_72 (Nat.le_of_ble_eq_true rfl) rfl ?_
        refine mm_iinc (v := (x6 + 1)) (ls' := [some (.ref 64), some (.int x1), some (.int x2), some (.int x3), some (.int x4), some (.int (x5 + q10.1)), some (.int (x6 + 1))]) dX11_read_74 rfl rfl rfl ?_
        refine mm_goto 36 dX11_read_77 (by decide) ?_
        exact ih _ _ _ _ R H
      · replace H := hF c9 H
        refine mm_aload_n dX11_read_48 rfl ?_
        refine rC_getR (t := 65) lk_X11_18_X11 lay_64 rfl rfl dX11_read_49 R ?_
        refine mm_bipush (v := 10) dX11_read_52 (by decide +kernel) ?_
        obtain ⟨C12, e13, H⟩ := hD H
        refine mm_callV (d' := d - 1) (as := [.int 10]) (st := []) (dS hd) cm_X1_add (mm_t5 90 rfl rfl) (mm_t2 190 rfl rfl) (mm_t2 191 rfl rfl) (T := TX1) (N := 4) rfl dX11_read_54 (R.oB (Or.inr (Or.inl rfl))).choose_spec rfl (Nat.le_of_ble_eq_true rfl) (Nat.le_of_ble_eq_true rfl) rfl rfl (tb_add (Or.inr (Or.inl rfl)) (dL hd (by decide)) R) (fun o h q => th_cV q (fun R => ?_))
        replace R := Rep.cg e13 R
        refine mm_iinc (v := (x5 + 1)) (ls' := [some (.ref 64), some (.int x1), some (.int x2), some (.int x3), some (.int x4), some (.int (x5 + 1)), some (.int x6)]) dX11_read_57 rfl rfl rfl ?_
        refine mm_iload dX11_read_60 rfl ?_
        refine mm_aload_n dX11_read_62 rfl ?_
        refine mm_iload dX11_read_63 rfl ?_
        refine mm_iload_n dX11_read_65 rfl ?_
        refine mm_iload dX11_read_66 rfl ?_
        obtain ⟨q14, H15, H⟩ := hC H
        refine mm_callV (d' := d - 1) (as := [.int x6, .int x3, .int x4]) (st := [.int (x5 + 1)]) (dS hd) cm_X11_readBack (mm_t5 91 rfl rfl) (mm_t5 93 rfl rfl) (mm_s2 12 rfl rfl) (T := TX11) (N := 14) rfl dX11_read_68 (R.oC (r := 64) rfl lay_64) rfl (Nat.le_of_ble_eq_true rfl) (Nat.le_of_ble_eq_true rfl) rfl rfl (t_X11_readBack (dL hd (by decide)) R H15) (fun o h q => th_cI q (fun R => ?_))
        refine mm_iadd dX11_read_71 ?_
        refine mm_istore (ls' := [some (.ref 64), some (.int x1), some (.int x2), some (.int x3), some (.int x4), some (.int ((x5 + 1) + q14.1)), some (.int x6)]) dX11_read_72 (Nat.le_of_ble_eq_true rfl) rfl ?_
        refine mm_iinc (v := (x6 + 1)) (ls' := [some (.ref 64), some (.int x1), some (.int x2), some (.int x3), some (.int x4), some (.int ((x5 + 1) + q14.1)), some (.int (x6 + 1))]) dX11_read_74 rfl rfl rfl ?_
        refine mm_goto 36 dX11_read_77 (by decide) ?_
        exact ih _ _ _ _ R H
def f_X11_read (N : Nat) (x1 : Int32) (x2 : Int32) (x3 : Int32) (x4 : Int32) (C : CS) : Option ((String ⊕ Int32) × CS) :=
  bnx (f_X11_demandLines x1 x2 C) fun vq1 q1 =>
    bnd (f_X11_isLevel x3 q1) fun q3 =>
    if q3 = 0 then (some (.inl "java/lang/IllegalArgumentException", sE q1))
        else (bd (sI q1 6701 0) fun C6 =>
      bnd (f_X11_read_L36 N x1 x2 x3 x4 N 0 x1 C6) fun q16 =>
        some (.inr q16.1, q16.2))
theorem t_X11_read {g : mm_G} {d : Nat} {h : mm_Hp} {C D : CS} {N : Nat} {x1 : Int32} {x2 : Int32} {x3 : Int32} {x4 : Int32} {r : ((String ⊕ Int32) × CS)} (hd : 8 ≤ d) (R : Rep h C D) (H : f_X11_read N x1 x2 x3 x4 C = some r) : mm_P g d MX11_read 0 [some (.ref 64), some (.int x1), some (.int x2), some (.int x3), some (.int x4), none, none] [] h (cXI D r) := by
  unfold f_X11_read at H
  refine mm_aload_n dX11_read_0 rfl ?_
  refine mm_iload_n dX11_read_1 rfl ?_
  refine mm_iload_n dX11_read_2 rfl ?_
  rcases hX H with ⟨E1, q1, H2, H⟩ | ⟨vq1, q1, H2, H⟩
  · refine mm_callV (d' := d - 1) (as := [.int x1, .int x2]) (st := []) (dS hd) cm_X11_demandLines (mm_t5 42 rfl rfl) (mm_t5 44 rfl rfl) (mm_s2 11 rfl rfl) (T := TX11) (N := 14) rfl dX11_read_3 (R.oC (r := 64) rfl lay_64) rfl (Nat.le_of_ble_eq_true rfl) (Nat.le_of_ble_eq_true rfl) rfl rfl (t_X11_demandLines (dL hd (by decide)) R H2) (fun o h q => th_eV rfl q (fun R => ?_))
    exact en_xI2 H R
  · refine mm_callV (d' := d - 1) (as := [.int x1, .int x2]) (st := []) (dS hd) cm_X11_demandLines (mm_t5 42 rfl rfl) (mm_t5 44 rfl rfl) (mm_s2 11 rfl rfl) (T := TX11) (N := 14) rfl dX11_read_3 (R.oC (r := 64) rfl lay_64) rfl (Nat.le_of_ble_eq_true rfl) (Nat.le_of_ble_eq_true rfl) rfl rfl (t_X11_demandLines (dL hd (by decide)) R H2) (fun o h q => th_xV q (fun R => ?_))
    refine mm_iload_n dX11_read_6 rfl ?_
    obtain ⟨q3, H4, H⟩ := hC H
    refine mm_callS (d' := d - 1) (as := [.int x3]) (st := []) (dS hd) cm_X11_isLevel (mm_t5 49 rfl rfl) (mm_t5 50 rfl rfl) dX11_read_7 rfl (Nat.le_of_ble_eq_true rfl) (Nat.le_of_ble_eq_true rfl) rfl rfl (t_X11_isLevel (dL hd (by decide)) R H4) (fun o u q => mm_thenI q ?_)
    refine mm_if_ne 23 dX11_read_10 (by decide) (fun c5 => ?_) (fun c5 => ?_)
    · replace H := hF c5 H
      refine mm_aload_n dX11_read_23 rfl ?_
      refine rC_getR (t := 65) lk_X11_18_X11 lay_64 rfl rfl dX11_read_24 R ?_
      obtain ⟨C6, e7, H⟩ := hD H
      refine mm_callV (d' := d - 1) (as := []) (st := []) (dS hd) cm_X1_clear (mm_t3 131 rfl rfl) (mm_t3 132 rfl rfl) (mm_t3 133 rfl rfl) (T := TX1) (N := 4) rfl dX11_read_27 (R.oB (Or.inr (Or.inl rfl))).choose_spec rfl (Nat.le_of_ble_eq_true rfl) (Nat.le_of_ble_eq_true rfl) rfl rfl (tb_clear (Or.inr (Or.inl rfl)) R) (fun o h q => th_cV q (fun R => ?_))
      replace R := Rep.cg e7 R
      refine mm_iconst (v := 0) dX11_read_30 (by decide +kernel) ?_
      refine mm_istore (ls' := [some (.ref 64), some (.int x1), some (.int x2), some (.int x3), some (.int x4), some (.int 0), none]) dX11_read_31 (Nat.le_of_ble_eq_true rfl) rfl ?_
      refine mm_iload_n dX11_read_33 rfl ?_
      refine mm_istore (ls' := [some (.ref 64), some (.int x1), some (.int x2), some (.int x3), some (.int x4), some (.int 0), some (.int x1)]) dX11_read_34 (Nat.le_of_ble_eq_true rfl) rfl ?_
      obtain ⟨q16, H17, H⟩ := hC H
      refine t_X11_read_L36 hd (fun h R => ?_) N _ _ _ _ R H17
      refine mm_iload dX11_read_80 rfl ?_
      refine mm_iret rfl rfl dX11_read_82 ?_
      exact en_xI H R
    · replace H := hT c5 H
      refine rT_IAE (text := "no such level") (no := 6) rfl (by decide) rfl rfl (Nat.le_trans (by decide) hd) (Nat.le_of_ble_eq_true rfl) dX11_read_13 dX11_read_16 dX11_read_17 dX11_read_19 dX11_read_22 ?_
      exact en_xI H R.thr
def f_X11_told (x1 : Int32) (C : CS) : Option ((String ⊕ Int32) × CS) :=
  bnx (f_X11_demand (hasT (gI C 6701) x1) C) fun vq1 q1 =>
    some (.inr (bat 67 x1 q1), q1)
theorem t_X11_told {g : mm_G} {d : Nat} {h : mm_Hp} {C D : CS} {x1 : Int32} {r : ((String ⊕ Int32) × CS)} (hd : 7 ≤ d) (R : Rep h C D) (H : f_X11_told x1 C = some r) : mm_P g d MX11_told 0 [some (.ref 64), some (.int x1)] [] h (cXI D r) := by
  unfold f_X11_told at H
  refine mm_aload_n dX11_told_0 rfl ?_
  refine rC_getR (t := 65) lk_X11_18_X11 lay_64 rfl rfl dX11_told_1 R ?_
  refine mm_iload_n dX11_told_4 rfl ?_
  refine mm_callU (d' := d - 1) (x := ⟨"TestimonyBook$Bytes", "has", "(I)Z"⟩) (owner := "TestimonyBook$Rows") (as := [.int x1]) (st := []) (dS hd) cm_X9_has rfl (mm_t5 137 rfl rfl) (mm_t5 138 rfl rfl) (mm_t3 17 rfl rfl) (mm_t5 139 rfl rfl) (T := TX1) (N := 4) rfl dX11_told_5 (R.oB (Or.inr (Or.inl rfl))).choose_spec rfl (Nat.le_of_ble_eq_true rfl) (Nat.le_of_ble_eq_true rfl) rfl rfl (tb_has (Or.inr (Or.inl rfl)) R) (fun E u q => by cases q.1) (fun v u q => th_pU q ?_)
  rcases hX H with ⟨E1, q1, H2, H⟩ | ⟨vq1, q1, H2, H⟩
  · refine mm_callS (d' := d - 1) (as := [.int (hasT (gI C 6701) x1)]) (st := []) (dS hd) cm_X11_demand (mm_t4 175 rfl rfl) (mm_t4 176 rfl rfl) dX11_told_8 rfl (Nat.le_of_ble_eq_true rfl) (Nat.le_of_ble_eq_true rfl) rfl rfl (t_X11_demand (dL hd (by decide)) R H2) (fun o h q => th_eV rfl q (fun R => ?_))
    exact en_xI2 H R
  · refine mm_callS (d' := d - 1) (as := [.int (hasT (gI C 6701) x1)]) (st := []) (dS hd) cm_X11_demand (mm_t4 175 rfl rfl) (mm_t4 176 rfl rfl) dX11_told_8 rfl (Nat.le_of_ble_eq_true rfl) (Nat.le_of_ble_eq_true rfl) rfl rfl (t_X11_demand (dL hd (by decide)) R H2) (fun o h q => th_xV q (fun R => ?_))
    refine mm_aload_n dX11_told_11 rfl ?_
    refine rC_getR (t := 65) lk_X11_18_X11 lay_64 rfl rfl dX11_told_12 R ?_
    refine mm_iload_n dX11_told_15 rfl ?_
    refine mm_callV (d' := d - 1) (as := [.int x1]) (st := []) (dS hd) cm_X1_byteAt (mm_t5 140 rfl rfl) (mm_t3 175 rfl rfl) (mm_t3 176 rfl rfl) (T := TX1) (N := 4) rfl dX11_told_16 (R.oB (Or.inr (Or.inl rfl))).choose_spec rfl (Nat.le_of_ble_eq_true rfl) (Nat.le_of_ble_eq_true rfl) rfl rfl (tb_at (Or.inr (Or.inl rfl)) R) (fun o u q => mm_thenI q ?_)
    refine mm_iret rfl rfl dX11_told_19 ?_
    exact en_xI H R
def f_X11_isNumber (x0 : Int32) (C : CS) : Option Int32 :=
  if x0 < 0 then (some 0)
    else (if 9999 < x0 then (some 0)
      else (some 1))
theorem t_X11_isNumber {g : mm_G} {d : Nat} {h : mm_Hp} {C D : CS} {x0 : Int32} {r : Int32} (hd : 0 ≤ d) (R : Rep h C D) (H : f_X11_isNumber x0 C = some r) : mm_P g d MX11_isNumber 0 [some (.int x0)] [] h (mm_pureI r h) := by
  unfold f_X11_isNumber at H
  refine mm_iload_n dX11_isNumber_0 rfl ?_
  refine mm_if_lt 15 dX11_isNumber_1 (by decide) (fun c1 => ?_) (fun c1 => ?_)
  · replace H := hT c1 H
    refine mm_iconst (v := 0) dX11_isNumber_15 (by decide +kernel) ?_
    refine mm_iret rfl rfl dX11_isNumber_16 ?_
    exact en_pI H
  · replace H := hF c1 H
    refine mm_iload_n dX11_isNumber_4 rfl ?_
    refine mm_sipush (v := 9999) dX11_isNumber_5 (by decide +kernel) ?_
    refine mm_icmp_gt 15 dX11_isNumber_8 (by decide) (fun c2 => ?_) (fun c2 => ?_)
    · replace H := hT c2 H
      refine mm_iconst (v := 0) dX11_isNumber_15 (by decide +kernel) ?_
      refine mm_iret rfl rfl dX11_isNumber_16 ?_
      exact en_pI H
    · replace H := hF c2 H
      refine mm_iconst (v := 1) dX11_isNumber_11 (by decide +kernel) ?_
      refine mm_goto 16 dX11_isNumber_12 (by decide) ?_
      refine mm_iret rfl rfl dX11_isNumber_16 ?_
      exact en_pI H
def f_X2_add (x1 : Int32) (x2 : Int32) (x3 : Int32) (C : CS) : Option (Int32 × CS) :=
  if (gI C 10401) < (gI C 10400) then (if inb (gI C 10401) 40 = true then (bd (sA C 105 ((gI C 10401)).toNatClampNeg x1) fun C3 =>
    if inb (gI C3 10401) 40 = true then (bd (sA C3 106 ((gI C3 10401)).toNatClampNeg x2) fun C6 =>
    if inb (gI C6 10401) 40 = true then (bd (sA C6 107 ((gI C6 10401)).toNatClampNeg x3) fun C9 =>
    if inb (gI C9 10401) 40 = true then (bd (sA C9 108 ((gI C9 10401)).toNatClampNeg 0) fun C12 =>
    bd (sI C12 10401 ((gI C12 10401) + 1)) fun C14 =>
    some (((gI C14 10401) - 1), C14)) else none) else none) else none) else none)
    else (some ((-1), C))
theorem t_X2_add {g : mm_G} {d : Nat} {h : mm_Hp} {C D : CS} {x1 : Int32} {x2 : Int32} {x3 : Int32} {r : (Int32 × CS)} (hd : 0 ≤ d) (R : Rep h C D) (H : f_X2_add x1 x2 x3 C = some r) : mm_P g d MX2_add 0 [some (.ref 104), some (.int x1), some (.int x2), some (.int x3)] [] h (cI D r) := by
  unfold f_X2_add at H
  refine mm_aload_n dX2_add_0 rfl ?_
  refine rC_get (key := 10401) lk_X2_27_X2 lay_104 rfl rfl rfl dX2_add_1 R ?_
  refine mm_aload_n dX2_add_4 rfl ?_
  refine rC_get (key := 10400) lk_X2_31_X2 lay_104 rfl rfl rfl dX2_add_5 R ?_
  refine mm_icmp_lt 13 dX2_add_8 (by decide) (fun c1 => ?_) (fun c1 => ?_)
  · replace H := hT c1 H
    refine mm_aload_n dX2_add_13 rfl ?_
    refine rC_getR (t := 103) lk_X2_9_X2 lay_104 rfl rfl dX2_add_14 R ?_
    refine mm_aload_n dX2_add_17 rfl ?_
    refine rC_get (key := 10401) lk_X2_27_X2 lay_104 rfl rfl rfl dX2_add_18 R ?_
    refine mm_iload_n dX2_add_21 rfl ?_
    obtain ⟨b2, H⟩ := hB H
    obtain ⟨C3, e4, H⟩ := hD H
    refine rC_iast lay_105 rfl dX2_add_22 R b2 e4 (fun h R => ?_)
    refine mm_aload_n dX2_add_23 rfl ?_
    refine rC_getR (t := 104) lk_X2_15_X2 lay_104 rfl rfl dX2_add_24 R ?_
    refine mm_aload_n dX2_add_27 rfl ?_
    refine rC_get (key := 10401) lk_X2_27_X2 lay_104 rfl rfl rfl dX2_add_28 R ?_
    refine mm_iload_n dX2_add_31 rfl ?_
    obtain ⟨b5, H⟩ := hB H
    obtain ⟨C6, e7, H⟩ := hD H
    refine rC_iast lay_106 rfl dX2_add_32 R b5 e7 (fun h R => ?_)
    refine mm_aload_n dX2_add_33 rfl ?_
    refine rC_getR (t := 105) lk_X2_18_X2 lay_104 rfl rfl dX2_add_34 R ?_
    refine mm_aload_n dX2_add_37 rfl ?_
    refine rC_get (key := 10401) lk_X2_27_X2 lay_104 rfl rfl rfl dX2_add_38 R ?_
    refine mm_iload_n dX2_add_41 rfl ?_
    obtain ⟨b8, H⟩ := hB H
    obtain ⟨C9, e10, H⟩ := hD H
    refine rC_iast lay_107 rfl dX2_add_42 R b8 e10 (fun h R => ?_)
    refine mm_aload_n dX2_add_43 rfl ?_
    refine rC_getR (t := 106) lk_X2_21_X2 lay_104 rfl rfl dX2_add_44 R ?_
    refine mm_aload_n dX2_add_47 rfl ?_
    refine rC_get (key := 10401) lk_X2_27_X2 lay_104 rfl rfl rfl dX2_add_48 R ?_
    refine mm_iconst (v := 0) dX2_add_51 (by decide +kernel) ?_
    obtain ⟨b11, H⟩ := hB H
    obtain ⟨C12, e13, H⟩ := hD H
    refine rC_iast lay_108 rfl dX2_add_52 R b11 e13 (fun h R => ?_)
    refine mm_aload_n dX2_add_53 rfl ?_
    refine mm_dup rfl dX2_add_54 ?_
    refine rC_get (key := 10401) lk_X2_27_X2 lay_104 rfl rfl rfl dX2_add_55 R ?_
    refine mm_iconst (v := 1) dX2_add_58 (by decide +kernel) ?_
    refine mm_iadd dX2_add_59 ?_
    obtain ⟨C14, e15, H⟩ := hD H
    refine rC_put (key := 10401) lk_X2_27_X2 lay_104 rfl rfl rfl rfl rfl dX2_add_60 R e15 (fun h R => ?_)
    refine mm_aload_n dX2_add_63 rfl ?_
    refine rC_get (key := 10401) lk_X2_27_X2 lay_104 rfl rfl rfl dX2_add_64 R ?_
    refine mm_iconst (v := 1) dX2_add_67 (by decide +kernel) ?_
    refine mm_isub dX2_add_68 ?_
    refine mm_iret rfl rfl dX2_add_69 ?_
    exact en_cI H R
  · replace H := hF c1 H
    refine mm_iconst (v := (-1)) dX2_add_11 (by decide +kernel) ?_
    refine mm_iret rfl rfl dX2_add_12 ?_
    exact en_cI H R
def f_X11_digest (x1 : Int32) (x2 : Int32) (x3 : Int32) (C : CS) : Option (Int32 × CS) :=
  if (fullT (gI C 10401) (gI C 10400)) = 0 then (bnd (f_X11_isNumber x1 C) fun q2 =>
    if q2 = 0 then (some ((-1), C))
      else (bnd (f_X11_isNumber x2 C) fun q5 =>
      if q5 = 0 then (some ((-1), C))
        else (bnd (f_X11_isNumber x3 C) fun q8 =>
        if q8 = 0 then (some ((-1), C))
          else (bnd (f_X2_add x1 x2 x3 C) fun q11 =>
          some (q11.1, q11.2)))))
    else (some ((-1), C))
theorem t_X11_digest {g : mm_G} {d : Nat} {h : mm_Hp} {C D : CS} {x1 : Int32} {x2 : Int32} {x3 : Int32} {r : (Int32 × CS)} (hd : 1 ≤ d) (R : Rep h C D) (H : f_X11_digest x1 x2 x3 C = some r) : mm_P g d MX11_digest 0 [some (.ref 64), some (.int x1), some (.int x2), some (.int x3)] [] h (cI D r) := by
  unfold f_X11_digest at H
  refine mm_aload_n dX11_digest_0 rfl ?_
  refine rC_getR (t := 102) lk_X11_66_X11 lay_64 rfl rfl dX11_digest_1 R ?_
  refine mm_callU (d' := d - 1) (x := ⟨"TestimonyBook$Digest", "isFull", "()Z"⟩) (owner := "TestimonyBook$Rows") (as := []) (st := []) (dS hd) cm_X9_isFull rfl (mm_t3 36 rfl rfl) (mm_t3 37 rfl rfl) (mm_t3 40 rfl rfl) (mm_t3 39 rfl rfl) (T := TX2) (N := 8) rfl dX11_digest_4 (R.oC (r := 104) rfl lay_104) rfl (Nat.le_of_ble_eq_true rfl) (Nat.le_of_ble_eq_true rfl) rfl rfl (tr_full lk_X9_13_X2 lk_X9_7_X2 lay_104 rfl rfl rfl R) (fun E u q => by cases q.1) (fun v u q => th_pU q ?_)
  refine mm_if_ne 31 dX11_digest_7 (by decide) (fun c1 => ?_) (fun c1 => ?_)
  · replace H := hF c1 H
    refine mm_iconst (v := (-1)) dX11_digest_31 (by decide +kernel) ?_
    refine mm_iret rfl rfl dX11_digest_32 ?_
    exact en_cI H R
  · replace H := hT c1 H
    refine mm_iload_n dX11_digest_10 rfl ?_
    obtain ⟨q2, H3, H⟩ := hC H
    refine mm_callS (d' := d - 1) (as := [.int x1]) (st := []) (dS hd) cm_X11_isNumber (mm_t3 42 rfl rfl) (mm_t3 43 rfl rfl) dX11_digest_11 rfl (Nat.le_of_ble_eq_true rfl) (Nat.le_of_ble_eq_true rfl) rfl rfl (t_X11_isNumber (dL hd (by decide)) R H3) (fun o u q => mm_thenI q ?_)
    refine mm_if_eq 31 dX11_digest_14 (by decide) (fun c4 => ?_) (fun c4 => ?_)
    · replace H := hT c4 H
      refine mm_iconst (v := (-1)) dX11_digest_31 (by decide +kernel) ?_
      refine mm_iret rfl rfl dX11_digest_32 ?_
      exact en_cI H R
    · replace H := hF c4 H
      refine mm_iload_n dX11_digest_17 rfl ?_
      obtain ⟨q5, H6, H⟩ := hC H
      refine mm_callS (d' := d - 1) (as := [.int x2]) (st := []) (dS hd) cm_X11_isNumber (mm_t3 42 rfl rfl) (mm_t3 43 rfl rfl) dX11_digest_18 rfl (Nat.le_of_ble_eq_true rfl) (Nat.le_of_ble_eq_true rfl) rfl rfl (t_X11_isNumber (dL hd (by decide)) R H6) (fun o u q => mm_thenI q ?_)
      refine mm_if_eq 31 dX11_digest_21 (by decide) (fun c7 => ?_) (fun c7 => ?_)
      · replace H := hT c7 H
        refine mm_iconst (v := (-1)) dX11_digest_31 (by decide +kernel) ?_
        refine mm_iret rfl rfl dX11_digest_32 ?_
        exact en_cI H R
      · replace H := hF c7 H
        refine mm_iload_n dX11_digest_24 rfl ?_
        obtain ⟨q8, H9, H⟩ := hC H
        refine mm_callS (d' := d - 1) (as := [.int x3]) (st := []) (dS hd) cm_X11_isNumber (mm_t3 42 rfl rfl) (mm_t3 43 rfl rfl) dX11_digest_25 rfl (Nat.le_of_ble_eq_true rfl) (Nat.le_of_ble_eq_true rfl) rfl rfl (t_X11_isNumber (dL hd (by decide)) R H9) (fun o u q => mm_thenI q ?_)
        refine mm_if_ne 33 dX11_digest_28 (by decide) (fun c10 => ?_) (fun c10 => ?_)
        · replace H := hF c10 H
          refine mm_aload_n dX11_digest_33 rfl ?_
          refine rC_getR (t := 102) lk_X11_66_X11 lay_64 rfl rfl dX11_digest_34 R ?_
          refine mm_iload_n dX11_digest_37 rfl ?_
          refine mm_iload_n dX11_digest_38 rfl ?_
          refine mm_iload_n dX11_digest_39 rfl ?_
          obtain ⟨q11, H12, H⟩ := hC H
          refine mm_callV (d' := d - 1) (as := [.int x1, .int x2, .int x3]) (st := []) (dS hd) cm_X2_add (mm_t3 45 rfl rfl) (mm_t3 46 rfl rfl) (mm_t3 47 rfl rfl) (T := TX2) (N := 8) rfl dX11_digest_40 (R.oC (r := 104) rfl lay_104) rfl (Nat.le_of_ble_eq_true rfl) (Nat.le_of_ble_eq_true rfl) rfl rfl (t_X2_add (dL hd (by decide)) R H12) (fun o h q => th_cI q (fun R => ?_))
          refine mm_iret rfl rfl dX11_digest_43 ?_
          exact en_cI H R
        · replace H := hT c10 H
          refine mm_iconst (v := (-1)) dX11_digest_31 (by decide +kernel) ?_
          refine mm_iret rfl rfl dX11_digest_32 ?_
          exact en_cI H R
def f_X2_citedBy (x1 : Int32) (x2 : Int32) (C : CS) : Option Int32 :=
  if inb ((x1 * 8) + x2) 320 = true then (some (gA C 109 (((x1 * 8) + x2)).toNatClampNeg)) else none
theorem t_X2_citedBy {g : mm_G} {d : Nat} {h : mm_Hp} {C D : CS} {x1 : Int32} {x2 : Int32} {r : Int32} (hd : 0 ≤ d) (R : Rep h C D) (H : f_X2_citedBy x1 x2 C = some r) : mm_P g d MX2_citedBy 0 [some (.ref 104), some (.int x1), some (.int x2)] [] h (mm_pureI r h) := by
  unfold f_X2_citedBy at H
  refine mm_aload_n dX2_citedBy_0 rfl ?_
  refine rC_getR (t := 107) lk_X2_24_X2 lay_104 rfl rfl dX2_citedBy_1 R ?_
  refine mm_iload_n dX2_citedBy_4 rfl ?_
  refine mm_bipush (v := 8) dX2_citedBy_5 (by decide +kernel) ?_
  refine mm_imul dX2_citedBy_7 ?_
  refine mm_iload_n dX2_citedBy_8 rfl ?_
  refine mm_iadd dX2_citedBy_9 ?_
  obtain ⟨b1, H⟩ := hB H
  refine rC_iald lay_109 rfl dX2_citedBy_10 R b1 ?_
  refine mm_iret rfl rfl dX2_citedBy_11 ?_
  exact en_pI H
def f_X2_addCite_L18 (N : Nat) (x1 : Int32) (x2 : Int32) (x3 : Int32) (C : CS) : Nat → Int32 → Option ((Int32 × CS) ⊕ (Unit))
  | 0, _ => none
  | n + 1, x4 => if x3 ≤ x4 then (some (.inr ()))
    else (bnd (f_X2_citedBy x1 x4 C) fun q4 =>
    if q4 = x2 then (some (.inl ((-1), C)))
      else (f_X2_addCite_L18 N x1 x2 x3 C n (x4 + 1)))
theorem t_X2_addCite_L18 {g : mm_G} {d : Nat} {Post : mm_Ou → mm_Hp → Prop} {h : mm_Hp} {C D : CS} {N : Nat} {x1 : Int32} {x2 : Int32} {x3 : Int32} {res : ((Int32 × CS) ⊕ (Unit))} (hd : 1 ≤ d) (R : Rep h C D) (KR : ∀ (q : (Int32 × CS)) (h1 : mm_Hp), res = .inl q → Rep h1 q.2 D → Post (.inl (some (.int q.1))) h1) (KE : ∀ (q : Unit), res = .inr q → mm_P g d MX2_addCite 43 [some (.ref 104), some (.int x1), some (.int x2), some (.int x3), none] [] h Post) : ∀ (n : Nat) (x4 : Int32) , f_X2_addCite_L18 N x1 x2 x3 C n x4 = some res → mm_P g d MX2_addCite 18 [some (.ref 104), some (.int x1), some (.int x2), some (.int x3), some (.int x4)] [] h Post := by
  intro n
  induction n with
  | zero =>
    intro x4 H
    exact hN H
  | succ n ih =>
    intro x4 H
    unfold f_X2_addCite_L18 at H
    refine mm_iload dX2_addCite_18 rfl ?_
    refine mm_iload_n dX2_addCite_20 rfl ?_
    refine mm_icmp_ge 43 dX2_addCite_21 (by decide) (fun c3 => ?_) (fun c3 => ?_)
    · replace H := hT c3 H
      refine mm_fgt (ls' := [some (.ref 104), some (.int x1), some (.int x2), some (.int x3), none]) ⟨rfl, rfl, rfl, rfl, trivial⟩ ?_
      exact KE _ (Option.some.inj H).symm
    · replace H := hF c3 H
      refine mm_aload_n dX2_addCite_24 rfl ?_
      refine mm_iload_n dX2_addCite_25 rfl ?_
      refine mm_iload dX2_addCite_26 rfl ?_
      obtain ⟨q4, H5, H⟩ := hC H
      refine mm_callV (d' := d - 1) (as := [.int x1, .int x4]) (st := []) (dS hd) cm_X2_citedBy (mm_t5 155 rfl rfl) (mm_t5 156 rfl rfl) (mm_t5 157 rfl rfl) (T := TX2) (N := 8) rfl dX2_addCite_28 (R.oC (r := 104) rfl lay_104) rfl (Nat.le_of_ble_eq_true rfl) (Nat.le_of_ble_eq_true rfl) rfl rfl (t_X2_citedBy (dL hd (by decide)) R H5) (fun o u q => mm_thenI q ?_)
      refine mm_iload_n dX2_addCite_31 rfl ?_
      refine mm_icmp_ne 37 dX2_addCite_32 (by decide) (fun c6 => ?_) (fun c6 => ?_)
      · replace H := hF c6 H
        refine mm_iinc (v := (x4 + 1)) (ls' := [some (.ref 104), some (.int x1), some (.int x2), some (.int x3), some (.int (x4 + 1))]) dX2_addCite_37 rfl rfl rfl ?_
        refine mm_goto 18 dX2_addCite_40 (by decide) ?_
        exact ih _ H
      · replace H := hT c6 H
        refine mm_iconst (v := (-1)) dX2_addCite_35 (by decide +kernel) ?_
        refine mm_iret rfl rfl dX2_addCite_36 ?_
        exact KR _ _ (Option.some.inj H).symm R
