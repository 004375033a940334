def f_X11_right (N : Nat) (x1 : Int32) (x2 : Int32) (C : CS) : Option ((String ⊕ Int32) × CS) :=
  bnx (f_X11_demand (hasT (gI C 6901) x1) C) fun vq1 q1 =>
      bnx (f_X11_demandOnTape x2 q1) fun vq3 q3 =>
      if inb x1 200 = true then (if (gA q3 70 (x1).toNatClampNeg) = 5 then (bnd (f_X11_endReading (-1) q3) fun q7 =>
        some (.inr (-9), q7))
        else (if ((gI q3 7601) - (gI q3 6901)) < 100 then (bnd (f_X10_takeRight N x2 x1 (gI q3 6412) q3) fun q10 =>
          bnd (f_X11_endReading (gI q10.2 11012) q10.2) fun q12 =>
          some (.inr q10.1, q12))
          else (bnd (f_X11_endReading (-1) q3) fun q14 =>
          some (.inr (-9), q14)))) else none
theorem t_X11_right {g : mm_G} {d : Nat} {h : mm_Hp} {C D : CS} {N : Nat} {x1 : Int32} {x2 : Int32} {r : ((String ⊕ Int32) × CS)} (hd : 7 ≤ d) (R : Rep h C D) (H : f_X11_right N x1 x2 C = some r) : mm_P g d MX11_right 0 [some (.ref 64), some (.int x1), some (.int x2), none] [] h (cXI D r) := by
  unfold f_X11_right at H
  refine mm_aload_n dX11_right_0 rfl ?_
  refine rC_getR (t := 67) lk_X11_24_X11 lay_64 rfl rfl dX11_right_1 R ?_
  refine mm_iload_n dX11_right_4 rfl ?_
  refine mm_callU (d' := d - 1) (x := ⟨"TestimonyBook$Lines", "has", "(I)Z"⟩) (owner := "TestimonyBook$Rows") (as := [.int x1]) (st := []) (dS hd) cm_X9_has rfl (mm_t4 174 rfl rfl) (mm_t3 14 rfl rfl) (mm_t3 17 rfl rfl) (mm_t3 16 rfl rfl) (T := TX4) (N := 9) rfl dX11_right_5 (R.oC (r := 69) rfl lay_69) rfl (Nat.le_of_ble_eq_true rfl) (Nat.le_of_ble_eq_true rfl) rfl rfl (tr_has lk_X9_13_X4 lay_69 rfl rfl R) (fun E u q => by cases q.1) (fun v u q => th_pU q ?_)
  rcases hX H with ⟨E1, q1, H2, H⟩ | ⟨vq1, q1, H2, H⟩
  · refine mm_callS (d' := d - 1) (as := [.int (hasT (gI C 6901) x1)]) (st := []) (dS hd) cm_X11_demand (mm_t4 175 rfl rfl) (mm_t4 176 rfl rfl) dX11_right_8 rfl (Nat.le_of_ble_eq_true rfl) (Nat.le_of_ble_eq_true rfl) rfl rfl (t_X11_demand (dL hd (by decide)) R H2) (fun o h q => th_eV rfl q (fun R => ?_))
    exact en_xI2 H R
  · refine mm_callS (d' := d - 1) (as := [.int (hasT (gI C 6901) x1)]) (st := []) (dS hd) cm_X11_demand (mm_t4 175 rfl rfl) (mm_t4 176 rfl rfl) dX11_right_8 rfl (Nat.le_of_ble_eq_true rfl) (Nat.le_of_ble_eq_true rfl) rfl rfl (t_X11_demand (dL hd (by decide)) R H2) (fun o h q => th_xV q (fun R => ?_))
    refine mm_aload_n dX11_right_11 rfl ?_
    refine mm_iload_n dX11_right_12 rfl ?_
    rcases hX H with ⟨E1, q3, H4, H⟩ | ⟨vq3, q3, H4, H⟩
    · refine mm_callV (d' := d - 1) (as := [.int x2]) (st := []) (dS hd) cm_X11_demandOnTape (mm_t3 57 rfl rfl) (mm_t3 59 rfl rfl) (mm_s1 4 rfl rfl) (T := TX11) (N := 14) rfl dX11_right_13 (R.oC (r := 64) rfl lay_64) rfl (Nat.le_of_ble_eq_true rfl) (Nat.le_of_ble_eq_true rfl) rfl rfl (t_X11_demandOnTape (dL hd (by decide)) R H4) (fun o h q => th_eV rfl q (fun R => ?_))
      exact en_xI2 H R
    · refine mm_callV (d' := d - 1) (as := [.int x2]) (st := []) (dS hd) cm_X11_demandOnTape (mm_t3 57 rfl rfl) (mm_t3 59 rfl rfl) (mm_s1 4 rfl rfl) (T := TX11) (N := 14) rfl dX11_right_13 (R.oC (r := 64) rfl lay_64) rfl (Nat.le_of_ble_eq_true rfl) (Nat.le_of_ble_eq_true rfl) rfl rfl (t_X11_demandOnTape (dL hd (by decide)) R H4) (fun o h q => th_xV q (fun R => ?_))
      refine mm_aload_n dX11_right_16 rfl ?_
      refine rC_getR (t := 67) lk_X11_24_X11 lay_64 rfl rfl dX11_right_17 R ?_
      refine rC_getR (t := 68) lk_X11_123_X4 lay_69 rfl rfl dX11_right_20 R ?_
      refine mm_iload_n dX11_right_23 rfl ?_
      obtain ⟨b5, H⟩ := hB H
      refine rC_iald lay_70 rfl dX11_right_24 R b5 ?_
      refine mm_iconst (v := 5) dX11_right_25 (by decide +kernel) ?_
      refine mm_icmp_eq 49 dX11_right_26 (by decide) (fun c6 => ?_) (fun c6 => ?_)
      · replace H := hT c6 H
        refine mm_aload_n dX11_right_49 rfl ?_
        refine mm_iconst (v := (-1)) dX11_right_50 (by decide +kernel) ?_
        obtain ⟨q7, H8, H⟩ := hC H
        refine mm_callV (d' := d - 1) (as := [.int (-1)]) (st := []) (dS hd) cm_X11_endReading (mm_t3 127 rfl rfl) (mm_t3 129 rfl rfl) (mm_s1 6 rfl rfl) (T := TX11) (N := 14) rfl dX11_right_51 (R.oC (r := 64) rfl lay_64) rfl (Nat.le_of_ble_eq_true rfl) (Nat.le_of_ble_eq_true rfl) rfl rfl (t_X11_endReading (dL hd (by decide)) R H8) (fun o h q => th_cV q (fun R => ?_))
        refine mm_bipush (v := (-9)) dX11_right_54 (by decide +kernel) ?_
        refine mm_iret rfl rfl dX11_right_56 ?_
        exact en_xI H R
      · replace H := hF c6 H
        refine mm_aload_n dX11_right_29 rfl ?_
        refine rC_getR (t := 74) lk_X11_31_X11 lay_64 rfl rfl dX11_right_30 R ?_
        refine rC_get (key := 7601) lk_X11_127_X8 lay_76 rfl rfl rfl dX11_right_33 R ?_
        refine mm_aload_n dX11_right_36 rfl ?_
        refine rC_getR (t := 67) lk_X11_24_X11 lay_64 rfl rfl dX11_right_37 R ?_
        refine rC_get (key := 6901) lk_X11_107_X4 lay_69 rfl rfl rfl dX11_right_40 R ?_
        refine mm_isub dX11_right_43 ?_
        refine mm_bipush (v := 100) dX11_right_44 (by decide +kernel) ?_
        refine mm_icmp_lt 57 dX11_right_46 (by decide) (fun c9 => ?_) (fun c9 => ?_)
        · replace H := hT c9 H
          refine mm_aload_n dX11_right_57 rfl ?_
          refine rC_getR (t := 108) lk_X11_75_X11 lay_64 rfl rfl dX11_right_58 R ?_
          refine mm_iload_n dX11_right_61 rfl ?_
          refine mm_iload_n dX11_right_62 rfl ?_
          refine mm_aload_n dX11_right_63 rfl ?_
          refine rC_get (key := 6412) lk_X11_128_X11 lay_64 rfl rfl rfl dX11_right_64 R ?_
          obtain ⟨q10, H11, H⟩ := hC H
          refine mm_callV (d' := d - 1) (as := [.int x2, .int x1, .int (gI q3 6412)]) (st := []) (dS hd) cm_X10_takeRight (mm_t4 194 rfl rfl) (mm_t4 195 rfl rfl) (mm_t4 196 rfl rfl) (T := TX10) (N := 13) rfl dX11_right_67 (R.oC (r := 110) rfl lay_110) rfl (Nat.le_of_ble_eq_true rfl) (Nat.le_of_ble_eq_true rfl) rfl rfl (t_X10_takeRight (dL hd (by decide)) R H11) (fun o h q => th_cI q (fun R => ?_))
          refine mm_istore_n (ls' := [some (.ref 64), some (.int x1), some (.int x2), some (.int q10.1)]) dX11_right_70 (Nat.le_of_ble_eq_true rfl) rfl ?_
          refine mm_aload_n dX11_right_71 rfl ?_
          refine mm_aload_n dX11_right_72 rfl ?_
          refine rC_getR (t := 108) lk_X11_75_X11 lay_64 rfl rfl dX11_right_73 R ?_
          refine rC_get (key := 11012) lk_X11_112_X10 lay_110 rfl rfl rfl dX11_right_76 R ?_
          obtain ⟨q12, H13, H⟩ := hC H
          refine mm_callV (d' := d - 1) (as := [.int (gI q10.2 11012)]) (st := []) (dS hd) cm_X11_endReading (mm_t3 127 rfl rfl) (mm_t3 129 rfl rfl) (mm_s1 6 rfl rfl) (T := TX11) (N := 14) rfl dX11_right_79 (R.oC (r := 64) rfl lay_64) rfl (Nat.le_of_ble_eq_true rfl) (Nat.le_of_ble_eq_true rfl) rfl rfl (t_X11_endReading (dL hd (by decide)) R H13) (fun o h q => th_cV q (fun R => ?_))
          refine mm_iload_n dX11_right_82 rfl ?_
          refine mm_iret rfl rfl dX11_right_83 ?_
          exact en_xI H R
        · replace H := hF c9 H
          refine mm_aload_n dX11_right_49 rfl ?_
          refine mm_iconst (v := (-1)) dX11_right_50 (by decide +kernel) ?_
          obtain ⟨q14, H15, H⟩ := hC H
          refine mm_callV (d' := d - 1) (as := [.int (-1)]) (st := []) (dS hd) cm_X11_endReading (mm_t3 127 rfl rfl) (mm_t3 129 rfl rfl) (mm_s1 6 rfl rfl) (T := TX11) (N := 14) rfl dX11_right_51 (R.oC (r := 64) rfl lay_64) rfl (Nat.le_of_ble_eq_true rfl) (Nat.le_of_ble_eq_true rfl) rfl rfl (t_X11_endReading (dL hd (by decide)) R H15) (fun o h q => th_cV q (fun R => ?_))
          refine mm_bipush (v := (-9)) dX11_right_54 (by decide +kernel) ?_
          refine mm_iret rfl rfl dX11_right_56 ?_
          exact en_xI H R
def f_X11_days (x1 : Int32) (C : CS) : Option ((String ⊕ Int32) × CS) :=
  if x1 < 0 then (some (.inl "java/lang/IllegalArgumentException", sE C))
    else (if x1 ≤ (100000 - (gI C 6412)) then (bd (sI C 6412 ((gI C 6412) + x1)) fun C3 =>
      some (.inr (gI C3 6412), C3))
      else (some (.inl "java/lang/IllegalArgumentException", sE C)))
theorem t_X11_days {g : mm_G} {d : Nat} {h : mm_Hp} {C D : CS} {x1 : Int32} {r : ((String ⊕ Int32) × CS)} (hd : 6 ≤ d) (R : Rep h C D) (H : f_X11_days x1 C = some r) : mm_P g d MX11_days 0 [some (.ref 64), some (.int x1)] [] h (cXI D r) := by
  unfold f_X11_days at H
  refine mm_iload_n dX11_days_0 rfl ?_
  refine mm_if_lt 15 dX11_days_1 (by decide) (fun c1 => ?_) (fun c1 => ?_)
  · replace H := hT c1 H
    refine rT_IAE (text := "no such day") (no := 4) rfl (by decide) rfl rfl (Nat.le_trans (by decide) hd) (Nat.le_of_ble_eq_true rfl) dX11_days_15 dX11_days_18 dX11_days_19 dX11_days_21 dX11_days_24 ?_
    exact en_xI H R.thr
  · replace H := hF c1 H
    refine mm_iload_n dX11_days_4 rfl ?_
    refine mm_ldc (v := 100000) (mm_t4 209 rfl rfl) dX11_days_5 ?_
    refine mm_aload_n dX11_days_7 rfl ?_
    refine rC_get (key := 6412) lk_X11_128_X11 lay_64 rfl rfl rfl dX11_days_8 R ?_
    refine mm_isub dX11_days_11 ?_
    refine mm_icmp_le 25 dX11_days_12 (by decide) (fun c2 => ?_) (fun c2 => ?_)
    · replace H := hT c2 H
      refine mm_aload_n dX11_days_25 rfl ?_
      refine mm_dup rfl dX11_days_26 ?_
      refine rC_get (key := 6412) lk_X11_128_X11 lay_64 rfl rfl rfl dX11_days_27 R ?_
      refine mm_iload_n dX11_days_30 rfl ?_
      refine mm_iadd dX11_days_31 ?_
      obtain ⟨C3, e4, H⟩ := hD H
      refine rC_put (key := 6412) lk_X11_128_X11 lay_64 rfl rfl rfl rfl rfl dX11_days_32 R e4 (fun h R => ?_)
      refine mm_aload_n dX11_days_35 rfl ?_
      refine rC_get (key := 6412) lk_X11_128_X11 lay_64 rfl rfl rfl dX11_days_36 R ?_
      refine mm_iret rfl rfl dX11_days_39 ?_
      exact en_xI H R
    · replace H := hF c2 H
      refine rT_IAE (text := "no such day") (no := 4) rfl (by decide) rfl rfl (Nat.le_trans (by decide) hd) (Nat.le_of_ble_eq_true rfl) dX11_days_15 dX11_days_18 dX11_days_19 dX11_days_21 dX11_days_24 ?_
      exact en_xI H R.thr
def f_X4_answerTo (x1 : Int32) (C : CS) : Option Int32 :=
  if inb x1 200 = true then (if (hasT (gI C 6901) (gA C 74 (x1).toNatClampNeg)) = 0 then (some (-1))
    else (if inb (gA C 74 (x1).toNatClampNeg) 200 = true then (some (gA C 75 ((gA C 74 (x1).toNatClampNeg)).toNatClampNeg)) else none)) else none
theorem t_X4_answerTo {g : mm_G} {d : Nat} {h : mm_Hp} {C D : CS} {x1 : Int32} {r : Int32} (hd : 1 ≤ d) (R : Rep h C D) (H : f_X4_answerTo x1 C = some r) : mm_P g d MX4_answerTo 0 [some (.ref 69), some (.int x1), none] [] h (mm_pureI r h) := by
  unfold f_X4_answerTo at H
  refine mm_aload_n dX4_answerTo_0 rfl ?_
  refine rC_getR (t := 72) lk_X4_24_X4 lay_69 rfl rfl dX4_answerTo_1 R ?_
  refine mm_iload_n dX4_answerTo_4 rfl ?_
  obtain ⟨b1, H⟩ := hB H
  refine rC_iald lay_74 rfl dX4_answerTo_5 R b1 ?_
  refine mm_istore_n (ls' := [some (.ref 69), some (.int x1), some (.int (gA C 74 (x1).toNatClampNeg))]) dX4_answerTo_6 (Nat.le_of_ble_eq_true rfl) rfl ?_
  refine mm_aload_n dX4_answerTo_7 rfl ?_
  refine mm_iload_n dX4_answerTo_8 rfl ?_
  refine mm_callU (d' := d - 1) (x := ⟨"TestimonyBook$Lines", "has", "(I)Z"⟩) (owner := "TestimonyBook$Rows") (as := [.int (gA C 74 (x1).toNatClampNeg)]) (st := []) (dS hd) cm_X9_has rfl (mm_t3 13 rfl rfl) (mm_t3 14 rfl rfl) (mm_t3 17 rfl rfl) (mm_t3 16 rfl rfl) (T := TX4) (N := 9) rfl dX4_answerTo_9 (R.oC (r := 69) rfl lay_69) rfl (Nat.le_of_ble_eq_true rfl) (Nat.le_of_ble_eq_true rfl) rfl rfl (tr_has lk_X9_13_X4 lay_69 rfl rfl R) (fun E u q => by cases q.1) (fun v u q => th_pU q ?_)
  refine mm_if_eq 24 dX4_answerTo_12 (by decide) (fun c2 => ?_) (fun c2 => ?_)
  · replace H := hT c2 H
    refine mm_iconst (v := (-1)) dX4_answerTo_24 (by decide +kernel) ?_
    refine mm_iret rfl rfl dX4_answerTo_25 ?_
    exact en_pI H
  · replace H := hF c2 H
    refine mm_aload_n dX4_answerTo_15 rfl ?_
    refine rC_getR (t := 73) lk_X4_27_X4 lay_69 rfl rfl dX4_answerTo_16 R ?_
    refine mm_iload_n dX4_answerTo_19 rfl ?_
    obtain ⟨b3, H⟩ := hB H
    refine rC_iald lay_75 rfl dX4_answerTo_20 R b3 ?_
    refine mm_goto 25 dX4_answerTo_21 (by decide) ?_
    refine mm_iret rfl rfl dX4_answerTo_25 ?_
    exact en_pI H
def f_X8_timesRighted_L9 (N : Nat) (C : CS) : Nat → Int32 → Int32 → Option (Int32)
  | 0, _, _ => none
  | n + 1, x2, x3 => if (gI C 7601) ≤ x3 then (some x3)
    else (if inb x2 300 = true then (if (gA C 80 (x2).toNatClampNeg) = (-1) then (some x3)
      else (if inb x2 300 = true then (f_X8_timesRighted_L9 N C n (gA C 80 (x2).toNatClampNeg) (x3 + 1)) else none)) else none)
theorem t_X8_timesRighted_L9 {g : mm_G} {d : Nat} {Post : mm_Ou → mm_Hp → Prop} {h : mm_Hp} {C D : CS} {N : Nat} {res : (Int32)} (hd : 0 ≤ d) (R : Rep h C D) (KE : mm_P g d MX8_timesRighted 40 [none, none, none, some (.int res)] [] h Post) : ∀ (n : Nat) (x2 : Int32) (x3 : Int32) , f_X8_timesRighted_L9 N C n x2 x3 = some res → mm_P g d MX8_timesRighted 9 [some (.ref 76), none, some (.int x2), some (.int x3)] [] h Post := by
  intro n
  induction n with
  | zero =>
    intro x2 x3 H
    exact hN H
  | succ n ih =>
    intro x2 x3 H
    unfold f_X8_timesRighted_L9 at H
    refine mm_iload_n dX8_timesRighted_9 rfl ?_
    refine mm_aload_n dX8_timesRighted_10 rfl ?_
    refine rC_get (key := 7601) lk_X8_38_X8 lay_76 rfl rfl rfl dX8_timesRighted_11 R ?_
    refine mm_icmp_ge 40 dX8_timesRighted_14 (by decide) (fun c2 => ?_) (fun c2 => ?_)
    · replace H := hT c2 H
      refine mm_fgt (ls' := [none, none, none, some (.int x3)]) ⟨rfl, trivial⟩ ?_
      cases H
      exact KE
    · replace H := hF c2 H
      refine mm_aload_n dX8_timesRighted_17 rfl ?_
      refine rC_getR (t := 78) lk_X8_22_X8 lay_76 rfl rfl dX8_timesRighted_18 R ?_
      refine mm_iload_n dX8_timesRighted_21 rfl ?_
      obtain ⟨b3, H⟩ := hB H
      refine rC_iald lay_80 rfl dX8_timesRighted_22 R b3 ?_
      refine mm_iconst (v := (-1)) dX8_timesRighted_23 (by decide +kernel) ?_
      refine mm_icmp_eq 40 dX8_timesRighted_24 (by decide) (fun c4 => ?_) (fun c4 => ?_)
      · replace H := hT c4 H
        refine mm_fgt (ls' := [none, none, none, some (.int x3)]) ⟨rfl, trivial⟩ ?_
        cases H
        exact KE
      · replace H := hF c4 H
        refine mm_aload_n dX8_timesRighted_27 rfl ?_
        refine rC_getR (t := 78) lk_X8_22_X8 lay_76 rfl rfl dX8_timesRighted_28 R ?_
        refine mm_iload_n dX8_timesRighted_31 rfl ?_
        obtain ⟨b5, H⟩ := hB H
        refine rC_iald lay_80 rfl dX8_timesRighted_32 R b5 ?_
        refine mm_istore_n (ls' := [some (.ref 76), none, some (.int (gA C 80 (x2).toNatClampNeg)), some (.int x3)]) dX8_timesRighted_33 (Nat.le_of_ble_eq_true rfl) rfl ?_
        refine mm_iinc (v := (x3 + 1)) (ls' := [some (.ref 76), none, some (.int (gA C 80 (x2).toNatClampNeg)), some (.int (x3 + 1))]) dX8_timesRighted_34 rfl rfl rfl ?_
        refine mm_goto 9 dX8_timesRighted_37 (by decide) ?_
        exact ih _ _ H
def f_X8_timesRighted (N : Nat) (x1 : Int32) (C : CS) : Option Int32 :=
  if inb x1 200 = true then (bnd (f_X8_timesRighted_L9 N C N (gA C 79 (x1).toNatClampNeg) 0) fun q6 =>
    some q6) else none
theorem t_X8_timesRighted {g : mm_G} {d : Nat} {h : mm_Hp} {C D : CS} {N : Nat} {x1 : Int32} {r : Int32} (hd : 0 ≤ d) (R : Rep h C D) (H : f_X8_timesRighted N x1 C = some r) : mm_P g d MX8_timesRighted 0 [some (.ref 76), some (.int x1), none, none] [] h (mm_pureI r h) := by
  unfold f_X8_timesRighted at H
  refine mm_aload_n dX8_timesRighted_0 rfl ?_
  refine rC_getR (t := 77) lk_X8_18_X8 lay_76 rfl rfl dX8_timesRighted_1 R ?_
  refine mm_iload_n dX8_timesRighted_4 rfl ?_
  obtain ⟨b1, H⟩ := hB H
  refine rC_iald lay_79 rfl dX8_timesRighted_5 R b1 ?_
  refine mm_istore_n (ls' := [some (.ref 76), some (.int x1), some (.int (gA C 79 (x1).toNatClampNeg)), none]) dX8_timesRighted_6 (Nat.le_of_ble_eq_true rfl) rfl ?_
  refine mm_iconst (v := 0) dX8_timesRighted_7 (by decide +kernel) ?_
  refine mm_istore_n (ls' := [some (.ref 76), some (.int x1), some (.int (gA C 79 (x1).toNatClampNeg)), some (.int 0)]) dX8_timesRighted_8 (Nat.le_of_ble_eq_true rfl) rfl ?_
  obtain ⟨q6, H7, H⟩ := hC H
  refine mm_fgt (ls' := [some (.ref 76), none, some (.int (gA C 79 (x1).toNatClampNeg)), some (.int 0)]) ⟨rfl, rfl, rfl, trivial⟩ ?_
  refine t_X8_timesRighted_L9 hd R ?_ N _ _ H7
  refine mm_iload_n dX8_timesRighted_40 rfl ?_
  refine mm_iret rfl rfl dX8_timesRighted_41 ?_
  exact en_pI H
def f_X11_about (N : Nat) (x1 : Int32) (x2 : Int32) (C : CS) : Option ((String ⊕ Int32) × CS) :=
  bnx (f_X11_demand (hasT (gI C 6901) x1) C) fun vq1 q1 =>
    if x2 = 0 then (if inb x1 200 = true then (some (.inr (gA q1 72 (x1).toNatClampNeg), q1)) else none)
      else if x2 = 1 then (if inb x1 200 = true then (some (.inr (gA q1 73 (x1).toNatClampNeg), q1)) else none)
      else if x2 = 2 then (if inb x1 200 = true then (some (.inr (gA q1 71 (x1).toNatClampNeg), q1)) else none)
      else if x2 = 3 then (if inb x1 200 = true then (some (.inr (gA q1 70 (x1).toNatClampNeg), q1)) else none)
      else if x2 = 4 then (if inb x1 200 = true then (some (.inr (gA q1 74 (x1).toNatClampNeg), q1)) else none)
      else if x2 = 5 then (bnd (f_X4_answerTo x1 q1) fun q14 =>
      some (.inr q14, q1))
      else if x2 = 6 then (bnd (f_X8_timesRighted N x1 q1) fun q17 =>
      some (.inr q17, q1))
      else (some (.inl "java/util/NoSuchElementException", sE q1))
theorem t_X11_about {g : mm_G} {d : Nat} {h : mm_Hp} {C D : CS} {N : Nat} {x1 : Int32} {x2 : Int32} {r : ((String ⊕ Int32) × CS)} (hd : 7 ≤ d) (R : Rep h C D) (H : f_X11_about N x1 x2 C = some r) : mm_P g d MX11_about 0 [some (.ref 64), some (.int x1), some (.int x2)] [] h (cXI D r) := by
  unfold f_X11_about at H
  refine mm_aload_n dX11_about_0 rfl ?_
  refine rC_getR (t := 67) lk_X11_24_X11 lay_64 rfl rfl dX11_about_1 R ?_
  refine mm_iload_n dX11_about_4 rfl ?_
  refine mm_callU (d' := d - 1) (x := ⟨"TestimonyBook$Lines", "has", "(I)Z"⟩) (owner := "TestimonyBook$Rows") (as := [.int x1]) (st := []) (dS hd) cm_X9_has rfl (mm_t4 174 rfl rfl) (mm_t3 14 rfl rfl) (mm_t3 17 rfl rfl) (mm_t3 16 rfl rfl) (T := TX4) (N := 9) rfl dX11_about_5 (R.oC (r := 69) rfl lay_69) rfl (Nat.le_of_ble_eq_true rfl) (Nat.le_of_ble_eq_true rfl) rfl rfl (tr_has lk_X9_13_X4 lay_69 rfl rfl R) (fun E u q => by cases q.1) (fun v u q => th_pU q ?_)
  rcases hX H with ⟨E1, q1, H2, H⟩ | ⟨vq1, q1, H2, H⟩
  · refine mm_callS (d' := d - 1) (as := [.int (hasT (gI C 6901) x1)]) (st := []) (dS hd) cm_X11_demand (mm_t4 175 rfl rfl) (mm_t4 176 rfl rfl) dX11_about_8 rfl (Nat.le_of_ble_eq_true rfl) (Nat.le_of_ble_eq_true rfl) rfl rfl (t_X11_demand (dL hd (by decide)) R H2) (fun o h q => th_eV rfl q (fun R => ?_))
    exact en_xI2 H R
  · refine mm_callS (d' := d - 1) (as := [.int (hasT (gI C 6901) x1)]) (st := []) (dS hd) cm_X11_demand (mm_t4 175 rfl rfl) (mm_t4 176 rfl rfl) dX11_about_8 rfl (Nat.le_of_ble_eq_true rfl) (Nat.le_of_ble_eq_true rfl) rfl rfl (t_X11_demand (dL hd (by decide)) R H2) (fun o h q => th_xV q (fun R => ?_))
    refine mm_iload_n dX11_about_11 rfl ?_
    by_cases c3 : x2 = 0
    · replace H := hT c3 H
      refine mm_tabIn 56 dX11_about_12 (by rw [c3]; decide) (by rw [c3]; decide) (by rw [c3]; rfl) (by decide) ?_
      refine mm_aload_n dX11_about_56 rfl ?_
      refine rC_getR (t := 67) lk_X11_24_X11 lay_64 rfl rfl dX11_about_57 R ?_
      refine rC_getR (t := 70) lk_X11_143_X4 lay_69 rfl rfl dX11_about_60 R ?_
      refine mm_iload_n dX11_about_63 rfl ?_
      obtain ⟨b4, H⟩ := hB H
      refine rC_iald lay_72 rfl dX11_about_64 R b4 ?_
      refine mm_iret rfl rfl dX11_about_65 ?_
      exact en_xI H R
    replace H := hF c3 H
    by_cases c5 : x2 = 1
    · replace H := hT c5 H
      refine mm_tabIn 66 dX11_about_12 (by rw [c5]; decide) (by rw [c5]; decide) (by rw [c5]; rfl) (by decide) ?_
      refine mm_aload_n dX11_about_66 rfl ?_
      refine rC_getR (t := 67) lk_X11_24_X11 lay_64 rfl rfl dX11_about_67 R ?_
      refine rC_getR (t := 71) lk_X11_146_X4 lay_69 rfl rfl dX11_about_70 R ?_
      refine mm_iload_n dX11_about_73 rfl ?_
      obtain ⟨b6, H⟩ := hB H
      refine rC_iald lay_73 rfl dX11_about_74 R b6 ?_
      refine mm_iret rfl rfl dX11_about_75 ?_
      exact en_xI H R
    replace H := hF c5 H
    by_cases c7 : x2 = 2
    · replace H := hT c7 H
      refine mm_tabIn 76 dX11_about_12 (by rw [c7]; decide) (by rw [c7]; decide) (by rw [c7]; rfl) (by decide) ?_
      refine mm_aload_n dX11_about_76 rfl ?_
      refine rC_getR (t := 67) lk_X11_24_X11 lay_64 rfl rfl dX11_about_77 R ?_
      refine rC_getR (t := 69) lk_X11_148_X4 lay_69 rfl rfl dX11_about_80 R ?_
      refine mm_iload_n dX11_about_83 rfl ?_
      obtain ⟨b8, H⟩ := hB H
      refine rC_iald lay_71 rfl dX11_about_84 R b8 ?_
      refine mm_iret rfl rfl dX11_about_85 ?_
      exact en_xI H R
    replace H := hF c7 H
    by_cases c9 : x2 = 3
    · replace H := hT c9 H
      refine mm_tabIn 86 dX11_about_12 (by rw [c9]; decide) (by rw [c9]; decide) (by rw [c9]; rfl) (by decide) ?_
      refine mm_aload_n dX11_about_86 rfl ?_
      refine rC_getR (t := 67) lk_X11_24_X11 lay_64 rfl rfl dX11_about_87 R ?_
      refine rC_getR (t := 68) lk_X11_123_X4 lay_69 rfl rfl dX11_about_90 R ?_
      refine mm_iload_n dX11_about_93 rfl ?_
      obtain ⟨b10, H⟩ := hB H
      refine rC_iald lay_70 rfl dX11_about_94 R b10 ?_
      refine mm_iret rfl rfl dX11_about_95 ?_
      exact en_xI H R
    replace H := hF c9 H
    by_cases c11 : x2 = 4
    · replace H := hT c11 H
      refine mm_tabIn 96 dX11_about_12 (by rw [c11]; decide) (by rw [c11]; decide) (by rw [c11]; rfl) (by decide) ?_
      refine mm_aload_n dX11_about_96 rfl ?_
      refine rC_getR (t := 67) lk_X11_24_X11 lay_64 rfl rfl dX11_about_97 R ?_
      refine rC_getR (t := 72) lk_X11_151_X4 lay_69 rfl rfl dX11_about_100 R ?_
      refine mm_iload_n dX11_about_103 rfl ?_
      obtain ⟨b12, H⟩ := hB H
      refine rC_iald lay_74 rfl dX11_about_104 R b12 ?_
      refine mm_iret rfl rfl dX11_about_105 ?_
      exact en_xI H R
    replace H := hF c11 H
    by_cases c13 : x2 = 5
    · replace H := hT c13 H
      refine mm_tabIn 106 dX11_about_12 (by rw [c13]; decide) (by rw [c13]; decide) (by rw [c13]; rfl) (by decide) ?_
      refine mm_aload_n dX11_about_106 rfl ?_
      refine rC_getR (t := 67) lk_X11_24_X11 lay_64 rfl rfl dX11_about_107 R ?_
      refine mm_iload_n dX11_about_110 rfl ?_
      obtain ⟨q14, H15, H⟩ := hC H
      refine mm_callV (d' := d - 1) (as := [.int x1]) (st := []) (dS hd) cm_X4_answerTo (mm_t4 218 rfl rfl) (mm_t3 20 rfl rfl) (mm_t3 21 rfl rfl) (T := TX4) (N := 9) rfl dX11_about_111 (R.oC (r := 69) rfl lay_69) rfl (Nat.le_of_ble_eq_true rfl) (Nat.le_of_ble_eq_true rfl) rfl rfl (t_X4_answerTo (dL hd (by decide)) R H15) (fun o u q => mm_thenI q ?_)
      refine mm_iret rfl rfl dX11_about_114 ?_
      exact en_xI H R
    replace H := hF c13 H
    by_cases c16 : x2 = 6
    · replace H := hT c16 H
      refine mm_tabIn 115 dX11_about_12 (by rw [c16]; decide) (by rw [c16]; decide) (by rw [c16]; rfl) (by decide) ?_
      refine mm_aload_n dX11_about_115 rfl ?_
      refine rC_getR (t := 74) lk_X11_31_X11 lay_64 rfl rfl dX11_about_116 R ?_
      refine mm_iload_n dX11_about_119 rfl ?_
      obtain ⟨q17, H18, H⟩ := hC H
      refine mm_callV (d' := d - 1) (as := [.int x1]) (st := []) (dS hd) cm_X8_timesRighted (mm_t4 219 rfl rfl) (mm_t4 220 rfl rfl) (mm_t4 221 rfl rfl) (T := TX8) (N := 9) rfl dX11_about_120 (R.oC (r := 76) rfl lay_76) rfl (Nat.le_of_ble_eq_true rfl) (Nat.le_of_ble_eq_true rfl) rfl rfl (t_X8_timesRighted (dL hd (by decide)) R H18) (fun o u q => mm_thenI q ?_)
      refine mm_iret rfl rfl dX11_about_123 ?_
      exact en_xI H R
    replace H := hF c16 H
    refine mm_tabOut 124 dX11_about_12 (sw_out 7 (by decide) (by rw [show (List.range 7).map nI = [0, 1, 2, 3, 4, 5, 6] from rfl]; simp only [List.forall_mem_cons]; exact ⟨c3, c5, c7, c9, c11, c13, c16, fun _ z => absurd z List.not_mem_nil⟩)) (by decide) ?_
    refine rT_NSE (text := "no such what") (no := 5) rfl (by decide) rfl rfl (Nat.le_trans (by decide) hd) (Nat.le_of_ble_eq_true rfl) dX11_about_124 dX11_about_127 dX11_about_128 dX11_about_130 dX11_about_133 ?_
    exact en_xI H R.thr
def f_X4_standingAt_L2 (N : Nat) (x1 : Int32) (x2 : Int32) (C : CS) : Nat → Int32 → Option (Int32 ⊕ (Unit))
  | 0, _ => none
  | n + 1, x3 => if (gI C 6901) ≤ x3 then (some (.inr ()))
    else (if inb x3 200 = true then (if (gA C 72 (x3).toNatClampNeg) = x1 then (if inb x3 200 = true then (if (gA C 73 (x3).toNatClampNeg) = x2 then (some (.inl x3))
        else (f_X4_standingAt_L2 N x1 x2 C n (x3 + 1))) else none)
      else (f_X4_standingAt_L2 N x1 x2 C n (x3 + 1))) else none)
theorem t_X4_standingAt_L2 {g : mm_G} {d : Nat} {Post : mm_Ou → mm_Hp → Prop} {h : mm_Hp} {C D : CS} {N : Nat} {x1 : Int32} {x2 : Int32} {res : (Int32 ⊕ (Unit))} (hd : 0 ≤ d) (R : Rep h C D) (KR : ∀ (q : Int32), res = .inl q → Post (.inl (some (.int q))) h) (KE : ∀ (q : Unit), res = .inr q → mm_P g d MX4_standingAt 38 [none, none, none, none] [] h Post) : ∀ (n : Nat) (x3 : Int32) , f_X4_standingAt_L2 N x1 x2 C n x3 = some res → mm_P g d MX4_standingAt 2 [some (.ref 69), some (.int x1), some (.int x2), some (.int x3)] [] h Post := by
  intro n
  induction n with
  | zero =>
    intro x3 H
    exact hN H
  | succ n ih =>
    intro x3 H
    unfold f_X4_standingAt_L2 at H
    refine mm_iload_n dX4_standingAt_2 rfl ?_
    refine mm_aload_n dX4_standingAt_3 rfl ?_
    refine rC_get (key := 6901) lk_X4_30_X4 lay_69 rfl rfl rfl dX4_standingAt_4 R ?_
    refine mm_icmp_ge 38 dX4_standingAt_7 (by decide) (fun c1 => ?_) (fun c1 => ?_)
    · replace H := hT c1 H
      refine mm_fgt (ls' := [none, none, none, none]) trivial ?_
      exact KE _ (Option.some.inj H).symm
    · replace H := hF c1 H
      refine mm_aload_n dX4_standingAt_10 rfl ?_
      refine rC_getR (t := 70) lk_X4_18_X4 lay_69 rfl rfl dX4_standingAt_11 R ?_
      refine mm_iload_n dX4_standingAt_14 rfl ?_
      obtain ⟨b2, H⟩ := hB H
      refine rC_iald lay_72 rfl dX4_standingAt_15 R b2 ?_
      refine mm_iload_n dX4_standingAt_16 rfl ?_
      refine mm_icmp_ne 32 dX4_standingAt_17 (by decide) (fun c3 => ?_) (fun c3 => ?_)
      · replace H := hF c3 H
        refine mm_iinc (v := (x3 + 1)) (ls' := [some (.ref 69), some (.int x1), some (.int x2), some (.int (x3 + 1))]) dX4_standingAt_32 rfl rfl rfl ?_
        refine mm_goto 2 dX4_standingAt_35 (by decide) ?_
        exact ih _ H
      · replace H := hT c3 H
        refine mm_aload_n dX4_standingAt_20 rfl ?_
        refine rC_getR (t := 71) lk_X4_21_X4 lay_69 rfl rfl dX4_standingAt_21 R ?_
        refine mm_iload_n dX4_standingAt_24 rfl ?_
        obtain ⟨b4, H⟩ := hB H
        refine rC_iald lay_73 rfl dX4_standingAt_25 R b4 ?_
        refine mm_iload_n dX4_standingAt_26 rfl ?_
        refine mm_icmp_ne 32 dX4_standingAt_27 (by decide) (fun c5 => ?_) (fun c5 => ?_)
        · replace H := hF c5 H
          refine mm_iinc (v := (x3 + 1)) (ls' := [some (.ref 69), some (.int x1), some (.int x2), some (.int (x3 + 1))]) dX4_standingAt_32 rfl rfl rfl ?_
          refine mm_goto 2 dX4_standingAt_35 (by decide) ?_
          exact ih _ H
        · replace H := hT c5 H
          refine mm_iload_n dX4_standingAt_30 rfl ?_
          refine mm_iret rfl rfl dX4_standingAt_31 ?_
          exact KR _ (Option.some.inj H).symm
def f_X4_standingAt (N : Nat) (x1 : Int32) (x2 : Int32) (C : CS) : Option Int32 :=
  bns (f_X4_standingAt_L2 N x1 x2 C N 0) (fun q6 => some q6) fun q6 =>
    some (-1)
theorem t_X4_standingAt {g : mm_G} {d : Nat} {h : mm_Hp} {C D : CS} {N : Nat} {x1 : Int32} {x2 : Int32} {r : Int32} (hd : 0 ≤ d) (R : Rep h C D) (H : f_X4_standingAt N x1 x2 C = some r) : mm_P g d MX4_standingAt 0 [some (.ref 69), some (.int x1), some (.int x2), none] [] h (mm_pureI r h) := by
  unfold f_X4_standingAt at H
  refine mm_iconst (v := 0) dX4_standingAt_0 (by decide +kernel) ?_
  refine mm_istore_n (ls' := [some (.ref 69), some (.int x1), some (.int x2), some (.int 0)]) dX4_standingAt_1 (Nat.le_of_ble_eq_true rfl) rfl ?_
  rcases hS H with ⟨q6, H7, H⟩ | ⟨q6, H7, H⟩
  · refine t_X4_standingAt_L2 hd R (fun q e => ?_) (fun q e => by cases e) N _ H7
    cases e
    exact en_pI H
  · refine t_X4_standingAt_L2 hd R (fun q e => by cases e) (fun q e => ?_) N _ H7
    cases e
    refine mm_iconst (v := (-1)) dX4_standingAt_38 (by decide +kernel) ?_
    refine mm_iret rfl rfl dX4_standingAt_39 ?_
    exact en_pI H
def f_X11_cited (N : Nat) (x1 : Int32) (x2 : Int32) (C : CS) : Option Int32 :=
  bnd (f_X4_standingAt N x1 x2 C) fun q1 =>
  some q1
theorem t_X11_cited {g : mm_G} {d : Nat} {h : mm_Hp} {C D : CS} {N : Nat} {x1 : Int32} {x2 : Int32} {r : Int32} (hd : 1 ≤ d) (R : Rep h C D) (H : f_X11_cited N x1 x2 C = some r) : mm_P g d MX11_cited 0 [some (.ref 64), some (.int x1), some (.int x2)] [] h (mm_pureI r h) := by
  unfold f_X11_cited at H
  refine mm_aload_n dX11_cited_0 rfl ?_
  refine rC_getR (t := 67) lk_X11_24_X11 lay_64 rfl rfl dX11_cited_1 R ?_
  refine mm_iload_n dX11_cited_4 rfl ?_
  refine mm_iload_n dX11_cited_5 rfl ?_
  obtain ⟨q1, H2, H⟩ := hC H
  refine mm_callV (d' := d - 1) (as := [.int x1, .int x2]) (st := []) (dS hd) cm_X4_standingAt (mm_t2 217 rfl rfl) (mm_t2 218 rfl rfl) (mm_t2 219 rfl rfl) (T := TX4) (N := 9) rfl dX11_cited_6 (R.oC (r := 69) rfl lay_69) rfl (Nat.le_of_ble_eq_true rfl) (Nat.le_of_ble_eq_true rfl) rfl rfl (t_X4_standingAt (dL hd (by decide)) R H2) (fun o u q => mm_thenI q ?_)
  refine mm_iret rfl rfl dX11_cited_9 ?_
  exact en_pI H
def f_X11_fact (x1 : Int32) (x2 : Int32) (C : CS) : Option ((String ⊕ Int32) × CS) :=
  bnx (f_X11_demand (hasT (gI C 8401) x1) C) fun vq1 q1 =>
    if x2 = 0 then (if inb x1 150 = true then (some (.inr (gA q1 85 (x1).toNatClampNeg), q1)) else none)
      else if x2 = 1 then (if inb x1 150 = true then (some (.inr (gA q1 88 (x1).toNatClampNeg), q1)) else none)
      else if x2 = 2 then (if inb x1 150 = true then (some (.inr (gA q1 89 (x1).toNatClampNeg), q1)) else none)
      else if x2 = 3 then (if inb x1 150 = true then (some (.inr (gA q1 90 (x1).toNatClampNeg), q1)) else none)
      else if x2 = 4 then (if inb x1 150 = true then (some (.inr (gA q1 87 (x1).toNatClampNeg), q1)) else none)
      else (some (.inl "java/util/NoSuchElementException", sE q1))
theorem t_X11_fact {g : mm_G} {d : Nat} {h : mm_Hp} {C D : CS} {x1 : Int32} {x2 : Int32} {r : ((String ⊕ Int32) × CS)} (hd : 7 ≤ d) (R : Rep h C D) (H : f_X11_fact x1 x2 C = some r) : mm_P g d MX11_fact 0 [some (.ref 64), some (.int x1), some (.int x2)] [] h (cXI D r) := by
  unfold f_X11_fact at H
  refine mm_aload_n dX11_fact_0 rfl ?_
  refine rC_getR (t := 82) lk_X11_38_X11 lay_64 rfl rfl dX11_fact_1 R ?_
  refine mm_iload_n dX11_fact_4 rfl ?_
  refine mm_callU (d' := d - 1) (x := ⟨"TestimonyBook$Facts", "has", "(I)Z"⟩) (owner := "TestimonyBook$Rows") (as := [.int x1]) (st := []) (dS hd) cm_X9_has rfl (mm_t4 231 rfl rfl) (mm_t4 232 rfl rfl) (mm_t3 17 rfl rfl) (mm_t4 233 rfl rfl) (T := TX3) (N := 9) rfl dX11_fact_5 (R.oC (r := 84) rfl lay_84) rfl (Nat.le_of_ble_eq_true rfl) (Nat.le_of_ble_eq_true rfl) rfl rfl (tr_has lk_X9_13_X3 lay_84 rfl rfl R) (fun E u q => by cases q.1) (fun v u q => th_pU q ?_)
  rcases hX H with ⟨E1, q1, H2, H⟩ | ⟨vq1, q1, H2, H⟩
  · refine mm_callS (d' := d - 1) (as := [.int (hasT (gI C 8401) x1)]) (st := []) (dS hd) cm_X11_demand (mm_t4 175 rfl rfl) (mm_t4 176 rfl rfl) dX11_fact_8 rfl (Nat.le_of_ble_eq_true rfl) (Nat.le_of_ble_eq_true rfl) rfl rfl (t_X11_demand (dL hd (by decide)) R H2) (fun o h q => th_eV rfl q (fun R => ?_))
    exact en_xI2 H R
  · refine mm_callS (d' := d - 1) (as := [.int (hasT (gI C 8401) x1)]) (st := []) (dS hd) cm_X11_demand (mm_t4 175 rfl rfl) (mm_t4 176 rfl rfl) dX11_fact_8 rfl (Nat.le_of_ble_eq_true rfl) (Nat.le_of_ble_eq_true rfl) rfl rfl (t_X11_demand (dL hd (by decide)) R H2) (fun o h q => th_xV q (fun R => ?_))
    refine mm_iload_n dX11_fact_11 rfl ?_
    by_cases c3 : x2 = 0
    · replace H := hT c3 H
      refine mm_tabIn 48 dX11_fact_12 (by rw [c3]; decide) (by rw [c3]; decide) (by rw [c3]; rfl) (by decide) ?_
      refine mm_aload_n dX11_fact_48 rfl ?_
      refine rC_getR (t := 82) lk_X11_38_X11 lay_64 rfl rfl dX11_fact_49 R ?_
      refine rC_getR (t := 83) lk_X11_170_X3 lay_84 rfl rfl dX11_fact_52 R ?_
      refine mm_iload_n dX11_fact_55 rfl ?_
      obtain ⟨b4, H⟩ := hB H
      refine rC_iald lay_85 rfl dX11_fact_56 R b4 ?_
      refine mm_iret rfl rfl dX11_fact_57 ?_
      exact en_xI H R
    replace H := hF c3 H
    by_cases c5 : x2 = 1
    · replace H := hT c5 H
      refine mm_tabIn 58 dX11_fact_12 (by rw [c5]; decide) (by rw [c5]; decide) (by rw [c5]; rfl) (by decide) ?_
      refine mm_aload_n dX11_fact_58 rfl ?_
      refine rC_getR (t := 82) lk_X11_38_X11 lay_64 rfl rfl dX11_fact_59 R ?_
      refine rC_getR (t := 86) lk_X11_173_X3 lay_84 rfl rfl dX11_fact_62 R ?_
      refine mm_iload_n dX11_fact_65 rfl ?_
      obtain ⟨b6, H⟩ := hB H
      refine rC_iald lay_88 rfl dX11_fact_66 R b6 ?_
      refine mm_iret rfl rfl dX11_fact_67 ?_
      exact en_xI H R
    replace H := hF c5 H
    by_cases c7 : x2 = 2
    · replace H := hT c7 H
      refine mm_tabIn 68 dX11_fact_12 (by rw [c7]; decide) (by rw [c7]; decide) (by rw [c7]; rfl) (by decide) ?_
      refine mm_aload_n dX11_fact_68 rfl ?_
      refine rC_getR (t := 82) lk_X11_38_X11 lay_64 rfl rfl dX11_fact_69 R ?_
      refine rC_getR (t := 87) lk_X11_176_X3 lay_84 rfl rfl dX11_fact_72 R ?_
      refine mm_iload_n dX11_fact_75 rfl ?_
      obtain ⟨b8, H⟩ := hB H
      refine rC_iald lay_89 rfl dX11_fact_76 R b8 ?_
      refine mm_iret rfl rfl dX11_fact_77 ?_
      exact en_xI H R
    replace H := hF c7 H
    by_cases c9 : x2 = 3
    · replace H := hT c9 H
      refine mm_tabIn 78 dX11_fact_12 (by rw [c9]; decide) (by rw [c9]; decide) (by rw [c9]; rfl) (by decide) ?_
      refine mm_aload_n dX11_fact_78 rfl ?_
      refine rC_getR (t := 82) lk_X11_38_X11 lay_64 rfl rfl dX11_fact_79 R ?_
      refine rC_getR (t := 88) lk_X11_179_X3 lay_84 rfl rfl dX11_fact_82 R ?_
      refine mm_iload_n dX11_fact_85 rfl ?_
      obtain ⟨b10, H⟩ := hB H
      refine rC_iald lay_90 rfl dX11_fact_86 R b10 ?_
      refine mm_iret rfl rfl dX11_fact_87 ?_
      exact en_xI H R
    replace H := hF c9 H
    by_cases c11 : x2 = 4
    · replace H := hT c11 H
      refine mm_tabIn 88 dX11_fact_12 (by rw [c11]; decide) (by rw [c11]; decide) (by rw [c11]; rfl) (by decide) ?_
      refine mm_aload_n dX11_fact_88 rfl ?_
      refine rC_getR (t := 82) lk_X11_38_X11 lay_64 rfl rfl dX11_fact_89 R ?_
      refine rC_getR (t := 85) lk_X11_182_X3 lay_84 rfl rfl dX11_fact_92 R ?_
      refine mm_iload_n dX11_fact_95 rfl ?_
      obtain ⟨b12, H⟩ := hB H
      refine rC_iald lay_87 rfl dX11_fact_96 R b12 ?_
      refine mm_iret rfl rfl dX11_fact_97 ?_
      exact en_xI H R
    replace H := hF c11 H
    refine mm_tabOut 98 dX11_fact_12 (sw_out 5 (by decide) (by rw [show (List.range 5).map nI = [0, 1, 2, 3, 4] from rfl]; simp only [List.forall_mem_cons]; exact ⟨c3, c5, c7, c9, c11, fun _ z => absurd z List.not_mem_nil⟩)) (by decide) ?_
    refine rT_NSE (text := "no such what") (no := 5) rfl (by decide) rfl rfl (Nat.le_trans (by decide) hd) (Nat.le_of_ble_eq_true rfl) dX11_fact_98 dX11_fact_101 dX11_fact_102 dX11_fact_104 dX11_fact_107 ?_
    exact en_xI H R.thr
def f_X8_heldOn_L10 (N : Nat) (x2 : Int32) (C : CS) : Nat → Int32 → Int32 → Option (Int32)
  | 0, _, _ => none
  | n + 1, x3, x4 => if (gI C 7601) ≤ x4 then (some x3)
    else (if inb x3 300 = true then (if (gA C 80 (x3).toNatClampNeg) = (-1) then (some x3)
      else (if inb x3 300 = true then (if (gA C 81 (x3).toNatClampNeg) ≤ x2 then (some x3)
        else (if inb x3 300 = true then (f_X8_heldOn_L10 N x2 C n (gA C 80 (x3).toNatClampNeg) (x4 + 1)) else none)) else none)) else none)
theorem t_X8_heldOn_L10 {g : mm_G} {d : Nat} {Post : mm_Ou → mm_Hp → Prop} {h : mm_Hp} {C D : CS} {N : Nat} {x2 : Int32} {res : (Int32)} (hd : 0 ≤ d) (R : Rep h C D) (KE : mm_P g d MX8_heldOn 52 [none, none, none, some (.int res), none] [] h Post) : ∀ (n : Nat) (x3 : Int32) (x4 : Int32) , f_X8_heldOn_L10 N x2 C n x3 x4 = some res → mm_P g d MX8_heldOn 10 [some (.ref 76), none, some (.int x2), some (.int x3), some (.int x4)] [] h Post := by
  intro n
  induction n with
  | zero =>
    intro x3 x4 H
    exact hN H
  | succ n ih =>
    intro x3 x4 H
    unfold f_X8_heldOn_L10 at H
    refine mm_iload dX8_heldOn_10 rfl ?_
    refine mm_aload_n dX8_heldOn_12 rfl ?_
    refine rC_get (key := 7601) lk_X8_38_X8 lay_76 rfl rfl rfl dX8_heldOn_13 R ?_
    refine mm_icmp_ge 52 dX8_heldOn_16 (by decide) (fun c2 => ?_) (fun c2 => ?_)
    · replace H := hT c2 H
      refine mm_fgt (ls' := [none, none, none, some (.int x3), none]) ⟨rfl, trivial⟩ ?_
      cases H
      exact KE
    · replace H := hF c2 H
      refine mm_aload_n dX8_heldOn_19 rfl ?_
      refine rC_getR (t := 78) lk_X8_22_X8 lay_76 rfl rfl dX8_heldOn_20 R ?_
      refine mm_iload_n dX8_heldOn_23 rfl ?_
      obtain ⟨b3, H⟩ := hB H
      refine rC_iald lay_80 rfl dX8_heldOn_24 R b3 ?_
      refine mm_iconst (v := (-1)) dX8_heldOn_25 (by decide +kernel) ?_
      refine mm_icmp_eq 52 dX8_heldOn_26 (by decide) (fun c4 => ?_) (fun c4 => ?_)
      · replace H := hT c4 H
        refine mm_fgt (ls' := [none, none, none, some (.int x3), none]) ⟨rfl, trivial⟩ ?_
        cases H
        exact KE
      · replace H := hF c4 H
        refine mm_aload_n dX8_heldOn_29 rfl ?_
        refine rC_getR (t := 79) lk_X8_25_X8 lay_76 rfl rfl dX8_heldOn_30 R ?_
        refine mm_iload_n dX8_heldOn_33 rfl ?_
        obtain ⟨b5, H⟩ := hB H
        refine rC_iald lay_81 rfl dX8_heldOn_34 R b5 ?_
        refine mm_iload_n dX8_heldOn_35 rfl ?_
        refine mm_icmp_le 52 dX8_heldOn_36 (by decide) (fun c6 => ?_) (fun c6 => ?_)
        · replace H := hT c6 H
          refine mm_fgt (ls' := [none, none, none, some (.int x3), none]) ⟨rfl, trivial⟩ ?_
          cases H
          exact KE
        · replace H := hF c6 H
          refine mm_aload_n dX8_heldOn_39 rfl ?_
          refine rC_getR (t := 78) lk_X8_22_X8 lay_76 rfl rfl dX8_heldOn_40 R ?_
          refine mm_iload_n dX8_heldOn_43 rfl ?_
          obtain ⟨b7, H⟩ := hB H
          refine rC_iald lay_80 rfl dX8_heldOn_44 R b7 ?_
          refine mm_istore_n (ls' := [some (.ref 76), none, some (.int x2), some (.int (gA C 80 (x3).toNatClampNeg)), some (.int x4)]) dX8_heldOn_45 (Nat.le_of_ble_eq_true rfl) rfl ?_
          refine mm_iinc (v := (x4 + 1)) (ls' := [some (.ref 76), none, some (.int x2), some (.int (gA C 80 (x3).toNatClampNeg)), some (.int (x4 + 1))]) dX8_heldOn_46 rfl rfl rfl ?_
          refine mm_goto 10 dX8_heldOn_49 (by decide) ?_
          exact ih _ _ H
def f_X8_heldOn (N : Nat) (x1 : Int32) (x2 : Int32) (C : CS) : Option Int32 :=
  if inb x1 200 = true then (bnd (f_X8_heldOn_L10 N x2 C N (gA C 79 (x1).toNatClampNeg) 0) fun q8 =>
    some q8) else none
theorem t_X8_heldOn {g : mm_G} {d : Nat} {h : mm_Hp} {C D : CS} {N : Nat} {x1 : Int32} {x2 : Int32} {r : Int32} (hd : 0 ≤ d) (R : Rep h C D) (H : f_X8_heldOn N x1 x2 C = some r) : mm_P g d MX8_heldOn 0 [some (.ref 76), some (.int x1), some (.int x2), none, none] [] h (mm_pureI r h) := by
  unfold f_X8_heldOn at H
  refine mm_aload_n dX8_heldOn_0 rfl ?_
  refine rC_getR (t := 77) lk_X8_18_X8 lay_76 rfl rfl dX8_heldOn_1 R ?_
  refine mm_iload_n dX8_heldOn_4 rfl ?_
  obtain ⟨b1, H⟩ := hB H
  refine rC_iald lay_79 rfl dX8_heldOn_5 R b1 ?_
  refine mm_istore_n (ls' := [some (.ref 76), some (.int x1), some (.int x2), some (.int (gA C 79 (x1).toNatClampNeg)), none]) dX8_heldOn_6 (Nat.le_of_ble_eq_true rfl) rfl ?_
  refine mm_iconst (v := 0) dX8_heldOn_7 (by decide +kernel) ?_
  refine mm_istore (ls' := [some (.ref 76), some (.int x1), some (.int x2), some (.int (gA C 79 (x1).toNatClampNeg)), some (.int 0)]) dX8_heldOn_8 (Nat.le_of_ble_eq_true rfl) rfl ?_
  obtain ⟨q8, H9, H⟩ := hC H
  refine mm_fgt (ls' := [some (.ref 76), none, some (.int x2), some (.int (gA C 79 (x1).toNatClampNeg)), some (.int 0)]) ⟨rfl, rfl, rfl, rfl, trivial⟩ ?_
  refine t_X8_heldOn_L10 hd R ?_ N _ _ H9
  refine mm_iload_n dX8_heldOn_52 rfl ?_
  refine mm_iret rfl rfl dX8_heldOn_53 ?_
  exact en_pI H
def f_X7_holds (x1 : Int32) (x2 : Int32) (x3 : Int32) (C : CS) : Option Int32 :=
  if inb x1 60 = true then (if x2 < (gA C 99 (x1).toNatClampNeg) then (some 0)
    else (if inb x1 60 = true then (if (gA C 100 (x1).toNatClampNeg) < x2 then (some 0)
      else (if inb x1 60 = true then (if x3 < (gA C 102 (x1).toNatClampNeg) then (some 0)
        else (if inb x1 60 = true then (if (gA C 103 (x1).toNatClampNeg) = (-1) then (some 1)
          else (if inb x1 60 = true then (if (gA C 103 (x1).toNatClampNeg) ≤ x3 then (some 0)
            else (some 1)) else none)) else none)) else none)) else none)) else none
theorem t_X7_holds {g : mm_G} {d : Nat} {h : mm_Hp} {C D : CS} {x1 : Int32} {x2 : Int32} {x3 : Int32} {r : Int32} (hd : 0 ≤ d) (R : Rep h C D) (H : f_X7_holds x1 x2 x3 C = some r) : mm_P g d MX7_holds 0 [some (.ref 98), some (.int x1), some (.int x2), some (.int x3)] [] h (mm_pureI r h) := by
  unfold f_X7_holds at H
  refine mm_aload_n dX7_holds_0 rfl ?_
  refine rC_getR (t := 97) lk_X7_9_X7 lay_98 rfl rfl dX7_holds_1 R ?_
  refine mm_iload_n dX7_holds_4 rfl ?_
  obtain ⟨b1, H⟩ := hB H
  refine rC_iald lay_99 rfl dX7_holds_5 R b1 ?_
  refine mm_iload_n dX7_holds_6 rfl ?_
  refine mm_icmp_gt 54 dX7_holds_7 (by decide) (fun c2 => ?_) (fun c2 => ?_)
  · replace H := hT c2 H
    refine mm_iconst (v := 0) dX7_holds_54 (by decide +kernel) ?_
    refine mm_iret rfl rfl dX7_holds_55 ?_
    exact en_pI H
  · replace H := hF c2 H
    refine mm_iload_n dX7_holds_10 rfl ?_
    refine mm_aload_n dX7_holds_11 rfl ?_
    refine rC_getR (t := 98) lk_X7_15_X7 lay_98 rfl rfl dX7_holds_12 R ?_
    refine mm_iload_n dX7_holds_15 rfl ?_
    obtain ⟨b3, H⟩ := hB H
    refine rC_iald lay_100 rfl dX7_holds_16 R b3 ?_
    refine mm_icmp_gt 54 dX7_holds_17 (by decide) (fun c4 => ?_) (fun c4 => ?_)
    · replace H := hT c4 H
      refine mm_iconst (v := 0) dX7_holds_54 (by decide +kernel) ?_
      refine mm_iret rfl rfl dX7_holds_55 ?_
      exact en_pI H
    · replace H := hF c4 H
      refine mm_aload_n dX7_holds_20 rfl ?_
      refine rC_getR (t := 100) lk_X7_21_X7 lay_98 rfl rfl dX7_holds_21 R ?_
      refine mm_iload_n dX7_holds_24 rfl ?_
      obtain ⟨b5, H⟩ := hB H
      refine rC_iald lay_102 rfl dX7_holds_25 R b5 ?_
      refine mm_iload_n dX7_holds_26 rfl ?_
      refine mm_icmp_gt 54 dX7_holds_27 (by decide) (fun c6 => ?_) (fun c6 => ?_)
      · replace H := hT c6 H
        refine mm_iconst (v := 0) dX7_holds_54 (by decide +kernel) ?_
        refine mm_iret rfl rfl dX7_holds_55 ?_
        exact en_pI H
      · replace H := hF c6 H
        refine mm_aload_n dX7_holds_30 rfl ?_
        refine rC_getR (t := 101) lk_X7_24_X7 lay_98 rfl rfl dX7_holds_31 R ?_
        refine mm_iload_n dX7_holds_34 rfl ?_
        obtain ⟨b7, H⟩ := hB H
        refine rC_iald lay_103 rfl dX7_holds_35 R b7 ?_
        refine mm_iconst (v := (-1)) dX7_holds_36 (by decide +kernel) ?_
        refine mm_icmp_eq 50 dX7_holds_37 (by decide) (fun c8 => ?_) (fun c8 => ?_)
        · replace H := hT c8 H
          refine mm_iconst (v := 1) dX7_holds_50 (by decide +kernel) ?_
          refine mm_goto 55 dX7_holds_51 (by decide) ?_
          refine mm_iret rfl rfl dX7_holds_55 ?_
          exact en_pI H
        · replace H := hF c8 H
          refine mm_aload_n dX7_holds_40 rfl ?_
          refine rC_getR (t := 101) lk_X7_24_X7 lay_98 rfl rfl dX7_holds_41 R ?_
          refine mm_iload_n dX7_holds_44 rfl ?_
          obtain ⟨b9, H⟩ := hB H
          refine rC_iald lay_103 rfl dX7_holds_45 R b9 ?_
          refine mm_iload_n dX7_holds_46 rfl ?_
          refine mm_icmp_le 54 dX7_holds_47 (by decide) (fun c10 => ?_) (fun c10 => ?_)
          · replace H := hT c10 H
            refine mm_iconst (v := 0) dX7_holds_54 (by decide +kernel) ?_
            refine mm_iret rfl rfl dX7_holds_55 ?_
            exact en_pI H
          · replace H := hF c10 H
            refine mm_iconst (v := 1) dX7_holds_50 (by decide +kernel) ?_
            refine mm_goto 55 dX7_holds_51 (by decide) ?_
            refine mm_iret rfl rfl dX7_holds_55 ?_
            exact en_pI H
def f_X7_strike_L2 (N : Nat) (x1 : Int32) (x2 : Int32) (C : CS) : Nat → Int32 → Option (Int32 ⊕ (Unit))
  | 0, _ => none
  | n + 1, x3 => if (gI C 9801) ≤ x3 then (some (.inr ()))
    else (if inb x3 60 = true then (if (gA C 101 (x3).toNatClampNeg) = 0 then (bnd (f_X7_holds x3 x1 x2 C) fun q4 =>
      if q4 = 0 then (f_X7_strike_L2 N x1 x2 C n (x3 + 1))
        else (some (.inl 1)))
      else (f_X7_strike_L2 N x1 x2 C n (x3 + 1))) else none)
theorem t_X7_strike_L2 {g : mm_G} {d : Nat} {Post : mm_Ou → mm_Hp → Prop} {h : mm_Hp} {C D : CS} {N : Nat} {x1 : Int32} {x2 : Int32} {res : (Int32 ⊕ (Unit))} (hd : 1 ≤ d) (R : Rep h C D) (KR : ∀ (q : Int32), res = .inl q → Post (.inl (some (.int q))) h) (KE : ∀ (q : Unit), res = .inr q → mm_P g d MX7_strike 37 [none, none, none, none] [] h Post) : ∀ (n : Nat) (x3 : Int32) , f_X7_strike_L2 N x1 x2 C n x3 = some res → mm_P g d MX7_strike 2 [some (.ref 98), some (.int x1), some (.int x2), some (.int x3)] [] h Post := by
  intro n
  induction n with
  | zero =>
    intro x3 H
    exact hN H
  | succ n ih =>
    intro x3 H
    unfold f_X7_strike_L2 at H
    refine mm_iload_n dX7_strike_2 rfl ?_
    refine mm_aload_n dX7_strike_3 rfl ?_
    refine rC_get (key := 9801) lk_X7_27_X7 lay_98 rfl rfl rfl dX7_strike_4 R ?_
    refine mm_icmp_ge 37 dX7_strike_7 (by decide) (fun c1 => ?_) (fun c1 => ?_)
    · replace H := hT c1 H
      refine mm_fgt (ls' := [none, none, none, none]) trivial ?_
      exact KE _ (Option.some.inj H).symm
    · replace H := hF c1 H
      refine mm_aload_n dX7_strike_10 rfl ?_
      refine rC_getR (t := 99) lk_X7_18_X7 lay_98 rfl rfl dX7_strike_11 R ?_
      refine mm_iload_n dX7_strike_14 rfl ?_
      obtain ⟨b2, H⟩ := hB H
      refine rC_iald lay_101 rfl dX7_strike_15 R b2 ?_
      refine mm_if_ne 31 dX7_strike_16 (by decide) (fun c3 => ?_) (fun c3 => ?_)
      · replace H := hF c3 H
        refine mm_iinc (v := (x3 + 1)) (ls' := [some (.ref 98), some (.int x1), some (.int x2), some (.int (x3 + 1))]) dX7_strike_31 rfl rfl rfl ?_
        refine mm_goto 2 dX7_strike_34 (by decide) ?_
        exact ih _ H
      · replace H := hT c3 H
        refine mm_aload_n dX7_strike_19 rfl ?_
        refine mm_iload_n dX7_strike_20 rfl ?_
        refine mm_iload_n dX7_strike_21 rfl ?_
        refine mm_iload_n dX7_strike_22 rfl ?_
        obtain ⟨q4, H5, H⟩ := hC H
        refine mm_callV (d' := d - 1) (as := [.int x3, .int x1, .int x2]) (st := []) (dS hd) cm_X7_holds (mm_t3 5 rfl rfl) (mm_t3 7 rfl rfl) (mm_s1 1 rfl rfl) (T := TX7) (N := 8) rfl dX7_strike_23 (R.oC (r := 98) rfl lay_98) rfl (Nat.le_of_ble_eq_true rfl) (Nat.le_of_ble_eq_true rfl) rfl rfl (t_X7_holds (dL hd (by decide)) R H5) (fun o u q => mm_thenI q ?_)
        refine mm_if_eq 31 dX7_strike_26 (by decide) (fun c6 => ?_) (fun c6 => ?_)
        · replace H := hT c6 H
          refine mm_iinc (v := (x3 + 1)) (ls' := [some (.ref 98), some (.int x1), some (.int x2), some (.int (x3 + 1))]) dX7_strike_31 rfl rfl rfl ?_
          refine mm_goto 2 dX7_strike_34 (by decide) ?_
          exact ih _ H
        · replace H := hF c6 H
          refine mm_iconst (v := 1) dX7_strike_29 (by decide +kernel) ?_
          refine mm_iret rfl rfl dX7_strike_30 ?_
          exact KR _ (Option.some.inj H).symm
def f_X7_strike (N : Nat) (x1 : Int32) (x2 : Int32) (C : CS) : Option Int32 :=
  bns (f_X7_strike_L2 N x1 x2 C N 0) (fun q7 => some q7) fun q7 =>
    some 0
theorem t_X7_strike {g : mm_G} {d : Nat} {h : mm_Hp} {C D : CS} {N : Nat} {x1 : Int32} {x2 : Int32} {r : Int32} (hd : 1 ≤ d) (R : Rep h C D) (H : f_X7_strike N x1 x2 C = some r) : mm_P g d MX7_strike 0 [some (.ref 98), some (.int x1), some (.int x2), none] [] h (mm_pureI r h) := by
  unfold f_X7_strike at H
  refine mm_iconst (v := 0) dX7_strike_0 (by decide +kernel) ?_
  refine mm_istore_n (ls' := [some (.ref 98), some (.int x1), some (.int x2), some (.int 0)]) dX7_strike_1 (Nat.le_of_ble_eq_true rfl) rfl ?_
  rcases hS H with ⟨q7, H8, H⟩ | ⟨q7, H8, H⟩
  · refine t_X7_strike_L2 hd R (fun q e => ?_) (fun q e => by cases e) N _ H8
    cases e
    exact en_pI H
  · refine t_X7_strike_L2 hd R (fun q e => by cases e) (fun q e => ?_) N _ H8
    cases e
    refine mm_iconst (v := 0) dX7_strike_37 (by decide +kernel) ?_
    refine mm_iret rfl rfl dX7_strike_38 ?_
    exact en_pI H
def f_X4_kindOfEntry (x1 : Int32) (C : CS) : Option Int32 :=
  if inb x1 200 = true then (if (hasT (gI C 6901) (gA C 74 (x1).toNatClampNeg)) = 0 then (some 5)
    else (if inb (gA C 74 (x1).toNatClampNeg) 200 = true then (some (gA C 70 ((gA C 74 (x1).toNatClampNeg)).toNatClampNeg)) else none)) else none
theorem t_X4_kindOfEntry {g : mm_G} {d : Nat} {h : mm_Hp} {C D : CS} {x1 : Int32} {r : Int32} (hd : 1 ≤ d) (R : Rep h C D) (H : f_X4_kindOfEntry x1 C = some r) : mm_P g d MX4_kindOfEntry 0 [some (.ref 69), some (.int x1), none] [] h (mm_pureI r h) := by
  unfold f_X4_kindOfEntry at H
  refine mm_aload_n dX4_kindOfEntry_0 rfl ?_
  refine rC_getR (t := 72) lk_X4_24_X4 lay_69 rfl rfl dX4_kindOfEntry_1 R ?_
  refine mm_iload_n dX4_kindOfEntry_4 rfl ?_
  obtain ⟨b1, H⟩ := hB H
  refine rC_iald lay_74 rfl dX4_kindOfEntry_5 R b1 ?_
  refine mm_istore_n (ls' := [some (.ref 69), some (.int x1), some (.int (gA C 74 (x1).toNatClampNeg))]) dX4_kindOfEntry_6 (Nat.le_of_ble_eq_true rfl) rfl ?_
  refine mm_aload_n dX4_kindOfEntry_7 rfl ?_
  refine mm_iload_n dX4_kindOfEntry_8 rfl ?_
  refine mm_callU (d' := d - 1) (x := ⟨"TestimonyBook$Lines", "has", "(I)Z"⟩) (owner := "TestimonyBook$Rows") (as := [.int (gA C 74 (x1).toNatClampNeg)]) (st := []) (dS hd) cm_X9_has rfl (mm_t3 13 rfl rfl) (mm_t3 14 rfl rfl) (mm_t3 17 rfl rfl) (mm_t3 16 rfl rfl) (T := TX4) (N := 9) rfl dX4_kindOfEntry_9 (R.oC (r := 69) rfl lay_69) rfl (Nat.le_of_ble_eq_true rfl) (Nat.le_of_ble_eq_true rfl) rfl rfl (tr_has lk_X9_13_X4 lay_69 rfl rfl R) (fun E u q => by cases q.1) (fun v u q => th_pU q ?_)
  refine mm_if_eq 24 dX4_kindOfEntry_12 (by decide) (fun c2 => ?_) (fun c2 => ?_)
  · replace H := hT c2 H
    refine mm_iconst (v := 5) dX4_kindOfEntry_24 (by decide +kernel) ?_
    refine mm_iret rfl rfl dX4_kindOfEntry_25 ?_
    exact en_pI H
  · replace H := hF c2 H
    refine mm_aload_n dX4_kindOfEntry_15 rfl ?_
    refine rC_getR (t := 68) lk_X4_9_X4 lay_69 rfl rfl dX4_kindOfEntry_16 R ?_
    refine mm_iload_n dX4_kindOfEntry_19 rfl ?_
    obtain ⟨b3, H⟩ := hB H
    refine rC_iald lay_70 rfl dX4_kindOfEntry_20 R b3 ?_
    refine mm_goto 25 dX4_kindOfEntry_21 (by decide) ?_
    refine mm_iret rfl rfl dX4_kindOfEntry_25 ?_
    exact en_pI H
def f_X0_signByAnswer (N : Nat) (x1 : Int32) (x2 : Int32) (C : CS) : Option Int32 :=
  if (hasT (gI C 6901) x1) = 0 then (some 0)
    else (bnd (f_X7_strike N x1 x2 C) fun q2 =>
    if q2 = 0 then (if inb x1 200 = true then (if (gA C 70 (x1).toNatClampNeg) = 2 then (some 1)
        else (if inb x1 200 = true then (if (gA C 70 (x1).toNatClampNeg) = 3 then (some (-1))
          else (some 0)) else none)) else none)
      else (some 0))
theorem t_X0_signByAnswer {g : mm_G} {d : Nat} {h : mm_Hp} {C D : CS} {N : Nat} {x1 : Int32} {x2 : Int32} {r : Int32} (hd : 2 ≤ d) (R : Rep h C D) (H : f_X0_signByAnswer N x1 x2 C = some r) : mm_P g d MX0_signByAnswer 0 [some (.ref 111), some (.int x1), some (.int x2)] [] h (mm_pureI r h) := by
  unfold f_X0_signByAnswer at H
  refine mm_aload_n dX0_signByAnswer_0 rfl ?_
  refine rC_getR (t := 67) lk_X0_15_X0 lay_111 rfl rfl dX0_signByAnswer_1 R ?_
  refine mm_iload_n dX0_signByAnswer_4 rfl ?_
  refine mm_callU (d' := d - 1) (x := ⟨"TestimonyBook$Lines", "has", "(I)Z"⟩) (owner := "TestimonyBook$Rows") (as := [.int x1]) (st := []) (dS hd) cm_X9_has rfl (mm_t3 27 rfl rfl) (mm_t3 14 rfl rfl) (mm_t3 17 rfl rfl) (mm_t3 16 rfl rfl) (T := TX4) (N := 9) rfl dX0_signByAnswer_5 (R.oC (r := 69) rfl lay_69) rfl (Nat.le_of_ble_eq_true rfl) (Nat.le_of_ble_eq_true rfl) rfl rfl (tr_has lk_X9_13_X4 lay_69 rfl rfl R) (fun E u q => by cases q.1) (fun v u q => th_pU q ?_)
  refine mm_if_eq 23 dX0_signByAnswer_8 (by decide) (fun c1 => ?_) (fun c1 => ?_)
  · replace H := hT c1 H
    refine mm_iconst (v := 0) dX0_signByAnswer_23 (by decide +kernel) ?_
    refine mm_iret rfl rfl dX0_signByAnswer_24 ?_
    exact en_pI H
  · replace H := hF c1 H
    refine mm_aload_n dX0_signByAnswer_11 rfl ?_
    refine rC_getR (t := 96) lk_X0_27_X0 lay_111 rfl rfl dX0_signByAnswer_12 R ?_
    refine mm_iload_n dX0_signByAnswer_15 rfl ?_
    refine mm_iload_n dX0_signByAnswer_16 rfl ?_
    obtain ⟨q2, H3, H⟩ := hC H
    refine mm_callV (d' := d - 1) (as := [.int x1, .int x2]) (st := []) (dS hd) cm_X7_strike (mm_t3 1 rfl rfl) (mm_t3 2 rfl rfl) (mm_t3 3 rfl rfl) (T := TX7) (N := 8) rfl dX0_signByAnswer_17 (R.oC (r := 98) rfl lay_98) rfl (Nat.le_of_ble_eq_true rfl) (Nat.le_of_ble_eq_true rfl) rfl rfl (t_X7_strike (dL hd (by decide)) R H3) (fun o u q => mm_thenI q ?_)
    refine mm_if_eq 25 dX0_signByAnswer_20 (by decide) (fun c4 => ?_) (fun c4 => ?_)
    · replace H := hT c4 H
      refine mm_aload_n dX0_signByAnswer_25 rfl ?_
      refine rC_getR (t := 67) lk_X0_15_X0 lay_111 rfl rfl dX0_signByAnswer_26 R ?_
      refine rC_getR (t := 68) lk_X0_71_X4 lay_69 rfl rfl dX0_signByAnswer_29 R ?_
      refine mm_iload_n dX0_signByAnswer_32 rfl ?_
      obtain ⟨b5, H⟩ := hB H
      refine rC_iald lay_70 rfl dX0_signByAnswer_33 R b5 ?_
      refine mm_iconst (v := 2) dX0_signByAnswer_34 (by decide +kernel) ?_
      refine mm_icmp_ne 40 dX0_signByAnswer_35 (by decide) (fun c6 => ?_) (fun c6 => ?_)
      · replace H := hF c6 H
        refine mm_aload_n dX0_signByAnswer_40 rfl ?_
        refine rC_getR (t := 67) lk_X0_15_X0 lay_111 rfl rfl dX0_signByAnswer_41 R ?_
        refine rC_getR (t := 68) lk_X0_71_X4 lay_69 rfl rfl dX0_signByAnswer_44 R ?_
        refine mm_iload_n dX0_signByAnswer_47 rfl ?_
        obtain ⟨b7, H⟩ := hB H
        refine rC_iald lay_70 rfl dX0_signByAnswer_48 R b7 ?_
        refine mm_iconst (v := 3) dX0_signByAnswer_49 (by decide +kernel) ?_
        refine mm_icmp_ne 57 dX0_signByAnswer_50 (by decide) (fun c8 => ?_) (fun c8 => ?_)
        · replace H := hF c8 H
          refine mm_iconst (v := 0) dX0_signByAnswer_57 (by decide +kernel) ?_
          refine mm_iret rfl rfl dX0_signByAnswer_58 ?_
          exact en_pI H
        · replace H := hT c8 H
          refine mm_iconst (v := (-1)) dX0_signByAnswer_53 (by decide +kernel) ?_
          refine mm_goto 58 dX0_signByAnswer_54 (by decide) ?_
          refine mm_iret rfl rfl dX0_signByAnswer_58 ?_
          exact en_pI H
      · replace H := hT c6 H
        refine mm_iconst (v := 1) dX0_signByAnswer_38 (by decide +kernel) ?_
        refine mm_iret rfl rfl dX0_signByAnswer_39 ?_
        exact en_pI H
    · replace H := hF c4 H
      refine mm_iconst (v := 0) dX0_signByAnswer_23 (by decide +kernel) ?_
      refine mm_iret rfl rfl dX0_signByAnswer_24 ?_
      exact en_pI H
def f_X0_signOf (N : Nat) (x1 : Int32) (x2 : Int32) (C : CS) : Option Int32 :=
  if inb x1 150 = true then (bnd (f_X8_heldOn N (gA C 85 (x1).toNatClampNeg) x2 C) fun q2 =>
  if inb x1 150 = true then (if q2 = (gA C 86 (x1).toNatClampNeg) then (bnd (f_X7_strike N (gA C 85 (x1).toNatClampNeg) x2 C) fun q6 =>
    if q6 = 0 then (bnd (f_X4_kindOfEntry (gA C 85 (x1).toNatClampNeg) C) fun q9 =>
      if q9 = 1 then (some 1)
        else (if q9 = 0 then (bnd (f_X4_answerTo (gA C 85 (x1).toNatClampNeg) C) fun q13 =>
          bnd (f_X0_signByAnswer N q13 x2 C) fun q15 =>
          some q15)
          else (some 0)))
      else (some 0))
    else (some 0)) else none) else none
theorem t_X0_signOf {g : mm_G} {d : Nat} {h : mm_Hp} {C D : CS} {N : Nat} {x1 : Int32} {x2 : Int32} {r : Int32} (hd : 3 ≤ d) (R : Rep h C D) (H : f_X0_signOf N x1 x2 C = some r) : mm_P g d MX0_signOf 0 [some (.ref 111), some (.int x1), some (.int x2), none, none] [] h (mm_pureI r h) := by
  unfold f_X0_signOf at H
  refine mm_aload_n dX0_signOf_0 rfl ?_
  refine rC_getR (t := 82) lk_X0_23_X0 lay_111 rfl rfl dX0_signOf_1 R ?_
  refine rC_getR (t := 83) lk_X0_35_X3 lay_84 rfl rfl dX0_signOf_4 R ?_
  refine mm_iload_n dX0_signOf_7 rfl ?_
  obtain ⟨b1, H⟩ := hB H
  refine rC_iald lay_85 rfl dX0_signOf_8 R b1 ?_
  refine mm_istore_n (ls' := [some (.ref 111), some (.int x1), some (.int x2), some (.int (gA C 85 (x1).toNatClampNeg)), none]) dX0_signOf_9 (Nat.le_of_ble_eq_true rfl) rfl ?_
  refine mm_aload_n dX0_signOf_10 rfl ?_
  refine rC_getR (t := 74) lk_X0_19_X0 lay_111 rfl rfl dX0_signOf_11 R ?_
  refine mm_iload_n dX0_signOf_14 rfl ?_
  refine mm_iload_n dX0_signOf_15 rfl ?_
  obtain ⟨q2, H3, H⟩ := hC H
  refine mm_callV (d' := d - 1) (as := [.int (gA C 85 (x1).toNatClampNeg), .int x2]) (st := []) (dS hd) cm_X8_heldOn (mm_t2 237 rfl rfl) (mm_t2 238 rfl rfl) (mm_t2 239 rfl rfl) (T := TX8) (N := 9) rfl dX0_signOf_16 (R.oC (r := 76) rfl lay_76) rfl (Nat.le_of_ble_eq_true rfl) (Nat.le_of_ble_eq_true rfl) rfl rfl (t_X8_heldOn (dL hd (by decide)) R H3) (fun o u q => mm_thenI q ?_)
  refine mm_aload_n dX0_signOf_19 rfl ?_
  refine rC_getR (t := 82) lk_X0_23_X0 lay_111 rfl rfl dX0_signOf_20 R ?_
  refine rC_getR (t := 84) lk_X0_46_X3 lay_84 rfl rfl dX0_signOf_23 R ?_
  refine mm_iload_n dX0_signOf_26 rfl ?_
  obtain ⟨b4, H⟩ := hB H
  refine rC_iald lay_86 rfl dX0_signOf_27 R b4 ?_
  refine mm_icmp_ne 43 dX0_signOf_28 (by decide) (fun c5 => ?_) (fun c5 => ?_)
  · replace H := hF c5 H
    refine mm_iconst (v := 0) dX0_signOf_43 (by decide +kernel) ?_
    refine mm_iret rfl rfl dX0_signOf_44 ?_
    exact en_pI H
  · replace H := hT c5 H
    refine mm_aload_n dX0_signOf_31 rfl ?_
    refine rC_getR (t := 96) lk_X0_27_X0 lay_111 rfl rfl dX0_signOf_32 R ?_
    refine mm_iload_n dX0_signOf_35 rfl ?_
    refine mm_iload_n dX0_signOf_36 rfl ?_
    obtain ⟨q6, H7, H⟩ := hC H
    refine mm_callV (d' := d - 1) (as := [.int (gA C 85 (x1).toNatClampNeg), .int x2]) (st := []) (dS hd) cm_X7_strike (mm_t3 1 rfl rfl) (mm_t3 2 rfl rfl) (mm_t3 3 rfl rfl) (T := TX7) (N := 8) rfl dX0_signOf_37 (R.oC (r := 98) rfl lay_98) rfl (Nat.le_of_ble_eq_true rfl) (Nat.le_of_ble_eq_true rfl) rfl rfl (t_X7_strike (dL hd (by decide)) R H7) (fun o u q => mm_thenI q ?_)
    refine mm_if_eq 45 dX0_signOf_40 (by decide) (fun c8 => ?_) (fun c8 => ?_)
    · replace H := hT c8 H
      refine mm_aload_n dX0_signOf_45 rfl ?_
      refine rC_getR (t := 67) lk_X0_15_X0 lay_111 rfl rfl dX0_signOf_46 R ?_
      refine mm_iload_n dX0_signOf_49 rfl ?_
      obtain ⟨q9, H10, H⟩ := hC H
      refine mm_callV (d' := d - 1) (as := [.int (gA C 85 (x1).toNatClampNeg)]) (st := []) (dS hd) cm_X4_kindOfEntry (mm_t3 9 rfl rfl) (mm_t3 10 rfl rfl) (mm_t3 11 rfl rfl) (T := TX4) (N := 9) rfl dX0_signOf_50 (R.oC (r := 69) rfl lay_69) rfl (Nat.le_of_ble_eq_true rfl) (Nat.le_of_ble_eq_true rfl) rfl rfl (t_X4_kindOfEntry (dL hd (by decide)) R H10) (fun o u q => mm_thenI q ?_)
      refine mm_istore (ls' := [some (.ref 111), some (.int x1), some (.int x2), some (.int (gA C 85 (x1).toNatClampNeg)), some (.int q9)]) dX0_signOf_53 (Nat.le_of_ble_eq_true rfl) rfl ?_
      refine mm_iload dX0_signOf_55 rfl ?_
      refine mm_iconst (v := 1) dX0_signOf_57 (by decide +kernel) ?_
      refine mm_icmp_ne 63 dX0_signOf_58 (by decide) (fun c11 => ?_) (fun c11 => ?_)
      · replace H := hF c11 H
        refine mm_iload dX0_signOf_63 rfl ?_
        refine mm_if_ne 84 dX0_signOf_65 (by decide) (fun c12 => ?_) (fun c12 => ?_)
        · replace H := hF c12 H
          refine mm_iconst (v := 0) dX0_signOf_84 (by decide +kernel) ?_
          refine mm_iret rfl rfl dX0_signOf_85 ?_
          exact en_pI H
        · replace H := hT c12 H
          refine mm_aload_n dX0_signOf_68 rfl ?_
          refine mm_aload_n dX0_signOf_69 rfl ?_
          refine rC_getR (t := 67) lk_X0_15_X0 lay_111 rfl rfl dX0_signOf_70 R ?_
          refine mm_iload_n dX0_signOf_73 rfl ?_
          obtain ⟨q13, H14, H⟩ := hC H
          refine mm_callV (d' := d - 1) (as := [.int (gA C 85 (x1).toNatClampNeg)]) (st := [.ref 111]) (dS hd) cm_X4_answerTo (mm_t3 19 rfl rfl) (mm_t3 20 rfl rfl) (mm_t3 21 rfl rfl) (T := TX4) (N := 9) rfl dX0_signOf_74 (R.oC (r := 69) rfl lay_69) rfl (Nat.le_of_ble_eq_true rfl) (Nat.le_of_ble_eq_true rfl) rfl rfl (t_X4_answerTo (dL hd (by decide)) R H14) (fun o u q => mm_thenI q ?_)
          refine mm_iload_n dX0_signOf_77 rfl ?_
          obtain ⟨q15, H16, H⟩ := hC H
          refine mm_callV (d' := d - 1) (as := [.int q13, .int x2]) (st := []) (dS hd) cm_X0_signByAnswer (mm_t3 23 rfl rfl) (mm_t3 25 rfl rfl) (mm_s1 2 rfl rfl) (T := TX0) (N := 8) rfl dX0_signOf_78 (R.oC (r := 111) rfl lay_111) rfl (Nat.le_of_ble_eq_true rfl) (Nat.le_of_ble_eq_true rfl) rfl rfl (t_X0_signByAnswer (dL hd (by decide)) R H16) (fun o u q => mm_thenI q ?_)
          refine mm_goto 85 dX0_signOf_81 (by decide) ?_
          refine mm_iret rfl rfl dX0_signOf_85 ?_
          exact en_pI H
      · replace H := hT c11 H
        refine mm_iconst (v := 1) dX0_signOf_61 (by decide +kernel) ?_
        refine mm_iret rfl rfl dX0_signOf_62 ?_
        exact en_pI H
    · replace H := hF c8 H
      refine mm_iconst (v := 0) dX0_signOf_43 (by decide +kernel) ?_
      refine mm_iret rfl rfl dX0_signOf_44 ?_
      exact en_pI H
def f_X11_stands (N : Nat) (x1 : Int32) (x2 : Int32) (C : CS) : Option ((String ⊕ Int32) × CS) :=
  bnx (f_X11_demand (hasT (gI C 8401) x1) C) fun vq1 q1 =>
    bnd (f_X0_signOf N x1 x2 q1) fun q3 =>
    some (.inr q3, q1)
theorem t_X11_stands {g : mm_G} {d : Nat} {h : mm_Hp} {C D : CS} {N : Nat} {x1 : Int32} {x2 : Int32} {r : ((String ⊕ Int32) × CS)} (hd : 7 ≤ d) (R : Rep h C D) (H : f_X11_stands N x1 x2 C = some r) : mm_P g d MX11_stands 0 [some (.ref 64), some (.int x1), some (.int x2)] [] h (cXI D r) := by
  unfold f_X11_stands at H
  refine mm_aload_n dX11_stands_0 rfl ?_
  refine rC_getR (t := 82) lk_X11_38_X11 lay_64 rfl rfl dX11_stands_1 R ?_
  refine mm_iload_n dX11_stands_4 rfl ?_
  refine mm_callU (d' := d - 1) (x := ⟨"TestimonyBook$Facts", "has", "(I)Z"⟩) (owner := "TestimonyBook$Rows") (as := [.int x1]) (st := []) (dS hd) cm_X9_has rfl (mm_t4 231 rfl rfl) (mm_t4 232 rfl rfl) (mm_t3 17 rfl rfl) (mm_t4 233 rfl rfl) (T := TX3) (N := 9) rfl dX11_stands_5 (R.oC (r := 84) rfl lay_84) rfl (Nat.le_of_ble_eq_true rfl) (Nat.le_of_ble_eq_true rfl) rfl rfl (tr_has lk_X9_13_X3 lay_84 rfl rfl R) (fun E u q => by cases q.1) (fun v u q => th_pU q ?_)
  rcases hX H with ⟨E1, q1, H2, H⟩ | ⟨vq1, q1, H2, H⟩
  · refine mm_callS (d' := d - 1) (as := [.int (hasT (gI C 8401) x1)]) (st := []) (dS hd) cm_X11_demand (mm_t4 175 rfl rfl) (mm_t4 176 rfl rfl) dX11_stands_8 rfl (Nat.le_of_ble_eq_true rfl) (Nat.le_of_ble_eq_true rfl) rfl rfl (t_X11_demand (dL hd (by decide)) R H2) (fun o h q => th_eV rfl q (fun R => ?_))
    exact en_xI2 H R
  · refine mm_callS (d' := d - 1) (as := [.int (hasT (gI C 8401) x1)]) (st := []) (dS hd) cm_X11_demand (mm_t4 175 rfl rfl) (mm_t4 176 rfl rfl) dX11_stands_8 rfl (Nat.le_of_ble_eq_true rfl) (Nat.le_of_ble_eq_true rfl) rfl rfl (t_X11_demand (dL hd (by decide)) R H2) (fun o h q => th_xV q (fun R => ?_))
    refine mm_aload_n dX11_stands_11 rfl ?_
    refine rC_getR (t := 109) lk_X11_84_X11 lay_64 rfl rfl dX11_stands_12 R ?_
    refine mm_iload_n dX11_stands_15 rfl ?_
    refine mm_iload_n dX11_stands_16 rfl ?_
    obtain ⟨q3, H4, H⟩ := hC H
    refine mm_callV (d' := d - 1) (as := [.int x1, .int x2]) (st := []) (dS hd) cm_X0_signOf (mm_t5 1 rfl rfl) (mm_t2 234 rfl rfl) (mm_t2 235 rfl rfl) (T := TX0) (N := 8) rfl dX11_stands_17 (R.oC (r := 111) rfl lay_111) rfl (Nat.le_of_ble_eq_true rfl) (Nat.le_of_ble_eq_true rfl) rfl rfl (t_X0_signOf (dL hd (by decide)) R H4) (fun o u q => mm_thenI q ?_)
    refine mm_iret rfl rfl dX11_stands_20 ?_
    exact en_xI H R
def f_X0_weigh_L2 (N : Nat) (x1 : Int32) : Nat → Int32 → CS → Option (CS)
  | 0, _, _ => none
  | n + 1, x2, C => if (gI C 8401) ≤ x2 then (some C)
    else (if (nI 150) ≤ x2 then (some C)
      else (bnd (f_X0_signOf N x2 x1 C) fun q3 =>
      if inb x2 150 = true then (bd (sA C 112 (x2).toNatClampNeg q3) fun C6 =>
      f_X0_weigh_L2 N x1 n (x2 + 1) C6) else none))
theorem t_X0_weigh_L2 {g : mm_G} {d : Nat} {Post : mm_Ou → mm_Hp → Prop} {D : CS} {N : Nat} {x1 : Int32} {res : (CS)} (hd : 4 ≤ d) (KE : ∀ (h1 : mm_Hp), Rep h1 res D → mm_P g d MX0_weigh 40 [none, none, none] [] h1 Post) : ∀ (n : Nat) (x2 : Int32) (C : CS) (h : mm_Hp) , Rep h C D → f_X0_weigh_L2 N x1 n x2 C = some res → mm_P g d MX0_weigh 2 [some (.ref 111), some (.int x1), some (.int x2)] [] h Post := by
  intro n
  induction n with
  | zero =>
    intro x2 C h R H
    exact hN H
  | succ n ih =>
    intro x2 C h R H
    unfold f_X0_weigh_L2 at H
    refine mm_iload_n dX0_weigh_2 rfl ?_
    refine mm_aload_n dX0_weigh_3 rfl ?_
    refine rC_getR (t := 82) lk_X0_23_X0 lay_111 rfl rfl dX0_weigh_4 R ?_
    refine rC_get (key := 8401) lk_X0_74_X3 lay_84 rfl rfl rfl dX0_weigh_7 R ?_
    refine mm_icmp_ge 40 dX0_weigh_10 (by decide) (fun c1 => ?_) (fun c1 => ?_)
    · replace H := hT c1 H
      refine mm_fgt (ls' := [none, none, none]) trivial ?_
      cases H
      exact KE _ R
    · replace H := hF c1 H
      refine mm_iload_n dX0_weigh_13 rfl ?_
      refine mm_aload_n dX0_weigh_14 rfl ?_
      refine rC_getR (t := 110) lk_X0_9_X0 lay_111 rfl rfl dX0_weigh_15 R ?_
      refine rC_alen lay_112 rfl dX0_weigh_18 R ?_
      refine mm_icmp_ge 40 dX0_weigh_19 (by decide) (fun c2 => ?_) (fun c2 => ?_)
      · replace H := hT c2 H
        refine mm_fgt (ls' := [none, none, none]) trivial ?_
        cases H
        exact KE _ R
      · replace H := hF c2 H
        refine mm_aload_n dX0_weigh_22 rfl ?_
        refine rC_getR (t := 110) lk_X0_9_X0 lay_111 rfl rfl dX0_weigh_23 R ?_
        refine mm_iload_n dX0_weigh_26 rfl ?_
        refine mm_aload_n dX0_weigh_27 rfl ?_
        refine mm_iload_n dX0_weigh_28 rfl ?_
        refine mm_iload_n dX0_weigh_29 rfl ?_
        obtain ⟨q3, H4, H⟩ := hC H
        refine mm_callV (d' := d - 1) (as := [.int x2, .int x1]) (st := [.int x2, .ref 112]) (dS hd) cm_X0_signOf (mm_t2 233 rfl rfl) (mm_t2 234 rfl rfl) (mm_t2 235 rfl rfl) (T := TX0) (N := 8) rfl dX0_weigh_30 (R.oC (r := 111) rfl lay_111) rfl (Nat.le_of_ble_eq_true rfl) (Nat.le_of_ble_eq_true rfl) rfl rfl (t_X0_signOf (dL hd (by decide)) R H4) (fun o u q => mm_thenI q ?_)
        obtain ⟨b5, H⟩ := hB H
        obtain ⟨C6, e7, H⟩ := hD H
        refine rC_iast lay_112 rfl dX0_weigh_33 R b5 e7 (fun h R => ?_)
        refine mm_iinc (v := (x2 + 1)) (ls' := [some (.ref 111), some (.int x1), some (.int (x2 + 1))]) dX0_weigh_34 rfl rfl rfl ?_
        refine mm_goto 2 dX0_weigh_37 (by decide) ?_
        exact ih _ _ _ R H
