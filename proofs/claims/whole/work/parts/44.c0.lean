def f_X1_addNumber_65_L3 (N : Nat) (x1 : Int32) : Nat → Int32 → CS → Option (CS)
  | 0, _, _ => none
  | n + 1, x2, C => if x2 < 0 then (some C)
    else (bd (badd 65 (((x1).toUInt32 >>> (Int32.toUInt32 x2 &&& Int32.toUInt32 31)).toInt32) C) fun C2 =>
    f_X1_addNumber_65_L3 N x1 n (x2 + (-8)) C2)
theorem t_X1_addNumber_65_L3 {g : mm_G} {d : Nat} {Post : mm_Ou → mm_Hp → Prop} {D : CS} {N : Nat} {x1 : Int32} {res : (CS)} (hd : 3 ≤ d) (KE : ∀ (h1 : mm_Hp), Rep h1 res D → mm_P g d MX1_addNumber 20 [none, none, none] [] h1 Post) : ∀ (n : Nat) (x2 : Int32) (C : CS) (h : mm_Hp) , Rep h C D → f_X1_addNumber_65_L3 N x1 n x2 C = some res → mm_P g d MX1_addNumber 3 [some (.ref 65), some (.int x1), some (.int x2)] [] h Post := by
  intro n
  induction n with
  | zero =>
    intro x2 C h R H
    exact hN H
  | succ n ih =>
    intro x2 C h R H
    unfold f_X1_addNumber_65_L3 at H
    refine mm_iload_n dX1_addNumber_3 rfl ?_
    refine mm_if_lt 20 dX1_addNumber_4 (by decide) (fun c1 => ?_) (fun c1 => ?_)
    · replace H := hT c1 H
      refine mm_fgt (ls' := [none, none, none]) trivial ?_
      cases H
      exact KE _ R
    · replace H := hF c1 H
      refine mm_aload_n dX1_addNumber_7 rfl ?_
      refine mm_iload_n dX1_addNumber_8 rfl ?_
      refine mm_iload_n dX1_addNumber_9 rfl ?_
      refine mm_iushr dX1_addNumber_10 ?_
      obtain ⟨C2, e3, H⟩ := hD H
      refine mm_callV (d' := d - 1) (as := [.int (((x1).toUInt32 >>> (Int32.toUInt32 x2 &&& Int32.toUInt32 31)).toInt32)]) (st := []) (dS hd) cm_X1_add (mm_t2 189 rfl rfl) (mm_t2 190 rfl rfl) (mm_t2 191 rfl rfl) (T := TX1) (N := 4) rfl dX1_addNumber_11 (R.oB (Or.inl rfl)).choose_spec rfl (Nat.le_of_ble_eq_true rfl) (Nat.le_of_ble_eq_true rfl) rfl rfl (tb_add (Or.inl rfl) (dL hd (by decide)) R) (fun o h q => th_cV q (fun R => ?_))
      replace R := Rep.cg e3 R
      refine mm_iinc (v := (x2 + (-8))) (ls' := [some (.ref 65), some (.int x1), some (.int (x2 + (-8)))]) dX1_addNumber_14 rfl rfl rfl ?_
      refine mm_goto 3 dX1_addNumber_17 (by decide) ?_
      exact ih _ _ _ R H
def f_X1_addNumber_65 (N : Nat) (x1 : Int32) (C : CS) : Option CS :=
  bnd (f_X1_addNumber_65_L3 N x1 N 24 C) fun q4 =>
    some q4
theorem t_X1_addNumber_65 {g : mm_G} {d : Nat} {h : mm_Hp} {C D : CS} {N : Nat} {x1 : Int32} {r : CS} (hd : 3 ≤ d) (R : Rep h C D) (H : f_X1_addNumber_65 N x1 C = some r) : mm_P g d MX1_addNumber 0 [some (.ref 65), some (.int x1), none] [] h (cV D r) := by
  unfold f_X1_addNumber_65 at H
  refine mm_bipush (v := 24) dX1_addNumber_0 (by decide +kernel) ?_
  refine mm_istore_n (ls' := [some (.ref 65), some (.int x1), some (.int 24)]) dX1_addNumber_2 (Nat.le_of_ble_eq_true rfl) rfl ?_
  obtain ⟨q4, H5, H⟩ := hC H
  refine t_X1_addNumber_65_L3 hd (fun h R => ?_) N _ _ _ R H5
  refine mm_vret rfl dX1_addNumber_20 ?_
  exact en_cV H R
def f_X11_feed (N : Nat) (x1 : Int32) (x2 : Int32) (x3 : Int32) (x4 : Int32) (x5 : Int32) (C : CS) : Option (Int32 × CS) :=
  if ((gI C 6501) + 20) ≤ 3000 then (bnd (f_X1_addNumber_65 N x1 C) fun q2 =>
    bnd (f_X1_addNumber_65 N x2 q2) fun q4 =>
    bnd (f_X1_addNumber_65 N x3 q4) fun q6 =>
    bnd (f_X1_addNumber_65 N x4 q6) fun q8 =>
    bnd (f_X1_addNumber_65 N x5 q8) fun q10 =>
    some ((gI q10 6501), q10))
    else (some ((-1), C))
theorem t_X11_feed {g : mm_G} {d : Nat} {h : mm_Hp} {C D : CS} {N : Nat} {x1 : Int32} {x2 : Int32} {x3 : Int32} {x4 : Int32} {x5 : Int32} {r : (Int32 × CS)} (hd : 4 ≤ d) (R : Rep h C D) (H : f_X11_feed N x1 x2 x3 x4 x5 C = some r) : mm_P g d MX11_feed 0 [some (.ref 64), some (.int x1), some (.int x2), some (.int x3), some (.int x4), some (.int x5)] [] h (cI D r) := by
  unfold f_X11_feed at H
  refine mm_aload_n dX11_feed_0 rfl ?_
  refine rC_getR (t := 63) lk_X11_14_X11 lay_64 rfl rfl dX11_feed_1 R ?_
  refine rB_get lk_X11_92_X1 (Or.inl rfl) rfl dX11_feed_4 R ?_
  refine mm_bipush (v := 20) dX11_feed_7 (by decide +kernel) ?_
  refine mm_iadd dX11_feed_9 ?_
  refine mm_sipush (v := 3000) dX11_feed_10 (by decide +kernel) ?_
  refine mm_icmp_le 18 dX11_feed_13 (by decide) (fun c1 => ?_) (fun c1 => ?_)
  · replace H := hT c1 H
    refine mm_aload_n dX11_feed_18 rfl ?_
    refine rC_getR (t := 63) lk_X11_14_X11 lay_64 rfl rfl dX11_feed_19 R ?_
    refine mm_iload_n dX11_feed_22 rfl ?_
    obtain ⟨q2, H3, H⟩ := hC H
    refine mm_callV (d' := d - 1) (as := [.int x1]) (st := []) (dS hd) cm_X1_addNumber (mm_t2 185 rfl rfl) (mm_t2 186 rfl rfl) (mm_t2 187 rfl rfl) (T := TX1) (N := 4) rfl dX11_feed_23 (R.oB (Or.inl rfl)).choose_spec rfl (Nat.le_of_ble_eq_true rfl) (Nat.le_of_ble_eq_true rfl) rfl rfl (t_X1_addNumber_65 (dL hd (by decide)) R H3) (fun o h q => th_cV q (fun R => ?_))
    refine mm_aload_n dX11_feed_26 rfl ?_
    refine rC_getR (t := 63) lk_X11_14_X11 lay_64 rfl rfl dX11_feed_27 R ?_
    refine mm_iload_n dX11_feed_30 rfl ?_
    obtain ⟨q4, H5, H⟩ := hC H
    refine mm_callV (d' := d - 1) (as := [.int x2]) (st := []) (dS hd) cm_X1_addNumber (mm_t2 185 rfl rfl) (mm_t2 186 rfl rfl) (mm_t2 187 rfl rfl) (T := TX1) (N := 4) rfl dX11_feed_31 (R.oB (Or.inl rfl)).choose_spec rfl (Nat.le_of_ble_eq_true rfl) (Nat.le_of_ble_eq_true rfl) rfl rfl (t_X1_addNumber_65 (dL hd (by decide)) R H5) (fun o h q => th_cV q (fun R => ?_))
    refine mm_aload_n dX11_feed_34 rfl ?_
    refine rC_getR (t := 63) lk_X11_14_X11 lay_64 rfl rfl dX11_feed_35 R ?_
    refine mm_iload_n dX11_feed_38 rfl ?_
    obtain ⟨q6, H7, H⟩ := hC H
    refine mm_callV (d' := d - 1) (as := [.int x3]) (st := []) (dS hd) cm_X1_addNumber (mm_t2 185 rfl rfl) (mm_t2 186 rfl rfl) (mm_t2 187 rfl rfl) (T := TX1) (N := 4) rfl dX11_feed_39 (R.oB (Or.inl rfl)).choose_spec rfl (Nat.le_of_ble_eq_true rfl) (Nat.le_of_ble_eq_true rfl) rfl rfl (t_X1_addNumber_65 (dL hd (by decide)) R H7) (fun o h q => th_cV q (fun R => ?_))
    refine mm_aload_n dX11_feed_42 rfl ?_
    refine rC_getR (t := 63) lk_X11_14_X11 lay_64 rfl rfl dX11_feed_43 R ?_
    refine mm_iload dX11_feed_46 rfl ?_
    obtain ⟨q8, H9, H⟩ := hC H
    refine mm_callV (d' := d - 1) (as := [.int x4]) (st := []) (dS hd) cm_X1_addNumber (mm_t2 185 rfl rfl) (mm_t2 186 rfl rfl) (mm_t2 187 rfl rfl) (T := TX1) (N := 4) rfl dX11_feed_48 (R.oB (Or.inl rfl)).choose_spec rfl (Nat.le_of_ble_eq_true rfl) (Nat.le_of_ble_eq_true rfl) rfl rfl (t_X1_addNumber_65 (dL hd (by decide)) R H9) (fun o h q => th_cV q (fun R => ?_))
    refine mm_aload_n dX11_feed_51 rfl ?_
    refine rC_getR (t := 63) lk_X11_14_X11 lay_64 rfl rfl dX11_feed_52 R ?_
    refine mm_iload dX11_feed_55 rfl ?_
    obtain ⟨q10, H11, H⟩ := hC H
    refine mm_callV (d' := d - 1) (as := [.int x5]) (st := []) (dS hd) cm_X1_addNumber (mm_t2 185 rfl rfl) (mm_t2 186 rfl rfl) (mm_t2 187 rfl rfl) (T := TX1) (N := 4) rfl dX11_feed_57 (R.oB (Or.inl rfl)).choose_spec rfl (Nat.le_of_ble_eq_true rfl) (Nat.le_of_ble_eq_true rfl) rfl rfl (t_X1_addNumber_65 (dL hd (by decide)) R H11) (fun o h q => th_cV q (fun R => ?_))
    refine mm_aload_n dX11_feed_60 rfl ?_
    refine rC_getR (t := 63) lk_X11_14_X11 lay_64 rfl rfl dX11_feed_61 R ?_
    refine rB_get lk_X11_92_X1 (Or.inl rfl) rfl dX11_feed_64 R ?_
    refine mm_iret rfl rfl dX11_feed_67 ?_
    exact en_cI H R
  · replace H := hF c1 H
    refine mm_iconst (v := (-1)) dX11_feed_16 (by decide +kernel) ?_
    refine mm_iret rfl rfl dX11_feed_17 ?_
    exact en_cI H R
def f_X11_demandOnTape (x1 : Int32) (C : CS) : Option ((String ⊕ Unit) × CS) :=
  if x1 < 1 then (some (.inl "java/lang/IllegalArgumentException", sE C))
    else (if x1 ≤ (gI C 6501) then (some (.inr (), C))
      else (some (.inl "java/lang/IllegalArgumentException", sE C)))
theorem t_X11_demandOnTape {g : mm_G} {d : Nat} {h : mm_Hp} {C D : CS} {x1 : Int32} {r : ((String ⊕ Unit) × CS)} (hd : 6 ≤ d) (R : Rep h C D) (H : f_X11_demandOnTape x1 C = some r) : mm_P g d MX11_demandOnTape 0 [some (.ref 64), some (.int x1)] [] h (cXV D r) := by
  unfold f_X11_demandOnTape at H
  refine mm_iload_n dX11_demandOnTape_0 rfl ?_
  refine mm_iconst (v := 1) dX11_demandOnTape_1 (by decide +kernel) ?_
  refine mm_icmp_lt 16 dX11_demandOnTape_2 (by decide) (fun c1 => ?_) (fun c1 => ?_)
  · replace H := hT c1 H
    refine rT_IAEw (text := "not so many bytes") (no := 8) rfl (by decide) rfl rfl (Nat.le_trans (by decide) hd) (Nat.le_of_ble_eq_true rfl) dX11_demandOnTape_16 dX11_demandOnTape_19 dX11_demandOnTape_20 dX11_demandOnTape_23 dX11_demandOnTape_26 ?_
    exact en_xV H R.thr
  · replace H := hF c1 H
    refine mm_iload_n dX11_demandOnTape_5 rfl ?_
    refine mm_aload_n dX11_demandOnTape_6 rfl ?_
    refine rC_getR (t := 63) lk_X11_14_X11 lay_64 rfl rfl dX11_demandOnTape_7 R ?_
    refine rB_get lk_X11_92_X1 (Or.inl rfl) rfl dX11_demandOnTape_10 R ?_
    refine mm_icmp_le 27 dX11_demandOnTape_13 (by decide) (fun c2 => ?_) (fun c2 => ?_)
    · replace H := hT c2 H
      refine mm_vret rfl dX11_demandOnTape_27 ?_
      exact en_xV H R
    · replace H := hF c2 H
      refine rT_IAEw (text := "not so many bytes") (no := 8) rfl (by decide) rfl rfl (Nat.le_trans (by decide) hd) (Nat.le_of_ble_eq_true rfl) dX11_demandOnTape_16 dX11_demandOnTape_19 dX11_demandOnTape_20 dX11_demandOnTape_23 dX11_demandOnTape_26 ?_
      exact en_xV H R.thr
def f_X10_begin (x1 : Int32) (C : CS) : Option CS :=
  bd (sI C 11006 (if (gI C 6501) < x1 then (gI C 6501) else x1)) fun C1 =>
  bd (sI C1 11007 0) fun C3 =>
  bd (sI C3 11008 0) fun C5 =>
  bd (sI C5 11011 0) fun C7 =>
  bd (sI C7 11012 (-1)) fun C9 =>
  bd (sI C9 6902 (gI C9 6901)) fun C11 =>
  bd (sI C11 7602 (gI C11 7601)) fun C13 =>
  bd (sI C13 7702 (gI C13 7701)) fun C15 =>
  bd (sI C15 8402 (gI C15 8401)) fun C17 =>
  bd (sI C17 9102 (gI C17 9101)) fun C19 =>
  bd (sI C19 9402 (gI C19 9401)) fun C21 =>
  some C21
theorem t_X10_begin {g : mm_G} {d : Nat} {h : mm_Hp} {C D : CS} {x1 : Int32} {r : CS} (hd : 1 ≤ d) (R : Rep h C D) (H : f_X10_begin x1 C = some r) : mm_P g d MX10_begin 0 [some (.ref 110), some (.int x1)] [] h (cV D r) := by
  unfold f_X10_begin at H
  refine mm_aload_n dX10_begin_0 rfl ?_
  refine mm_iload_n dX10_begin_1 rfl ?_
  refine mm_aload_n dX10_begin_2 rfl ?_
  refine rC_getR (t := 63) lk_X10_9_X10 lay_110 rfl rfl dX10_begin_3 R ?_
  refine rB_get lk_X10_70_X1 (Or.inl rfl) rfl dX10_begin_6 R ?_
  refine mm_min (mm_t3 143 rfl rfl) (mm_t2 204 rfl rfl) (mm_t1 15 rfl rfl) (mm_t2 205 rfl rfl) (Nat.le_trans (by decide) hd) rfl (Nat.le_of_ble_eq_true rfl) dX10_begin_9 ?_
  obtain ⟨C1, e2, H⟩ := hD H
  refine rC_put (key := 11006) lk_X10_43_X10 lay_110 rfl rfl rfl rfl rfl dX10_begin_12 R e2 (fun h R => ?_)
  refine mm_aload_n dX10_begin_15 rfl ?_
  refine mm_iconst (v := 0) dX10_begin_16 (by decide +kernel) ?_
  obtain ⟨C3, e4, H⟩ := hD H
  refine rC_put (key := 11007) lk_X10_39_X10 lay_110 rfl rfl rfl rfl rfl dX10_begin_17 R e4 (fun h R => ?_)
  refine mm_aload_n dX10_begin_20 rfl ?_
  refine mm_iconst (v := 0) dX10_begin_21 (by decide +kernel) ?_
  obtain ⟨C5, e6, H⟩ := hD H
  refine rC_put (key := 11008) lk_X10_54_X10 lay_110 rfl rfl rfl rfl rfl dX10_begin_22 R e6 (fun h R => ?_)
  refine mm_aload_n dX10_begin_25 rfl ?_
  refine mm_iconst (v := 0) dX10_begin_26 (by decide +kernel) ?_
  obtain ⟨C7, e8, H⟩ := hD H
  refine rC_put (key := 11011) lk_X10_81_X10 lay_110 rfl rfl rfl rfl rfl dX10_begin_27 R e8 (fun h R => ?_)
  refine mm_aload_n dX10_begin_30 rfl ?_
  refine mm_iconst (v := (-1)) dX10_begin_31 (by decide +kernel) ?_
  obtain ⟨C9, e10, H⟩ := hD H
  refine rC_put (key := 11012) lk_X10_84_X10 lay_110 rfl rfl rfl rfl rfl dX10_begin_32 R e10 (fun h R => ?_)
  refine mm_aload_n dX10_begin_35 rfl ?_
  refine rC_getR (t := 67) lk_X10_15_X10 lay_110 rfl rfl dX10_begin_36 R ?_
  obtain ⟨C11, e12, H⟩ := hD H
  refine mm_callU (d' := d - 1) (x := ⟨"TestimonyBook$Lines", "mark", "()V"⟩) (owner := "TestimonyBook$Rows") (as := []) (st := []) (dS hd) cm_X9_mark rfl (mm_t3 144 rfl rfl) (mm_t3 145 rfl rfl) (mm_t3 148 rfl rfl) (mm_t3 147 rfl rfl) (T := TX4) (N := 9) rfl dX10_begin_39 (R.oC (r := 69) rfl lay_69) rfl (Nat.le_of_ble_eq_true rfl) (Nat.le_of_ble_eq_true rfl) rfl rfl (tr_mark lk_X9_13_X4 lk_X9_16_X4 rfl rfl lay_69 rfl rfl rfl R) (fun E u q => by cases q.1) (fun v u q => th_vU q (fun R => ?_))
  replace R := Rep.cg e12 R
  refine mm_aload_n dX10_begin_42 rfl ?_
  refine rC_getR (t := 74) lk_X10_19_X10 lay_110 rfl rfl dX10_begin_43 R ?_
  obtain ⟨C13, e14, H⟩ := hD H
  refine mm_callU (d' := d - 1) (x := ⟨"TestimonyBook$Rests", "mark", "()V"⟩) (owner := "TestimonyBook$Rows") (as := []) (st := []) (dS hd) cm_X9_mark rfl (mm_t3 150 rfl rfl) (mm_t3 151 rfl rfl) (mm_t3 148 rfl rfl) (mm_t3 152 rfl rfl) (T := TX8) (N := 9) rfl dX10_begin_46 (R.oC (r := 76) rfl lay_76) rfl (Nat.le_of_ble_eq_true rfl) (Nat.le_of_ble_eq_true rfl) rfl rfl (tr_mark lk_X9_13_X8 lk_X9_16_X8 rfl rfl lay_76 rfl rfl rfl R) (fun E u q => by cases q.1) (fun v u q => th_vU q (fun R => ?_))
  replace R := Rep.cg e14 R
  refine mm_aload_n dX10_begin_49 rfl ?_
  refine rC_getR (t := 74) lk_X10_19_X10 lay_110 rfl rfl dX10_begin_50 R ?_
  refine rC_getR (t := 75) lk_X10_93_X8 lay_76 rfl rfl dX10_begin_53 R ?_
  obtain ⟨C15, e16, H⟩ := hD H
  refine mm_callU (d' := d - 1) (x := ⟨"TestimonyBook$Bytes", "mark", "()V"⟩) (owner := "TestimonyBook$Rows") (as := []) (st := []) (dS hd) cm_X9_mark rfl (mm_t3 153 rfl rfl) (mm_t3 154 rfl rfl) (mm_t3 148 rfl rfl) (mm_t3 155 rfl rfl) (T := TX1) (N := 4) rfl dX10_begin_56 (R.oB (Or.inr (Or.inr rfl))).choose_spec rfl (Nat.le_of_ble_eq_true rfl) (Nat.le_of_ble_eq_true rfl) rfl rfl (tb_mark (Or.inr (Or.inr rfl)) R) (fun E u q => by cases q.1) (fun v u q => th_vU q (fun R => ?_))
  replace R := Rep.cg e16 R
  refine mm_aload_n dX10_begin_59 rfl ?_
  refine rC_getR (t := 82) lk_X10_23_X10 lay_110 rfl rfl dX10_begin_60 R ?_
  obtain ⟨C17, e18, H⟩ := hD H
  refine mm_callU (d' := d - 1) (x := ⟨"TestimonyBook$Facts", "mark", "()V"⟩) (owner := "TestimonyBook$Rows") (as := []) (st := []) (dS hd) cm_X9_mark rfl (mm_t3 156 rfl rfl) (mm_t3 157 rfl rfl) (mm_t3 148 rfl rfl) (mm_t3 158 rfl rfl) (T := TX3) (N := 9) rfl dX10_begin_63 (R.oC (r := 84) rfl lay_84) rfl (Nat.le_of_ble_eq_true rfl) (Nat.le_of_ble_eq_true rfl) rfl rfl (tr_mark lk_X9_13_X3 lk_X9_16_X3 rfl rfl lay_84 rfl rfl rfl R) (fun E u q => by cases q.1) (fun v u q => th_vU q (fun R => ?_))
  replace R := Rep.cg e18 R
  refine mm_aload_n dX10_begin_66 rfl ?_
  refine rC_getR (t := 89) lk_X10_27_X10 lay_110 rfl rfl dX10_begin_67 R ?_
  obtain ⟨C19, e20, H⟩ := hD H
  refine mm_callU (d' := d - 1) (x := ⟨"TestimonyBook$Mentions", "mark", "()V"⟩) (owner := "TestimonyBook$Rows") (as := []) (st := []) (dS hd) cm_X9_mark rfl (mm_t3 159 rfl rfl) (mm_t3 160 rfl rfl) (mm_t3 148 rfl rfl) (mm_t3 161 rfl rfl) (T := TX5) (N := 5) rfl dX10_begin_70 (R.oC (r := 91) rfl lay_91) rfl (Nat.le_of_ble_eq_true rfl) (Nat.le_of_ble_eq_true rfl) rfl rfl (tr_mark lk_X9_13_X5 lk_X9_16_X5 rfl rfl lay_91 rfl rfl rfl R) (fun E u q => by cases q.1) (fun v u q => th_vU q (fun R => ?_))
  replace R := Rep.cg e20 R
  refine mm_aload_n dX10_begin_73 rfl ?_
  refine rC_getR (t := 92) lk_X10_31_X10 lay_110 rfl rfl dX10_begin_74 R ?_
  obtain ⟨C21, e22, H⟩ := hD H
  refine mm_callU (d' := d - 1) (x := ⟨"TestimonyBook$Names", "mark", "()V"⟩) (owner := "TestimonyBook$Rows") (as := []) (st := []) (dS hd) cm_X9_mark rfl (mm_t3 162 rfl rfl) (mm_t3 163 rfl rfl) (mm_t3 148 rfl rfl) (mm_t3 164 rfl rfl) (T := TX6) (N := 6) rfl dX10_begin_77 (R.oC (r := 94) rfl lay_94) rfl (Nat.le_of_ble_eq_true rfl) (Nat.le_of_ble_eq_true rfl) rfl rfl (tr_mark lk_X9_13_X6 lk_X9_16_X6 rfl rfl lay_94 rfl rfl rfl R) (fun E u q => by cases q.1) (fun v u q => th_vU q (fun R => ?_))
  replace R := Rep.cg e22 R
  refine mm_vret rfl dX10_begin_80 ?_
  exact en_cV H R
def f_X10_sign (C : CS) : Option Int32 :=
  if (gI C 11006) ≤ (gI C 11007) then (some (-1))
    else (some (bat 65 (gI C 11007) C))
theorem t_X10_sign {g : mm_G} {d : Nat} {h : mm_Hp} {C D : CS} {r : Int32} (hd : 1 ≤ d) (R : Rep h C D) (H : f_X10_sign C = some r) : mm_P g d MX10_sign 0 [some (.ref 110)] [] h (mm_pureI r h) := by
  unfold f_X10_sign at H
  refine mm_aload_n dX10_sign_0 rfl ?_
  refine rC_get (key := 11007) lk_X10_39_X10 lay_110 rfl rfl rfl dX10_sign_1 R ?_
  refine mm_aload_n dX10_sign_4 rfl ?_
  refine rC_get (key := 11006) lk_X10_43_X10 lay_110 rfl rfl rfl dX10_sign_5 R ?_
  refine mm_icmp_ge 25 dX10_sign_8 (by decide) (fun c1 => ?_) (fun c1 => ?_)
  · replace H := hT c1 H
    refine mm_iconst (v := (-1)) dX10_sign_25 (by decide +kernel) ?_
    refine mm_iret rfl rfl dX10_sign_26 ?_
    exact en_pI H
  · replace H := hF c1 H
    refine mm_aload_n dX10_sign_11 rfl ?_
    refine rC_getR (t := 63) lk_X10_9_X10 lay_110 rfl rfl dX10_sign_12 R ?_
    refine mm_aload_n dX10_sign_15 rfl ?_
    refine rC_get (key := 11007) lk_X10_39_X10 lay_110 rfl rfl rfl dX10_sign_16 R ?_
    refine mm_callV (d' := d - 1) (as := [.int (gI C 11007)]) (st := []) (dS hd) cm_X1_byteAt (mm_t3 174 rfl rfl) (mm_t3 175 rfl rfl) (mm_t3 176 rfl rfl) (T := TX1) (N := 4) rfl dX10_sign_19 (R.oB (Or.inl rfl)).choose_spec rfl (Nat.le_of_ble_eq_true rfl) (Nat.le_of_ble_eq_true rfl) rfl rfl (tb_at (Or.inl rfl) R) (fun o u q => mm_thenI q ?_)
    refine mm_goto 26 dX10_sign_22 (by decide) ?_
    refine mm_iret rfl rfl dX10_sign_26 ?_
    exact en_pI H
def f_X10_refuse (x1 : Int32) (x2 : Int32) (C : CS) : Option (Int32 × CS) :=
  bd (sI C 11011 x1) fun C1 =>
  bd (sI C1 11012 x2) fun C3 =>
  some (0, C3)
theorem t_X10_refuse {g : mm_G} {d : Nat} {h : mm_Hp} {C D : CS} {x1 : Int32} {x2 : Int32} {r : (Int32 × CS)} (hd : 0 ≤ d) (R : Rep h C D) (H : f_X10_refuse x1 x2 C = some r) : mm_P g d MX10_refuse 0 [some (.ref 110), some (.int x1), some (.int x2)] [] h (cI D r) := by
  unfold f_X10_refuse at H
  refine mm_aload_n dX10_refuse_0 rfl ?_
  refine mm_iload_n dX10_refuse_1 rfl ?_
  obtain ⟨C1, e2, H⟩ := hD H
  refine rC_put (key := 11011) lk_X10_81_X10 lay_110 rfl rfl rfl rfl rfl dX10_refuse_2 R e2 (fun h R => ?_)
  refine mm_aload_n dX10_refuse_5 rfl ?_
  refine mm_iload_n dX10_refuse_6 rfl ?_
  obtain ⟨C3, e4, H⟩ := hD H
  refine rC_put (key := 11012) lk_X10_84_X10 lay_110 rfl rfl rfl rfl rfl dX10_refuse_7 R e4 (fun h R => ?_)
  refine mm_iconst (v := 0) dX10_refuse_10 (by decide +kernel) ?_
  refine mm_iret rfl rfl dX10_refuse_11 ?_
  exact en_cI H R
def f_X10_step (C : CS) : Option (Int32 × CS) :=
  if ((gI C 11007) - (gI C 11008)) < 60 then (bd (sI C 11007 ((gI C 11007) + 1)) fun C2 =>
    some (1, C2))
    else (bnd (f_X10_refuse 2 (gI C 11007) C) fun q4 =>
    if q4.1 &&& 1 = q4.1 then some (q4.1, q4.2) else none)
theorem t_X10_step {g : mm_G} {d : Nat} {h : mm_Hp} {C D : CS} {r : (Int32 × CS)} (hd : 1 ≤ d) (R : Rep h C D) (H : f_X10_step C = some r) : mm_P g d MX10_step 0 [some (.ref 110)] [] h (cI D r) := by
  unfold f_X10_step at H
  refine mm_aload_n dX10_step_0 rfl ?_
  refine rC_get (key := 11007) lk_X10_39_X10 lay_110 rfl rfl rfl dX10_step_1 R ?_
  refine mm_aload_n dX10_step_4 rfl ?_
  refine rC_get (key := 11008) lk_X10_54_X10 lay_110 rfl rfl rfl dX10_step_5 R ?_
  refine mm_isub dX10_step_8 ?_
  refine mm_bipush (v := 60) dX10_step_9 (by decide +kernel) ?_
  refine mm_icmp_lt 24 dX10_step_11 (by decide) (fun c1 => ?_) (fun c1 => ?_)
  · replace H := hT c1 H
    refine mm_aload_n dX10_step_24 rfl ?_
    refine mm_dup rfl dX10_step_25 ?_
    refine rC_get (key := 11007) lk_X10_39_X10 lay_110 rfl rfl rfl dX10_step_26 R ?_
    refine mm_iconst (v := 1) dX10_step_29 (by decide +kernel) ?_
    refine mm_iadd dX10_step_30 ?_
    obtain ⟨C2, e3, H⟩ := hD H
    refine rC_put (key := 11007) lk_X10_39_X10 lay_110 rfl rfl rfl rfl rfl dX10_step_31 R e3 (fun h R => ?_)
    refine mm_iconst (v := 1) dX10_step_34 (by decide +kernel) ?_
    refine mm_iret rfl rfl dX10_step_35 ?_
    exact en_cI H R
  · replace H := hF c1 H
    refine mm_aload_n dX10_step_14 rfl ?_
    refine mm_iconst (v := 2) dX10_step_15 (by decide +kernel) ?_
    refine mm_aload_n dX10_step_16 rfl ?_
    refine rC_get (key := 11007) lk_X10_39_X10 lay_110 rfl rfl rfl dX10_step_17 R ?_
    obtain ⟨q4, H5, H⟩ := hC H
    refine mm_callV (d' := d - 1) (as := [.int 2, .int (gI C 11007)]) (st := []) (dS hd) cm_X10_refuse (mm_t4 27 rfl rfl) (mm_t4 29 rfl rfl) (mm_s1 11 rfl rfl) (T := TX10) (N := 13) rfl dX10_step_20 (R.oC (r := 110) rfl lay_110) rfl (Nat.le_of_ble_eq_true rfl) (Nat.le_of_ble_eq_true rfl) rfl rfl (t_X10_refuse (dL hd (by decide)) R H5) (fun o h q => th_cI q (fun R => ?_))
    obtain ⟨b6, H⟩ := hB H
    refine mm_iret rfl (congrArg Value.int b6) dX10_step_23 ?_
    exact en_cI H R
def f_X10_expect (x1 : Int32) (C : CS) : Option (Int32 × CS) :=
  bnd (f_X10_sign C) fun q1 =>
  if q1 = x1 then (bnd (f_X10_step C) fun q7 =>
    if q7.1 &&& 1 = q7.1 then some (q7.1, q7.2) else none)
    else (bnd (f_X10_refuse 1 (gI C 11007) C) fun q4 =>
    if q4.1 &&& 1 = q4.1 then some (q4.1, q4.2) else none)
theorem t_X10_expect {g : mm_G} {d : Nat} {h : mm_Hp} {C D : CS} {x1 : Int32} {r : (Int32 × CS)} (hd : 2 ≤ d) (R : Rep h C D) (H : f_X10_expect x1 C = some r) : mm_P g d MX10_expect 0 [some (.ref 110), some (.int x1)] [] h (cI D r) := by
  unfold f_X10_expect at H
  refine mm_aload_n dX10_expect_0 rfl ?_
  obtain ⟨q1, H2, H⟩ := hC H
  refine mm_callV (d' := d - 1) (as := []) (st := []) (dS hd) cm_X10_sign (mm_t3 170 rfl rfl) (mm_t3 172 rfl rfl) (mm_s1 9 rfl rfl) (T := TX10) (N := 13) rfl dX10_expect_1 (R.oC (r := 110) rfl lay_110) rfl (Nat.le_of_ble_eq_true rfl) (Nat.le_of_ble_eq_true rfl) rfl rfl (t_X10_sign (dL hd (by decide)) R H2) (fun o u q => mm_thenI q ?_)
  refine mm_iload_n dX10_expect_4 rfl ?_
  refine mm_icmp_ne 15 dX10_expect_5 (by decide) (fun c3 => ?_) (fun c3 => ?_)
  · replace H := hF c3 H
    refine mm_aload_n dX10_expect_15 rfl ?_
    refine mm_iconst (v := 1) dX10_expect_16 (by decide +kernel) ?_
    refine mm_aload_n dX10_expect_17 rfl ?_
    refine rC_get (key := 11007) lk_X10_39_X10 lay_110 rfl rfl rfl dX10_expect_18 R ?_
    obtain ⟨q4, H5, H⟩ := hC H
    refine mm_callV (d' := d - 1) (as := [.int 1, .int (gI C 11007)]) (st := []) (dS hd) cm_X10_refuse (mm_t4 27 rfl rfl) (mm_t4 29 rfl rfl) (mm_s1 11 rfl rfl) (T := TX10) (N := 13) rfl dX10_expect_21 (R.oC (r := 110) rfl lay_110) rfl (Nat.le_of_ble_eq_true rfl) (Nat.le_of_ble_eq_true rfl) rfl rfl (t_X10_refuse (dL hd (by decide)) R H5) (fun o h q => th_cI q (fun R => ?_))
    obtain ⟨b6, H⟩ := hB H
    refine mm_iret rfl (congrArg Value.int b6) dX10_expect_24 ?_
    exact en_cI H R
  · replace H := hT c3 H
    refine mm_aload_n dX10_expect_8 rfl ?_
    obtain ⟨q7, H8, H⟩ := hC H
    refine mm_callV (d' := d - 1) (as := []) (st := []) (dS hd) cm_X10_step (mm_t4 42 rfl rfl) (mm_t4 44 rfl rfl) (mm_s1 13 rfl rfl) (T := TX10) (N := 13) rfl dX10_expect_9 (R.oC (r := 110) rfl lay_110) rfl (Nat.le_of_ble_eq_true rfl) (Nat.le_of_ble_eq_true rfl) rfl rfl (t_X10_step (dL hd (by decide)) R H8) (fun o h q => th_cI q (fun R => ?_))
    refine mm_goto 24 dX10_expect_12 (by decide) ?_
    obtain ⟨b9, H⟩ := hB H
    refine mm_iret rfl (congrArg Value.int b9) dX10_expect_24 ?_
    exact en_cI H R
def f_X4_canGoOn (x1 : Int32) (C : CS) : Option Int32 :=
  if (gI C 6901) ≤ 0 then (some 0)
    else (if inb ((gI C 6901) - 1) 200 = true then (if (gA C 71 (((gI C 6901) - 1)).toNatClampNeg) = x1 then (if inb ((gI C 6901) - 1) 200 = true then (if (gA C 70 (((gI C 6901) - 1)).toNatClampNeg) = 5 then (some 0)
        else (some 1)) else none)
      else (some 0)) else none)
theorem t_X4_canGoOn {g : mm_G} {d : Nat} {h : mm_Hp} {C D : CS} {x1 : Int32} {r : Int32} (hd : 0 ≤ d) (R : Rep h C D) (H : f_X4_canGoOn x1 C = some r) : mm_P g d MX4_canGoOn 0 [some (.ref 69), some (.int x1)] [] h (mm_pureI r h) := by
  unfold f_X4_canGoOn at H
  refine mm_aload_n dX4_canGoOn_0 rfl ?_
  refine rC_get (key := 6901) lk_X4_30_X4 lay_69 rfl rfl rfl dX4_canGoOn_1 R ?_
  refine mm_if_le 41 dX4_canGoOn_4 (by decide) (fun c1 => ?_) (fun c1 => ?_)
  · replace H := hT c1 H
    refine mm_iconst (v := 0) dX4_canGoOn_41 (by decide +kernel) ?_
    refine mm_iret rfl rfl dX4_canGoOn_42 ?_
    exact en_pI H
  · replace H := hF c1 H
    refine mm_aload_n dX4_canGoOn_7 rfl ?_
    refine rC_getR (t := 69) lk_X4_15_X4 lay_69 rfl rfl dX4_canGoOn_8 R ?_
    refine mm_aload_n dX4_canGoOn_11 rfl ?_
    refine rC_get (key := 6901) lk_X4_30_X4 lay_69 rfl rfl rfl dX4_canGoOn_12 R ?_
    refine mm_iconst (v := 1) dX4_canGoOn_15 (by decide +kernel) ?_
    refine mm_isub dX4_canGoOn_16 ?_
    obtain ⟨b2, H⟩ := hB H
    refine rC_iald lay_71 rfl dX4_canGoOn_17 R b2 ?_
    refine mm_iload_n dX4_canGoOn_18 rfl ?_
    refine mm_icmp_ne 41 dX4_canGoOn_19 (by decide) (fun c3 => ?_) (fun c3 => ?_)
    · replace H := hF c3 H
      refine mm_iconst (v := 0) dX4_canGoOn_41 (by decide +kernel) ?_
      refine mm_iret rfl rfl dX4_canGoOn_42 ?_
      exact en_pI H
    · replace H := hT c3 H
      refine mm_aload_n dX4_canGoOn_22 rfl ?_
      refine rC_getR (t := 68) lk_X4_9_X4 lay_69 rfl rfl dX4_canGoOn_23 R ?_
      refine mm_aload_n dX4_canGoOn_26 rfl ?_
      refine rC_get (key := 6901) lk_X4_30_X4 lay_69 rfl rfl rfl dX4_canGoOn_27 R ?_
      refine mm_iconst (v := 1) dX4_canGoOn_30 (by decide +kernel) ?_
      refine mm_isub dX4_canGoOn_31 ?_
      obtain ⟨b4, H⟩ := hB H
      refine rC_iald lay_70 rfl dX4_canGoOn_32 R b4 ?_
      refine mm_iconst (v := 5) dX4_canGoOn_33 (by decide +kernel) ?_
      refine mm_icmp_eq 41 dX4_canGoOn_34 (by decide) (fun c5 => ?_) (fun c5 => ?_)
      · replace H := hT c5 H
        refine mm_iconst (v := 0) dX4_canGoOn_41 (by decide +kernel) ?_
        refine mm_iret rfl rfl dX4_canGoOn_42 ?_
        exact en_pI H
      · replace H := hF c5 H
        refine mm_iconst (v := 1) dX4_canGoOn_37 (by decide +kernel) ?_
        refine mm_goto 42 dX4_canGoOn_38 (by decide) ?_
        refine mm_iret rfl rfl dX4_canGoOn_42 ?_
        exact en_pI H
def f_X10_takeHead_J81 (C : CS) : Option (Int32 × CS) :=
  if (fullT (gI C 6901) (gI C 6900)) = 0 then (bd (sI C 11007 ((gI C 11007) + 1)) fun C4 =>
    bnd (f_X10_expect 32 C4) fun q6 =>
    if q6.1 &&& 1 = q6.1 then some (q6.1, q6.2) else none)
    else (bnd (f_X10_refuse 5 (gI C 11007) C) fun q9 =>
    if q9.1 &&& 1 = q9.1 then some (q9.1, q9.2) else none)
theorem t_X10_takeHead_J81 {g : mm_G} {d : Nat} {h : mm_Hp} {C D : CS} {r : (Int32 × CS)} (hd : 3 ≤ d) (R : Rep h C D) (H : f_X10_takeHead_J81 C = some r) : mm_P g d MX10_takeHead 81 [some (.ref 110), none, none, none] [] h (cI D r) := by
  unfold f_X10_takeHead_J81 at H
  refine mm_aload_n dX10_takeHead_81 rfl ?_
  refine rC_getR (t := 67) lk_X10_15_X10 lay_110 rfl rfl dX10_takeHead_82 R ?_
  refine mm_callU (d' := d - 1) (x := ⟨"TestimonyBook$Lines", "isFull", "()Z"⟩) (owner := "TestimonyBook$Rows") (as := []) (st := []) (dS hd) cm_X9_isFull rfl (mm_t4 35 rfl rfl) (mm_t4 36 rfl rfl) (mm_t3 40 rfl rfl) (mm_t4 37 rfl rfl) (T := TX4) (N := 9) rfl dX10_takeHead_85 (R.oC (r := 69) rfl lay_69) rfl (Nat.le_of_ble_eq_true rfl) (Nat.le_of_ble_eq_true rfl) rfl rfl (tr_full lk_X9_13_X4 lk_X9_7_X4 lay_69 rfl rfl rfl R) (fun E u q => by cases q.1) (fun v u q => th_pU q ?_)
  refine mm_if_eq 101 dX10_takeHead_88 (by decide) (fun c3 => ?_) (fun c3 => ?_)
  · replace H := hT c3 H
    refine mm_aload_n dX10_takeHead_101 rfl ?_
    refine mm_dup rfl dX10_takeHead_102 ?_
    refine rC_get (key := 11007) lk_X10_39_X10 lay_110 rfl rfl rfl dX10_takeHead_103 R ?_
    refine mm_iconst (v := 1) dX10_takeHead_106 (by decide +kernel) ?_
    refine mm_iadd dX10_takeHead_107 ?_
    obtain ⟨C4, e5, H⟩ := hD H
    refine rC_put (key := 11007) lk_X10_39_X10 lay_110 rfl rfl rfl rfl rfl dX10_takeHead_108 R e5 (fun h R => ?_)
    refine mm_aload_n dX10_takeHead_111 rfl ?_
    refine mm_bipush (v := 32) dX10_takeHead_112 (by decide +kernel) ?_
    obtain ⟨q6, H7, H⟩ := hC H
    refine mm_callV (d' := d - 1) (as := [.int 32]) (st := []) (dS hd) cm_X10_expect (mm_t4 38 rfl rfl) (mm_t4 40 rfl rfl) (mm_s1 12 rfl rfl) (T := TX10) (N := 13) rfl dX10_takeHead_114 (R.oC (r := 110) rfl lay_110) rfl (Nat.le_of_ble_eq_true rfl) (Nat.le_of_ble_eq_true rfl) rfl rfl (t_X10_expect (dL hd (by decide)) R H7) (fun o h q => th_cI q (fun R => ?_))
    obtain ⟨b8, H⟩ := hB H
    refine mm_iret rfl (congrArg Value.int b8) dX10_takeHead_117 ?_
    exact en_cI H R
  · replace H := hF c3 H
    refine mm_aload_n dX10_takeHead_91 rfl ?_
    refine mm_iconst (v := 5) dX10_takeHead_92 (by decide +kernel) ?_
    refine mm_aload_n dX10_takeHead_93 rfl ?_
    refine rC_get (key := 11007) lk_X10_39_X10 lay_110 rfl rfl rfl dX10_takeHead_94 R ?_
    obtain ⟨q9, H10, H⟩ := hC H
    refine mm_callV (d' := d - 1) (as := [.int 5, .int (gI C 11007)]) (st := []) (dS hd) cm_X10_refuse (mm_t4 27 rfl rfl) (mm_t4 29 rfl rfl) (mm_s1 11 rfl rfl) (T := TX10) (N := 13) rfl dX10_takeHead_97 (R.oC (r := 110) rfl lay_110) rfl (Nat.le_of_ble_eq_true rfl) (Nat.le_of_ble_eq_true rfl) rfl rfl (t_X10_refuse (dL hd (by decide)) R H10) (fun o h q => th_cI q (fun R => ?_))
    obtain ⟨b11, H⟩ := hB H
    refine mm_iret rfl (congrArg Value.int b11) dX10_takeHead_100 ?_
    exact en_cI H R
def f_X10_takeHead_J54 (x2 : Int32) (C : CS) : Option (Int32 × CS) :=
  f_X10_takeHead_J81 C
theorem t_X10_takeHead_J54 {g : mm_G} {d : Nat} {h : mm_Hp} {C D : CS} {x2 : Int32} {r : (Int32 × CS)} (hd : 3 ≤ d) (R : Rep h C D) (H : f_X10_takeHead_J54 x2 C = some r) : mm_P g d MX10_takeHead 54 [some (.ref 110), none, some (.int x2), none] [] h (cI D r) := by
  unfold f_X10_takeHead_J54 at H
  refine mm_iconst (v := 0) dX10_takeHead_54 (by decide +kernel) ?_
  refine mm_istore_n (ls' := [some (.ref 110), none, some (.int x2), some (.int 0)]) dX10_takeHead_55 (Nat.le_of_ble_eq_true rfl) rfl ?_
  refine mm_iload_n dX10_takeHead_56 rfl ?_
  refine mm_if_eq 81 dX10_takeHead_57 (by decide) (fun _ => ?_) (fun c => absurd (by decide) c)
  refine mm_fgt (ls' := [some (.ref 110), none, none, none]) ⟨rfl, trivial⟩ ?_
  exact t_X10_takeHead_J81 hd R H
def f_X10_takeHead (x1 : Int32) (x2 : Int32) (C : CS) : Option (Int32 × CS) :=
  if 0 ≤ x1 then (if x1 = 4 then (if (gI C 11006) ≤ ((gI C 11007) + 1) then (f_X10_takeHead_J54 x2 C)
        else (if (bat 65 ((gI C 11007) + 1) C) = 32 then (bnd (f_X4_canGoOn x2 C) fun q14 =>
          if q14 = 0 then (bnd (f_X10_refuse 3 (gI C 11007) C) fun q17 =>
            if q17.1 &&& 1 = q17.1 then some (q17.1, q17.2) else none)
            else (f_X10_takeHead_J81 C))
          else (f_X10_takeHead_J54 x2 C)))
      else (f_X10_takeHead_J54 x2 C))
    else (bnd (f_X10_refuse 1 (gI C 11007) C) fun q20 =>
    if q20.1 &&& 1 = q20.1 then some (q20.1, q20.2) else none)
theorem t_X10_takeHead {g : mm_G} {d : Nat} {h : mm_Hp} {C D : CS} {x1 : Int32} {x2 : Int32} {r : (Int32 × CS)} (hd : 3 ≤ d) (R : Rep h C D) (H : f_X10_takeHead x1 x2 C = some r) : mm_P g d MX10_takeHead 0 [some (.ref 110), some (.int x1), some (.int x2), none] [] h (cI D r) := by
  unfold f_X10_takeHead at H
  refine mm_iload_n dX10_takeHead_0 rfl ?_
  refine mm_if_ge 14 dX10_takeHead_1 (by decide) (fun c1 => ?_) (fun c1 => ?_)
  · replace H := hT c1 H
    refine mm_iload_n dX10_takeHead_14 rfl ?_
    refine mm_iconst (v := 4) dX10_takeHead_15 (by decide +kernel) ?_
    refine mm_icmp_ne 54 dX10_takeHead_16 (by decide) (fun c2 => ?_) (fun c2 => ?_)
    · replace H := hF c2 H
      refine mm_fgt (ls' := [some (.ref 110), none, some (.int x2), none]) ⟨rfl, rfl, trivial⟩ ?_
      exact t_X10_takeHead_J54 hd R H
    · replace H := hT c2 H
      refine mm_aload_n dX10_takeHead_19 rfl ?_
      refine rC_get (key := 11007) lk_X10_39_X10 lay_110 rfl rfl rfl dX10_takeHead_20 R ?_
      refine mm_iconst (v := 1) dX10_takeHead_23 (by decide +kernel) ?_
      refine mm_iadd dX10_takeHead_24 ?_
      refine mm_aload_n dX10_takeHead_25 rfl ?_
      refine rC_get (key := 11006) lk_X10_43_X10 lay_110 rfl rfl rfl dX10_takeHead_26 R ?_
      refine mm_icmp_ge 54 dX10_takeHead_29 (by decide) (fun c12 => ?_) (fun c12 => ?_)
      · replace H := hT c12 H
        refine mm_fgt (ls' := [some (.ref 110), none, some (.int x2), none]) ⟨rfl, rfl, trivial⟩ ?_
        exact t_X10_takeHead_J54 hd R H
      · replace H := hF c12 H
        refine mm_aload_n dX10_takeHead_32 rfl ?_
        refine rC_getR (t := 63) lk_X10_9_X10 lay_110 rfl rfl dX10_takeHead_33 R ?_
        refine mm_aload_n dX10_takeHead_36 rfl ?_
        refine rC_get (key := 11007) lk_X10_39_X10 lay_110 rfl rfl rfl dX10_takeHead_37 R ?_
        refine mm_iconst (v := 1) dX10_takeHead_40 (by decide +kernel) ?_
        refine mm_iadd dX10_takeHead_41 ?_
        refine mm_callV (d' := d - 1) (as := [.int ((gI C 11007) + 1)]) (st := []) (dS hd) cm_X1_byteAt (mm_t3 174 rfl rfl) (mm_t3 175 rfl rfl) (mm_t3 176 rfl rfl) (T := TX1) (N := 4) rfl dX10_takeHead_42 (R.oB (Or.inl rfl)).choose_spec rfl (Nat.le_of_ble_eq_true rfl) (Nat.le_of_ble_eq_true rfl) rfl rfl (tb_at (Or.inl rfl) R) (fun o u q => mm_thenI q ?_)
        refine mm_bipush (v := 32) dX10_takeHead_45 (by decide +kernel) ?_
        refine mm_icmp_ne 54 dX10_takeHead_47 (by decide) (fun c13 => ?_) (fun c13 => ?_)
        · replace H := hF c13 H
          refine mm_fgt (ls' := [some (.ref 110), none, some (.int x2), none]) ⟨rfl, rfl, trivial⟩ ?_
          exact t_X10_takeHead_J54 hd R H
        · replace H := hT c13 H
          refine mm_iconst (v := 1) dX10_takeHead_50 (by decide +kernel) ?_
          refine mm_goto 55 dX10_takeHead_51 (by decide) ?_
          refine mm_istore_n (ls' := [some (.ref 110), some (.int x1), some (.int x2), some (.int 1)]) dX10_takeHead_55 (Nat.le_of_ble_eq_true rfl) rfl ?_
          refine mm_iload_n dX10_takeHead_56 rfl ?_
          refine mm_if_eq 81 dX10_takeHead_57 (by decide) (fun c => absurd c (by decide)) (fun _ => ?_)
          refine mm_aload_n dX10_takeHead_60 rfl ?_
          refine rC_getR (t := 67) lk_X10_15_X10 lay_110 rfl rfl dX10_takeHead_61 R ?_
          refine mm_iload_n dX10_takeHead_64 rfl ?_
          obtain ⟨q14, H15, H⟩ := hC H
          refine mm_callV (d' := d - 1) (as := [.int x2]) (st := []) (dS hd) cm_X4_canGoOn (mm_t4 31 rfl rfl) (mm_t4 32 rfl rfl) (mm_t4 33 rfl rfl) (T := TX4) (N := 9) rfl dX10_takeHead_65 (R.oC (r := 69) rfl lay_69) rfl (Nat.le_of_ble_eq_true rfl) (Nat.le_of_ble_eq_true rfl) rfl rfl (t_X4_canGoOn (dL hd (by decide)) R H15) (fun o u q => mm_thenI q ?_)
          refine mm_if_ne 81 dX10_takeHead_68 (by decide) (fun c16 => ?_) (fun c16 => ?_)
          · replace H := hF c16 H
            refine mm_fgt (ls' := [some (.ref 110), none, none, none]) ⟨rfl, trivial⟩ ?_
            exact t_X10_takeHead_J81 hd R H
          · replace H := hT c16 H
            refine mm_aload_n dX10_takeHead_71 rfl ?_
            refine mm_iconst (v := 3) dX10_takeHead_72 (by decide +kernel) ?_
            refine mm_aload_n dX10_takeHead_73 rfl ?_
            refine rC_get (key := 11007) lk_X10_39_X10 lay_110 rfl rfl rfl dX10_takeHead_74 R ?_
            obtain ⟨q17, H18, H⟩ := hC H
            refine mm_callV (d' := d - 1) (as := [.int 3, .int (gI C 11007)]) (st := []) (dS hd) cm_X10_refuse (mm_t4 27 rfl rfl) (mm_t4 29 rfl rfl) (mm_s1 11 rfl rfl) (T := TX10) (N := 13) rfl dX10_takeHead_77 (R.oC (r := 110) rfl lay_110) rfl (Nat.le_of_ble_eq_true rfl) (Nat.le_of_ble_eq_true rfl) rfl rfl (t_X10_refuse (dL hd (by decide)) R H18) (fun o h q => th_cI q (fun R => ?_))
            obtain ⟨b19, H⟩ := hB H
            refine mm_iret rfl (congrArg Value.int b19) dX10_takeHead_80 ?_
            exact en_cI H R
  · replace H := hF c1 H
    refine mm_aload_n dX10_takeHead_4 rfl ?_
    refine mm_iconst (v := 1) dX10_takeHead_5 (by decide +kernel) ?_
    refine mm_aload_n dX10_takeHead_6 rfl ?_
    refine rC_get (key := 11007) lk_X10_39_X10 lay_110 rfl rfl rfl dX10_takeHead_7 R ?_
    obtain ⟨q20, H21, H⟩ := hC H
    refine mm_callV (d' := d - 1) (as := [.int 1, .int (gI C 11007)]) (st := []) (dS hd) cm_X10_refuse (mm_t4 27 rfl rfl) (mm_t4 29 rfl rfl) (mm_s1 11 rfl rfl) (T := TX10) (N := 13) rfl dX10_takeHead_10 (R.oC (r := 110) rfl lay_110) rfl (Nat.le_of_ble_eq_true rfl) (Nat.le_of_ble_eq_true rfl) rfl rfl (t_X10_refuse (dL hd (by decide)) R H21) (fun o h q => th_cI q (fun R => ?_))
    obtain ⟨b22, H⟩ := hB H
    refine mm_iret rfl (congrArg Value.int b22) dX10_takeHead_13 ?_
    exact en_cI H R
def f_X4_setPage_J51 (x1 : Int32) (C : CS) : Option CS :=
  if inb (x1 - 1) 200 = true then (if inb x1 200 = true then (bd (sA C 72 (x1).toNatClampNeg ((gA C 72 ((x1 - 1)).toNatClampNeg) + 1)) fun C7 =>
  if inb x1 200 = true then (bd (sA C7 73 (x1).toNatClampNeg 1) fun C10 =>
  some C10) else none) else none) else none
theorem t_X4_setPage_J51 {g : mm_G} {d : Nat} {h : mm_Hp} {C D : CS} {x1 : Int32} {r : CS} (hd : 0 ≤ d) (R : Rep h C D) (H : f_X4_setPage_J51 x1 C = some r) : mm_P g d MX4_setPage 51 [some (.ref 69), some (.int x1)] [] h (cV D r) := by
  unfold f_X4_setPage_J51 at H
  refine mm_aload_n dX4_setPage_51 rfl ?_
  refine rC_getR (t := 70) lk_X4_18_X4 lay_69 rfl rfl dX4_setPage_52 R ?_
  refine mm_iload_n dX4_setPage_55 rfl ?_
  refine mm_aload_n dX4_setPage_56 rfl ?_
  refine rC_getR (t := 70) lk_X4_18_X4 lay_69 rfl rfl dX4_setPage_57 R ?_
  refine mm_iload_n dX4_setPage_60 rfl ?_
  refine mm_iconst (v := 1) dX4_setPage_61 (by decide +kernel) ?_
  refine mm_isub dX4_setPage_62 ?_
  obtain ⟨b5, H⟩ := hB H
  refine rC_iald lay_72 rfl dX4_setPage_63 R b5 ?_
  refine mm_iconst (v := 1) dX4_setPage_64 (by decide +kernel) ?_
  refine mm_iadd dX4_setPage_65 ?_
  obtain ⟨b6, H⟩ := hB H
  obtain ⟨C7, e8, H⟩ := hD H
  refine rC_iast lay_72 rfl dX4_setPage_66 R b6 e8 (fun h R => ?_)
  refine mm_aload_n dX4_setPage_67 rfl ?_
  refine rC_getR (t := 71) lk_X4_21_X4 lay_69 rfl rfl dX4_setPage_68 R ?_
  refine mm_iload_n dX4_setPage_71 rfl ?_
  refine mm_iconst (v := 1) dX4_setPage_72 (by decide +kernel) ?_
  obtain ⟨b9, H⟩ := hB H
  obtain ⟨C10, e11, H⟩ := hD H
  refine rC_iast lay_73 rfl dX4_setPage_73 R b9 e11 (fun h R => ?_)
  refine mm_goto 107 dX4_setPage_74 (by decide) ?_
  refine mm_vret rfl dX4_setPage_107 ?_
  exact en_cV H R
def f_X4_setPage (x1 : Int32) (C : CS) : Option CS :=
  if x1 = 0 then (if inb x1 200 = true then (bd (sA C 72 (x1).toNatClampNeg 1) fun C23 =>
    if inb x1 200 = true then (bd (sA C23 73 (x1).toNatClampNeg 1) fun C26 =>
    some C26) else none) else none)
    else (if inb (x1 - 1) 200 = true then (if inb x1 200 = true then (if (gA C 71 ((x1 - 1)).toNatClampNeg) = (gA C 71 (x1).toNatClampNeg) then (if inb (x1 - 1) 200 = true then (if (gA C 73 ((x1 - 1)).toNatClampNeg) = 10 then (f_X4_setPage_J51 x1 C)
        else (if inb (x1 - 1) 200 = true then (if inb x1 200 = true then (bd (sA C 72 (x1).toNatClampNeg (gA C 72 ((x1 - 1)).toNatClampNeg)) fun C16 =>
        if inb (x1 - 1) 200 = true then (if inb x1 200 = true then (bd (sA C16 73 (x1).toNatClampNeg ((gA C16 73 ((x1 - 1)).toNatClampNeg) + 1)) fun C20 =>
        some C20) else none) else none) else none) else none)) else none)
      else (f_X4_setPage_J51 x1 C)) else none) else none)
theorem t_X4_setPage {g : mm_G} {d : Nat} {h : mm_Hp} {C D : CS} {x1 : Int32} {r : CS} (hd : 0 ≤ d) (R : Rep h C D) (H : f_X4_setPage x1 C = some r) : mm_P g d MX4_setPage 0 [some (.ref 69), some (.int x1)] [] h (cV D r) := by
  unfold f_X4_setPage at H
  refine mm_iload_n dX4_setPage_0 rfl ?_
  refine mm_if_ne 21 dX4_setPage_1 (by decide) (fun c1 => ?_) (fun c1 => ?_)
  · replace H := hF c1 H
    refine mm_aload_n dX4_setPage_21 rfl ?_
    refine rC_getR (t := 69) lk_X4_15_X4 lay_69 rfl rfl dX4_setPage_22 R ?_
    refine mm_iload_n dX4_setPage_25 rfl ?_
    refine mm_iconst (v := 1) dX4_setPage_26 (by decide +kernel) ?_
    refine mm_isub dX4_setPage_27 ?_
    obtain ⟨b2, H⟩ := hB H
    refine rC_iald lay_71 rfl dX4_setPage_28 R b2 ?_
    refine mm_aload_n dX4_setPage_29 rfl ?_
    refine rC_getR (t := 69) lk_X4_15_X4 lay_69 rfl rfl dX4_setPage_30 R ?_
    refine mm_iload_n dX4_setPage_33 rfl ?_
    obtain ⟨b3, H⟩ := hB H
    refine rC_iald lay_71 rfl dX4_setPage_34 R b3 ?_
    refine mm_icmp_ne 51 dX4_setPage_35 (by decide) (fun c4 => ?_) (fun c4 => ?_)
    · replace H := hF c4 H
      exact t_X4_setPage_J51 hd R H
    · replace H := hT c4 H
      refine mm_aload_n dX4_setPage_38 rfl ?_
      refine rC_getR (t := 71) lk_X4_21_X4 lay_69 rfl rfl dX4_setPage_39 R ?_
      refine mm_iload_n dX4_setPage_42 rfl ?_
      refine mm_iconst (v := 1) dX4_setPage_43 (by decide +kernel) ?_
      refine mm_isub dX4_setPage_44 ?_
      obtain ⟨b12, H⟩ := hB H
      refine rC_iald lay_73 rfl dX4_setPage_45 R b12 ?_
      refine mm_bipush (v := 10) dX4_setPage_46 (by decide +kernel) ?_
      refine mm_icmp_ne 77 dX4_setPage_48 (by decide) (fun c13 => ?_) (fun c13 => ?_)
      · replace H := hF c13 H
        refine mm_aload_n dX4_setPage_77 rfl ?_
        refine rC_getR (t := 70) lk_X4_18_X4 lay_69 rfl rfl dX4_setPage_78 R ?_
        refine mm_iload_n dX4_setPage_81 rfl ?_
        refine mm_aload_n dX4_setPage_82 rfl ?_
        refine rC_getR (t := 70) lk_X4_18_X4 lay_69 rfl rfl dX4_setPage_83 R ?_
        refine mm_iload_n dX4_setPage_86 rfl ?_
        refine mm_iconst (v := 1) dX4_setPage_87 (by decide +kernel) ?_
        refine mm_isub dX4_setPage_88 ?_
        obtain ⟨b14, H⟩ := hB H
        refine rC_iald lay_72 rfl dX4_setPage_89 R b14 ?_
        obtain ⟨b15, H⟩ := hB H
        obtain ⟨C16, e17, H⟩ := hD H
        refine rC_iast lay_72 rfl dX4_setPage_90 R b15 e17 (fun h R => ?_)
        refine mm_aload_n dX4_setPage_91 rfl ?_
        refine rC_getR (t := 71) lk_X4_21_X4 lay_69 rfl rfl dX4_setPage_92 R ?_
        refine mm_iload_n dX4_setPage_95 rfl ?_
        refine mm_aload_n dX4_setPage_96 rfl ?_
        refine rC_getR (t := 71) lk_X4_21_X4 lay_69 rfl rfl dX4_setPage_97 R ?_
        refine mm_iload_n dX4_setPage_100 rfl ?_
        refine mm_iconst (v := 1) dX4_setPage_101 (by decide +kernel) ?_
        refine mm_isub dX4_setPage_102 ?_
        obtain ⟨b18, H⟩ := hB H
        refine rC_iald lay_73 rfl dX4_setPage_103 R b18 ?_
        refine mm_iconst (v := 1) dX4_setPage_104 (by decide +kernel) ?_
        refine mm_iadd dX4_setPage_105 ?_
        obtain ⟨b19, H⟩ := hB H
        obtain ⟨C20, e21, H⟩ := hD H
        refine rC_iast lay_73 rfl dX4_setPage_106 R b19 e21 (fun h R => ?_)
        refine mm_vret rfl dX4_setPage_107 ?_
        exact en_cV H R
      · replace H := hT c13 H
        exact t_X4_setPage_J51 hd R H
  · replace H := hT c1 H
    refine mm_aload_n dX4_setPage_4 rfl ?_
    refine rC_getR (t := 70) lk_X4_18_X4 lay_69 rfl rfl dX4_setPage_5 R ?_
    refine mm_iload_n dX4_setPage_8 rfl ?_
    refine mm_iconst (v := 1) dX4_setPage_9 (by decide +kernel) ?_
    obtain ⟨b22, H⟩ := hB H
    obtain ⟨C23, e24, H⟩ := hD H
    refine rC_iast lay_72 rfl dX4_setPage_10 R b22 e24 (fun h R => ?_)
    refine mm_aload_n dX4_setPage_11 rfl ?_
    refine rC_getR (t := 71) lk_X4_21_X4 lay_69 rfl rfl dX4_setPage_12 R ?_
    refine mm_iload_n dX4_setPage_15 rfl ?_
    refine mm_iconst (v := 1) dX4_setPage_16 (by decide +kernel) ?_
    obtain ⟨b25, H⟩ := hB H
    obtain ⟨C26, e27, H⟩ := hD H
    refine rC_iast lay_73 rfl dX4_setPage_17 R b25 e27 (fun h R => ?_)
    refine mm_goto 107 dX4_setPage_18 (by decide) ?_
    refine mm_vret rfl dX4_setPage_107 ?_
    exact en_cV H R
def f_X4_entryBefore_L4 (N : Nat) (x1 : Int32) (C : CS) : Nat → Int32 → Option (Int32 ⊕ (Unit))
  | 0, _ => none
  | n + 1, x2 => if x2 < 0 then (some (.inr ()))
    else (if inb x2 200 = true then (if inb x1 200 = true then (if (gA C 71 (x2).toNatClampNeg) = (gA C 71 (x1).toNatClampNeg) then (if inb x2 200 = true then (if (gA C 70 (x2).toNatClampNeg) = 5 then (f_X4_entryBefore_L4 N x1 C n (x2 + (-1)))
        else (if inb x2 200 = true then (some (.inl (gA C 74 (x2).toNatClampNeg))) else none)) else none)
      else (some (.inr ()))) else none) else none)
theorem t_X4_entryBefore_L4 {g : mm_G} {d : Nat} {Post : mm_Ou → mm_Hp → Prop} {h : mm_Hp} {C D : CS} {N : Nat} {x1 : Int32} {res : (Int32 ⊕ (Unit))} (hd : 0 ≤ d) (R : Rep h C D) (KR : ∀ (q : Int32), res = .inl q → Post (.inl (some (.int q))) h) (KE : ∀ (q : Unit), res = .inr q → mm_P g d MX4_entryBefore 46 [none, none, none] [] h Post) : ∀ (n : Nat) (x2 : Int32) , f_X4_entryBefore_L4 N x1 C n x2 = some res → mm_P g d MX4_entryBefore 4 [some (.ref 69), some (.int x1), some (.int x2)] [] h Post := by
  intro n
  induction n with
  | zero =>
    intro x2 H
    exact hN H
  | succ n ih =>
    intro x2 H
    unfold f_X4_entryBefore_L4 at H
    refine mm_iload_n dX4_entryBefore_4 rfl ?_
    refine mm_if_lt 46 dX4_entryBefore_5 (by decide) (fun c1 => ?_) (fun c1 => ?_)
    · replace H := hT c1 H
      refine mm_fgt (ls' := [none, none, none]) trivial ?_
      exact KE _ (Option.some.inj H).symm
    · replace H := hF c1 H
      refine mm_aload_n dX4_entryBefore_8 rfl ?_
      refine rC_getR (t := 69) lk_X4_15_X4 lay_69 rfl rfl dX4_entryBefore_9 R ?_
      refine mm_iload_n dX4_entryBefore_12 rfl ?_
      obtain ⟨b2, H⟩ := hB H
      refine rC_iald lay_71 rfl dX4_entryBefore_13 R b2 ?_
      refine mm_aload_n dX4_entryBefore_14 rfl ?_
      refine rC_getR (t := 69) lk_X4_15_X4 lay_69 rfl rfl dX4_entryBefore_15 R ?_
      refine mm_iload_n dX4_entryBefore_18 rfl ?_
      obtain ⟨b3, H⟩ := hB H
      refine rC_iald lay_71 rfl dX4_entryBefore_19 R b3 ?_
      refine mm_icmp_ne 46 dX4_entryBefore_20 (by decide) (fun c4 => ?_) (fun c4 => ?_)
      · replace H := hF c4 H
        refine mm_fgt (ls' := [none, none, none]) trivial ?_
        exact KE _ (Option.some.inj H).symm
      · replace H := hT c4 H
        refine mm_aload_n dX4_entryBefore_23 rfl ?_
        refine rC_getR (t := 68) lk_X4_9_X4 lay_69 rfl rfl dX4_entryBefore_24 R ?_
        refine mm_iload_n dX4_entryBefore_27 rfl ?_
        obtain ⟨b5, H⟩ := hB H
        refine rC_iald lay_70 rfl dX4_entryBefore_28 R b5 ?_
        refine mm_iconst (v := 5) dX4_entryBefore_29 (by decide +kernel) ?_
        refine mm_icmp_eq 40 dX4_entryBefore_30 (by decide) (fun c6 => ?_) (fun c6 => ?_)
        · replace H := hT c6 H
          refine mm_iinc (v := (x2 + (-1))) (ls' := [some (.ref 69), some (.int x1), some (.int (x2 + (-1)))]) dX4_entryBefore_40 rfl rfl rfl ?_
          refine mm_goto 4 dX4_entryBefore_43 (by decide) ?_
          exact ih _ H
        · replace H := hF c6 H
          refine mm_aload_n dX4_entryBefore_33 rfl ?_
          refine rC_getR (t := 72) lk_X4_24_X4 lay_69 rfl rfl dX4_entryBefore_34 R ?_
          refine mm_iload_n dX4_entryBefore_37 rfl ?_
          obtain ⟨b7, H⟩ := hB H
          refine rC_iald lay_74 rfl dX4_entryBefore_38 R b7 ?_
          refine mm_iret rfl rfl dX4_entryBefore_39 ?_
          exact KR _ (Option.some.inj H).symm
def f_X4_entryBefore (N : Nat) (x1 : Int32) (C : CS) : Option Int32 :=
  bns (f_X4_entryBefore_L4 N x1 C N (x1 - 1)) (fun q8 => some q8) fun q8 =>
    some (-1)
theorem t_X4_entryBefore {g : mm_G} {d : Nat} {h : mm_Hp} {C D : CS} {N : Nat} {x1 : Int32} {r : Int32} (hd : 0 ≤ d) (R : Rep h C D) (H : f_X4_entryBefore N x1 C = some r) : mm_P g d MX4_entryBefore 0 [some (.ref 69), some (.int x1), none] [] h (mm_pureI r h) := by
  unfold f_X4_entryBefore at H
  refine mm_iload_n dX4_entryBefore_0 rfl ?_
  refine mm_iconst (v := 1) dX4_entryBefore_1 (by decide +kernel) ?_
  refine mm_isub dX4_entryBefore_2 ?_
  refine mm_istore_n (ls' := [some (.ref 69), some (.int x1), some (.int (x1 - 1))]) dX4_entryBefore_3 (Nat.le_of_ble_eq_true rfl) rfl ?_
  rcases hS H with ⟨q8, H9, H⟩ | ⟨q8, H9, H⟩
  · refine t_X4_entryBefore_L4 hd R (fun q e => ?_) (fun q e => by cases e) N _ H9
    cases e
    exact en_pI H
  · refine t_X4_entryBefore_L4 hd R (fun q e => by cases e) (fun q e => ?_) N _ H9
    cases e
    refine mm_iconst (v := (-1)) dX4_entryBefore_46 (by decide +kernel) ?_
    refine mm_iret rfl rfl dX4_entryBefore_47 ?_
    exact en_pI H
def f_X4_setEntry (N : Nat) (x1 : Int32) (C : CS) : Option CS :=
  bnd (f_X4_entryBefore N x1 C) fun q1 =>
  if inb x1 200 = true then (if (gA C 70 (x1).toNatClampNeg) = 5 then (if inb x1 200 = true then (bd (sA C 74 (x1).toNatClampNeg (-1)) fun C22 =>
    some C22) else none)
    else (if inb x1 200 = true then (if (gA C 70 (x1).toNatClampNeg) = 4 then (if inb x1 200 = true then (bd (sA C 74 (x1).toNatClampNeg q1) fun C19 =>
      some C19) else none)
      else (if inb x1 200 = true then (bd (sA C 74 (x1).toNatClampNeg x1) fun C8 =>
      if q1 = (-1) then (some C8)
        else (if inb q1 200 = true then (if (gA C8 70 (q1).toNatClampNeg) = 0 then (if inb x1 200 = true then (if (gA C8 70 (x1).toNatClampNeg) = 0 then (some C8)
            else (if inb q1 200 = true then (bd (sA C8 75 (q1).toNatClampNeg x1) fun C16 =>
            some C16) else none)) else none)
          else (some C8)) else none)) else none)) else none)) else none
theorem t_X4_setEntry {g : mm_G} {d : Nat} {h : mm_Hp} {C D : CS} {N : Nat} {x1 : Int32} {r : CS} (hd : 1 ≤ d) (R : Rep h C D) (H : f_X4_setEntry N x1 C = some r) : mm_P g d MX4_setEntry 0 [some (.ref 69), some (.int x1), none] [] h (cV D r) := by
  unfold f_X4_setEntry at H
  refine mm_aload_n dX4_setEntry_0 rfl ?_
  refine mm_iload_n dX4_setEntry_1 rfl ?_
  obtain ⟨q1, H2, H⟩ := hC H
  refine mm_callV (d' := d - 1) (as := [.int x1]) (st := []) (dS hd) cm_X4_entryBefore (mm_t4 58 rfl rfl) (mm_t4 60 rfl rfl) (mm_s2 0 rfl rfl) (T := TX4) (N := 9) rfl dX4_setEntry_2 (R.oC (r := 69) rfl lay_69) rfl (Nat.le_of_ble_eq_true rfl) (Nat.le_of_ble_eq_true rfl) rfl rfl (t_X4_entryBefore (dL hd (by decide)) R H2) (fun o u q => mm_thenI q ?_)
  refine mm_istore_n (ls' := [some (.ref 69), some (.int x1), some (.int q1)]) dX4_setEntry_5 (Nat.le_of_ble_eq_true rfl) rfl ?_
  refine mm_aload_n dX4_setEntry_6 rfl ?_
  refine rC_getR (t := 68) lk_X4_9_X4 lay_69 rfl rfl dX4_setEntry_7 R ?_
  refine mm_iload_n dX4_setEntry_10 rfl ?_
  obtain ⟨b3, H⟩ := hB H
  refine rC_iald lay_70 rfl dX4_setEntry_11 R b3 ?_
  refine mm_iconst (v := 5) dX4_setEntry_12 (by decide +kernel) ?_
  refine mm_icmp_ne 26 dX4_setEntry_13 (by decide) (fun c4 => ?_) (fun c4 => ?_)
  · replace H := hF c4 H
    refine mm_aload_n dX4_setEntry_26 rfl ?_
    refine rC_getR (t := 68) lk_X4_9_X4 lay_69 rfl rfl dX4_setEntry_27 R ?_
    refine mm_iload_n dX4_setEntry_30 rfl ?_
    obtain ⟨b5, H⟩ := hB H
    refine rC_iald lay_70 rfl dX4_setEntry_31 R b5 ?_
    refine mm_iconst (v := 4) dX4_setEntry_32 (by decide +kernel) ?_
    refine mm_icmp_ne 46 dX4_setEntry_33 (by decide) (fun c6 => ?_) (fun c6 => ?_)
    · replace H := hF c6 H
      refine mm_aload_n dX4_setEntry_46 rfl ?_
      refine rC_getR (t := 72) lk_X4_24_X4 lay_69 rfl rfl dX4_setEntry_47 R ?_
      refine mm_iload_n dX4_setEntry_50 rfl ?_
      refine mm_iload_n dX4_setEntry_51 rfl ?_
      obtain ⟨b7, H⟩ := hB H
      obtain ⟨C8, e9, H⟩ := hD H
      refine rC_iast lay_74 rfl dX4_setEntry_52 R b7 e9 (fun h R => ?_)
      refine mm_iload_n dX4_setEntry_53 rfl ?_
      refine mm_iconst (v := (-1)) dX4_setEntry_54 (by decide +kernel) ?_
      refine mm_icmp_eq 83 dX4_setEntry_55 (by decide) (fun c10 => ?_) (fun c10 => ?_)
      · replace H := hT c10 H
        refine mm_vret rfl dX4_setEntry_83 ?_
        exact en_cV H R
      · replace H := hF c10 H
        refine mm_aload_n dX4_setEntry_58 rfl ?_
        refine rC_getR (t := 68) lk_X4_9_X4 lay_69 rfl rfl dX4_setEntry_59 R ?_
        refine mm_iload_n dX4_setEntry_62 rfl ?_
        obtain ⟨b11, H⟩ := hB H
        refine rC_iald lay_70 rfl dX4_setEntry_63 R b11 ?_
        refine mm_if_ne 83 dX4_setEntry_64 (by decide) (fun c12 => ?_) (fun c12 => ?_)
        · replace H := hF c12 H
          refine mm_vret rfl dX4_setEntry_83 ?_
          exact en_cV H R
        · replace H := hT c12 H
          refine mm_aload_n dX4_setEntry_67 rfl ?_
          refine rC_getR (t := 68) lk_X4_9_X4 lay_69 rfl rfl dX4_setEntry_68 R ?_
          refine mm_iload_n dX4_setEntry_71 rfl ?_
          obtain ⟨b13, H⟩ := hB H
          refine rC_iald lay_70 rfl dX4_setEntry_72 R b13 ?_
          refine mm_if_eq 83 dX4_setEntry_73 (by decide) (fun c14 => ?_) (fun c14 => ?_)
          · replace H := hT c14 H
            refine mm_vret rfl dX4_setEntry_83 ?_
            exact en_cV H R
          · replace H := hF c14 H
            refine mm_aload_n dX4_setEntry_76 rfl ?_
            refine rC_getR (t := 73) lk_X4_27_X4 lay_69 rfl rfl dX4_setEntry_77 R ?_
            refine mm_iload_n dX4_setEntry_80 rfl ?_
            refine mm_iload_n dX4_setEntry_81 rfl ?_
            obtain ⟨b15, H⟩ := hB H
            obtain ⟨C16, e17, H⟩ := hD H
            refine rC_iast lay_75 rfl dX4_setEntry_82 R b15 e17 (fun h R => ?_)
            refine mm_vret rfl dX4_setEntry_83 ?_
            exact en_cV H R
    · replace H := hT c6 H
      refine mm_aload_n dX4_setEntry_36 rfl ?_
      refine rC_getR (t := 72) lk_X4_24_X4 lay_69 rfl rfl dX4_setEntry_37 R ?_
      refine mm_iload_n dX4_setEntry_40 rfl ?_
      refine mm_iload_n dX4_setEntry_41 rfl ?_
      obtain ⟨b18, H⟩ := hB H
      obtain ⟨C19, e20, H⟩ := hD H
      refine rC_iast lay_74 rfl dX4_setEntry_42 R b18 e20 (fun h R => ?_)
      refine mm_goto 83 dX4_setEntry_43 (by decide) ?_
      refine mm_vret rfl dX4_setEntry_83 ?_
      exact en_cV H R
  · replace H := hT c4 H
    refine mm_aload_n dX4_setEntry_16 rfl ?_
    refine rC_getR (t := 72) lk_X4_24_X4 lay_69 rfl rfl dX4_setEntry_17 R ?_
    refine mm_iload_n dX4_setEntry_20 rfl ?_
    refine mm_iconst (v := (-1)) dX4_setEntry_21 (by decide +kernel) ?_
    obtain ⟨b21, H⟩ := hB H
    obtain ⟨C22, e23, H⟩ := hD H
    refine rC_iast lay_74 rfl dX4_setEntry_22 R b21 e23 (fun h R => ?_)
    refine mm_goto 83 dX4_setEntry_23 (by decide) ?_
    refine mm_vret rfl dX4_setEntry_83 ?_
    exact en_cV H R
def f_X4_add (N : Nat) (x1 : Int32) (x2 : Int32) (C : CS) : Option CS :=
  if (gI C 6901) < (gI C 6900) then (if inb (gI C 6901) 200 = true then (bd (sA C 70 ((gI C 6901)).toNatClampNeg x1) fun C3 =>
    if inb (gI C3 6901) 200 = true then (bd (sA C3 71 ((gI C3 6901)).toNatClampNeg x2) fun C6 =>
    if inb (gI C6 6901) 200 = true then (bd (sA C6 75 ((gI C6 6901)).toNatClampNeg (-1)) fun C9 =>
    bnd (f_X4_setPage (gI C9 6901) C9) fun q11 =>
    bnd (f_X4_setEntry N (gI q11 6901) q11) fun q13 =>
    bd (sI q13 6901 ((gI q13 6901) + 1)) fun C15 =>
    some C15) else none) else none) else none)
    else (some C)
theorem t_X4_add {g : mm_G} {d : Nat} {h : mm_Hp} {C D : CS} {N : Nat} {x1 : Int32} {x2 : Int32} {r : CS} (hd : 2 ≤ d) (R : Rep h C D) (H : f_X4_add N x1 x2 C = some r) : mm_P g d MX4_add 0 [some (.ref 69), some (.int x1), some (.int x2)] [] h (cV D r) := by
  unfold f_X4_add at H
  refine mm_aload_n dX4_add_0 rfl ?_
  refine rC_get (key := 6901) lk_X4_30_X4 lay_69 rfl rfl rfl dX4_add_1 R ?_
  refine mm_aload_n dX4_add_4 rfl ?_
  refine rC_get (key := 6900) lk_X4_34_X4 lay_69 rfl rfl rfl dX4_add_5 R ?_
  refine mm_icmp_lt 12 dX4_add_8 (by decide) (fun c1 => ?_) (fun c1 => ?_)
  · replace H := hT c1 H
    refine mm_aload_n dX4_add_12 rfl ?_
    refine rC_getR (t := 68) lk_X4_9_X4 lay_69 rfl rfl dX4_add_13 R ?_
    refine mm_aload_n dX4_add_16 rfl ?_
    refine rC_get (key := 6901) lk_X4_30_X4 lay_69 rfl rfl rfl dX4_add_17 R ?_
    refine mm_iload_n dX4_add_20 rfl ?_
    obtain ⟨b2, H⟩ := hB H
    obtain ⟨C3, e4, H⟩ := hD H
    refine rC_iast lay_70 rfl dX4_add_21 R b2 e4 (fun h R => ?_)
    refine mm_aload_n dX4_add_22 rfl ?_
    refine rC_getR (t := 69) lk_X4_15_X4 lay_69 rfl rfl dX4_add_23 R ?_
    refine mm_aload_n dX4_add_26 rfl ?_
    refine rC_get (key := 6901) lk_X4_30_X4 lay_69 rfl rfl rfl dX4_add_27 R ?_
    refine mm_iload_n dX4_add_30 rfl ?_
    obtain ⟨b5, H⟩ := hB H
    obtain ⟨C6, e7, H⟩ := hD H
    refine rC_iast lay_71 rfl dX4_add_31 R b5 e7 (fun h R => ?_)
    refine mm_aload_n dX4_add_32 rfl ?_
    refine rC_getR (t := 73) lk_X4_27_X4 lay_69 rfl rfl dX4_add_33 R ?_
    refine mm_aload_n dX4_add_36 rfl ?_
    refine rC_get (key := 6901) lk_X4_30_X4 lay_69 rfl rfl rfl dX4_add_37 R ?_
    refine mm_iconst (v := (-1)) dX4_add_40 (by decide +kernel) ?_
    obtain ⟨b8, H⟩ := hB H
    obtain ⟨C9, e10, H⟩ := hD H
    refine rC_iast lay_75 rfl dX4_add_41 R b8 e10 (fun h R => ?_)
    refine mm_aload_n dX4_add_42 rfl ?_
    refine mm_aload_n dX4_add_43 rfl ?_
    refine rC_get (key := 6901) lk_X4_30_X4 lay_69 rfl rfl rfl dX4_add_44 R ?_
    obtain ⟨q11, H12, H⟩ := hC H
    refine mm_callV (d' := d - 1) (as := [.int (gI C9 6901)]) (st := []) (dS hd) cm_X4_setPage (mm_t4 50 rfl rfl) (mm_t4 52 rfl rfl) (mm_s1 14 rfl rfl) (T := TX4) (N := 9) rfl dX4_add_47 (R.oC (r := 69) rfl lay_69) rfl (Nat.le_of_ble_eq_true rfl) (Nat.le_of_ble_eq_true rfl) rfl rfl (t_X4_setPage (dL hd (by decide)) R H12) (fun o h q => th_cV q (fun R => ?_))
    refine mm_aload_n dX4_add_50 rfl ?_
    refine mm_aload_n dX4_add_51 rfl ?_
    refine rC_get (key := 6901) lk_X4_30_X4 lay_69 rfl rfl rfl dX4_add_52 R ?_
    obtain ⟨q13, H14, H⟩ := hC H
    refine mm_callV (d' := d - 1) (as := [.int (gI q11 6901)]) (st := []) (dS hd) cm_X4_setEntry (mm_t4 54 rfl rfl) (mm_t4 56 rfl rfl) (mm_s1 15 rfl rfl) (T := TX4) (N := 9) rfl dX4_add_55 (R.oC (r := 69) rfl lay_69) rfl (Nat.le_of_ble_eq_true rfl) (Nat.le_of_ble_eq_true rfl) rfl rfl (t_X4_setEntry (dL hd (by decide)) R H14) (fun o h q => th_cV q (fun R => ?_))
    refine mm_aload_n dX4_add_58 rfl ?_
    refine mm_dup rfl dX4_add_59 ?_
    refine rC_get (key := 6901) lk_X4_30_X4 lay_69 rfl rfl rfl dX4_add_60 R ?_
    refine mm_iconst (v := 1) dX4_add_63 (by decide +kernel) ?_
    refine mm_iadd dX4_add_64 ?_
    obtain ⟨C15, e16, H⟩ := hD H
    refine rC_put (key := 6901) lk_X4_30_X4 lay_69 rfl rfl rfl rfl rfl dX4_add_65 R e16 (fun h R => ?_)
    refine mm_vret rfl dX4_add_68 ?_
    exact en_cV H R
  · replace H := hF c1 H
    refine mm_vret rfl dX4_add_11 ?_
    exact en_cV H R
def f_X10_lineEnds (C : CS) : Option Int32 :=
  if (gI C 11006) ≤ (gI C 11007) then (some 1)
    else (bnd (f_X10_sign C) fun q2 =>
    if q2 = 10 then (some 1)
      else (some 0))
theorem t_X10_lineEnds {g : mm_G} {d : Nat} {h : mm_Hp} {C D : CS} {r : Int32} (hd : 2 ≤ d) (R : Rep h C D) (H : f_X10_lineEnds C = some r) : mm_P g d MX10_lineEnds 0 [some (.ref 110)] [] h (mm_pureI r h) := by
  unfold f_X10_lineEnds at H
  refine mm_aload_n dX10_lineEnds_0 rfl ?_
  refine rC_get (key := 11007) lk_X10_39_X10 lay_110 rfl rfl rfl dX10_lineEnds_1 R ?_
  refine mm_aload_n dX10_lineEnds_4 rfl ?_
  refine rC_get (key := 11006) lk_X10_43_X10 lay_110 rfl rfl rfl dX10_lineEnds_5 R ?_
  refine mm_icmp_ge 20 dX10_lineEnds_8 (by decide) (fun c1 => ?_) (fun c1 => ?_)
  · replace H := hT c1 H
    refine mm_iconst (v := 1) dX10_lineEnds_20 (by decide +kernel) ?_
    refine mm_goto 25 dX10_lineEnds_21 (by decide) ?_
    refine mm_iret rfl rfl dX10_lineEnds_25 ?_
    exact en_pI H
  · replace H := hF c1 H
    refine mm_aload_n dX10_lineEnds_11 rfl ?_
    obtain ⟨q2, H3, H⟩ := hC H
    refine mm_callV (d' := d - 1) (as := []) (st := []) (dS hd) cm_X10_sign (mm_t3 170 rfl rfl) (mm_t3 172 rfl rfl) (mm_s1 9 rfl rfl) (T := TX10) (N := 13) rfl dX10_lineEnds_12 (R.oC (r := 110) rfl lay_110) rfl (Nat.le_of_ble_eq_true rfl) (Nat.le_of_ble_eq_true rfl) rfl rfl (t_X10_sign (dL hd (by decide)) R H3) (fun o u q => mm_thenI q ?_)
    refine mm_bipush (v := 10) dX10_lineEnds_15 (by decide +kernel) ?_
    refine mm_icmp_ne 24 dX10_lineEnds_17 (by decide) (fun c4 => ?_) (fun c4 => ?_)
    · replace H := hF c4 H
      refine mm_iconst (v := 0) dX10_lineEnds_24 (by decide +kernel) ?_
      refine mm_iret rfl rfl dX10_lineEnds_25 ?_
      exact en_pI H
    · replace H := hT c4 H
      refine mm_iconst (v := 1) dX10_lineEnds_20 (by decide +kernel) ?_
      refine mm_goto 25 dX10_lineEnds_21 (by decide) ?_
      refine mm_iret rfl rfl dX10_lineEnds_25 ?_
      exact en_pI H
def f_X10_isPlain (x0 : Int32) (C : CS) : Option Int32 :=
  if x0 < 32 then (some 0)
    else (if 126 < x0 then (some 0)
      else (if x0 = 62 then (some 0)
        else (if x0 = 125 then (some 0)
          else (some 1))))
theorem t_X10_isPlain {g : mm_G} {d : Nat} {h : mm_Hp} {C D : CS} {x0 : Int32} {r : Int32} (hd : 0 ≤ d) (R : Rep h C D) (H : f_X10_isPlain x0 C = some r) : mm_P g d MX10_isPlain 0 [some (.int x0)] [] h (mm_pureI r h) := by
  unfold f_X10_isPlain at H
  refine mm_iload_n dX10_isPlain_0 rfl ?_
  refine mm_bipush (v := 32) dX10_isPlain_1 (by decide +kernel) ?_
  refine mm_icmp_lt 28 dX10_isPlain_3 (by decide) (fun c1 => ?_) (fun c1 => ?_)
  · replace H := hT c1 H
    refine mm_iconst (v := 0) dX10_isPlain_28 (by decide +kernel) ?_
    refine mm_iret rfl rfl dX10_isPlain_29 ?_
    exact en_pI H
  · replace H := hF c1 H
    refine mm_iload_n dX10_isPlain_6 rfl ?_
    refine mm_bipush (v := 126) dX10_isPlain_7 (by decide +kernel) ?_
    refine mm_icmp_gt 28 dX10_isPlain_9 (by decide) (fun c2 => ?_) (fun c2 => ?_)
    · replace H := hT c2 H
      refine mm_iconst (v := 0) dX10_isPlain_28 (by decide +kernel) ?_
      refine mm_iret rfl rfl dX10_isPlain_29 ?_
      exact en_pI H
    · replace H := hF c2 H
      refine mm_iload_n dX10_isPlain_12 rfl ?_
      refine mm_bipush (v := 62) dX10_isPlain_13 (by decide +kernel) ?_
      refine mm_icmp_eq 28 dX10_isPlain_15 (by decide) (fun c3 => ?_) (fun c3 => ?_)
      · replace H := hT c3 H
        refine mm_iconst (v := 0) dX10_isPlain_28 (by decide +kernel) ?_
        refine mm_iret rfl rfl dX10_isPlain_29 ?_
        exact en_pI H
      · replace H := hF c3 H
        refine mm_iload_n dX10_isPlain_18 rfl ?_
        refine mm_bipush (v := 125) dX10_isPlain_19 (by decide +kernel) ?_
        refine mm_icmp_eq 28 dX10_isPlain_21 (by decide) (fun c4 => ?_) (fun c4 => ?_)
        · replace H := hT c4 H
          refine mm_iconst (v := 0) dX10_isPlain_28 (by decide +kernel) ?_
          refine mm_iret rfl rfl dX10_isPlain_29 ?_
          exact en_pI H
        · replace H := hF c4 H
          refine mm_iconst (v := 1) dX10_isPlain_24 (by decide +kernel) ?_
          refine mm_goto 29 dX10_isPlain_25 (by decide) ?_
          refine mm_iret rfl rfl dX10_isPlain_29 ?_
          exact en_pI H
