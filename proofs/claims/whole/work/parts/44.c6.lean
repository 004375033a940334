def f_X2_addCite (N : Nat) (x1 : Int32) (x2 : Int32) (C : CS) : Option (Int32 × CS) :=
  if inb x1 40 = true then (if (gA C 108 (x1).toNatClampNeg) < 8 then (bns (f_X2_addCite_L18 N x1 x2 (gA C 108 (x1).toNatClampNeg) C N 0) (fun q7 => some q7) fun q7 =>
      if inb ((x1 * 8) + (gA C 108 (x1).toNatClampNeg)) 320 = true then (bd (sA C 109 (((x1 * 8) + (gA C 108 (x1).toNatClampNeg))).toNatClampNeg x2) fun C10 =>
      if inb x1 40 = true then (bd (sA C10 108 (x1).toNatClampNeg ((gA C 108 (x1).toNatClampNeg) + 1)) fun C13 =>
      some (((gA C 108 (x1).toNatClampNeg) + 1), C13)) else none) else none)
    else (some ((-1), C))) else none
theorem t_X2_addCite {g : mm_G} {d : Nat} {h : mm_Hp} {C D : CS} {N : Nat} {x1 : Int32} {x2 : Int32} {r : (Int32 × CS)} (hd : 1 ≤ d) (R : Rep h C D) (H : f_X2_addCite N x1 x2 C = some r) : mm_P g d MX2_addCite 0 [some (.ref 104), some (.int x1), some (.int x2), none, none] [] h (cI D r) := by
  unfold f_X2_addCite at H
  refine mm_aload_n dX2_addCite_0 rfl ?_
  refine rC_getR (t := 106) lk_X2_21_X2 lay_104 rfl rfl dX2_addCite_1 R ?_
  refine mm_iload_n dX2_addCite_4 rfl ?_
  obtain ⟨b1, H⟩ := hB H
  refine rC_iald lay_108 rfl dX2_addCite_5 R b1 ?_
  refine mm_istore_n (ls' := [some (.ref 104), some (.int x1), some (.int x2), some (.int (gA C 108 (x1).toNatClampNeg)), none]) dX2_addCite_6 (Nat.le_of_ble_eq_true rfl) rfl ?_
  refine mm_iload_n dX2_addCite_7 rfl ?_
  refine mm_bipush (v := 8) dX2_addCite_8 (by decide +kernel) ?_
  refine mm_icmp_lt 15 dX2_addCite_10 (by decide) (fun c2 => ?_) (fun c2 => ?_)
  · replace H := hT c2 H
    refine mm_iconst (v := 0) dX2_addCite_15 (by decide +kernel) ?_
    refine mm_istore (ls' := [some (.ref 104), some (.int x1), some (.int x2), some (.int (gA C 108 (x1).toNatClampNeg)), some (.int 0)]) dX2_addCite_16 (Nat.le_of_ble_eq_true rfl) rfl ?_
    rcases hS H with ⟨q7, H8, H⟩ | ⟨q7, H8, H⟩
    · refine t_X2_addCite_L18 hd R (fun q h e R => ?_) (fun q e => by cases e) N _ H8
      cases e
      exact en_cI H R
    · refine t_X2_addCite_L18 hd R (fun q h e R => by cases e) (fun q e => ?_) N _ H8
      cases e
      refine mm_aload_n dX2_addCite_43 rfl ?_
      refine rC_getR (t := 107) lk_X2_24_X2 lay_104 rfl rfl dX2_addCite_44 R ?_
      refine mm_iload_n dX2_addCite_47 rfl ?_
      refine mm_bipush (v := 8) dX2_addCite_48 (by decide +kernel) ?_
      refine mm_imul dX2_addCite_50 ?_
      refine mm_iload_n dX2_addCite_51 rfl ?_
      refine mm_iadd dX2_addCite_52 ?_
      refine mm_iload_n dX2_addCite_53 rfl ?_
      obtain ⟨b9, H⟩ := hB H
      obtain ⟨C10, e11, H⟩ := hD H
      refine rC_iast lay_109 rfl dX2_addCite_54 R b9 e11 (fun h R => ?_)
      refine mm_aload_n dX2_addCite_55 rfl ?_
      refine rC_getR (t := 106) lk_X2_21_X2 lay_104 rfl rfl dX2_addCite_56 R ?_
      refine mm_iload_n dX2_addCite_59 rfl ?_
      refine mm_iload_n dX2_addCite_60 rfl ?_
      refine mm_iconst (v := 1) dX2_addCite_61 (by decide +kernel) ?_
      refine mm_iadd dX2_addCite_62 ?_
      obtain ⟨b12, H⟩ := hB H
      obtain ⟨C13, e14, H⟩ := hD H
      refine rC_iast lay_108 rfl dX2_addCite_63 R b12 e14 (fun h R => ?_)
      refine mm_iload_n dX2_addCite_64 rfl ?_
      refine mm_iconst (v := 1) dX2_addCite_65 (by decide +kernel) ?_
      refine mm_iadd dX2_addCite_66 ?_
      refine mm_iret rfl rfl dX2_addCite_67 ?_
      exact en_cI H R
  · replace H := hF c2 H
    refine mm_iconst (v := (-1)) dX2_addCite_13 (by decide +kernel) ?_
    refine mm_iret rfl rfl dX2_addCite_14 ?_
    exact en_cI H R
def f_X11_cite (N : Nat) (x1 : Int32) (x2 : Int32) (C : CS) : Option ((String ⊕ Int32) × CS) :=
  if (hasT (gI C 10401) x1) = 0 then (bnx (f_X11_demand 0 C) fun vq2 q2 =>
      bnd (f_X2_addCite N x1 x2 q2) fun q4 =>
      some (.inr q4.1, q4.2))
      else (if (hasT (gI C 8401) x2) = 0 then (bnx (f_X11_demand 0 C) fun vq7 q7 =>
        bnd (f_X2_addCite N x1 x2 q7) fun q9 =>
        some (.inr q9.1, q9.2))
        else (bnx (f_X11_demand 1 C) fun vq11 q11 =>
        bnd (f_X2_addCite N x1 x2 q11) fun q13 =>
        some (.inr q13.1, q13.2)))
theorem t_X11_cite {g : mm_G} {d : Nat} {h : mm_Hp} {C D : CS} {N : Nat} {x1 : Int32} {x2 : Int32} {r : ((String ⊕ Int32) × CS)} (hd : 7 ≤ d) (R : Rep h C D) (H : f_X11_cite N x1 x2 C = some r) : mm_P g d MX11_cite 0 [some (.ref 64), some (.int x1), some (.int x2)] [] h (cXI D r) := by
  unfold f_X11_cite at H
  refine mm_aload_n dX11_cite_0 rfl ?_
  refine rC_getR (t := 102) lk_X11_66_X11 lay_64 rfl rfl dX11_cite_1 R ?_
  refine mm_iload_n dX11_cite_4 rfl ?_
  refine mm_callU (d' := d - 1) (x := ⟨"TestimonyBook$Digest", "has", "(I)Z"⟩) (owner := "TestimonyBook$Rows") (as := [.int x1]) (st := []) (dS hd) cm_X9_has rfl (mm_t5 148 rfl rfl) (mm_t5 149 rfl rfl) (mm_t3 17 rfl rfl) (mm_t5 150 rfl rfl) (T := TX2) (N := 8) rfl dX11_cite_5 (R.oC (r := 104) rfl lay_104) rfl (Nat.le_of_ble_eq_true rfl) (Nat.le_of_ble_eq_true rfl) rfl rfl (tr_has lk_X9_13_X2 lay_104 rfl rfl R) (fun E u q => by cases q.1) (fun v u q => th_pU q ?_)
  refine mm_if_eq 26 dX11_cite_8 (by decide) (fun c1 => ?_) (fun c1 => ?_)
  · replace H := hT c1 H
    refine mm_iconst (v := 0) dX11_cite_26 (by decide +kernel) ?_
    rcases hX H with ⟨E1, q2, H3, H⟩ | ⟨vq2, q2, H3, H⟩
    · refine mm_callS (d' := d - 1) (as := [.int 0]) (st := []) (dS hd) cm_X11_demand (mm_t4 175 rfl rfl) (mm_t4 176 rfl rfl) dX11_cite_27 rfl (Nat.le_of_ble_eq_true rfl) (Nat.le_of_ble_eq_true rfl) rfl rfl (t_X11_demand (dL hd (by decide)) R H3) (fun o h q => th_eV rfl q (fun R => ?_))
      exact en_xI2 H R
    · refine mm_callS (d' := d - 1) (as := [.int 0]) (st := []) (dS hd) cm_X11_demand (mm_t4 175 rfl rfl) (mm_t4 176 rfl rfl) dX11_cite_27 rfl (Nat.le_of_ble_eq_true rfl) (Nat.le_of_ble_eq_true rfl) rfl rfl (t_X11_demand (dL hd (by decide)) R H3) (fun o h q => th_xV q (fun R => ?_))
      refine mm_aload_n dX11_cite_30 rfl ?_
      refine rC_getR (t := 102) lk_X11_66_X11 lay_64 rfl rfl dX11_cite_31 R ?_
      refine mm_iload_n dX11_cite_34 rfl ?_
      refine mm_iload_n dX11_cite_35 rfl ?_
      obtain ⟨q4, H5, H⟩ := hC H
      refine mm_callV (d' := d - 1) (as := [.int x1, .int x2]) (st := []) (dS hd) cm_X2_addCite (mm_t5 151 rfl rfl) (mm_t5 152 rfl rfl) (mm_t5 153 rfl rfl) (T := TX2) (N := 8) rfl dX11_cite_36 (R.oC (r := 104) rfl lay_104) rfl (Nat.le_of_ble_eq_true rfl) (Nat.le_of_ble_eq_true rfl) rfl rfl (t_X2_addCite (dL hd (by decide)) R H5) (fun o h q => th_cI q (fun R => ?_))
      refine mm_iret rfl rfl dX11_cite_39 ?_
      exact en_xI H R
  · replace H := hF c1 H
    refine mm_aload_n dX11_cite_11 rfl ?_
    refine rC_getR (t := 82) lk_X11_38_X11 lay_64 rfl rfl dX11_cite_12 R ?_
    refine mm_iload_n dX11_cite_15 rfl ?_
    refine mm_callU (d' := d - 1) (x := ⟨"TestimonyBook$Facts", "has", "(I)Z"⟩) (owner := "TestimonyBook$Rows") (as := [.int x2]) (st := []) (dS hd) cm_X9_has rfl (mm_t4 231 rfl rfl) (mm_t4 232 rfl rfl) (mm_t3 17 rfl rfl) (mm_t4 233 rfl rfl) (T := TX3) (N := 9) rfl dX11_cite_16 (R.oC (r := 84) rfl lay_84) rfl (Nat.le_of_ble_eq_true rfl) (Nat.le_of_ble_eq_true rfl) rfl rfl (tr_has lk_X9_13_X3 lay_84 rfl rfl R) (fun E u q => by cases q.1) (fun v u q => th_pU q ?_)
    refine mm_if_eq 26 dX11_cite_19 (by decide) (fun c6 => ?_) (fun c6 => ?_)
    · replace H := hT c6 H
      refine mm_iconst (v := 0) dX11_cite_26 (by decide +kernel) ?_
      rcases hX H with ⟨E1, q7, H8, H⟩ | ⟨vq7, q7, H8, H⟩
      · refine mm_callS (d' := d - 1) (as := [.int 0]) (st := []) (dS hd) cm_X11_demand (mm_t4 175 rfl rfl) (mm_t4 176 rfl rfl) dX11_cite_27 rfl (Nat.le_of_ble_eq_true rfl) (Nat.le_of_ble_eq_true rfl) rfl rfl (t_X11_demand (dL hd (by decide)) R H8) (fun o h q => th_eV rfl q (fun R => ?_))
        exact en_xI2 H R
      · refine mm_callS (d' := d - 1) (as := [.int 0]) (st := []) (dS hd) cm_X11_demand (mm_t4 175 rfl rfl) (mm_t4 176 rfl rfl) dX11_cite_27 rfl (Nat.le_of_ble_eq_true rfl) (Nat.le_of_ble_eq_true rfl) rfl rfl (t_X11_demand (dL hd (by decide)) R H8) (fun o h q => th_xV q (fun R => ?_))
        refine mm_aload_n dX11_cite_30 rfl ?_
        refine rC_getR (t := 102) lk_X11_66_X11 lay_64 rfl rfl dX11_cite_31 R ?_
        refine mm_iload_n dX11_cite_34 rfl ?_
        refine mm_iload_n dX11_cite_35 rfl ?_
        obtain ⟨q9, H10, H⟩ := hC H
        refine mm_callV (d' := d - 1) (as := [.int x1, .int x2]) (st := []) (dS hd) cm_X2_addCite (mm_t5 151 rfl rfl) (mm_t5 152 rfl rfl) (mm_t5 153 rfl rfl) (T := TX2) (N := 8) rfl dX11_cite_36 (R.oC (r := 104) rfl lay_104) rfl (Nat.le_of_ble_eq_true rfl) (Nat.le_of_ble_eq_true rfl) rfl rfl (t_X2_addCite (dL hd (by decide)) R H10) (fun o h q => th_cI q (fun R => ?_))
        refine mm_iret rfl rfl dX11_cite_39 ?_
        exact en_xI H R
    · replace H := hF c6 H
      refine mm_iconst (v := 1) dX11_cite_22 (by decide +kernel) ?_
      refine mm_goto 27 dX11_cite_23 (by decide) ?_
      rcases hX H with ⟨E1, q11, H12, H⟩ | ⟨vq11, q11, H12, H⟩
      · refine mm_callS (d' := d - 1) (as := [.int 1]) (st := []) (dS hd) cm_X11_demand (mm_t4 175 rfl rfl) (mm_t4 176 rfl rfl) dX11_cite_27 rfl (Nat.le_of_ble_eq_true rfl) (Nat.le_of_ble_eq_true rfl) rfl rfl (t_X11_demand (dL hd (by decide)) R H12) (fun o h q => th_eV rfl q (fun R => ?_))
        exact en_xI2 H R
      · refine mm_callS (d' := d - 1) (as := [.int 1]) (st := []) (dS hd) cm_X11_demand (mm_t4 175 rfl rfl) (mm_t4 176 rfl rfl) dX11_cite_27 rfl (Nat.le_of_ble_eq_true rfl) (Nat.le_of_ble_eq_true rfl) rfl rfl (t_X11_demand (dL hd (by decide)) R H12) (fun o h q => th_xV q (fun R => ?_))
        refine mm_aload_n dX11_cite_30 rfl ?_
        refine rC_getR (t := 102) lk_X11_66_X11 lay_64 rfl rfl dX11_cite_31 R ?_
        refine mm_iload_n dX11_cite_34 rfl ?_
        refine mm_iload_n dX11_cite_35 rfl ?_
        obtain ⟨q13, H14, H⟩ := hC H
        refine mm_callV (d' := d - 1) (as := [.int x1, .int x2]) (st := []) (dS hd) cm_X2_addCite (mm_t5 151 rfl rfl) (mm_t5 152 rfl rfl) (mm_t5 153 rfl rfl) (T := TX2) (N := 8) rfl dX11_cite_36 (R.oC (r := 104) rfl lay_104) rfl (Nat.le_of_ble_eq_true rfl) (Nat.le_of_ble_eq_true rfl) rfl rfl (t_X2_addCite (dL hd (by decide)) R H14) (fun o h q => th_cI q (fun R => ?_))
        refine mm_iret rfl rfl dX11_cite_39 ?_
        exact en_xI H R
def f_X0_shows (x1 : Int32) (x2 : Int32) (C : CS) : Option Int32 :=
  if inb x1 150 = true then (if (gA C 112 (x1).toNatClampNeg) = 1 then (if inb x1 150 = true then (if inb x2 40 = true then (if (gA C 88 (x1).toNatClampNeg) = (gA C 105 (x2).toNatClampNeg) then (if inb x1 150 = true then (if inb x2 40 = true then (if (gA C 89 (x1).toNatClampNeg) = (gA C 106 (x2).toNatClampNeg) then (if inb x1 150 = true then (if inb x2 40 = true then (if (gA C 90 (x1).toNatClampNeg) = (gA C 107 (x2).toNatClampNeg) then (some 1)
          else (some 0)) else none) else none)
        else (some 0)) else none) else none)
      else (some 0)) else none) else none)
    else (some 0)) else none
theorem t_X0_shows {g : mm_G} {d : Nat} {h : mm_Hp} {C D : CS} {x1 : Int32} {x2 : Int32} {r : Int32} (hd : 0 ≤ d) (R : Rep h C D) (H : f_X0_shows x1 x2 C = some r) : mm_P g d MX0_shows 0 [some (.ref 111), some (.int x1), some (.int x2)] [] h (mm_pureI r h) := by
  unfold f_X0_shows at H
  refine mm_aload_n dX0_shows_0 rfl ?_
  refine rC_getR (t := 110) lk_X0_9_X0 lay_111 rfl rfl dX0_shows_1 R ?_
  refine mm_iload_n dX0_shows_4 rfl ?_
  obtain ⟨b1, H⟩ := hB H
  refine rC_iald lay_112 rfl dX0_shows_5 R b1 ?_
  refine mm_iconst (v := 1) dX0_shows_6 (by decide +kernel) ?_
  refine mm_icmp_ne 77 dX0_shows_7 (by decide) (fun c2 => ?_) (fun c2 => ?_)
  · replace H := hF c2 H
    refine mm_iconst (v := 0) dX0_shows_77 (by decide +kernel) ?_
    refine mm_iret rfl rfl dX0_shows_78 ?_
    exact en_pI H
  · replace H := hT c2 H
    refine mm_aload_n dX0_shows_10 rfl ?_
    refine rC_getR (t := 82) lk_X0_23_X0 lay_111 rfl rfl dX0_shows_11 R ?_
    refine rC_getR (t := 86) lk_X0_94_X3 lay_84 rfl rfl dX0_shows_14 R ?_
    refine mm_iload_n dX0_shows_17 rfl ?_
    obtain ⟨b3, H⟩ := hB H
    refine rC_iald lay_88 rfl dX0_shows_18 R b3 ?_
    refine mm_aload_n dX0_shows_19 rfl ?_
    refine rC_getR (t := 102) lk_X0_31_X0 lay_111 rfl rfl dX0_shows_20 R ?_
    refine rC_getR (t := 103) lk_X0_123_X2 lay_104 rfl rfl dX0_shows_23 R ?_
    refine mm_iload_n dX0_shows_26 rfl ?_
    obtain ⟨b4, H⟩ := hB H
    refine rC_iald lay_105 rfl dX0_shows_27 R b4 ?_
    refine mm_icmp_ne 77 dX0_shows_28 (by decide) (fun c5 => ?_) (fun c5 => ?_)
    · replace H := hF c5 H
      refine mm_iconst (v := 0) dX0_shows_77 (by decide +kernel) ?_
      refine mm_iret rfl rfl dX0_shows_78 ?_
      exact en_pI H
    · replace H := hT c5 H
      refine mm_aload_n dX0_shows_31 rfl ?_
      refine rC_getR (t := 82) lk_X0_23_X0 lay_111 rfl rfl dX0_shows_32 R ?_
      refine rC_getR (t := 87) lk_X0_97_X3 lay_84 rfl rfl dX0_shows_35 R ?_
      refine mm_iload_n dX0_shows_38 rfl ?_
      obtain ⟨b6, H⟩ := hB H
      refine rC_iald lay_89 rfl dX0_shows_39 R b6 ?_
      refine mm_aload_n dX0_shows_40 rfl ?_
      refine rC_getR (t := 102) lk_X0_31_X0 lay_111 rfl rfl dX0_shows_41 R ?_
      refine rC_getR (t := 104) lk_X0_124_X2 lay_104 rfl rfl dX0_shows_44 R ?_
      refine mm_iload_n dX0_shows_47 rfl ?_
      obtain ⟨b7, H⟩ := hB H
      refine rC_iald lay_106 rfl dX0_shows_48 R b7 ?_
      refine mm_icmp_ne 77 dX0_shows_49 (by decide) (fun c8 => ?_) (fun c8 => ?_)
      · replace H := hF c8 H
        refine mm_iconst (v := 0) dX0_shows_77 (by decide +kernel) ?_
        refine mm_iret rfl rfl dX0_shows_78 ?_
        exact en_pI H
      · replace H := hT c8 H
        refine mm_aload_n dX0_shows_52 rfl ?_
        refine rC_getR (t := 82) lk_X0_23_X0 lay_111 rfl rfl dX0_shows_53 R ?_
        refine rC_getR (t := 88) lk_X0_100_X3 lay_84 rfl rfl dX0_shows_56 R ?_
        refine mm_iload_n dX0_shows_59 rfl ?_
        obtain ⟨b9, H⟩ := hB H
        refine rC_iald lay_90 rfl dX0_shows_60 R b9 ?_
        refine mm_aload_n dX0_shows_61 rfl ?_
        refine rC_getR (t := 102) lk_X0_31_X0 lay_111 rfl rfl dX0_shows_62 R ?_
        refine rC_getR (t := 105) lk_X0_125_X2 lay_104 rfl rfl dX0_shows_65 R ?_
        refine mm_iload_n dX0_shows_68 rfl ?_
        obtain ⟨b10, H⟩ := hB H
        refine rC_iald lay_107 rfl dX0_shows_69 R b10 ?_
        refine mm_icmp_ne 77 dX0_shows_70 (by decide) (fun c11 => ?_) (fun c11 => ?_)
        · replace H := hF c11 H
          refine mm_iconst (v := 0) dX0_shows_77 (by decide +kernel) ?_
          refine mm_iret rfl rfl dX0_shows_78 ?_
          exact en_pI H
        · replace H := hT c11 H
          refine mm_iconst (v := 1) dX0_shows_73 (by decide +kernel) ?_
          refine mm_goto 78 dX0_shows_74 (by decide) ?_
          refine mm_iret rfl rfl dX0_shows_78 ?_
          exact en_pI H
def f_X0_isDisputed_L2 (N : Nat) (x1 : Int32) (C : CS) : Nat → Int32 → Option (Int32 ⊕ (Unit))
  | 0, _ => none
  | n + 1, x2 => if (gI C 8401) ≤ x2 then (some (.inr ()))
    else (bnd (f_X0_clash x1 x2 C) fun q2 =>
    if q2 = 0 then (f_X0_isDisputed_L2 N x1 C n (x2 + 1))
      else (some (.inl 1)))
theorem t_X0_isDisputed_L2 {g : mm_G} {d : Nat} {Post : mm_Ou → mm_Hp → Prop} {h : mm_Hp} {C D : CS} {N : Nat} {x1 : Int32} {res : (Int32 ⊕ (Unit))} (hd : 1 ≤ d) (R : Rep h C D) (KR : ∀ (q : Int32), res = .inl q → Post (.inl (some (.int q))) h) (KE : ∀ (q : Unit), res = .inr q → mm_P g d MX0_isDisputed 30 [none, none, none] [] h Post) : ∀ (n : Nat) (x2 : Int32) , f_X0_isDisputed_L2 N x1 C n x2 = some res → mm_P g d MX0_isDisputed 2 [some (.ref 111), some (.int x1), some (.int x2)] [] h Post := by
  intro n
  induction n with
  | zero =>
    intro x2 H
    exact hN H
  | succ n ih =>
    intro x2 H
    unfold f_X0_isDisputed_L2 at H
    refine mm_iload_n dX0_isDisputed_2 rfl ?_
    refine mm_aload_n dX0_isDisputed_3 rfl ?_
    refine rC_getR (t := 82) lk_X0_23_X0 lay_111 rfl rfl dX0_isDisputed_4 R ?_
    refine rC_get (key := 8401) lk_X0_74_X3 lay_84 rfl rfl rfl dX0_isDisputed_7 R ?_
    refine mm_icmp_ge 30 dX0_isDisputed_10 (by decide) (fun c1 => ?_) (fun c1 => ?_)
    · replace H := hT c1 H
      refine mm_fgt (ls' := [none, none, none]) trivial ?_
      exact KE _ (Option.some.inj H).symm
    · replace H := hF c1 H
      refine mm_aload_n dX0_isDisputed_13 rfl ?_
      refine mm_iload_n dX0_isDisputed_14 rfl ?_
      refine mm_iload_n dX0_isDisputed_15 rfl ?_
      obtain ⟨q2, H3, H⟩ := hC H
      refine mm_callV (d' := d - 1) (as := [.int x1, .int x2]) (st := []) (dS hd) cm_X0_clash (mm_t3 28 rfl rfl) (mm_t3 30 rfl rfl) (mm_s1 3 rfl rfl) (T := TX0) (N := 8) rfl dX0_isDisputed_16 (R.oC (r := 111) rfl lay_111) rfl (Nat.le_of_ble_eq_true rfl) (Nat.le_of_ble_eq_true rfl) rfl rfl (t_X0_clash (dL hd (by decide)) R H3) (fun o u q => mm_thenI q ?_)
      refine mm_if_eq 24 dX0_isDisputed_19 (by decide) (fun c4 => ?_) (fun c4 => ?_)
      · replace H := hT c4 H
        refine mm_iinc (v := (x2 + 1)) (ls' := [some (.ref 111), some (.int x1), some (.int (x2 + 1))]) dX0_isDisputed_24 rfl rfl rfl ?_
        refine mm_goto 2 dX0_isDisputed_27 (by decide) ?_
        exact ih _ H
      · replace H := hF c4 H
        refine mm_iconst (v := 1) dX0_isDisputed_22 (by decide +kernel) ?_
        refine mm_iret rfl rfl dX0_isDisputed_23 ?_
        exact KR _ (Option.some.inj H).symm
def f_X0_isDisputed (N : Nat) (x1 : Int32) (C : CS) : Option Int32 :=
  bns (f_X0_isDisputed_L2 N x1 C N 0) (fun q5 => some q5) fun q5 =>
    some 0
theorem t_X0_isDisputed {g : mm_G} {d : Nat} {h : mm_Hp} {C D : CS} {N : Nat} {x1 : Int32} {r : Int32} (hd : 1 ≤ d) (R : Rep h C D) (H : f_X0_isDisputed N x1 C = some r) : mm_P g d MX0_isDisputed 0 [some (.ref 111), some (.int x1), none] [] h (mm_pureI r h) := by
  unfold f_X0_isDisputed at H
  refine mm_iconst (v := 0) dX0_isDisputed_0 (by decide +kernel) ?_
  refine mm_istore_n (ls' := [some (.ref 111), some (.int x1), some (.int 0)]) dX0_isDisputed_1 (Nat.le_of_ble_eq_true rfl) rfl ?_
  rcases hS H with ⟨q5, H6, H⟩ | ⟨q5, H6, H⟩
  · refine t_X0_isDisputed_L2 hd R (fun q e => ?_) (fun q e => by cases e) N _ H6
    cases e
    exact en_pI H
  · refine t_X0_isDisputed_L2 hd R (fun q e => by cases e) (fun q e => ?_) N _ H6
    cases e
    refine mm_iconst (v := 0) dX0_isDisputed_30 (by decide +kernel) ?_
    refine mm_iret rfl rfl dX0_isDisputed_31 ?_
    exact en_pI H
def f_X0_judge_L10 (N : Nat) (x1 : Int32) (C : CS) : Nat → Int32 → Int32 → Option (Int32)
  | 0, _, _ => none
  | n + 1, x3, x4 => if inb x1 40 = true then (if (gA C 108 (x1).toNatClampNeg) ≤ x4 then (some x3)
    else (bnd (f_X2_citedBy x1 x4 C) fun q5 =>
    if (hasT (gI C 8401) q5) = 0 then (f_X0_judge_L10 N x1 C n x3 (x4 + 1))
      else (bnd (f_X0_shows q5 x1 C) fun q8 =>
      if q8 = 0 then (f_X0_judge_L10 N x1 C n x3 (x4 + 1))
        else (bnd (f_X0_isDisputed N q5 C) fun q11 =>
        if q11 = 0 then (f_X0_judge_L10 N x1 C n (if x3 < 1 then 1 else x3) (x4 + 1))
          else (f_X0_judge_L10 N x1 C n (if x3 < 2 then 2 else x3) (x4 + 1)))))) else none
theorem t_X0_judge_L10 {g : mm_G} {d : Nat} {Post : mm_Ou → mm_Hp → Prop} {h : mm_Hp} {C D : CS} {N : Nat} {x1 : Int32} {res : (Int32)} (hd : 5 ≤ d) (R : Rep h C D) (KE : mm_P g d MX0_judge 83 [none, none, none, some (.int res), none, none] [] h Post) : ∀ (n : Nat) (x3 : Int32) (x4 : Int32) , f_X0_judge_L10 N x1 C n x3 x4 = some res → mm_P g d MX0_judge 10 [some (.ref 111), some (.int x1), none, some (.int x3), some (.int x4), none] [] h Post := by
  intro n
  induction n with
  | zero =>
    intro x3 x4 H
    exact hN H
  | succ n ih =>
    intro x3 x4 H
    unfold f_X0_judge_L10 at H
    refine mm_iload dX0_judge_10 rfl ?_
    refine mm_aload_n dX0_judge_12 rfl ?_
    refine rC_getR (t := 102) lk_X0_31_X0 lay_111 rfl rfl dX0_judge_13 R ?_
    refine rC_getR (t := 106) lk_X0_103_X2 lay_104 rfl rfl dX0_judge_16 R ?_
    refine mm_iload_n dX0_judge_19 rfl ?_
    obtain ⟨b3, H⟩ := hB H
    refine rC_iald lay_108 rfl dX0_judge_20 R b3 ?_
    refine mm_icmp_ge 83 dX0_judge_21 (by decide) (fun c4 => ?_) (fun c4 => ?_)
    · replace H := hT c4 H
      refine mm_fgt (ls' := [none, none, none, some (.int x3), none, none]) ⟨rfl, trivial⟩ ?_
      cases H
      exact KE
    · replace H := hF c4 H
      refine mm_aload_n dX0_judge_24 rfl ?_
      refine rC_getR (t := 102) lk_X0_31_X0 lay_111 rfl rfl dX0_judge_25 R ?_
      refine mm_iload_n dX0_judge_28 rfl ?_
      refine mm_iload dX0_judge_29 rfl ?_
      obtain ⟨q5, H6, H⟩ := hC H
      refine mm_callV (d' := d - 1) (as := [.int x1, .int x4]) (st := []) (dS hd) cm_X2_citedBy (mm_t5 170 rfl rfl) (mm_t5 156 rfl rfl) (mm_t5 157 rfl rfl) (T := TX2) (N := 8) rfl dX0_judge_31 (R.oC (r := 104) rfl lay_104) rfl (Nat.le_of_ble_eq_true rfl) (Nat.le_of_ble_eq_true rfl) rfl rfl (t_X2_citedBy (dL hd (by decide)) R H6) (fun o u q => mm_thenI q ?_)
      refine mm_istore (ls' := [some (.ref 111), some (.int x1), none, some (.int x3), some (.int x4), some (.int q5)]) dX0_judge_34 (Nat.le_of_ble_eq_true rfl) rfl ?_
      refine mm_aload_n dX0_judge_36 rfl ?_
      refine rC_getR (t := 82) lk_X0_23_X0 lay_111 rfl rfl dX0_judge_37 R ?_
      refine mm_iload dX0_judge_40 rfl ?_
      refine mm_callU (d' := d - 1) (x := ⟨"TestimonyBook$Facts", "has", "(I)Z"⟩) (owner := "TestimonyBook$Rows") (as := [.int q5]) (st := []) (dS hd) cm_X9_has rfl (mm_t5 171 rfl rfl) (mm_t4 232 rfl rfl) (mm_t3 17 rfl rfl) (mm_t4 233 rfl rfl) (T := TX3) (N := 9) rfl dX0_judge_42 (R.oC (r := 84) rfl lay_84) rfl (Nat.le_of_ble_eq_true rfl) (Nat.le_of_ble_eq_true rfl) rfl rfl (tr_has lk_X9_13_X3 lay_84 rfl rfl R) (fun E u q => by cases q.1) (fun v u q => th_pU q ?_)
      refine mm_if_eq 77 dX0_judge_45 (by decide) (fun c7 => ?_) (fun c7 => ?_)
      · replace H := hT c7 H
        refine mm_iinc (v := (x4 + 1)) (ls' := [some (.ref 111), some (.int x1), none, some (.int x3), some (.int (x4 + 1)), some (.int q5)]) dX0_judge_77 rfl rfl rfl ?_
        refine mm_goto 10 dX0_judge_80 (by decide) ?_
        refine mm_fgt (ls' := [some (.ref 111), some (.int x1), none, some (.int x3), some (.int (x4 + 1)), none]) ⟨rfl, rfl, rfl, rfl, trivial⟩ ?_
        exact ih _ _ H
      · replace H := hF c7 H
        refine mm_aload_n dX0_judge_48 rfl ?_
        refine mm_iload dX0_judge_49 rfl ?_
        refine mm_iload_n dX0_judge_51 rfl ?_
        obtain ⟨q8, H9, H⟩ := hC H
        refine mm_callV (d' := d - 1) (as := [.int q5, .int x1]) (st := []) (dS hd) cm_X0_shows (mm_t5 172 rfl rfl) (mm_t5 174 rfl rfl) (mm_s2 13 rfl rfl) (T := TX0) (N := 8) rfl dX0_judge_52 (R.oC (r := 111) rfl lay_111) rfl (Nat.le_of_ble_eq_true rfl) (Nat.le_of_ble_eq_true rfl) rfl rfl (t_X0_shows (dL hd (by decide)) R H9) (fun o u q => mm_thenI q ?_)
        refine mm_if_eq 77 dX0_judge_55 (by decide) (fun c10 => ?_) (fun c10 => ?_)
        · replace H := hT c10 H
          refine mm_iinc (v := (x4 + 1)) (ls' := [some (.ref 111), some (.int x1), none, some (.int x3), some (.int (x4 + 1)), some (.int q5)]) dX0_judge_77 rfl rfl rfl ?_
          refine mm_goto 10 dX0_judge_80 (by decide) ?_
          refine mm_fgt (ls' := [some (.ref 111), some (.int x1), none, some (.int x3), some (.int (x4 + 1)), none]) ⟨rfl, rfl, rfl, rfl, trivial⟩ ?_
          exact ih _ _ H
        · replace H := hF c10 H
          refine mm_iload_n dX0_judge_58 rfl ?_
          refine mm_aload_n dX0_judge_59 rfl ?_
          refine mm_iload dX0_judge_60 rfl ?_
          obtain ⟨q11, H12, H⟩ := hC H
          refine mm_callV (d' := d - 1) (as := [.int q5]) (st := [.int x3]) (dS hd) cm_X0_isDisputed (mm_t5 176 rfl rfl) (mm_t5 178 rfl rfl) (mm_s2 14 rfl rfl) (T := TX0) (N := 8) rfl dX0_judge_62 (R.oC (r := 111) rfl lay_111) rfl (Nat.le_of_ble_eq_true rfl) (Nat.le_of_ble_eq_true rfl) rfl rfl (t_X0_isDisputed (dL hd (by decide)) R H12) (fun o u q => mm_thenI q ?_)
          refine mm_if_eq 72 dX0_judge_65 (by decide) (fun c13 => ?_) (fun c13 => ?_)
          · replace H := hT c13 H
            refine mm_iconst (v := 1) dX0_judge_72 (by decide +kernel) ?_
            refine mm_max (mm_t5 180 rfl rfl) (mm_t3 179 rfl rfl) (mm_t1 15 rfl rfl) (mm_t3 180 rfl rfl) (Nat.le_trans (by decide) hd) rfl (Nat.le_of_ble_eq_true rfl) dX0_judge_73 ?_
            refine mm_istore_n (ls' := [some (.ref 111), some (.int x1), none, some (.int (if x3 < 1 then 1 else x3)), some (.int x4), some (.int q5)]) dX0_judge_76 (Nat.le_of_ble_eq_true rfl) rfl ?_
            refine mm_iinc (v := (x4 + 1)) (ls' := [some (.ref 111), some (.int x1), none, some (.int (if x3 < 1 then 1 else x3)), some (.int (x4 + 1)), some (.int q5)]) dX0_judge_77 rfl rfl rfl ?_
            refine mm_goto 10 dX0_judge_80 (by decide) ?_
            refine mm_fgt (ls' := [some (.ref 111), some (.int x1), none, some (.int (if x3 < 1 then 1 else x3)), some (.int (x4 + 1)), none]) ⟨rfl, rfl, rfl, rfl, trivial⟩ ?_
            exact ih _ _ H
          · replace H := hF c13 H
            refine mm_iconst (v := 2) dX0_judge_68 (by decide +kernel) ?_
            refine mm_goto 73 dX0_judge_69 (by decide) ?_
            refine mm_max (mm_t5 180 rfl rfl) (mm_t3 179 rfl rfl) (mm_t1 15 rfl rfl) (mm_t3 180 rfl rfl) (Nat.le_trans (by decide) hd) rfl (Nat.le_of_ble_eq_true rfl) dX0_judge_73 ?_
            refine mm_istore_n (ls' := [some (.ref 111), some (.int x1), none, some (.int (if x3 < 2 then 2 else x3)), some (.int x4), some (.int q5)]) dX0_judge_76 (Nat.le_of_ble_eq_true rfl) rfl ?_
            refine mm_iinc (v := (x4 + 1)) (ls' := [some (.ref 111), some (.int x1), none, some (.int (if x3 < 2 then 2 else x3)), some (.int (x4 + 1)), some (.int q5)]) dX0_judge_77 rfl rfl rfl ?_
            refine mm_goto 10 dX0_judge_80 (by decide) ?_
            refine mm_fgt (ls' := [some (.ref 111), some (.int x1), none, some (.int (if x3 < 2 then 2 else x3)), some (.int (x4 + 1)), none]) ⟨rfl, rfl, rfl, rfl, trivial⟩ ?_
            exact ih _ _ H
def f_X0_judge (N : Nat) (x1 : Int32) (x2 : Int32) (C : CS) : Option (Int32 × CS) :=
  bnd (f_X0_weigh N x2 C) fun q1 =>
  bnd (f_X0_judge_L10 N x1 q1 N 0 0) fun q14 =>
    some (q14, q1)
theorem t_X0_judge {g : mm_G} {d : Nat} {h : mm_Hp} {C D : CS} {N : Nat} {x1 : Int32} {x2 : Int32} {r : (Int32 × CS)} (hd : 5 ≤ d) (R : Rep h C D) (H : f_X0_judge N x1 x2 C = some r) : mm_P g d MX0_judge 0 [some (.ref 111), some (.int x1), some (.int x2), none, none, none] [] h (cI D r) := by
  unfold f_X0_judge at H
  refine mm_aload_n dX0_judge_0 rfl ?_
  refine mm_iload_n dX0_judge_1 rfl ?_
  obtain ⟨q1, H2, H⟩ := hC H
  refine mm_callV (d' := d - 1) (as := [.int x2]) (st := []) (dS hd) cm_X0_weigh (mm_t2 229 rfl rfl) (mm_t2 231 rfl rfl) (mm_s1 0 rfl rfl) (T := TX0) (N := 8) rfl dX0_judge_2 (R.oC (r := 111) rfl lay_111) rfl (Nat.le_of_ble_eq_true rfl) (Nat.le_of_ble_eq_true rfl) rfl rfl (t_X0_weigh (dL hd (by decide)) R H2) (fun o h q => th_cV q (fun R => ?_))
  refine mm_iconst (v := 0) dX0_judge_5 (by decide +kernel) ?_
  refine mm_istore_n (ls' := [some (.ref 111), some (.int x1), some (.int x2), some (.int 0), none, none]) dX0_judge_6 (Nat.le_of_ble_eq_true rfl) rfl ?_
  refine mm_iconst (v := 0) dX0_judge_7 (by decide +kernel) ?_
  refine mm_istore (ls' := [some (.ref 111), some (.int x1), some (.int x2), some (.int 0), some (.int 0), none]) dX0_judge_8 (Nat.le_of_ble_eq_true rfl) rfl ?_
  obtain ⟨q14, H15, H⟩ := hC H
  refine mm_fgt (ls' := [some (.ref 111), some (.int x1), none, some (.int 0), some (.int 0), none]) ⟨rfl, rfl, rfl, rfl, trivial⟩ ?_
  refine t_X0_judge_L10 hd R ?_ N _ _ H15
  refine mm_iload_n dX0_judge_83 rfl ?_
  refine mm_iret rfl rfl dX0_judge_84 ?_
  exact en_cI H R
def f_X11_shown (N : Nat) (x1 : Int32) (x2 : Int32) (C : CS) : Option ((String ⊕ Int32) × CS) :=
  bnx (f_X11_demand (hasT (gI C 10401) x1) C) fun vq1 q1 =>
    bnd (f_X0_judge N x1 x2 q1) fun q3 =>
    some (.inr q3.1, q3.2)
theorem t_X11_shown {g : mm_G} {d : Nat} {h : mm_Hp} {C D : CS} {N : Nat} {x1 : Int32} {x2 : Int32} {r : ((String ⊕ Int32) × CS)} (hd : 7 ≤ d) (R : Rep h C D) (H : f_X11_shown N x1 x2 C = some r) : mm_P g d MX11_shown 0 [some (.ref 64), some (.int x1), some (.int x2)] [] h (cXI D r) := by
  unfold f_X11_shown at H
  refine mm_aload_n dX11_shown_0 rfl ?_
  refine rC_getR (t := 102) lk_X11_66_X11 lay_64 rfl rfl dX11_shown_1 R ?_
  refine mm_iload_n dX11_shown_4 rfl ?_
  refine mm_callU (d' := d - 1) (x := ⟨"TestimonyBook$Digest", "has", "(I)Z"⟩) (owner := "TestimonyBook$Rows") (as := [.int x1]) (st := []) (dS hd) cm_X9_has rfl (mm_t5 148 rfl rfl) (mm_t5 149 rfl rfl) (mm_t3 17 rfl rfl) (mm_t5 150 rfl rfl) (T := TX2) (N := 8) rfl dX11_shown_5 (R.oC (r := 104) rfl lay_104) rfl (Nat.le_of_ble_eq_true rfl) (Nat.le_of_ble_eq_true rfl) rfl rfl (tr_has lk_X9_13_X2 lay_104 rfl rfl R) (fun E u q => by cases q.1) (fun v u q => th_pU q ?_)
  rcases hX H with ⟨E1, q1, H2, H⟩ | ⟨vq1, q1, H2, H⟩
  · refine mm_callS (d' := d - 1) (as := [.int (hasT (gI C 10401) x1)]) (st := []) (dS hd) cm_X11_demand (mm_t4 175 rfl rfl) (mm_t4 176 rfl rfl) dX11_shown_8 rfl (Nat.le_of_ble_eq_true rfl) (Nat.le_of_ble_eq_true rfl) rfl rfl (t_X11_demand (dL hd (by decide)) R H2) (fun o h q => th_eV rfl q (fun R => ?_))
    exact en_xI2 H R
  · refine mm_callS (d' := d - 1) (as := [.int (hasT (gI C 10401) x1)]) (st := []) (dS hd) cm_X11_demand (mm_t4 175 rfl rfl) (mm_t4 176 rfl rfl) dX11_shown_8 rfl (Nat.le_of_ble_eq_true rfl) (Nat.le_of_ble_eq_true rfl) rfl rfl (t_X11_demand (dL hd (by decide)) R H2) (fun o h q => th_xV q (fun R => ?_))
    refine mm_aload_n dX11_shown_11 rfl ?_
    refine rC_getR (t := 109) lk_X11_84_X11 lay_64 rfl rfl dX11_shown_12 R ?_
    refine mm_iload_n dX11_shown_15 rfl ?_
    refine mm_iload_n dX11_shown_16 rfl ?_
    obtain ⟨q3, H4, H⟩ := hC H
    refine mm_callV (d' := d - 1) (as := [.int x1, .int x2]) (st := []) (dS hd) cm_X0_judge (mm_t5 166 rfl rfl) (mm_t5 167 rfl rfl) (mm_t5 168 rfl rfl) (T := TX0) (N := 8) rfl dX11_shown_17 (R.oC (r := 111) rfl lay_111) rfl (Nat.le_of_ble_eq_true rfl) (Nat.le_of_ble_eq_true rfl) rfl rfl (t_X0_judge (dL hd (by decide)) R H4) (fun o h q => th_cI q (fun R => ?_))
    refine mm_iret rfl rfl dX11_shown_20 ?_
    exact en_xI H R
def f_X11_count (N : Nat) (x1 : Int32) (C : CS) : Option ((String ⊕ Int32) × CS) :=
  if x1 = 0 then (some (.inr (gI C 6901), C))
    else if x1 = 1 then (some (.inr (gI C 6411), C))
    else if x1 = 2 then (some (.inr (gI C 8401), C))
    else if x1 = 3 then (some (.inr (gI C 9101), C))
    else if x1 = 4 then (bnd (f_X6_exhibits N C) fun q6 =>
    some (.inr q6, C))
    else if x1 = 5 then (some (.inr (gI C 6412), C))
    else if x1 = 6 then (some (.inr (gI C 9801), C))
    else if x1 = 7 then (some (.inr (gI C 10401), C))
    else if x1 = 8 then (some (.inr (gI C 6501), C))
    else if x1 = 9 then (some (.inr (gI C 6701), C))
    else (some (.inl "java/util/NoSuchElementException", sE C))
theorem t_X11_count {g : mm_G} {d : Nat} {h : mm_Hp} {C D : CS} {N : Nat} {x1 : Int32} {r : ((String ⊕ Int32) × CS)} (hd : 6 ≤ d) (R : Rep h C D) (H : f_X11_count N x1 C = some r) : mm_P g d MX11_count 0 [some (.ref 64), some (.int x1)] [] h (cXI D r) := by
  unfold f_X11_count at H
  refine mm_iload_n dX11_count_0 rfl ?_
  by_cases c1 : x1 = 0
  · replace H := hT c1 H
    refine mm_tabIn 56 dX11_count_1 (by rw [c1]; decide) (by rw [c1]; decide) (by rw [c1]; rfl) (by decide) ?_
    refine mm_aload_n dX11_count_56 rfl ?_
    refine rC_getR (t := 67) lk_X11_24_X11 lay_64 rfl rfl dX11_count_57 R ?_
    refine rC_get (key := 6901) lk_X11_107_X4 lay_69 rfl rfl rfl dX11_count_60 R ?_
    refine mm_iret rfl rfl dX11_count_63 ?_
    exact en_xI H R
  replace H := hF c1 H
  by_cases c2 : x1 = 1
  · replace H := hT c2 H
    refine mm_tabIn 64 dX11_count_1 (by rw [c2]; decide) (by rw [c2]; decide) (by rw [c2]; rfl) (by decide) ?_
    refine mm_aload_n dX11_count_64 rfl ?_
    refine rC_get (key := 6411) lk_X11_101_X11 lay_64 rfl rfl rfl dX11_count_65 R ?_
    refine mm_iret rfl rfl dX11_count_68 ?_
    exact en_xI H R
  replace H := hF c2 H
  by_cases c3 : x1 = 2
  · replace H := hT c3 H
    refine mm_tabIn 69 dX11_count_1 (by rw [c3]; decide) (by rw [c3]; decide) (by rw [c3]; rfl) (by decide) ?_
    refine mm_aload_n dX11_count_69 rfl ?_
    refine rC_getR (t := 82) lk_X11_38_X11 lay_64 rfl rfl dX11_count_70 R ?_
    refine rC_get (key := 8401) lk_X11_265_X3 lay_84 rfl rfl rfl dX11_count_73 R ?_
    refine mm_iret rfl rfl dX11_count_76 ?_
    exact en_xI H R
  replace H := hF c3 H
  by_cases c4 : x1 = 3
  · replace H := hT c4 H
    refine mm_tabIn 77 dX11_count_1 (by rw [c4]; decide) (by rw [c4]; decide) (by rw [c4]; rfl) (by decide) ?_
    refine mm_aload_n dX11_count_77 rfl ?_
    refine rC_getR (t := 89) lk_X11_45_X11 lay_64 rfl rfl dX11_count_78 R ?_
    refine rC_get (key := 9101) lk_X11_266_X5 lay_91 rfl rfl rfl dX11_count_81 R ?_
    refine mm_iret rfl rfl dX11_count_84 ?_
    exact en_xI H R
  replace H := hF c4 H
  by_cases c5 : x1 = 4
  · replace H := hT c5 H
    refine mm_tabIn 85 dX11_count_1 (by rw [c5]; decide) (by rw [c5]; decide) (by rw [c5]; rfl) (by decide) ?_
    refine mm_aload_n dX11_count_85 rfl ?_
    refine rC_getR (t := 92) lk_X11_52_X11 lay_64 rfl rfl dX11_count_86 R ?_
    obtain ⟨q6, H7, H⟩ := hC H
    refine mm_callV (d' := d - 1) (as := []) (st := []) (dS hd) cm_X6_exhibits (mm_t5 26 rfl rfl) (mm_t4 90 rfl rfl) (mm_t4 91 rfl rfl) (T := TX6) (N := 6) rfl dX11_count_89 (R.oC (r := 94) rfl lay_94) rfl (Nat.le_of_ble_eq_true rfl) (Nat.le_of_ble_eq_true rfl) rfl rfl (t_X6_exhibits (dL hd (by decide)) R H7) (fun o u q => mm_thenI q ?_)
    refine mm_iret rfl rfl dX11_count_92 ?_
    exact en_xI H R
  replace H := hF c5 H
  by_cases c8 : x1 = 5
  · replace H := hT c8 H
    refine mm_tabIn 93 dX11_count_1 (by rw [c8]; decide) (by rw [c8]; decide) (by rw [c8]; rfl) (by decide) ?_
    refine mm_aload_n dX11_count_93 rfl ?_
    refine rC_get (key := 6412) lk_X11_128_X11 lay_64 rfl rfl rfl dX11_count_94 R ?_
    refine mm_iret rfl rfl dX11_count_97 ?_
    exact en_xI H R
  replace H := hF c8 H
  by_cases c9 : x1 = 6
  · replace H := hT c9 H
    refine mm_tabIn 98 dX11_count_1 (by rw [c9]; decide) (by rw [c9]; decide) (by rw [c9]; rfl) (by decide) ?_
    refine mm_aload_n dX11_count_98 rfl ?_
    refine rC_getR (t := 96) lk_X11_59_X11 lay_64 rfl rfl dX11_count_99 R ?_
    refine rC_get (key := 9801) lk_X11_267_X7 lay_98 rfl rfl rfl dX11_count_102 R ?_
    refine mm_iret rfl rfl dX11_count_105 ?_
    exact en_xI H R
  replace H := hF c9 H
  by_cases c10 : x1 = 7
  · replace H := hT c10 H
    refine mm_tabIn 106 dX11_count_1 (by rw [c10]; decide) (by rw [c10]; decide) (by rw [c10]; rfl) (by decide) ?_
    refine mm_aload_n dX11_count_106 rfl ?_
    refine rC_getR (t := 102) lk_X11_66_X11 lay_64 rfl rfl dX11_count_107 R ?_
    refine rC_get (key := 10401) lk_X11_268_X2 lay_104 rfl rfl rfl dX11_count_110 R ?_
    refine mm_iret rfl rfl dX11_count_113 ?_
    exact en_xI H R
  replace H := hF c10 H
  by_cases c11 : x1 = 8
  · replace H := hT c11 H
    refine mm_tabIn 114 dX11_count_1 (by rw [c11]; decide) (by rw [c11]; decide) (by rw [c11]; rfl) (by decide) ?_
    refine mm_aload_n dX11_count_114 rfl ?_
    refine rC_getR (t := 63) lk_X11_14_X11 lay_64 rfl rfl dX11_count_115 R ?_
    refine rB_get lk_X11_92_X1 (Or.inl rfl) rfl dX11_count_118 R ?_
    refine mm_iret rfl rfl dX11_count_121 ?_
    exact en_xI H R
  replace H := hF c11 H
  by_cases c12 : x1 = 9
  · replace H := hT c12 H
    refine mm_tabIn 122 dX11_count_1 (by rw [c12]; decide) (by rw [c12]; decide) (by rw [c12]; rfl) (by decide) ?_
    refine mm_aload_n dX11_count_122 rfl ?_
    refine rC_getR (t := 65) lk_X11_18_X11 lay_64 rfl rfl dX11_count_123 R ?_
    refine rB_get lk_X11_92_X1 (Or.inr (Or.inl rfl)) rfl dX11_count_126 R ?_
    refine mm_iret rfl rfl dX11_count_129 ?_
    exact en_xI H R
  replace H := hF c12 H
  refine mm_tabOut 130 dX11_count_1 (sw_out 10 (by decide) (by rw [show (List.range 10).map nI = [0, 1, 2, 3, 4, 5, 6, 7, 8, 9] from rfl]; simp only [List.forall_mem_cons]; exact ⟨c1, c2, c3, c4, c5, c8, c9, c10, c11, c12, fun _ z => absurd z List.not_mem_nil⟩)) (by decide) ?_
  refine rT_NSE (text := "no such what") (no := 5) rfl (by decide) rfl rfl (Nat.le_trans (by decide) hd) (Nat.le_of_ble_eq_true rfl) dX11_count_130 dX11_count_133 dX11_count_134 dX11_count_136 dX11_count_139 ?_
  exact en_xI H R.thr
