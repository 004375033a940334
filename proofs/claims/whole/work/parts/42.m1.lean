def f_X12_readFact_J129 (N : Nat) (x1 : Int32) (x2 : Int32) (x3 : Int32) (x4 : Int32) (x5 : Int32) (s0 : Int32) (D : CS) : Option CS :=
  bnd (f_X12_need 125 x1 D) fun q13 =>
  if (gI q13 11349) = 0 then (if inb (gI q13 11320) 150 = true then (bd (sA q13 126 ((gI q13 11320)).toNatClampNeg (gI q13 11352)) fun D17 =>
    if inb (gI D17 11320) 150 = true then (bd (sA D17 127 ((gI D17 11320)).toNatClampNeg x4) fun D20 =>
    if inb (gI D20 11320) 150 = true then (bd (sA D20 128 ((gI D20 11320)).toNatClampNeg x5) fun D23 =>
    if inb (gI D23 11320) 150 = true then (bd (sA D23 129 ((gI D23 11320)).toNatClampNeg s0) fun D26 =>
    if inb (gI D26 11320) 150 = true then (bd (sA D26 130 ((gI D26 11320)).toNatClampNeg (x3 - x2)) fun D29 =>
    bd (sI D29 11320 ((gI D29 11320) + 1)) fun D31 =>
    some D31) else none) else none) else none) else none) else none)
    else (some q13)
theorem t_X12_readFact_J129 {g : mm_G} {d : Nat} {h : mm_Hp} {C D : CS} {N : Nat} {x1 : Int32} {x2 : Int32} {x3 : Int32} {x4 : Int32} {x5 : Int32} {s0 : Int32} {r : CS} (hd : 3 ≤ d) (R : Rep h C D) (H : f_X12_readFact_J129 N x1 x2 x3 x4 x5 s0 D = some r) : mm_P g d MX12_readFact 129 [some (.ref 113), some (.int x1), some (.int x2), some (.int x3), some (.int x4), some (.int x5), none] [.int s0] h (dV C r) := by
  unfold f_X12_readFact_J129 at H
  refine mm_istore (ls' := [some (.ref 113), some (.int x1), some (.int x2), some (.int x3), some (.int x4), some (.int x5), some (.int s0)]) dX12_readFact_129 (Nat.le_of_ble_eq_true rfl) rfl ?_
  refine mm_aload_n dX12_readFact_131 rfl ?_
  refine mm_bipush (v := 125) dX12_readFact_132 (by decide +kernel) ?_
  refine mm_iload_n dX12_readFact_134 rfl ?_
  obtain ⟨q13, H14, H⟩ := hC H
  refine mm_callV (d' := d - 1) (as := [.int 125, .int x1]) (st := []) (dS hd) cm_X12_need (mm_t6 183 rfl rfl) (mm_t6 185 rfl rfl) (mm_s3 11 rfl rfl) (T := TX12) (N := 54) rfl dX12_readFact_135 (R.oD (r := 113) rfl lay_113) rfl (Nat.le_of_ble_eq_true rfl) (Nat.le_of_ble_eq_true rfl) rfl rfl (t_X12_need (dL hd (by decide)) R H14) (fun o h q => th_dV q (fun R => ?_))
  refine mm_aload_n dX12_readFact_138 rfl ?_
  refine rD_get (key := 11349) lk_X12_139_X12 lay_113 rfl rfl rfl dX12_readFact_139 R ?_
  refine mm_if_eq 146 dX12_readFact_142 (by decide) (fun c15 => ?_) (fun c15 => ?_)
  · replace H := hT c15 H
    refine mm_aload_n dX12_readFact_146 rfl ?_
    refine rD_getR (t := 124) lk_X12_50_X12 lay_113 rfl rfl dX12_readFact_147 R ?_
    refine mm_aload_n dX12_readFact_150 rfl ?_
    refine rD_get (key := 11320) lk_X12_188_X12 lay_113 rfl rfl rfl dX12_readFact_151 R ?_
    refine mm_aload_n dX12_readFact_154 rfl ?_
    refine rD_get (key := 11352) lk_X12_194_X12 lay_113 rfl rfl rfl dX12_readFact_155 R ?_
    obtain ⟨b16, H⟩ := hB H
    obtain ⟨D17, e18, H⟩ := hD H
    refine rD_iast lay_126 rfl dX12_readFact_158 R b16 e18 (fun h R => ?_)
    refine mm_aload_n dX12_readFact_159 rfl ?_
    refine rD_getR (t := 125) lk_X12_53_X12 lay_113 rfl rfl dX12_readFact_160 R ?_
    refine mm_aload_n dX12_readFact_163 rfl ?_
    refine rD_get (key := 11320) lk_X12_188_X12 lay_113 rfl rfl rfl dX12_readFact_164 R ?_
    refine mm_iload dX12_readFact_167 rfl ?_
    obtain ⟨b19, H⟩ := hB H
    obtain ⟨D20, e21, H⟩ := hD H
    refine rD_iast lay_127 rfl dX12_readFact_169 R b19 e21 (fun h R => ?_)
    refine mm_aload_n dX12_readFact_170 rfl ?_
    refine rD_getR (t := 126) lk_X12_56_X12 lay_113 rfl rfl dX12_readFact_171 R ?_
    refine mm_aload_n dX12_readFact_174 rfl ?_
    refine rD_get (key := 11320) lk_X12_188_X12 lay_113 rfl rfl rfl dX12_readFact_175 R ?_
    refine mm_iload dX12_readFact_178 rfl ?_
    obtain ⟨b22, H⟩ := hB H
    obtain ⟨D23, e24, H⟩ := hD H
    refine rD_iast lay_128 rfl dX12_readFact_180 R b22 e24 (fun h R => ?_)
    refine mm_aload_n dX12_readFact_181 rfl ?_
    refine rD_getR (t := 127) lk_X12_59_X12 lay_113 rfl rfl dX12_readFact_182 R ?_
    refine mm_aload_n dX12_readFact_185 rfl ?_
    refine rD_get (key := 11320) lk_X12_188_X12 lay_113 rfl rfl rfl dX12_readFact_186 R ?_
    refine mm_iload dX12_readFact_189 rfl ?_
    obtain ⟨b25, H⟩ := hB H
    obtain ⟨D26, e27, H⟩ := hD H
    refine rD_iast lay_129 rfl dX12_readFact_191 R b25 e27 (fun h R => ?_)
    refine mm_aload_n dX12_readFact_192 rfl ?_
    refine rD_getR (t := 128) lk_X12_62_X12 lay_113 rfl rfl dX12_readFact_193 R ?_
    refine mm_aload_n dX12_readFact_196 rfl ?_
    refine rD_get (key := 11320) lk_X12_188_X12 lay_113 rfl rfl rfl dX12_readFact_197 R ?_
    refine mm_iload_n dX12_readFact_200 rfl ?_
    refine mm_iload_n dX12_readFact_201 rfl ?_
    refine mm_isub dX12_readFact_202 ?_
    obtain ⟨b28, H⟩ := hB H
    obtain ⟨D29, e30, H⟩ := hD H
    refine rD_iast lay_130 rfl dX12_readFact_203 R b28 e30 (fun h R => ?_)
    refine mm_aload_n dX12_readFact_204 rfl ?_
    refine mm_dup rfl dX12_readFact_205 ?_
    refine rD_get (key := 11320) lk_X12_188_X12 lay_113 rfl rfl rfl dX12_readFact_206 R ?_
    refine mm_iconst (v := 1) dX12_readFact_209 (by decide +kernel) ?_
    refine mm_iadd dX12_readFact_210 ?_
    obtain ⟨D31, e32, H⟩ := hD H
    refine rD_put (key := 11320) lk_X12_188_X12 lay_113 rfl rfl rfl rfl rfl dX12_readFact_211 R e32 (fun h R => ?_)
    refine mm_vret rfl dX12_readFact_214 ?_
    exact en_dV H R
  · replace H := hF c15 H
    refine mm_vret rfl dX12_readFact_145 ?_
    exact en_dV H R
def f_X12_readFact_J104 (N : Nat) (x1 : Int32) (x2 : Int32) (x3 : Int32) (x4 : Int32) (s0 : Int32) (D : CS) : Option CS :=
  bnd (f_X12_need 61 x1 D) fun q10 =>
  if (gI q10 11349) = 0 then (bnd (f_X12_readNumber N x1 q10) fun q33 =>
    f_X12_readFact_J129 N x1 x2 x3 x4 s0 q33.1 q33.2)
    else (f_X12_readFact_J129 N x1 x2 x3 x4 s0 0 q10)
theorem t_X12_readFact_J104 {g : mm_G} {d : Nat} {h : mm_Hp} {C D : CS} {N : Nat} {x1 : Int32} {x2 : Int32} {x3 : Int32} {x4 : Int32} {s0 : Int32} {r : CS} (hd : 3 ≤ d) (R : Rep h C D) (H : f_X12_readFact_J104 N x1 x2 x3 x4 s0 D = some r) : mm_P g d MX12_readFact 104 [some (.ref 113), some (.int x1), some (.int x2), some (.int x3), some (.int x4), none, none] [.int s0] h (dV C r) := by
  unfold f_X12_readFact_J104 at H
  refine mm_istore (ls' := [some (.ref 113), some (.int x1), some (.int x2), some (.int x3), some (.int x4), some (.int s0), none]) dX12_readFact_104 (Nat.le_of_ble_eq_true rfl) rfl ?_
  refine mm_aload_n dX12_readFact_106 rfl ?_
  refine mm_bipush (v := 61) dX12_readFact_107 (by decide +kernel) ?_
  refine mm_iload_n dX12_readFact_109 rfl ?_
  obtain ⟨q10, H11, H⟩ := hC H
  refine mm_callV (d' := d - 1) (as := [.int 61, .int x1]) (st := []) (dS hd) cm_X12_need (mm_t6 183 rfl rfl) (mm_t6 185 rfl rfl) (mm_s3 11 rfl rfl) (T := TX12) (N := 54) rfl dX12_readFact_110 (R.oD (r := 113) rfl lay_113) rfl (Nat.le_of_ble_eq_true rfl) (Nat.le_of_ble_eq_true rfl) rfl rfl (t_X12_need (dL hd (by decide)) R H11) (fun o h q => th_dV q (fun R => ?_))
  refine mm_aload_n dX12_readFact_113 rfl ?_
  refine rD_get (key := 11349) lk_X12_139_X12 lay_113 rfl rfl rfl dX12_readFact_114 R ?_
  refine mm_if_ne 128 dX12_readFact_117 (by decide) (fun c12 => ?_) (fun c12 => ?_)
  · replace H := hF c12 H
    refine mm_iconst (v := 0) dX12_readFact_128 (by decide +kernel) ?_
    exact t_X12_readFact_J129 hd R H
  · replace H := hT c12 H
    refine mm_aload_n dX12_readFact_120 rfl ?_
    refine mm_iload_n dX12_readFact_121 rfl ?_
    obtain ⟨q33, H34, H⟩ := hC H
    refine mm_callV (d' := d - 1) (as := [.int x1]) (st := []) (dS hd) cm_X12_readNumber (mm_t6 191 rfl rfl) (mm_t6 193 rfl rfl) (mm_s3 13 rfl rfl) (T := TX12) (N := 54) rfl dX12_readFact_122 (R.oD (r := 113) rfl lay_113) rfl (Nat.le_of_ble_eq_true rfl) (Nat.le_of_ble_eq_true rfl) rfl rfl (t_X12_readNumber (dL hd (by decide)) R H34) (fun o h q => th_dI q (fun R => ?_))
    refine mm_goto 129 dX12_readFact_125 (by decide) ?_
    exact t_X12_readFact_J129 hd R H
def f_X12_readFact_J66 (N : Nat) (x1 : Int32) (x2 : Int32) (x3 : Int32) (D : CS) : Option CS :=
  if (gI D 11349) = 0 then (bnd (f_X12_readNumber N x1 D) fun q5 =>
    bnd (f_X12_need 64 x1 q5.2) fun q7 =>
    if (gI q7 11349) = 0 then (bnd (f_X12_readNumber N x1 q7) fun q35 =>
      f_X12_readFact_J104 N x1 x2 x3 q5.1 q35.1 q35.2)
      else (f_X12_readFact_J104 N x1 x2 x3 q5.1 0 q7))
    else (some D)
theorem t_X12_readFact_J66 {g : mm_G} {d : Nat} {h : mm_Hp} {C D : CS} {N : Nat} {x1 : Int32} {x2 : Int32} {x3 : Int32} {r : CS} (hd : 3 ≤ d) (R : Rep h C D) (H : f_X12_readFact_J66 N x1 x2 x3 D = some r) : mm_P g d MX12_readFact 66 [some (.ref 113), some (.int x1), some (.int x2), some (.int x3), none, none, none] [] h (dV C r) := by
  unfold f_X12_readFact_J66 at H
  refine mm_aload_n dX12_readFact_66 rfl ?_
  refine rD_get (key := 11349) lk_X12_139_X12 lay_113 rfl rfl rfl dX12_readFact_67 R ?_
  refine mm_if_eq 74 dX12_readFact_70 (by decide) (fun c4 => ?_) (fun c4 => ?_)
  · replace H := hT c4 H
    refine mm_aload_n dX12_readFact_74 rfl ?_
    refine mm_iload_n dX12_readFact_75 rfl ?_
    obtain ⟨q5, H6, H⟩ := hC H
    refine mm_callV (d' := d - 1) (as := [.int x1]) (st := []) (dS hd) cm_X12_readNumber (mm_t6 191 rfl rfl) (mm_t6 193 rfl rfl) (mm_s3 13 rfl rfl) (T := TX12) (N := 54) rfl dX12_readFact_76 (R.oD (r := 113) rfl lay_113) rfl (Nat.le_of_ble_eq_true rfl) (Nat.le_of_ble_eq_true rfl) rfl rfl (t_X12_readNumber (dL hd (by decide)) R H6) (fun o h q => th_dI q (fun R => ?_))
    refine mm_istore (ls' := [some (.ref 113), some (.int x1), some (.int x2), some (.int x3), some (.int q5.1), none, none]) dX12_readFact_79 (Nat.le_of_ble_eq_true rfl) rfl ?_
    refine mm_aload_n dX12_readFact_81 rfl ?_
    refine mm_bipush (v := 64) dX12_readFact_82 (by decide +kernel) ?_
    refine mm_iload_n dX12_readFact_84 rfl ?_
    obtain ⟨q7, H8, H⟩ := hC H
    refine mm_callV (d' := d - 1) (as := [.int 64, .int x1]) (st := []) (dS hd) cm_X12_need (mm_t6 183 rfl rfl) (mm_t6 185 rfl rfl) (mm_s3 11 rfl rfl) (T := TX12) (N := 54) rfl dX12_readFact_85 (R.oD (r := 113) rfl lay_113) rfl (Nat.le_of_ble_eq_true rfl) (Nat.le_of_ble_eq_true rfl) rfl rfl (t_X12_need (dL hd (by decide)) R H8) (fun o h q => th_dV q (fun R => ?_))
    refine mm_aload_n dX12_readFact_88 rfl ?_
    refine rD_get (key := 11349) lk_X12_139_X12 lay_113 rfl rfl rfl dX12_readFact_89 R ?_
    refine mm_if_ne 103 dX12_readFact_92 (by decide) (fun c9 => ?_) (fun c9 => ?_)
    · replace H := hF c9 H
      refine mm_iconst (v := 0) dX12_readFact_103 (by decide +kernel) ?_
      exact t_X12_readFact_J104 hd R H
    · replace H := hT c9 H
      refine mm_aload_n dX12_readFact_95 rfl ?_
      refine mm_iload_n dX12_readFact_96 rfl ?_
      obtain ⟨q35, H36, H⟩ := hC H
      refine mm_callV (d' := d - 1) (as := [.int x1]) (st := []) (dS hd) cm_X12_readNumber (mm_t6 191 rfl rfl) (mm_t6 193 rfl rfl) (mm_s3 13 rfl rfl) (T := TX12) (N := 54) rfl dX12_readFact_97 (R.oD (r := 113) rfl lay_113) rfl (Nat.le_of_ble_eq_true rfl) (Nat.le_of_ble_eq_true rfl) rfl rfl (t_X12_readNumber (dL hd (by decide)) R H36) (fun o h q => th_dI q (fun R => ?_))
      refine mm_goto 104 dX12_readFact_100 (by decide) ?_
      exact t_X12_readFact_J104 hd R H
  · replace H := hF c4 H
    refine mm_vret rfl dX12_readFact_73 ?_
    exact en_dV H R
def f_X12_readFact_J49 (N : Nat) (x1 : Int32) (x2 : Int32) (x3 : Int32) (D : CS) : Option CS :=
  if (gI D 11349) = 0 then (bd (sI D 11346 ((gI D 11346) + 1)) fun D37 =>
    f_X12_readFact_J66 N x1 x2 x3 D37)
    else (f_X12_readFact_J66 N x1 x2 x3 D)
theorem t_X12_readFact_J49 {g : mm_G} {d : Nat} {h : mm_Hp} {C D : CS} {N : Nat} {x1 : Int32} {x2 : Int32} {x3 : Int32} {r : CS} (hd : 3 ≤ d) (R : Rep h C D) (H : f_X12_readFact_J49 N x1 x2 x3 D = some r) : mm_P g d MX12_readFact 49 [some (.ref 113), some (.int x1), some (.int x2), some (.int x3), none, none, none] [] h (dV C r) := by
  unfold f_X12_readFact_J49 at H
  refine mm_aload_n dX12_readFact_49 rfl ?_
  refine rD_get (key := 11349) lk_X12_139_X12 lay_113 rfl rfl rfl dX12_readFact_50 R ?_
  refine mm_if_ne 66 dX12_readFact_53 (by decide) (fun c3 => ?_) (fun c3 => ?_)
  · replace H := hF c3 H
    exact t_X12_readFact_J66 hd R H
  · replace H := hT c3 H
    refine mm_aload_n dX12_readFact_56 rfl ?_
    refine mm_dup rfl dX12_readFact_57 ?_
    refine rD_get (key := 11346) lk_X12_133_X12 lay_113 rfl rfl rfl dX12_readFact_58 R ?_
    refine mm_iconst (v := 1) dX12_readFact_61 (by decide +kernel) ?_
    refine mm_iadd dX12_readFact_62 ?_
    obtain ⟨D37, e38, H⟩ := hD H
    refine rD_put (key := 11346) lk_X12_133_X12 lay_113 rfl rfl rfl rfl rfl dX12_readFact_63 R e38 (fun h R => ?_)
    exact t_X12_readFact_J66 hd R H
def f_X12_readFact (N : Nat) (x1 : Int32) (x2 : Int32) (D : CS) : Option CS :=
  if ((gI D 11346) - (gI D 11348)) < x1 then (if (gI D 11320) = 150 then (bnd (f_X12_wrong 5 (gI D 11346) D) fun q39 =>
      f_X12_readFact_J49 N x1 x2 (gI D 11346) q39)
      else (f_X12_readFact_J49 N x1 x2 (gI D 11346) D))
    else (bnd (f_X12_wrong 2 (gI D 11346) D) fun q41 =>
    f_X12_readFact_J49 N x1 x2 (gI D 11346) q41)
theorem t_X12_readFact {g : mm_G} {d : Nat} {h : mm_Hp} {C D : CS} {N : Nat} {x1 : Int32} {x2 : Int32} {r : CS} (hd : 3 ≤ d) (R : Rep h C D) (H : f_X12_readFact N x1 x2 D = some r) : mm_P g d MX12_readFact 0 [some (.ref 113), some (.int x1), some (.int x2), none, none, none, none] [] h (dV C r) := by
  unfold f_X12_readFact at H
  refine mm_aload_n dX12_readFact_0 rfl ?_
  refine rD_get (key := 11346) lk_X12_133_X12 lay_113 rfl rfl rfl dX12_readFact_1 R ?_
  refine mm_istore_n (ls' := [some (.ref 113), some (.int x1), some (.int x2), some (.int (gI D 11346)), none, none, none]) dX12_readFact_4 (Nat.le_of_ble_eq_true rfl) rfl ?_
  refine mm_aload_n dX12_readFact_5 rfl ?_
  refine rD_get (key := 11346) lk_X12_133_X12 lay_113 rfl rfl rfl dX12_readFact_6 R ?_
  refine mm_aload_n dX12_readFact_9 rfl ?_
  refine rD_get (key := 11348) lk_X12_145_X12 lay_113 rfl rfl rfl dX12_readFact_10 R ?_
  refine mm_isub dX12_readFact_13 ?_
  refine mm_iload_n dX12_readFact_14 rfl ?_
  refine mm_icmp_lt 30 dX12_readFact_15 (by decide) (fun c1 => ?_) (fun c1 => ?_)
  · replace H := hT c1 H
    refine mm_aload_n dX12_readFact_30 rfl ?_
    refine rD_get (key := 11320) lk_X12_188_X12 lay_113 rfl rfl rfl dX12_readFact_31 R ?_
    refine mm_sipush (v := 150) dX12_readFact_34 (by decide +kernel) ?_
    refine mm_icmp_ne 49 dX12_readFact_37 (by decide) (fun c2 => ?_) (fun c2 => ?_)
    · replace H := hF c2 H
      exact t_X12_readFact_J49 hd R H
    · replace H := hT c2 H
      refine mm_aload_n dX12_readFact_40 rfl ?_
      refine mm_iconst (v := 5) dX12_readFact_41 (by decide +kernel) ?_
      refine mm_aload_n dX12_readFact_42 rfl ?_
      refine rD_get (key := 11346) lk_X12_133_X12 lay_113 rfl rfl rfl dX12_readFact_43 R ?_
      obtain ⟨q39, H40, H⟩ := hC H
      refine mm_callV (d' := d - 1) (as := [.int 5, .int (gI D 11346)]) (st := []) (dS hd) cm_X12_wrong (mm_t6 144 rfl rfl) (mm_t6 146 rfl rfl) (mm_s3 2 rfl rfl) (T := TX12) (N := 54) rfl dX12_readFact_46 (R.oD (r := 113) rfl lay_113) rfl (Nat.le_of_ble_eq_true rfl) (Nat.le_of_ble_eq_true rfl) rfl rfl (t_X12_wrong (dL hd (by decide)) R H40) (fun o h q => th_dV q (fun R => ?_))
      exact t_X12_readFact_J49 hd R H
  · replace H := hF c1 H
    refine mm_aload_n dX12_readFact_18 rfl ?_
    refine mm_iconst (v := 2) dX12_readFact_19 (by decide +kernel) ?_
    refine mm_aload_n dX12_readFact_20 rfl ?_
    refine rD_get (key := 11346) lk_X12_133_X12 lay_113 rfl rfl rfl dX12_readFact_21 R ?_
    obtain ⟨q41, H42, H⟩ := hC H
    refine mm_callV (d' := d - 1) (as := [.int 2, .int (gI D 11346)]) (st := []) (dS hd) cm_X12_wrong (mm_t6 144 rfl rfl) (mm_t6 146 rfl rfl) (mm_s3 2 rfl rfl) (T := TX12) (N := 54) rfl dX12_readFact_24 (R.oD (r := 113) rfl lay_113) rfl (Nat.le_of_ble_eq_true rfl) (Nat.le_of_ble_eq_true rfl) rfl rfl (t_X12_wrong (dL hd (by decide)) R H42) (fun o h q => th_dV q (fun R => ?_))
    refine mm_goto 49 dX12_readFact_27 (by decide) ?_
    exact t_X12_readFact_J49 hd R H
def f_X12_readMention_J106 (N : Nat) (x1 : Int32) (x3 : Int32) (D : CS) : Option CS :=
  bnd (f_X12_need 62 x1 D) fun q11 =>
  if (gI q11 11349) = 0 then (if inb (gI q11 11321) 100 = true then (bd (sA q11 131 ((gI q11 11321)).toNatClampNeg (gI q11 11351)) fun D15 =>
    if inb (gI D15 11321) 100 = true then (bd (sA D15 132 ((gI D15 11321)).toNatClampNeg x3) fun D18 =>
    bd (sI D18 11321 ((gI D18 11321) + 1)) fun D20 =>
    some D20) else none) else none)
    else (some q11)
theorem t_X12_readMention_J106 {g : mm_G} {d : Nat} {h : mm_Hp} {C D : CS} {N : Nat} {x1 : Int32} {x3 : Int32} {r : CS} (hd : 3 ≤ d) (R : Rep h C D) (H : f_X12_readMention_J106 N x1 x3 D = some r) : mm_P g d MX12_readMention 106 [some (.ref 113), some (.int x1), none, some (.int x3)] [] h (dV C r) := by
  unfold f_X12_readMention_J106 at H
  refine mm_aload_n dX12_readMention_106 rfl ?_
  refine mm_bipush (v := 62) dX12_readMention_107 (by decide +kernel) ?_
  refine mm_iload_n dX12_readMention_109 rfl ?_
  obtain ⟨q11, H12, H⟩ := hC H
  refine mm_callV (d' := d - 1) (as := [.int 62, .int x1]) (st := []) (dS hd) cm_X12_need (mm_t6 183 rfl rfl) (mm_t6 185 rfl rfl) (mm_s3 11 rfl rfl) (T := TX12) (N := 54) rfl dX12_readMention_110 (R.oD (r := 113) rfl lay_113) rfl (Nat.le_of_ble_eq_true rfl) (Nat.le_of_ble_eq_true rfl) rfl rfl (t_X12_need (dL hd (by decide)) R H12) (fun o h q => th_dV q (fun R => ?_))
  refine mm_aload_n dX12_readMention_113 rfl ?_
  refine rD_get (key := 11349) lk_X12_139_X12 lay_113 rfl rfl rfl dX12_readMention_114 R ?_
  refine mm_if_eq 121 dX12_readMention_117 (by decide) (fun c13 => ?_) (fun c13 => ?_)
  · replace H := hT c13 H
    refine mm_aload_n dX12_readMention_121 rfl ?_
    refine rD_getR (t := 129) lk_X12_65_X12 lay_113 rfl rfl dX12_readMention_122 R ?_
    refine mm_aload_n dX12_readMention_125 rfl ?_
    refine rD_get (key := 11321) lk_X12_174_X12 lay_113 rfl rfl rfl dX12_readMention_126 R ?_
    refine mm_aload_n dX12_readMention_129 rfl ?_
    refine rD_get (key := 11351) lk_X12_130_X12 lay_113 rfl rfl rfl dX12_readMention_130 R ?_
    obtain ⟨b14, H⟩ := hB H
    obtain ⟨D15, e16, H⟩ := hD H
    refine rD_iast lay_131 rfl dX12_readMention_133 R b14 e16 (fun h R => ?_)
    refine mm_aload_n dX12_readMention_134 rfl ?_
    refine rD_getR (t := 130) lk_X12_68_X12 lay_113 rfl rfl dX12_readMention_135 R ?_
    refine mm_aload_n dX12_readMention_138 rfl ?_
    refine rD_get (key := 11321) lk_X12_174_X12 lay_113 rfl rfl rfl dX12_readMention_139 R ?_
    refine mm_iload_n dX12_readMention_142 rfl ?_
    obtain ⟨b17, H⟩ := hB H
    obtain ⟨D18, e19, H⟩ := hD H
    refine rD_iast lay_132 rfl dX12_readMention_143 R b17 e19 (fun h R => ?_)
    refine mm_aload_n dX12_readMention_144 rfl ?_
    refine mm_dup rfl dX12_readMention_145 ?_
    refine rD_get (key := 11321) lk_X12_174_X12 lay_113 rfl rfl rfl dX12_readMention_146 R ?_
    refine mm_iconst (v := 1) dX12_readMention_149 (by decide +kernel) ?_
    refine mm_iadd dX12_readMention_150 ?_
    obtain ⟨D20, e21, H⟩ := hD H
    refine rD_put (key := 11321) lk_X12_174_X12 lay_113 rfl rfl rfl rfl rfl dX12_readMention_151 R e21 (fun h R => ?_)
    refine mm_vret rfl dX12_readMention_154 ?_
    exact en_dV H R
  · replace H := hF c13 H
    refine mm_vret rfl dX12_readMention_120 ?_
    exact en_dV H R
def f_X12_readMention_J60 (N : Nat) (x1 : Int32) (D : CS) : Option CS :=
  if (gI D 11349) = 0 then (bnd (f_X12_readName N x1 D) fun q5 =>
    if (gI q5.2 11349) = 0 then (bnd (f_X12_named N (gJ q5.2 11353) (gI q5.2 11351) q5.2) fun q8 =>
      if q8 = (-1) then (bnd (f_X12_wrong 4 q5.1 q5.2) fun q22 =>
        f_X12_readMention_J106 N x1 q8 q22)
        else (f_X12_readMention_J106 N x1 q8 q5.2))
      else (some q5.2))
    else (some D)
theorem t_X12_readMention_J60 {g : mm_G} {d : Nat} {h : mm_Hp} {C D : CS} {N : Nat} {x1 : Int32} {r : CS} (hd : 3 ≤ d) (R : Rep h C D) (H : f_X12_readMention_J60 N x1 D = some r) : mm_P g d MX12_readMention 60 [some (.ref 113), some (.int x1), none, none] [] h (dV C r) := by
  unfold f_X12_readMention_J60 at H
  refine mm_aload_n dX12_readMention_60 rfl ?_
  refine rD_get (key := 11349) lk_X12_139_X12 lay_113 rfl rfl rfl dX12_readMention_61 R ?_
  refine mm_if_eq 68 dX12_readMention_64 (by decide) (fun c4 => ?_) (fun c4 => ?_)
  · replace H := hT c4 H
    refine mm_aload_n dX12_readMention_68 rfl ?_
    refine mm_iload_n dX12_readMention_69 rfl ?_
    obtain ⟨q5, H6, H⟩ := hC H
    refine mm_callV (d' := d - 1) (as := [.int x1]) (st := []) (dS hd) cm_X12_readName (mm_t6 152 rfl rfl) (mm_t6 154 rfl rfl) (mm_s3 4 rfl rfl) (T := TX12) (N := 54) rfl dX12_readMention_70 (R.oD (r := 113) rfl lay_113) rfl (Nat.le_of_ble_eq_true rfl) (Nat.le_of_ble_eq_true rfl) rfl rfl (t_X12_readName (dL hd (by decide)) R H6) (fun o h q => th_dI q (fun R => ?_))
    refine mm_istore_n (ls' := [some (.ref 113), some (.int x1), some (.int q5.1), none]) dX12_readMention_73 (Nat.le_of_ble_eq_true rfl) rfl ?_
    refine mm_aload_n dX12_readMention_74 rfl ?_
    refine rD_get (key := 11349) lk_X12_139_X12 lay_113 rfl rfl rfl dX12_readMention_75 R ?_
    refine mm_if_eq 82 dX12_readMention_78 (by decide) (fun c7 => ?_) (fun c7 => ?_)
    · replace H := hT c7 H
      refine mm_aload_n dX12_readMention_82 rfl ?_
      refine mm_aload_n dX12_readMention_83 rfl ?_
      refine rD_getJ (key := 11353) lk_X12_152_X12 lay_113 rfl rfl rfl dX12_readMention_84 R ?_
      refine mm_aload_n dX12_readMention_87 rfl ?_
      refine rD_get (key := 11351) lk_X12_130_X12 lay_113 rfl rfl rfl dX12_readMention_88 R ?_
      obtain ⟨q8, H9, H⟩ := hC H
      refine mm_callV (d' := d - 1) (as := [.long (gJ q5.2 11353), .int (gI q5.2 11351)]) (st := []) (dS hd) cm_X12_named (mm_t6 163 rfl rfl) (mm_t6 165 rfl rfl) (mm_s3 6 rfl rfl) (T := TX12) (N := 54) rfl dX12_readMention_91 (R.oD (r := 113) rfl lay_113) rfl (Nat.le_of_ble_eq_true rfl) (Nat.le_of_ble_eq_true rfl) rfl rfl (t_X12_named (dL hd (by decide)) R H9) (fun o u q => mm_thenI q ?_)
      refine mm_istore_n (ls' := [some (.ref 113), some (.int x1), some (.int q5.1), some (.int q8)]) dX12_readMention_94 (Nat.le_of_ble_eq_true rfl) rfl ?_
      refine mm_iload_n dX12_readMention_95 rfl ?_
      refine mm_iconst (v := (-1)) dX12_readMention_96 (by decide +kernel) ?_
      refine mm_icmp_ne 106 dX12_readMention_97 (by decide) (fun c10 => ?_) (fun c10 => ?_)
      · replace H := hF c10 H
        refine mm_fgt (ls' := [some (.ref 113), some (.int x1), none, some (.int q8)]) ⟨rfl, rfl, rfl, trivial⟩ ?_
        exact t_X12_readMention_J106 hd R H
      · replace H := hT c10 H
        refine mm_aload_n dX12_readMention_100 rfl ?_
        refine mm_iconst (v := 4) dX12_readMention_101 (by decide +kernel) ?_
        refine mm_iload_n dX12_readMention_102 rfl ?_
        obtain ⟨q22, H23, H⟩ := hC H
        refine mm_callV (d' := d - 1) (as := [.int 4, .int q5.1]) (st := []) (dS hd) cm_X12_wrong (mm_t6 144 rfl rfl) (mm_t6 146 rfl rfl) (mm_s3 2 rfl rfl) (T := TX12) (N := 54) rfl dX12_readMention_103 (R.oD (r := 113) rfl lay_113) rfl (Nat.le_of_ble_eq_true rfl) (Nat.le_of_ble_eq_true rfl) rfl rfl (t_X12_wrong (dL hd (by decide)) R H23) (fun o h q => th_dV q (fun R => ?_))
        refine mm_fgt (ls' := [some (.ref 113), some (.int x1), none, some (.int q8)]) ⟨rfl, rfl, rfl, trivial⟩ ?_
        exact t_X12_readMention_J106 hd R H
    · replace H := hF c7 H
      refine mm_vret rfl dX12_readMention_81 ?_
      exact en_dV H R
  · replace H := hF c4 H
    refine mm_vret rfl dX12_readMention_67 ?_
    exact en_dV H R
def f_X12_readMention_J43 (N : Nat) (x1 : Int32) (D : CS) : Option CS :=
  if (gI D 11349) = 0 then (bd (sI D 11346 ((gI D 11346) + 1)) fun D24 =>
    f_X12_readMention_J60 N x1 D24)
    else (f_X12_readMention_J60 N x1 D)
theorem t_X12_readMention_J43 {g : mm_G} {d : Nat} {h : mm_Hp} {C D : CS} {N : Nat} {x1 : Int32} {r : CS} (hd : 3 ≤ d) (R : Rep h C D) (H : f_X12_readMention_J43 N x1 D = some r) : mm_P g d MX12_readMention 43 [some (.ref 113), some (.int x1), none, none] [] h (dV C r) := by
  unfold f_X12_readMention_J43 at H
  refine mm_aload_n dX12_readMention_43 rfl ?_
  refine rD_get (key := 11349) lk_X12_139_X12 lay_113 rfl rfl rfl dX12_readMention_44 R ?_
  refine mm_if_ne 60 dX12_readMention_47 (by decide) (fun c3 => ?_) (fun c3 => ?_)
  · replace H := hF c3 H
    exact t_X12_readMention_J60 hd R H
  · replace H := hT c3 H
    refine mm_aload_n dX12_readMention_50 rfl ?_
    refine mm_dup rfl dX12_readMention_51 ?_
    refine rD_get (key := 11346) lk_X12_133_X12 lay_113 rfl rfl rfl dX12_readMention_52 R ?_
    refine mm_iconst (v := 1) dX12_readMention_55 (by decide +kernel) ?_
    refine mm_iadd dX12_readMention_56 ?_
    obtain ⟨D24, e25, H⟩ := hD H
    refine rD_put (key := 11346) lk_X12_133_X12 lay_113 rfl rfl rfl rfl rfl dX12_readMention_57 R e25 (fun h R => ?_)
    exact t_X12_readMention_J60 hd R H
def f_X12_readMention (N : Nat) (x1 : Int32) (D : CS) : Option CS :=
  if ((gI D 11346) - (gI D 11348)) < x1 then (if (gI D 11321) = 100 then (bnd (f_X12_wrong 5 (gI D 11346) D) fun q26 =>
      f_X12_readMention_J43 N x1 q26)
      else (f_X12_readMention_J43 N x1 D))
    else (bnd (f_X12_wrong 2 (gI D 11346) D) fun q28 =>
    f_X12_readMention_J43 N x1 q28)
theorem t_X12_readMention {g : mm_G} {d : Nat} {h : mm_Hp} {C D : CS} {N : Nat} {x1 : Int32} {r : CS} (hd : 3 ≤ d) (R : Rep h C D) (H : f_X12_readMention N x1 D = some r) : mm_P g d MX12_readMention 0 [some (.ref 113), some (.int x1), none, none] [] h (dV C r) := by
  unfold f_X12_readMention at H
  refine mm_aload_n dX12_readMention_0 rfl ?_
  refine rD_get (key := 11346) lk_X12_133_X12 lay_113 rfl rfl rfl dX12_readMention_1 R ?_
  refine mm_aload_n dX12_readMention_4 rfl ?_
  refine rD_get (key := 11348) lk_X12_145_X12 lay_113 rfl rfl rfl dX12_readMention_5 R ?_
  refine mm_isub dX12_readMention_8 ?_
  refine mm_iload_n dX12_readMention_9 rfl ?_
  refine mm_icmp_lt 25 dX12_readMention_10 (by decide) (fun c1 => ?_) (fun c1 => ?_)
  · replace H := hT c1 H
    refine mm_aload_n dX12_readMention_25 rfl ?_
    refine rD_get (key := 11321) lk_X12_174_X12 lay_113 rfl rfl rfl dX12_readMention_26 R ?_
    refine mm_bipush (v := 100) dX12_readMention_29 (by decide +kernel) ?_
    refine mm_icmp_ne 43 dX12_readMention_31 (by decide) (fun c2 => ?_) (fun c2 => ?_)
    · replace H := hF c2 H
      exact t_X12_readMention_J43 hd R H
    · replace H := hT c2 H
      refine mm_aload_n dX12_readMention_34 rfl ?_
      refine mm_iconst (v := 5) dX12_readMention_35 (by decide +kernel) ?_
      refine mm_aload_n dX12_readMention_36 rfl ?_
      refine rD_get (key := 11346) lk_X12_133_X12 lay_113 rfl rfl rfl dX12_readMention_37 R ?_
      obtain ⟨q26, H27, H⟩ := hC H
      refine mm_callV (d' := d - 1) (as := [.int 5, .int (gI D 11346)]) (st := []) (dS hd) cm_X12_wrong (mm_t6 144 rfl rfl) (mm_t6 146 rfl rfl) (mm_s3 2 rfl rfl) (T := TX12) (N := 54) rfl dX12_readMention_40 (R.oD (r := 113) rfl lay_113) rfl (Nat.le_of_ble_eq_true rfl) (Nat.le_of_ble_eq_true rfl) rfl rfl (t_X12_wrong (dL hd (by decide)) R H27) (fun o h q => th_dV q (fun R => ?_))
      exact t_X12_readMention_J43 hd R H
  · replace H := hF c1 H
    refine mm_aload_n dX12_readMention_13 rfl ?_
    refine mm_iconst (v := 2) dX12_readMention_14 (by decide +kernel) ?_
    refine mm_aload_n dX12_readMention_15 rfl ?_
    refine rD_get (key := 11346) lk_X12_133_X12 lay_113 rfl rfl rfl dX12_readMention_16 R ?_
    obtain ⟨q28, H29, H⟩ := hC H
    refine mm_callV (d' := d - 1) (as := [.int 2, .int (gI D 11346)]) (st := []) (dS hd) cm_X12_wrong (mm_t6 144 rfl rfl) (mm_t6 146 rfl rfl) (mm_s3 2 rfl rfl) (T := TX12) (N := 54) rfl dX12_readMention_19 (R.oD (r := 113) rfl lay_113) rfl (Nat.le_of_ble_eq_true rfl) (Nat.le_of_ble_eq_true rfl) rfl rfl (t_X12_wrong (dL hd (by decide)) R H29) (fun o h q => th_dV q (fun R => ?_))
    refine mm_goto 43 dX12_readMention_22 (by decide) ?_
    exact t_X12_readMention_J43 hd R H
def f_X12_readRest_L26 (N : Nat) (x1 : Int32) (x2 : Int32) : Nat → CS → Option (CS)
  | 0, _ => none
  | n + 1, D => if (gI D 11349) = 0 then (bnd (f_X12_now0 D) fun q7 =>
    if q7 = (-1) then (some D)
      else (bnd (f_X12_now0 D) fun q10 =>
      if q10 = 10 then (some D)
        else (bnd (f_X12_now0 D) fun q13 =>
        if q13 < 32 then (bnd (f_X12_wrong 1 (gI D 11346) D) fun q16 =>
          f_X12_readRest_L26 N x1 x2 n q16)
          else (if 126 < q13 then (bnd (f_X12_wrong 1 (gI D 11346) D) fun q19 =>
            f_X12_readRest_L26 N x1 x2 n q19)
            else (if q13 = 62 then (bnd (f_X12_wrong 1 (gI D 11346) D) fun q22 =>
              f_X12_readRest_L26 N x1 x2 n q22)
              else (if q13 = 125 then (bnd (f_X12_wrong 1 (gI D 11346) D) fun q33 =>
                f_X12_readRest_L26 N x1 x2 n q33)
                else (if q13 = 60 then (bnd (f_X12_readMention N x1 D) fun q31 =>
                  f_X12_readRest_L26 N x1 x2 n q31)
                  else (if q13 = 123 then (bnd (f_X12_readFact N x1 x2 D) fun q29 =>
                    f_X12_readRest_L26 N x1 x2 n q29)
                    else (bnd (f_X12_take x1 D) fun q27 =>
                    f_X12_readRest_L26 N x1 x2 n q27)))))))))
    else (some D)
theorem t_X12_readRest_L26 {g : mm_G} {d : Nat} {Post : mm_Ou → mm_Hp → Prop} {C : CS} {N : Nat} {x1 : Int32} {x2 : Int32} {res : (CS)} (hd : 4 ≤ d) (KE : ∀ (h1 : mm_Hp), Rep h1 C res → mm_P g d MX12_readRest 128 [none, none, none, none] [] h1 Post) : ∀ (n : Nat) (D : CS) (h : mm_Hp) , Rep h C D → f_X12_readRest_L26 N x1 x2 n D = some res → mm_P g d MX12_readRest 26 [some (.ref 113), some (.int x1), some (.int x2), none] [] h Post := by
  intro n
  induction n with
  | zero =>
    intro D h R H
    exact hN H
  | succ n ih =>
    intro D h R H
    unfold f_X12_readRest_L26 at H
    refine mm_aload_n dX12_readRest_26 rfl ?_
    refine rD_get (key := 11349) lk_X12_139_X12 lay_113 rfl rfl rfl dX12_readRest_27 R ?_
    refine mm_if_ne 128 dX12_readRest_30 (by decide) (fun c6 => ?_) (fun c6 => ?_)
    · replace H := hF c6 H
      refine mm_fgt (ls' := [none, none, none, none]) trivial ?_
      cases H
      exact KE _ R
    · replace H := hT c6 H
      refine mm_aload_n dX12_readRest_33 rfl ?_
      obtain ⟨q7, H8, H⟩ := hC H
      refine mm_callV (d' := d - 1) (as := []) (st := []) (dS hd) cm_X12_now0 (mm_t6 137 rfl rfl) (mm_t6 139 rfl rfl) (mm_s3 1 rfl rfl) (T := TX12) (N := 54) rfl dX12_readRest_34 (R.oD (r := 113) rfl lay_113) rfl (Nat.le_of_ble_eq_true rfl) (Nat.le_of_ble_eq_true rfl) rfl rfl (t_X12_now0 (dL hd (by decide)) R H8) (fun o u q => mm_thenI q ?_)
      refine mm_iconst (v := (-1)) dX12_readRest_37 (by decide +kernel) ?_
      refine mm_icmp_eq 128 dX12_readRest_38 (by decide) (fun c9 => ?_) (fun c9 => ?_)
      · replace H := hT c9 H
        refine mm_fgt (ls' := [none, none, none, none]) trivial ?_
        cases H
        exact KE _ R
      · replace H := hF c9 H
        refine mm_aload_n dX12_readRest_41 rfl ?_
        obtain ⟨q10, H11, H⟩ := hC H
        refine mm_callV (d' := d - 1) (as := []) (st := []) (dS hd) cm_X12_now0 (mm_t6 137 rfl rfl) (mm_t6 139 rfl rfl) (mm_s3 1 rfl rfl) (T := TX12) (N := 54) rfl dX12_readRest_42 (R.oD (r := 113) rfl lay_113) rfl (Nat.le_of_ble_eq_true rfl) (Nat.le_of_ble_eq_true rfl) rfl rfl (t_X12_now0 (dL hd (by decide)) R H11) (fun o u q => mm_thenI q ?_)
        refine mm_bipush (v := 10) dX12_readRest_45 (by decide +kernel) ?_
        refine mm_icmp_eq 128 dX12_readRest_47 (by decide) (fun c12 => ?_) (fun c12 => ?_)
        · replace H := hT c12 H
          refine mm_fgt (ls' := [none, none, none, none]) trivial ?_
          cases H
          exact KE _ R
        · replace H := hF c12 H
          refine mm_aload_n dX12_readRest_50 rfl ?_
          obtain ⟨q13, H14, H⟩ := hC H
          refine mm_callV (d' := d - 1) (as := []) (st := []) (dS hd) cm_X12_now0 (mm_t6 137 rfl rfl) (mm_t6 139 rfl rfl) (mm_s3 1 rfl rfl) (T := TX12) (N := 54) rfl dX12_readRest_51 (R.oD (r := 113) rfl lay_113) rfl (Nat.le_of_ble_eq_true rfl) (Nat.le_of_ble_eq_true rfl) rfl rfl (t_X12_now0 (dL hd (by decide)) R H14) (fun o u q => mm_thenI q ?_)
          refine mm_istore_n (ls' := [some (.ref 113), some (.int x1), some (.int x2), some (.int q13)]) dX12_readRest_54 (Nat.le_of_ble_eq_true rfl) rfl ?_
          refine mm_iload_n dX12_readRest_55 rfl ?_
          refine mm_bipush (v := 32) dX12_readRest_56 (by decide +kernel) ?_
          refine mm_icmp_lt 79 dX12_readRest_58 (by decide) (fun c15 => ?_) (fun c15 => ?_)
          · replace H := hT c15 H
            refine mm_aload_n dX12_readRest_79 rfl ?_
            refine mm_iconst (v := 1) dX12_readRest_80 (by decide +kernel) ?_
            refine mm_aload_n dX12_readRest_81 rfl ?_
            refine rD_get (key := 11346) lk_X12_133_X12 lay_113 rfl rfl rfl dX12_readRest_82 R ?_
            obtain ⟨q16, H17, H⟩ := hC H
            refine mm_callV (d' := d - 1) (as := [.int 1, .int (gI D 11346)]) (st := []) (dS hd) cm_X12_wrong (mm_t6 144 rfl rfl) (mm_t6 146 rfl rfl) (mm_s3 2 rfl rfl) (T := TX12) (N := 54) rfl dX12_readRest_85 (R.oD (r := 113) rfl lay_113) rfl (Nat.le_of_ble_eq_true rfl) (Nat.le_of_ble_eq_true rfl) rfl rfl (t_X12_wrong (dL hd (by decide)) R H17) (fun o h q => th_dV q (fun R => ?_))
            refine mm_goto 125 dX12_readRest_88 (by decide) ?_
            refine mm_goto 26 dX12_readRest_125 (by decide) ?_
            refine mm_fgt (ls' := [some (.ref 113), some (.int x1), some (.int x2), none]) ⟨rfl, rfl, rfl, trivial⟩ ?_
            exact ih _ _ R H
          · replace H := hF c15 H
            refine mm_iload_n dX12_readRest_61 rfl ?_
            refine mm_bipush (v := 126) dX12_readRest_62 (by decide +kernel) ?_
            refine mm_icmp_gt 79 dX12_readRest_64 (by decide) (fun c18 => ?_) (fun c18 => ?_)
            · replace H := hT c18 H
              refine mm_aload_n dX12_readRest_79 rfl ?_
              refine mm_iconst (v := 1) dX12_readRest_80 (by decide +kernel) ?_
              refine mm_aload_n dX12_readRest_81 rfl ?_
              refine rD_get (key := 11346) lk_X12_133_X12 lay_113 rfl rfl rfl dX12_readRest_82 R ?_
              obtain ⟨q19, H20, H⟩ := hC H
              refine mm_callV (d' := d - 1) (as := [.int 1, .int (gI D 11346)]) (st := []) (dS hd) cm_X12_wrong (mm_t6 144 rfl rfl) (mm_t6 146 rfl rfl) (mm_s3 2 rfl rfl) (T := TX12) (N := 54) rfl dX12_readRest_85 (R.oD (r := 113) rfl lay_113) rfl (Nat.le_of_ble_eq_true rfl) (Nat.le_of_ble_eq_true rfl) rfl rfl (t_X12_wrong (dL hd (by decide)) R H20) (fun o h q => th_dV q (fun R => ?_))
              refine mm_goto 125 dX12_readRest_88 (by decide) ?_
              refine mm_goto 26 dX12_readRest_125 (by decide) ?_
              refine mm_fgt (ls' := [some (.ref 113), some (.int x1), some (.int x2), none]) ⟨rfl, rfl, rfl, trivial⟩ ?_
              exact ih _ _ R H
            · replace H := hF c18 H
              refine mm_iload_n dX12_readRest_67 rfl ?_
              refine mm_bipush (v := 62) dX12_readRest_68 (by decide +kernel) ?_
              refine mm_icmp_eq 79 dX12_readRest_70 (by decide) (fun c21 => ?_) (fun c21 => ?_)
              · replace H := hT c21 H
                refine mm_aload_n dX12_readRest_79 rfl ?_
                refine mm_iconst (v := 1) dX12_readRest_80 (by decide +kernel) ?_
                refine mm_aload_n dX12_readRest_81 rfl ?_
                refine rD_get (key := 11346) lk_X12_133_X12 lay_113 rfl rfl rfl dX12_readRest_82 R ?_
                obtain ⟨q22, H23, H⟩ := hC H
                refine mm_callV (d' := d - 1) (as := [.int 1, .int (gI D 11346)]) (st := []) (dS hd) cm_X12_wrong (mm_t6 144 rfl rfl) (mm_t6 146 rfl rfl) (mm_s3 2 rfl rfl) (T := TX12) (N := 54) rfl dX12_readRest_85 (R.oD (r := 113) rfl lay_113) rfl (Nat.le_of_ble_eq_true rfl) (Nat.le_of_ble_eq_true rfl) rfl rfl (t_X12_wrong (dL hd (by decide)) R H23) (fun o h q => th_dV q (fun R => ?_))
                refine mm_goto 125 dX12_readRest_88 (by decide) ?_
                refine mm_goto 26 dX12_readRest_125 (by decide) ?_
                refine mm_fgt (ls' := [some (.ref 113), some (.int x1), some (.int x2), none]) ⟨rfl, rfl, rfl, trivial⟩ ?_
                exact ih _ _ R H
              · replace H := hF c21 H
                refine mm_iload_n dX12_readRest_73 rfl ?_
                refine mm_bipush (v := 125) dX12_readRest_74 (by decide +kernel) ?_
                refine mm_icmp_ne 91 dX12_readRest_76 (by decide) (fun c24 => ?_) (fun c24 => ?_)
                · replace H := hF c24 H
                  refine mm_iload_n dX12_readRest_91 rfl ?_
                  refine mm_bipush (v := 60) dX12_readRest_92 (by decide +kernel) ?_
                  refine mm_icmp_ne 105 dX12_readRest_94 (by decide) (fun c25 => ?_) (fun c25 => ?_)
                  · replace H := hF c25 H
                    refine mm_iload_n dX12_readRest_105 rfl ?_
                    refine mm_bipush (v := 123) dX12_readRest_106 (by decide +kernel) ?_
                    refine mm_icmp_ne 120 dX12_readRest_108 (by decide) (fun c26 => ?_) (fun c26 => ?_)
                    · replace H := hF c26 H
                      refine mm_aload_n dX12_readRest_120 rfl ?_
                      refine mm_iload_n dX12_readRest_121 rfl ?_
                      obtain ⟨q27, H28, H⟩ := hC H
                      refine mm_callV (d' := d - 1) (as := [.int x1]) (st := []) (dS hd) cm_X12_take (mm_t6 159 rfl rfl) (mm_t6 161 rfl rfl) (mm_s3 5 rfl rfl) (T := TX12) (N := 54) rfl dX12_readRest_122 (R.oD (r := 113) rfl lay_113) rfl (Nat.le_of_ble_eq_true rfl) (Nat.le_of_ble_eq_true rfl) rfl rfl (t_X12_take (dL hd (by decide)) R H28) (fun o h q => th_dV q (fun R => ?_))
                      refine mm_goto 26 dX12_readRest_125 (by decide) ?_
                      refine mm_fgt (ls' := [some (.ref 113), some (.int x1), some (.int x2), none]) ⟨rfl, rfl, rfl, trivial⟩ ?_
                      exact ih _ _ R H
                    · replace H := hT c26 H
                      refine mm_aload_n dX12_readRest_111 rfl ?_
                      refine mm_iload_n dX12_readRest_112 rfl ?_
                      refine mm_iload_n dX12_readRest_113 rfl ?_
                      obtain ⟨q29, H30, H⟩ := hC H
                      refine mm_callV (d' := d - 1) (as := [.int x1, .int x2]) (st := []) (dS hd) cm_X12_readFact (mm_t6 187 rfl rfl) (mm_t6 189 rfl rfl) (mm_s3 12 rfl rfl) (T := TX12) (N := 54) rfl dX12_readRest_114 (R.oD (r := 113) rfl lay_113) rfl (Nat.le_of_ble_eq_true rfl) (Nat.le_of_ble_eq_true rfl) rfl rfl (t_X12_readFact (dL hd (by decide)) R H30) (fun o h q => th_dV q (fun R => ?_))
                      refine mm_goto 125 dX12_readRest_117 (by decide) ?_
                      refine mm_goto 26 dX12_readRest_125 (by decide) ?_
                      refine mm_fgt (ls' := [some (.ref 113), some (.int x1), some (.int x2), none]) ⟨rfl, rfl, rfl, trivial⟩ ?_
                      exact ih _ _ R H
                  · replace H := hT c25 H
                    refine mm_aload_n dX12_readRest_97 rfl ?_
                    refine mm_iload_n dX12_readRest_98 rfl ?_
                    obtain ⟨q31, H32, H⟩ := hC H
                    refine mm_callV (d' := d - 1) (as := [.int x1]) (st := []) (dS hd) cm_X12_readMention (mm_t6 179 rfl rfl) (mm_t6 181 rfl rfl) (mm_s3 10 rfl rfl) (T := TX12) (N := 54) rfl dX12_readRest_99 (R.oD (r := 113) rfl lay_113) rfl (Nat.le_of_ble_eq_true rfl) (Nat.le_of_ble_eq_true rfl) rfl rfl (t_X12_readMention (dL hd (by decide)) R H32) (fun o h q => th_dV q (fun R => ?_))
                    refine mm_goto 125 dX12_readRest_102 (by decide) ?_
                    refine mm_goto 26 dX12_readRest_125 (by decide) ?_
                    refine mm_fgt (ls' := [some (.ref 113), some (.int x1), some (.int x2), none]) ⟨rfl, rfl, rfl, trivial⟩ ?_
                    exact ih _ _ R H
                · replace H := hT c24 H
                  refine mm_aload_n dX12_readRest_79 rfl ?_
                  refine mm_iconst (v := 1) dX12_readRest_80 (by decide +kernel) ?_
                  refine mm_aload_n dX12_readRest_81 rfl ?_
                  refine rD_get (key := 11346) lk_X12_133_X12 lay_113 rfl rfl rfl dX12_readRest_82 R ?_
                  obtain ⟨q33, H34, H⟩ := hC H
                  refine mm_callV (d' := d - 1) (as := [.int 1, .int (gI D 11346)]) (st := []) (dS hd) cm_X12_wrong (mm_t6 144 rfl rfl) (mm_t6 146 rfl rfl) (mm_s3 2 rfl rfl) (T := TX12) (N := 54) rfl dX12_readRest_85 (R.oD (r := 113) rfl lay_113) rfl (Nat.le_of_ble_eq_true rfl) (Nat.le_of_ble_eq_true rfl) rfl rfl (t_X12_wrong (dL hd (by decide)) R H34) (fun o h q => th_dV q (fun R => ?_))
                  refine mm_goto 125 dX12_readRest_88 (by decide) ?_
                  refine mm_goto 26 dX12_readRest_125 (by decide) ?_
                  refine mm_fgt (ls' := [some (.ref 113), some (.int x1), some (.int x2), none]) ⟨rfl, rfl, rfl, trivial⟩ ?_
                  exact ih _ _ R H
def f_X12_readRest_J17 (N : Nat) (x1 : Int32) (x2 : Int32) (D : CS) : Option CS :=
  bnd (f_X12_wrong 1 (gI D 11346) D) fun q4 =>
  bnd (f_X12_readRest_L26 N x1 x2 N q4) fun q35 =>
    some q35
theorem t_X12_readRest_J17 {g : mm_G} {d : Nat} {h : mm_Hp} {C D : CS} {N : Nat} {x1 : Int32} {x2 : Int32} {r : CS} (hd : 4 ≤ d) (R : Rep h C D) (H : f_X12_readRest_J17 N x1 x2 D = some r) : mm_P g d MX12_readRest 17 [some (.ref 113), some (.int x1), some (.int x2), none] [] h (dV C r) := by
  unfold f_X12_readRest_J17 at H
  refine mm_aload_n dX12_readRest_17 rfl ?_
  refine mm_iconst (v := 1) dX12_readRest_18 (by decide +kernel) ?_
  refine mm_aload_n dX12_readRest_19 rfl ?_
  refine rD_get (key := 11346) lk_X12_133_X12 lay_113 rfl rfl rfl dX12_readRest_20 R ?_
  obtain ⟨q4, H5, H⟩ := hC H
  refine mm_callV (d' := d - 1) (as := [.int 1, .int (gI D 11346)]) (st := []) (dS hd) cm_X12_wrong (mm_t6 144 rfl rfl) (mm_t6 146 rfl rfl) (mm_s3 2 rfl rfl) (T := TX12) (N := 54) rfl dX12_readRest_23 (R.oD (r := 113) rfl lay_113) rfl (Nat.le_of_ble_eq_true rfl) (Nat.le_of_ble_eq_true rfl) rfl rfl (t_X12_wrong (dL hd (by decide)) R H5) (fun o h q => th_dV q (fun R => ?_))
  obtain ⟨q35, H36, H⟩ := hC H
  refine t_X12_readRest_L26 hd (fun h R => ?_) N _ _ R H36
  refine mm_vret rfl dX12_readRest_128 ?_
  exact en_dV H R
def f_X12_readRest (N : Nat) (x1 : Int32) (x2 : Int32) (D : CS) : Option CS :=
  bnd (f_X12_now0 D) fun q1 =>
  if q1 = (-1) then (f_X12_readRest_J17 N x1 x2 D)
    else (bnd (f_X12_now0 D) fun q37 =>
    if q37 = 10 then (f_X12_readRest_J17 N x1 x2 D)
        else (bnd (f_X12_readRest_L26 N x1 x2 N D) fun q40 =>
        some q40))
theorem t_X12_readRest {g : mm_G} {d : Nat} {h : mm_Hp} {C D : CS} {N : Nat} {x1 : Int32} {x2 : Int32} {r : CS} (hd : 4 ≤ d) (R : Rep h C D) (H : f_X12_readRest N x1 x2 D = some r) : mm_P g d MX12_readRest 0 [some (.ref 113), some (.int x1), some (.int x2), none] [] h (dV C r) := by
  unfold f_X12_readRest at H
  refine mm_aload_n dX12_readRest_0 rfl ?_
  obtain ⟨q1, H2, H⟩ := hC H
  refine mm_callV (d' := d - 1) (as := []) (st := []) (dS hd) cm_X12_now0 (mm_t6 137 rfl rfl) (mm_t6 139 rfl rfl) (mm_s3 1 rfl rfl) (T := TX12) (N := 54) rfl dX12_readRest_1 (R.oD (r := 113) rfl lay_113) rfl (Nat.le_of_ble_eq_true rfl) (Nat.le_of_ble_eq_true rfl) rfl rfl (t_X12_now0 (dL hd (by decide)) R H2) (fun o u q => mm_thenI q ?_)
  refine mm_iconst (v := (-1)) dX12_readRest_4 (by decide +kernel) ?_
  refine mm_icmp_eq 17 dX12_readRest_5 (by decide) (fun c3 => ?_) (fun c3 => ?_)
  · replace H := hT c3 H
    exact t_X12_readRest_J17 hd R H
  · replace H := hF c3 H
    refine mm_aload_n dX12_readRest_8 rfl ?_
    obtain ⟨q37, H38, H⟩ := hC H
    refine mm_callV (d' := d - 1) (as := []) (st := []) (dS hd) cm_X12_now0 (mm_t6 137 rfl rfl) (mm_t6 139 rfl rfl) (mm_s3 1 rfl rfl) (T := TX12) (N := 54) rfl dX12_readRest_9 (R.oD (r := 113) rfl lay_113) rfl (Nat.le_of_ble_eq_true rfl) (Nat.le_of_ble_eq_true rfl) rfl rfl (t_X12_now0 (dL hd (by decide)) R H38) (fun o u q => mm_thenI q ?_)
    refine mm_bipush (v := 10) dX12_readRest_12 (by decide +kernel) ?_
    refine mm_icmp_ne 26 dX12_readRest_14 (by decide) (fun c39 => ?_) (fun c39 => ?_)
    · replace H := hF c39 H
      obtain ⟨q40, H41, H⟩ := hC H
      refine t_X12_readRest_L26 hd (fun h R => ?_) N _ _ R H41
      refine mm_vret rfl dX12_readRest_128 ?_
      exact en_dV H R
    · replace H := hT c39 H
      exact t_X12_readRest_J17 hd R H
def f_X12_readExhibit_J238 (N : Nat) (x4 : Int32) (D : CS) : Option CS :=
  if (gI D 11349) = 0 then (bnd (f_X12_name x4 (gJ D 11353) D) fun q20 =>
    some q20)
    else (some D)
theorem t_X12_readExhibit_J238 {g : mm_G} {d : Nat} {h : mm_Hp} {C D : CS} {N : Nat} {x4 : Int32} {r : CS} (hd : 3 ≤ d) (R : Rep h C D) (H : f_X12_readExhibit_J238 N x4 D = some r) : mm_P g d MX12_readExhibit 238 [some (.ref 113), none, none, none, some (.int x4), none] [] h (dV C r) := by
  unfold f_X12_readExhibit_J238 at H
  refine mm_aload_n dX12_readExhibit_238 rfl ?_
  refine rD_get (key := 11349) lk_X12_139_X12 lay_113 rfl rfl rfl dX12_readExhibit_239 R ?_
  refine mm_if_ne 255 dX12_readExhibit_242 (by decide) (fun c19 => ?_) (fun c19 => ?_)
  · replace H := hF c19 H
    refine mm_vret rfl dX12_readExhibit_255 ?_
    exact en_dV H R
  · replace H := hT c19 H
    refine mm_aload_n dX12_readExhibit_245 rfl ?_
    refine mm_iload dX12_readExhibit_246 rfl ?_
    refine mm_aload_n dX12_readExhibit_248 rfl ?_
    refine rD_getJ (key := 11353) lk_X12_152_X12 lay_113 rfl rfl rfl dX12_readExhibit_249 R ?_
    obtain ⟨q20, H21, H⟩ := hC H
    refine mm_callV (d' := d - 1) (as := [.int x4, .long (gJ D 11353)]) (st := []) (dS hd) cm_X12_name (mm_t6 171 rfl rfl) (mm_t6 173 rfl rfl) (mm_s3 8 rfl rfl) (T := TX12) (N := 54) rfl dX12_readExhibit_252 (R.oD (r := 113) rfl lay_113) rfl (Nat.le_of_ble_eq_true rfl) (Nat.le_of_ble_eq_true rfl) rfl rfl (t_X12_name (dL hd (by decide)) R H21) (fun o h q => th_dV q (fun R => ?_))
    refine mm_vret rfl dX12_readExhibit_255 ?_
    exact en_dV H R
def f_X12_readExhibit_J205 (N : Nat) (x4 : Int32) (D : CS) : Option CS :=
  if (gI D 11349) = 0 then (bnd (f_X12_now0 D) fun q22 =>
    if q22 = (-1) then (f_X12_readExhibit_J238 N x4 D)
      else (bnd (f_X12_now0 D) fun q25 =>
      if q25 = 10 then (f_X12_readExhibit_J238 N x4 D)
        else (bnd (f_X12_wrong 1 (gI D 11346) D) fun q28 =>
        f_X12_readExhibit_J238 N x4 q28)))
    else (f_X12_readExhibit_J238 N x4 D)
theorem t_X12_readExhibit_J205 {g : mm_G} {d : Nat} {h : mm_Hp} {C D : CS} {N : Nat} {x4 : Int32} {r : CS} (hd : 3 ≤ d) (R : Rep h C D) (H : f_X12_readExhibit_J205 N x4 D = some r) : mm_P g d MX12_readExhibit 205 [some (.ref 113), none, none, none, some (.int x4), none] [] h (dV C r) := by
  unfold f_X12_readExhibit_J205 at H
  refine mm_aload_n dX12_readExhibit_205 rfl ?_
  refine rD_get (key := 11349) lk_X12_139_X12 lay_113 rfl rfl rfl dX12_readExhibit_206 R ?_
  refine mm_if_ne 238 dX12_readExhibit_209 (by decide) (fun c18 => ?_) (fun c18 => ?_)
  · replace H := hF c18 H
    exact t_X12_readExhibit_J238 hd R H
  · replace H := hT c18 H
    refine mm_aload_n dX12_readExhibit_212 rfl ?_
    obtain ⟨q22, H23, H⟩ := hC H
    refine mm_callV (d' := d - 1) (as := []) (st := []) (dS hd) cm_X12_now0 (mm_t6 137 rfl rfl) (mm_t6 139 rfl rfl) (mm_s3 1 rfl rfl) (T := TX12) (N := 54) rfl dX12_readExhibit_213 (R.oD (r := 113) rfl lay_113) rfl (Nat.le_of_ble_eq_true rfl) (Nat.le_of_ble_eq_true rfl) rfl rfl (t_X12_now0 (dL hd (by decide)) R H23) (fun o u q => mm_thenI q ?_)
    refine mm_iconst (v := (-1)) dX12_readExhibit_216 (by decide +kernel) ?_
    refine mm_icmp_eq 238 dX12_readExhibit_217 (by decide) (fun c24 => ?_) (fun c24 => ?_)
    · replace H := hT c24 H
      exact t_X12_readExhibit_J238 hd R H
    · replace H := hF c24 H
      refine mm_aload_n dX12_readExhibit_220 rfl ?_
      obtain ⟨q25, H26, H⟩ := hC H
      refine mm_callV (d' := d - 1) (as := []) (st := []) (dS hd) cm_X12_now0 (mm_t6 137 rfl rfl) (mm_t6 139 rfl rfl) (mm_s3 1 rfl rfl) (T := TX12) (N := 54) rfl dX12_readExhibit_221 (R.oD (r := 113) rfl lay_113) rfl (Nat.le_of_ble_eq_true rfl) (Nat.le_of_ble_eq_true rfl) rfl rfl (t_X12_now0 (dL hd (by decide)) R H26) (fun o u q => mm_thenI q ?_)
      refine mm_bipush (v := 10) dX12_readExhibit_224 (by decide +kernel) ?_
      refine mm_icmp_eq 238 dX12_readExhibit_226 (by decide) (fun c27 => ?_) (fun c27 => ?_)
      · replace H := hT c27 H
        exact t_X12_readExhibit_J238 hd R H
      · replace H := hF c27 H
        refine mm_aload_n dX12_readExhibit_229 rfl ?_
        refine mm_iconst (v := 1) dX12_readExhibit_230 (by decide +kernel) ?_
        refine mm_aload_n dX12_readExhibit_231 rfl ?_
        refine rD_get (key := 11346) lk_X12_133_X12 lay_113 rfl rfl rfl dX12_readExhibit_232 R ?_
        obtain ⟨q28, H29, H⟩ := hC H
        refine mm_callV (d' := d - 1) (as := [.int 1, .int (gI D 11346)]) (st := []) (dS hd) cm_X12_wrong (mm_t6 144 rfl rfl) (mm_t6 146 rfl rfl) (mm_s3 2 rfl rfl) (T := TX12) (N := 54) rfl dX12_readExhibit_235 (R.oD (r := 113) rfl lay_113) rfl (Nat.le_of_ble_eq_true rfl) (Nat.le_of_ble_eq_true rfl) rfl rfl (t_X12_wrong (dL hd (by decide)) R H29) (fun o h q => th_dV q (fun R => ?_))
        exact t_X12_readExhibit_J238 hd R H
def f_X12_readExhibit_J158 (N : Nat) (x4 : Int32) (D : CS) : Option CS :=
  if (gI D 11349) = 0 then (bnd (f_X12_readName N 60 D) fun q12 =>
    if (gI q12.2 11349) = 0 then (bnd (f_X12_named N (gJ q12.2 11353) (gI q12.2 11351) q12.2) fun q15 =>
      if q15 = (-1) then (f_X12_readExhibit_J205 N x4 q12.2)
        else (bnd (f_X12_wrong 4 q12.1 q12.2) fun q30 =>
        f_X12_readExhibit_J205 N x4 q30))
      else (some q12.2))
    else (some D)
theorem t_X12_readExhibit_J158 {g : mm_G} {d : Nat} {h : mm_Hp} {C D : CS} {N : Nat} {x4 : Int32} {r : CS} (hd : 3 ≤ d) (R : Rep h C D) (H : f_X12_readExhibit_J158 N x4 D = some r) : mm_P g d MX12_readExhibit 158 [some (.ref 113), none, none, none, some (.int x4), none] [] h (dV C r) := by
  unfold f_X12_readExhibit_J158 at H
  refine mm_aload_n dX12_readExhibit_158 rfl ?_
  refine rD_get (key := 11349) lk_X12_139_X12 lay_113 rfl rfl rfl dX12_readExhibit_159 R ?_
  refine mm_if_eq 166 dX12_readExhibit_162 (by decide) (fun c11 => ?_) (fun c11 => ?_)
  · replace H := hT c11 H
    refine mm_aload_n dX12_readExhibit_166 rfl ?_
    refine mm_bipush (v := 60) dX12_readExhibit_167 (by decide +kernel) ?_
    obtain ⟨q12, H13, H⟩ := hC H
    refine mm_callV (d' := d - 1) (as := [.int 60]) (st := []) (dS hd) cm_X12_readName (mm_t6 152 rfl rfl) (mm_t6 154 rfl rfl) (mm_s3 4 rfl rfl) (T := TX12) (N := 54) rfl dX12_readExhibit_169 (R.oD (r := 113) rfl lay_113) rfl (Nat.le_of_ble_eq_true rfl) (Nat.le_of_ble_eq_true rfl) rfl rfl (t_X12_readName (dL hd (by decide)) R H13) (fun o h q => th_dI q (fun R => ?_))
    refine mm_istore (ls' := [some (.ref 113), none, none, none, some (.int x4), some (.int q12.1)]) dX12_readExhibit_172 (Nat.le_of_ble_eq_true rfl) rfl ?_
    refine mm_aload_n dX12_readExhibit_174 rfl ?_
    refine rD_get (key := 11349) lk_X12_139_X12 lay_113 rfl rfl rfl dX12_readExhibit_175 R ?_
    refine mm_if_eq 182 dX12_readExhibit_178 (by decide) (fun c14 => ?_) (fun c14 => ?_)
    · replace H := hT c14 H
      refine mm_aload_n dX12_readExhibit_182 rfl ?_
      refine mm_aload_n dX12_readExhibit_183 rfl ?_
      refine rD_getJ (key := 11353) lk_X12_152_X12 lay_113 rfl rfl rfl dX12_readExhibit_184 R ?_
      refine mm_aload_n dX12_readExhibit_187 rfl ?_
      refine rD_get (key := 11351) lk_X12_130_X12 lay_113 rfl rfl rfl dX12_readExhibit_188 R ?_
      obtain ⟨q15, H16, H⟩ := hC H
      refine mm_callV (d' := d - 1) (as := [.long (gJ q12.2 11353), .int (gI q12.2 11351)]) (st := []) (dS hd) cm_X12_named (mm_t6 163 rfl rfl) (mm_t6 165 rfl rfl) (mm_s3 6 rfl rfl) (T := TX12) (N := 54) rfl dX12_readExhibit_191 (R.oD (r := 113) rfl lay_113) rfl (Nat.le_of_ble_eq_true rfl) (Nat.le_of_ble_eq_true rfl) rfl rfl (t_X12_named (dL hd (by decide)) R H16) (fun o u q => mm_thenI q ?_)
      refine mm_iconst (v := (-1)) dX12_readExhibit_194 (by decide +kernel) ?_
      refine mm_icmp_eq 205 dX12_readExhibit_195 (by decide) (fun c17 => ?_) (fun c17 => ?_)
      · replace H := hT c17 H
        refine mm_fgt (ls' := [some (.ref 113), none, none, none, some (.int x4), none]) ⟨rfl, rfl, trivial⟩ ?_
        exact t_X12_readExhibit_J205 hd R H
      · replace H := hF c17 H
        refine mm_aload_n dX12_readExhibit_198 rfl ?_
        refine mm_iconst (v := 4) dX12_readExhibit_199 (by decide +kernel) ?_
        refine mm_iload dX12_readExhibit_200 rfl ?_
        obtain ⟨q30, H31, H⟩ := hC H
        refine mm_callV (d' := d - 1) (as := [.int 4, .int q12.1]) (st := []) (dS hd) cm_X12_wrong (mm_t6 144 rfl rfl) (mm_t6 146 rfl rfl) (mm_s3 2 rfl rfl) (T := TX12) (N := 54) rfl dX12_readExhibit_202 (R.oD (r := 113) rfl lay_113) rfl (Nat.le_of_ble_eq_true rfl) (Nat.le_of_ble_eq_true rfl) rfl rfl (t_X12_wrong (dL hd (by decide)) R H31) (fun o h q => th_dV q (fun R => ?_))
        refine mm_fgt (ls' := [some (.ref 113), none, none, none, some (.int x4), none]) ⟨rfl, rfl, trivial⟩ ?_
        exact t_X12_readExhibit_J205 hd R H
    · replace H := hF c14 H
      refine mm_vret rfl dX12_readExhibit_181 ?_
      exact en_dV H R
  · replace H := hF c11 H
    refine mm_vret rfl dX12_readExhibit_165 ?_
    exact en_dV H R
def f_X12_readExhibit_J145 (N : Nat) (x4 : Int32) (D : CS) : Option CS :=
  if (gI D 11349) = 0 then (bnd (f_X12_take 60 D) fun q32 =>
    f_X12_readExhibit_J158 N x4 q32)
    else (f_X12_readExhibit_J158 N x4 D)
theorem t_X12_readExhibit_J145 {g : mm_G} {d : Nat} {h : mm_Hp} {C D : CS} {N : Nat} {x4 : Int32} {r : CS} (hd : 3 ≤ d) (R : Rep h C D) (H : f_X12_readExhibit_J145 N x4 D = some r) : mm_P g d MX12_readExhibit 145 [some (.ref 113), none, none, none, some (.int x4), none] [] h (dV C r) := by
  unfold f_X12_readExhibit_J145 at H
  refine mm_aload_n dX12_readExhibit_145 rfl ?_
  refine rD_get (key := 11349) lk_X12_139_X12 lay_113 rfl rfl rfl dX12_readExhibit_146 R ?_
  refine mm_if_ne 158 dX12_readExhibit_149 (by decide) (fun c10 => ?_) (fun c10 => ?_)
  · replace H := hF c10 H
    exact t_X12_readExhibit_J158 hd R H
  · replace H := hT c10 H
    refine mm_aload_n dX12_readExhibit_152 rfl ?_
    refine mm_bipush (v := 60) dX12_readExhibit_153 (by decide +kernel) ?_
    obtain ⟨q32, H33, H⟩ := hC H
    refine mm_callV (d' := d - 1) (as := [.int 60]) (st := []) (dS hd) cm_X12_take (mm_t6 159 rfl rfl) (mm_t6 161 rfl rfl) (mm_s3 5 rfl rfl) (T := TX12) (N := 54) rfl dX12_readExhibit_155 (R.oD (r := 113) rfl lay_113) rfl (Nat.le_of_ble_eq_true rfl) (Nat.le_of_ble_eq_true rfl) rfl rfl (t_X12_take (dL hd (by decide)) R H33) (fun o h q => th_dV q (fun R => ?_))
    exact t_X12_readExhibit_J158 hd R H
def f_X12_readExhibit_J103 (N : Nat) (x2 : Int64) (D : CS) : Option CS :=
  if (gI D 11349) = 0 then (bd (sI D 11322 ((gI D 11322) + 1)) fun D40 =>
    bnd (f_X12_name ((gI D40 11322) - 1) x2 D40) fun q42 =>
    some q42)
    else (some D)
theorem t_X12_readExhibit_J103 {g : mm_G} {d : Nat} {h : mm_Hp} {C D : CS} {N : Nat} {x2 : Int64} {r : CS} (hd : 3 ≤ d) (R : Rep h C D) (H : f_X12_readExhibit_J103 N x2 D = some r) : mm_P g d MX12_readExhibit 103 [some (.ref 113), none, some (.long x2), none, none, none] [] h (dV C r) := by
  unfold f_X12_readExhibit_J103 at H
  refine mm_aload_n dX12_readExhibit_103 rfl ?_
  refine rD_get (key := 11349) lk_X12_139_X12 lay_113 rfl rfl rfl dX12_readExhibit_104 R ?_
  refine mm_if_eq 111 dX12_readExhibit_107 (by decide) (fun c39 => ?_) (fun c39 => ?_)
  · replace H := hT c39 H
    refine mm_aload_n dX12_readExhibit_111 rfl ?_
    refine mm_dup rfl dX12_readExhibit_112 ?_
    refine rD_get (key := 11322) lk_X12_120_X12 lay_113 rfl rfl rfl dX12_readExhibit_113 R ?_
    refine mm_iconst (v := 1) dX12_readExhibit_116 (by decide +kernel) ?_
    refine mm_iadd dX12_readExhibit_117 ?_
    obtain ⟨D40, e41, H⟩ := hD H
    refine rD_put (key := 11322) lk_X12_120_X12 lay_113 rfl rfl rfl rfl rfl dX12_readExhibit_118 R e41 (fun h R => ?_)
    refine mm_aload_n dX12_readExhibit_121 rfl ?_
    refine mm_aload_n dX12_readExhibit_122 rfl ?_
    refine rD_get (key := 11322) lk_X12_120_X12 lay_113 rfl rfl rfl dX12_readExhibit_123 R ?_
    refine mm_iconst (v := 1) dX12_readExhibit_126 (by decide +kernel) ?_
    refine mm_isub dX12_readExhibit_127 ?_
    refine mm_lload_n dX12_readExhibit_128 rfl ?_
    obtain ⟨q42, H43, H⟩ := hC H
    refine mm_callV (d' := d - 1) (as := [.int ((gI D40 11322) - 1), .long x2]) (st := []) (dS hd) cm_X12_name (mm_t6 171 rfl rfl) (mm_t6 173 rfl rfl) (mm_s3 8 rfl rfl) (T := TX12) (N := 54) rfl dX12_readExhibit_129 (R.oD (r := 113) rfl lay_113) rfl (Nat.le_of_ble_eq_true rfl) (Nat.le_of_ble_eq_true rfl) rfl rfl (t_X12_name (dL hd (by decide)) R H43) (fun o h q => th_dV q (fun R => ?_))
    refine mm_vret rfl dX12_readExhibit_132 ?_
    exact en_dV H R
  · replace H := hF c39 H
    refine mm_vret rfl dX12_readExhibit_110 ?_
    exact en_dV H R
def f_X12_readExhibit_J70 (N : Nat) (x2 : Int64) (D : CS) : Option CS :=
  if (gI D 11349) = 0 then (bnd (f_X12_now0 D) fun q44 =>
    if q44 = (-1) then (f_X12_readExhibit_J103 N x2 D)
      else (bnd (f_X12_now0 D) fun q47 =>
      if q47 = 10 then (f_X12_readExhibit_J103 N x2 D)
        else (bnd (f_X12_wrong 1 (gI D 11346) D) fun q50 =>
        f_X12_readExhibit_J103 N x2 q50)))
    else (f_X12_readExhibit_J103 N x2 D)
theorem t_X12_readExhibit_J70 {g : mm_G} {d : Nat} {h : mm_Hp} {C D : CS} {N : Nat} {x2 : Int64} {r : CS} (hd : 3 ≤ d) (R : Rep h C D) (H : f_X12_readExhibit_J70 N x2 D = some r) : mm_P g d MX12_readExhibit 70 [some (.ref 113), none, some (.long x2), none, none, none] [] h (dV C r) := by
  unfold f_X12_readExhibit_J70 at H
  refine mm_aload_n dX12_readExhibit_70 rfl ?_
  refine rD_get (key := 11349) lk_X12_139_X12 lay_113 rfl rfl rfl dX12_readExhibit_71 R ?_
  refine mm_if_ne 103 dX12_readExhibit_74 (by decide) (fun c38 => ?_) (fun c38 => ?_)
  · replace H := hF c38 H
    exact t_X12_readExhibit_J103 hd R H
  · replace H := hT c38 H
    refine mm_aload_n dX12_readExhibit_77 rfl ?_
    obtain ⟨q44, H45, H⟩ := hC H
    refine mm_callV (d' := d - 1) (as := []) (st := []) (dS hd) cm_X12_now0 (mm_t6 137 rfl rfl) (mm_t6 139 rfl rfl) (mm_s3 1 rfl rfl) (T := TX12) (N := 54) rfl dX12_readExhibit_78 (R.oD (r := 113) rfl lay_113) rfl (Nat.le_of_ble_eq_true rfl) (Nat.le_of_ble_eq_true rfl) rfl rfl (t_X12_now0 (dL hd (by decide)) R H45) (fun o u q => mm_thenI q ?_)
    refine mm_iconst (v := (-1)) dX12_readExhibit_81 (by decide +kernel) ?_
    refine mm_icmp_eq 103 dX12_readExhibit_82 (by decide) (fun c46 => ?_) (fun c46 => ?_)
    · replace H := hT c46 H
      exact t_X12_readExhibit_J103 hd R H
    · replace H := hF c46 H
      refine mm_aload_n dX12_readExhibit_85 rfl ?_
      obtain ⟨q47, H48, H⟩ := hC H
      refine mm_callV (d' := d - 1) (as := []) (st := []) (dS hd) cm_X12_now0 (mm_t6 137 rfl rfl) (mm_t6 139 rfl rfl) (mm_s3 1 rfl rfl) (T := TX12) (N := 54) rfl dX12_readExhibit_86 (R.oD (r := 113) rfl lay_113) rfl (Nat.le_of_ble_eq_true rfl) (Nat.le_of_ble_eq_true rfl) rfl rfl (t_X12_now0 (dL hd (by decide)) R H48) (fun o u q => mm_thenI q ?_)
      refine mm_bipush (v := 10) dX12_readExhibit_89 (by decide +kernel) ?_
      refine mm_icmp_eq 103 dX12_readExhibit_91 (by decide) (fun c49 => ?_) (fun c49 => ?_)
      · replace H := hT c49 H
        exact t_X12_readExhibit_J103 hd R H
      · replace H := hF c49 H
        refine mm_aload_n dX12_readExhibit_94 rfl ?_
        refine mm_iconst (v := 1) dX12_readExhibit_95 (by decide +kernel) ?_
        refine mm_aload_n dX12_readExhibit_96 rfl ?_
        refine rD_get (key := 11346) lk_X12_133_X12 lay_113 rfl rfl rfl dX12_readExhibit_97 R ?_
        obtain ⟨q50, H51, H⟩ := hC H
        refine mm_callV (d' := d - 1) (as := [.int 1, .int (gI D 11346)]) (st := []) (dS hd) cm_X12_wrong (mm_t6 144 rfl rfl) (mm_t6 146 rfl rfl) (mm_s3 2 rfl rfl) (T := TX12) (N := 54) rfl dX12_readExhibit_100 (R.oD (r := 113) rfl lay_113) rfl (Nat.le_of_ble_eq_true rfl) (Nat.le_of_ble_eq_true rfl) rfl rfl (t_X12_wrong (dL hd (by decide)) R H51) (fun o h q => th_dV q (fun R => ?_))
        exact t_X12_readExhibit_J103 hd R H
def f_X12_readExhibit (N : Nat) (D : CS) : Option CS :=
  bnd (f_X12_readName N 60 D) fun q1 =>
  if (gI q1.2 11349) = 0 then (bnd (f_X12_named N (gJ q1.2 11353) (gI q1.2 11351) q1.2) fun q4 =>
    bnd (f_X12_now0 q1.2) fun q6 =>
    if q6 = 32 then (if q4 = (-1) then (bnd (f_X12_wrong 4 q1.1 q1.2) fun q34 =>
        f_X12_readExhibit_J145 N q4 q34)
        else (f_X12_readExhibit_J145 N q4 q1.2))
      else (if q4 = (-1) then (if (gI q1.2 11322) = 20 then (bnd (f_X12_wrong 5 q1.1 q1.2) fun q52 =>
          f_X12_readExhibit_J70 N (gJ q1.2 11353) q52)
          else (f_X12_readExhibit_J70 N (gJ q1.2 11353) q1.2))
        else (bnd (f_X12_wrong 4 q1.1 q1.2) fun q54 =>
        f_X12_readExhibit_J70 N (gJ q1.2 11353) q54)))
    else (some q1.2)
theorem t_X12_readExhibit {g : mm_G} {d : Nat} {h : mm_Hp} {C D : CS} {N : Nat} {r : CS} (hd : 3 ≤ d) (R : Rep h C D) (H : f_X12_readExhibit N D = some r) : mm_P g d MX12_readExhibit 0 [some (.ref 113), none, none, none, none, none] [] h (dV C r) := by
  unfold f_X12_readExhibit at H
  refine mm_aload_n dX12_readExhibit_0 rfl ?_
  refine mm_bipush (v := 60) dX12_readExhibit_1 (by decide +kernel) ?_
  obtain ⟨q1, H2, H⟩ := hC H
  refine mm_callV (d' := d - 1) (as := [.int 60]) (st := []) (dS hd) cm_X12_readName (mm_t6 152 rfl rfl) (mm_t6 154 rfl rfl) (mm_s3 4 rfl rfl) (T := TX12) (N := 54) rfl dX12_readExhibit_3 (R.oD (r := 113) rfl lay_113) rfl (Nat.le_of_ble_eq_true rfl) (Nat.le_of_ble_eq_true rfl) rfl rfl (t_X12_readName (dL hd (by decide)) R H2) (fun o h q => th_dI q (fun R => ?_))
  refine mm_istore_n (ls' := [some (.ref 113), some (.int q1.1), none, none, none, none]) dX12_readExhibit_6 (Nat.le_of_ble_eq_true rfl) rfl ?_
  refine mm_aload_n dX12_readExhibit_7 rfl ?_
  refine rD_get (key := 11349) lk_X12_139_X12 lay_113 rfl rfl rfl dX12_readExhibit_8 R ?_
  refine mm_if_eq 15 dX12_readExhibit_11 (by decide) (fun c3 => ?_) (fun c3 => ?_)
  · replace H := hT c3 H
    refine mm_aload_n dX12_readExhibit_15 rfl ?_
    refine rD_getJ (key := 11353) lk_X12_152_X12 lay_113 rfl rfl rfl dX12_readExhibit_16 R ?_
    refine mm_lstore_n (ls' := [some (.ref 113), some (.int q1.1), some (.long (gJ q1.2 11353)), none, none, none]) dX12_readExhibit_19 (Nat.le_of_ble_eq_true rfl) rfl ?_
    refine mm_aload_n dX12_readExhibit_20 rfl ?_
    refine mm_lload_n dX12_readExhibit_21 rfl ?_
    refine mm_aload_n dX12_readExhibit_22 rfl ?_
    refine rD_get (key := 11351) lk_X12_130_X12 lay_113 rfl rfl rfl dX12_readExhibit_23 R ?_
    obtain ⟨q4, H5, H⟩ := hC H
    refine mm_callV (d' := d - 1) (as := [.long (gJ q1.2 11353), .int (gI q1.2 11351)]) (st := []) (dS hd) cm_X12_named (mm_t6 163 rfl rfl) (mm_t6 165 rfl rfl) (mm_s3 6 rfl rfl) (T := TX12) (N := 54) rfl dX12_readExhibit_26 (R.oD (r := 113) rfl lay_113) rfl (Nat.le_of_ble_eq_true rfl) (Nat.le_of_ble_eq_true rfl) rfl rfl (t_X12_named (dL hd (by decide)) R H5) (fun o u q => mm_thenI q ?_)
    refine mm_istore (ls' := [some (.ref 113), some (.int q1.1), some (.long (gJ q1.2 11353)), none, some (.int q4), none]) dX12_readExhibit_29 (Nat.le_of_ble_eq_true rfl) rfl ?_
    refine mm_aload_n dX12_readExhibit_31 rfl ?_
    obtain ⟨q6, H7, H⟩ := hC H
    refine mm_callV (d' := d - 1) (as := []) (st := []) (dS hd) cm_X12_now0 (mm_t6 137 rfl rfl) (mm_t6 139 rfl rfl) (mm_s3 1 rfl rfl) (T := TX12) (N := 54) rfl dX12_readExhibit_32 (R.oD (r := 113) rfl lay_113) rfl (Nat.le_of_ble_eq_true rfl) (Nat.le_of_ble_eq_true rfl) rfl rfl (t_X12_now0 (dL hd (by decide)) R H7) (fun o u q => mm_thenI q ?_)
    refine mm_bipush (v := 32) dX12_readExhibit_35 (by decide +kernel) ?_
    refine mm_icmp_eq 133 dX12_readExhibit_37 (by decide) (fun c8 => ?_) (fun c8 => ?_)
    · replace H := hT c8 H
      refine mm_iload dX12_readExhibit_133 rfl ?_
      refine mm_iconst (v := (-1)) dX12_readExhibit_135 (by decide +kernel) ?_
      refine mm_icmp_ne 145 dX12_readExhibit_136 (by decide) (fun c9 => ?_) (fun c9 => ?_)
      · replace H := hF c9 H
        refine mm_fgt (ls' := [some (.ref 113), none, none, none, some (.int q4), none]) ⟨rfl, rfl, trivial⟩ ?_
        exact t_X12_readExhibit_J145 hd R H
      · replace H := hT c9 H
        refine mm_aload_n dX12_readExhibit_139 rfl ?_
        refine mm_iconst (v := 4) dX12_readExhibit_140 (by decide +kernel) ?_
        refine mm_iload_n dX12_readExhibit_141 rfl ?_
        obtain ⟨q34, H35, H⟩ := hC H
        refine mm_callV (d' := d - 1) (as := [.int 4, .int q1.1]) (st := []) (dS hd) cm_X12_wrong (mm_t6 144 rfl rfl) (mm_t6 146 rfl rfl) (mm_s3 2 rfl rfl) (T := TX12) (N := 54) rfl dX12_readExhibit_142 (R.oD (r := 113) rfl lay_113) rfl (Nat.le_of_ble_eq_true rfl) (Nat.le_of_ble_eq_true rfl) rfl rfl (t_X12_wrong (dL hd (by decide)) R H35) (fun o h q => th_dV q (fun R => ?_))
        refine mm_fgt (ls' := [some (.ref 113), none, none, none, some (.int q4), none]) ⟨rfl, rfl, trivial⟩ ?_
        exact t_X12_readExhibit_J145 hd R H
    · replace H := hF c8 H
      refine mm_iload dX12_readExhibit_40 rfl ?_
      refine mm_iconst (v := (-1)) dX12_readExhibit_42 (by decide +kernel) ?_
      refine mm_icmp_eq 55 dX12_readExhibit_43 (by decide) (fun c36 => ?_) (fun c36 => ?_)
      · replace H := hT c36 H
        refine mm_aload_n dX12_readExhibit_55 rfl ?_
        refine rD_get (key := 11322) lk_X12_120_X12 lay_113 rfl rfl rfl dX12_readExhibit_56 R ?_
        refine mm_bipush (v := 20) dX12_readExhibit_59 (by decide +kernel) ?_
        refine mm_icmp_ne 70 dX12_readExhibit_61 (by decide) (fun c37 => ?_) (fun c37 => ?_)
        · replace H := hF c37 H
          refine mm_fgt (ls' := [some (.ref 113), none, some (.long (gJ q1.2 11353)), none, none, none]) ⟨rfl, rfl, trivial⟩ ?_
          exact t_X12_readExhibit_J70 hd R H
        · replace H := hT c37 H
          refine mm_aload_n dX12_readExhibit_64 rfl ?_
          refine mm_iconst (v := 5) dX12_readExhibit_65 (by decide +kernel) ?_
          refine mm_iload_n dX12_readExhibit_66 rfl ?_
          obtain ⟨q52, H53, H⟩ := hC H
          refine mm_callV (d' := d - 1) (as := [.int 5, .int q1.1]) (st := []) (dS hd) cm_X12_wrong (mm_t6 144 rfl rfl) (mm_t6 146 rfl rfl) (mm_s3 2 rfl rfl) (T := TX12) (N := 54) rfl dX12_readExhibit_67 (R.oD (r := 113) rfl lay_113) rfl (Nat.le_of_ble_eq_true rfl) (Nat.le_of_ble_eq_true rfl) rfl rfl (t_X12_wrong (dL hd (by decide)) R H53) (fun o h q => th_dV q (fun R => ?_))
          refine mm_fgt (ls' := [some (.ref 113), none, some (.long (gJ q1.2 11353)), none, none, none]) ⟨rfl, rfl, trivial⟩ ?_
          exact t_X12_readExhibit_J70 hd R H
      · replace H := hF c36 H
        refine mm_aload_n dX12_readExhibit_46 rfl ?_
        refine mm_iconst (v := 4) dX12_readExhibit_47 (by decide +kernel) ?_
        refine mm_iload_n dX12_readExhibit_48 rfl ?_
        obtain ⟨q54, H55, H⟩ := hC H
        refine mm_callV (d' := d - 1) (as := [.int 4, .int q1.1]) (st := []) (dS hd) cm_X12_wrong (mm_t6 144 rfl rfl) (mm_t6 146 rfl rfl) (mm_s3 2 rfl rfl) (T := TX12) (N := 54) rfl dX12_readExhibit_49 (R.oD (r := 113) rfl lay_113) rfl (Nat.le_of_ble_eq_true rfl) (Nat.le_of_ble_eq_true rfl) rfl rfl (t_X12_wrong (dL hd (by decide)) R H55) (fun o h q => th_dV q (fun R => ?_))
        refine mm_goto 70 dX12_readExhibit_52 (by decide) ?_
        refine mm_fgt (ls' := [some (.ref 113), none, some (.long (gJ q1.2 11353)), none, none, none]) ⟨rfl, rfl, trivial⟩ ?_
        exact t_X12_readExhibit_J70 hd R H
  · replace H := hF c3 H
    refine mm_vret rfl dX12_readExhibit_14 ?_
    exact en_dV H R
def f_X12_kindOf (x0 : Int32) (D : CS) : Option Int32 :=
  if x0 = 81 then (some 0)
    else (if x0 = 65 then (some 1)
      else (if x0 = 89 then (some 2)
        else (if x0 = 78 then (some 3)
          else (if x0 = 32 then (some 4)
            else (if x0 = 33 then (some 5)
              else (some (-1)))))))
theorem t_X12_kindOf {g : mm_G} {d : Nat} {h : mm_Hp} {C D : CS} {x0 : Int32} {r : Int32} (hd : 0 ≤ d) (R : Rep h C D) (H : f_X12_kindOf x0 D = some r) : mm_P g d MX12_kindOf 0 [some (.int x0)] [] h (mm_pureI r h) := by
  unfold f_X12_kindOf at H
  refine mm_iload_n dX12_kindOf_0 rfl ?_
  refine mm_bipush (v := 81) dX12_kindOf_1 (by decide +kernel) ?_
  refine mm_icmp_ne 10 dX12_kindOf_3 (by decide) (fun c1 => ?_) (fun c1 => ?_)
  · replace H := hF c1 H
    refine mm_iload_n dX12_kindOf_10 rfl ?_
    refine mm_bipush (v := 65) dX12_kindOf_11 (by decide +kernel) ?_
    refine mm_icmp_ne 20 dX12_kindOf_13 (by decide) (fun c2 => ?_) (fun c2 => ?_)
    · replace H := hF c2 H
      refine mm_iload_n dX12_kindOf_20 rfl ?_
      refine mm_bipush (v := 89) dX12_kindOf_21 (by decide +kernel) ?_
      refine mm_icmp_ne 30 dX12_kindOf_23 (by decide) (fun c3 => ?_) (fun c3 => ?_)
      · replace H := hF c3 H
        refine mm_iload_n dX12_kindOf_30 rfl ?_
        refine mm_bipush (v := 78) dX12_kindOf_31 (by decide +kernel) ?_
        refine mm_icmp_ne 40 dX12_kindOf_33 (by decide) (fun c4 => ?_) (fun c4 => ?_)
        · replace H := hF c4 H
          refine mm_iload_n dX12_kindOf_40 rfl ?_
          refine mm_bipush (v := 32) dX12_kindOf_41 (by decide +kernel) ?_
          refine mm_icmp_ne 50 dX12_kindOf_43 (by decide) (fun c5 => ?_) (fun c5 => ?_)
          · replace H := hF c5 H
            refine mm_iload_n dX12_kindOf_50 rfl ?_
            refine mm_bipush (v := 33) dX12_kindOf_51 (by decide +kernel) ?_
            refine mm_icmp_ne 60 dX12_kindOf_53 (by decide) (fun c6 => ?_) (fun c6 => ?_)
            · replace H := hF c6 H
              refine mm_iconst (v := (-1)) dX12_kindOf_60 (by decide +kernel) ?_
              refine mm_iret rfl rfl dX12_kindOf_61 ?_
              exact en_pI H
            · replace H := hT c6 H
              refine mm_iconst (v := 5) dX12_kindOf_56 (by decide +kernel) ?_
              refine mm_goto 61 dX12_kindOf_57 (by decide) ?_
              refine mm_iret rfl rfl dX12_kindOf_61 ?_
              exact en_pI H
          · replace H := hT c5 H
            refine mm_iconst (v := 4) dX12_kindOf_46 (by decide +kernel) ?_
            refine mm_goto 61 dX12_kindOf_47 (by decide) ?_
            refine mm_iret rfl rfl dX12_kindOf_61 ?_
            exact en_pI H
        · replace H := hT c4 H
          refine mm_iconst (v := 3) dX12_kindOf_36 (by decide +kernel) ?_
          refine mm_goto 61 dX12_kindOf_37 (by decide) ?_
          refine mm_iret rfl rfl dX12_kindOf_61 ?_
          exact en_pI H
      · replace H := hT c3 H
        refine mm_iconst (v := 2) dX12_kindOf_26 (by decide +kernel) ?_
        refine mm_goto 61 dX12_kindOf_27 (by decide) ?_
        refine mm_iret rfl rfl dX12_kindOf_61 ?_
        exact en_pI H
    · replace H := hT c2 H
      refine mm_iconst (v := 1) dX12_kindOf_16 (by decide +kernel) ?_
      refine mm_goto 61 dX12_kindOf_17 (by decide) ?_
      refine mm_iret rfl rfl dX12_kindOf_61 ?_
      exact en_pI H
  · replace H := hT c1 H
    refine mm_iconst (v := 0) dX12_kindOf_6 (by decide +kernel) ?_
    refine mm_goto 61 dX12_kindOf_7 (by decide) ?_
    refine mm_iret rfl rfl dX12_kindOf_61 ?_
    exact en_pI H
