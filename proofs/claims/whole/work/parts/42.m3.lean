def f_X12_right_J153 (N : Nat) (x1 : Int32) (x2 : Int32) (x3 : Int32) (x4 : Int32) (D : CS) : Option (Int32 × CS) :=
  if (gI D 11349) = 0 then (bnd (f_X12_right_L187 N x1 x2 N 0 D) fun q38 =>
        bnd (f_X12_right_L229 N x1 x2 N 0 q38) fun q45 =>
        if inb (gI q45 11352) 300 = true then (bd (sA q45 124 ((gI q45 11352)).toNatClampNeg (x2 + 2)) fun D48 =>
        if inb (gI D48 11352) 300 = true then (bd (sA D48 122 ((gI D48 11352)).toNatClampNeg x1) fun D51 =>
        if inb (gI D51 11352) 300 = true then (bd (sA D51 123 ((gI D51 11352)).toNatClampNeg (gI D51 11305)) fun D54 =>
        bd (sI D54 11319 ((gI D54 11319) + 1)) fun D56 =>
        if inb x1 200 = true then (if inb x1 200 = true then (bd (sA D56 121 (x1).toNatClampNeg ((gA D56 121 (x1).toNatClampNeg) + 1)) fun D60 =>
        some (0, D60)) else none) else none) else none) else none) else none)
        else (bd (sI D 11320 x3) fun D62 =>
    bd (sI D62 11321 x4) fun D64 =>
    bd (sI D64 11307 (gI D64 11350)) fun D66 =>
    some ((gI D66 11349), D66))
theorem t_X12_right_J153 {g : mm_G} {d : Nat} {h : mm_Hp} {C D : CS} {N : Nat} {x1 : Int32} {x2 : Int32} {x3 : Int32} {x4 : Int32} {r : (Int32 × CS)} (hd : 5 ≤ d) (R : Rep h C D) (H : f_X12_right_J153 N x1 x2 x3 x4 D = some r) : mm_P g d MX12_right 153 [some (.ref 113), some (.int x1), some (.int x2), some (.int x3), some (.int x4), none] [] h (dI C r) := by
  unfold f_X12_right_J153 at H
  refine mm_aload_n dX12_right_153 rfl ?_
  refine rD_get (key := 11349) lk_X12_139_X12 lay_113 rfl rfl rfl dX12_right_154 R ?_
  refine mm_if_eq 184 dX12_right_157 (by decide) (fun c32 => ?_) (fun c32 => ?_)
  · replace H := hT c32 H
    refine mm_iconst (v := 0) dX12_right_184 (by decide +kernel) ?_
    refine mm_istore (ls' := [some (.ref 113), some (.int x1), some (.int x2), some (.int x3), some (.int x4), some (.int 0)]) dX12_right_185 (Nat.le_of_ble_eq_true rfl) rfl ?_
    obtain ⟨q38, H39, H⟩ := hC H
    refine mm_fgt (ls' := [some (.ref 113), some (.int x1), some (.int x2), none, none, some (.int 0)]) ⟨rfl, rfl, rfl, rfl, trivial⟩ ?_
    refine t_X12_right_L187 hd (fun h R => ?_) N _ _ _ R H39
    refine mm_iconst (v := 0) dX12_right_226 (by decide +kernel) ?_
    refine mm_istore (ls' := [some (.ref 113), some (.int x1), some (.int x2), none, none, some (.int 0)]) dX12_right_227 (Nat.le_of_ble_eq_true rfl) rfl ?_
    obtain ⟨q45, H46, H⟩ := hC H
    refine t_X12_right_L229 hd (fun h R => ?_) N _ _ _ R H46
    refine mm_aload_n dX12_right_265 rfl ?_
    refine rD_getR (t := 122) lk_X12_44_X12 lay_113 rfl rfl dX12_right_266 R ?_
    refine mm_aload_n dX12_right_269 rfl ?_
    refine rD_get (key := 11352) lk_X12_194_X12 lay_113 rfl rfl rfl dX12_right_270 R ?_
    refine mm_iload_n dX12_right_273 rfl ?_
    refine mm_iconst (v := 2) dX12_right_274 (by decide +kernel) ?_
    refine mm_iadd dX12_right_275 ?_
    obtain ⟨b47, H⟩ := hB H
    obtain ⟨D48, e49, H⟩ := hD H
    refine rD_iast lay_124 rfl dX12_right_276 R b47 e49 (fun h R => ?_)
    refine mm_aload_n dX12_right_277 rfl ?_
    refine rD_getR (t := 120) lk_X12_38_X12 lay_113 rfl rfl dX12_right_278 R ?_
    refine mm_aload_n dX12_right_281 rfl ?_
    refine rD_get (key := 11352) lk_X12_194_X12 lay_113 rfl rfl rfl dX12_right_282 R ?_
    refine mm_iload_n dX12_right_285 rfl ?_
    obtain ⟨b50, H⟩ := hB H
    obtain ⟨D51, e52, H⟩ := hD H
    refine rD_iast lay_122 rfl dX12_right_286 R b50 e52 (fun h R => ?_)
    refine mm_aload_n dX12_right_287 rfl ?_
    refine rD_getR (t := 121) lk_X12_41_X12 lay_113 rfl rfl dX12_right_288 R ?_
    refine mm_aload_n dX12_right_291 rfl ?_
    refine rD_get (key := 11352) lk_X12_194_X12 lay_113 rfl rfl rfl dX12_right_292 R ?_
    refine mm_aload_n dX12_right_295 rfl ?_
    refine rD_get (key := 11305) lk_X12_229_X12 lay_113 rfl rfl rfl dX12_right_296 R ?_
    obtain ⟨b53, H⟩ := hB H
    obtain ⟨D54, e55, H⟩ := hD H
    refine rD_iast lay_123 rfl dX12_right_299 R b53 e55 (fun h R => ?_)
    refine mm_aload_n dX12_right_300 rfl ?_
    refine mm_dup rfl dX12_right_301 ?_
    refine rD_get (key := 11319) lk_X12_226_X12 lay_113 rfl rfl rfl dX12_right_302 R ?_
    refine mm_iconst (v := 1) dX12_right_305 (by decide +kernel) ?_
    refine mm_iadd dX12_right_306 ?_
    obtain ⟨D56, e57, H⟩ := hD H
    refine rD_put (key := 11319) lk_X12_226_X12 lay_113 rfl rfl rfl rfl rfl dX12_right_307 R e57 (fun h R => ?_)
    refine mm_aload_n dX12_right_310 rfl ?_
    refine rD_getR (t := 119) lk_X12_35_X12 lay_113 rfl rfl dX12_right_311 R ?_
    refine mm_iload_n dX12_right_314 rfl ?_
    refine mm_dup2 rfl rfl dX12_right_315 ?_
    obtain ⟨b58, H⟩ := hB H
    refine rD_iald lay_121 rfl dX12_right_316 R b58 ?_
    refine mm_iconst (v := 1) dX12_right_317 (by decide +kernel) ?_
    refine mm_iadd dX12_right_318 ?_
    obtain ⟨b59, H⟩ := hB H
    obtain ⟨D60, e61, H⟩ := hD H
    refine rD_iast lay_121 rfl dX12_right_319 R b59 e61 (fun h R => ?_)
    refine mm_iconst (v := 0) dX12_right_320 (by decide +kernel) ?_
    refine mm_iret rfl rfl dX12_right_321 ?_
    exact en_dI H R
  · replace H := hF c32 H
    refine mm_aload_n dX12_right_160 rfl ?_
    refine mm_iload_n dX12_right_161 rfl ?_
    obtain ⟨D62, e63, H⟩ := hD H
    refine rD_put (key := 11320) lk_X12_188_X12 lay_113 rfl rfl rfl rfl rfl dX12_right_162 R e63 (fun h R => ?_)
    refine mm_aload_n dX12_right_165 rfl ?_
    refine mm_iload dX12_right_166 rfl ?_
    obtain ⟨D64, e65, H⟩ := hD H
    refine rD_put (key := 11321) lk_X12_174_X12 lay_113 rfl rfl rfl rfl rfl dX12_right_168 R e65 (fun h R => ?_)
    refine mm_aload_n dX12_right_171 rfl ?_
    refine mm_aload_n dX12_right_172 rfl ?_
    refine rD_get (key := 11350) lk_X12_142_X12 lay_113 rfl rfl rfl dX12_right_173 R ?_
    obtain ⟨D66, e67, H⟩ := hD H
    refine rD_put (key := 11307) lk_X12_16_X12 lay_113 rfl rfl rfl rfl rfl dX12_right_176 R e67 (fun h R => ?_)
    refine mm_aload_n dX12_right_179 rfl ?_
    refine rD_get (key := 11349) lk_X12_139_X12 lay_113 rfl rfl rfl dX12_right_180 R ?_
    refine mm_iret rfl rfl dX12_right_183 ?_
    exact en_dI H R
def f_X12_right (N : Nat) (x1 : Int32) (x2 : Int32) (D : CS) : Option (Int32 × CS) :=
  bd (sI D 11300 0) fun D1 =>
  bnd (f_X12_isLine x1 D1) fun q3 =>
  if q3 = 0 then (bnd (f_X12_fail 1 D1) fun q73 =>
    some (q73.1, q73.2))
    else (if x2 < 1 then (bnd (f_X12_fail 2 D1) fun q7 =>
      some (q7.1, q7.2))
      else (if x2 ≤ (gI D1 11303) then (bd (sI D1 11303 0) fun D10 =>
        bd (sI D10 11307 (-1)) fun D12 =>
        if inb x1 200 = true then (if (gA D12 116 (x1).toNatClampNeg) = 5 then (some ((-9), D12))
          else (if (gI D12 11319) = 100 then (some ((-9), D12))
            else (bd (sI D12 11347 x2) fun D17 =>
            bd (sI D17 11346 0) fun D19 =>
            bd (sI D19 11349 0) fun D21 =>
            bd (sI D21 11348 0) fun D23 =>
            bd (sI D23 11351 x1) fun D25 =>
            bd (sI D25 11352 (200 + (gI D25 11319))) fun D27 =>
            bnd (f_X12_readRest N 58 (-2) D27) fun q29 =>
            if (gI q29 11349) = 0 then (if (gI q29 11347) ≤ (gI q29 11346) then (f_X12_right_J153 N x1 x2 (gI D27 11320) (gI D27 11321) q29)
                else (bnd (f_X12_wrong 1 (gI q29 11346) q29) fun q69 =>
                f_X12_right_J153 N x1 x2 (gI D27 11320) (gI D27 11321) q69))
              else (f_X12_right_J153 N x1 x2 (gI D27 11320) (gI D27 11321) q29)))) else none)
        else (bnd (f_X12_fail 2 D1) fun q71 =>
        some (q71.1, q71.2))))
theorem t_X12_right {g : mm_G} {d : Nat} {h : mm_Hp} {C D : CS} {N : Nat} {x1 : Int32} {x2 : Int32} {r : (Int32 × CS)} (hd : 5 ≤ d) (R : Rep h C D) (H : f_X12_right N x1 x2 D = some r) : mm_P g d MX12_right 0 [some (.ref 113), some (.int x1), some (.int x2), none, none, none] [] h (dI C r) := by
  unfold f_X12_right at H
  refine mm_aload_n dX12_right_0 rfl ?_
  refine mm_iconst (v := 0) dX12_right_1 (by decide +kernel) ?_
  obtain ⟨D1, e2, H⟩ := hD H
  refine rD_put (key := 11300) lk_X12_111_X12 lay_113 rfl rfl rfl rfl rfl dX12_right_2 R e2 (fun h R => ?_)
  refine mm_aload_n dX12_right_5 rfl ?_
  refine mm_iload_n dX12_right_6 rfl ?_
  obtain ⟨q3, H4, H⟩ := hC H
  refine mm_callV (d' := d - 1) (as := [.int x1]) (st := []) (dS hd) cm_X12_isLine (mm_t6 208 rfl rfl) (mm_t6 210 rfl rfl) (mm_s3 15 rfl rfl) (T := TX12) (N := 54) rfl dX12_right_7 (R.oD (r := 113) rfl lay_113) rfl (Nat.le_of_ble_eq_true rfl) (Nat.le_of_ble_eq_true rfl) rfl rfl (t_X12_isLine (dL hd (by decide)) R H4) (fun o u q => mm_thenI q ?_)
  refine mm_if_ne 19 dX12_right_10 (by decide) (fun c5 => ?_) (fun c5 => ?_)
  · replace H := hF c5 H
    refine mm_iload_n dX12_right_19 rfl ?_
    refine mm_iconst (v := 1) dX12_right_20 (by decide +kernel) ?_
    refine mm_icmp_lt 32 dX12_right_21 (by decide) (fun c6 => ?_) (fun c6 => ?_)
    · replace H := hT c6 H
      refine mm_aload_n dX12_right_32 rfl ?_
      refine mm_iconst (v := 2) dX12_right_33 (by decide +kernel) ?_
      obtain ⟨q7, H8, H⟩ := hC H
      refine mm_callV (d' := d - 1) (as := [.int 2]) (st := []) (dS hd) cm_X12_fail (mm_t6 129 rfl rfl) (mm_t6 131 rfl rfl) (mm_s2 15 rfl rfl) (T := TX12) (N := 54) rfl dX12_right_34 (R.oD (r := 113) rfl lay_113) rfl (Nat.le_of_ble_eq_true rfl) (Nat.le_of_ble_eq_true rfl) rfl rfl (t_X12_fail (dL hd (by decide)) R H8) (fun o h q => th_dI q (fun R => ?_))
      refine mm_iret rfl rfl dX12_right_37 ?_
      exact en_dI H R
    · replace H := hF c6 H
      refine mm_iload_n dX12_right_24 rfl ?_
      refine mm_aload_n dX12_right_25 rfl ?_
      refine rD_get (key := 11303) lk_X12_117_X12 lay_113 rfl rfl rfl dX12_right_26 R ?_
      refine mm_icmp_le 38 dX12_right_29 (by decide) (fun c9 => ?_) (fun c9 => ?_)
      · replace H := hT c9 H
        refine mm_aload_n dX12_right_38 rfl ?_
        refine mm_iconst (v := 0) dX12_right_39 (by decide +kernel) ?_
        obtain ⟨D10, e11, H⟩ := hD H
        refine rD_put (key := 11303) lk_X12_117_X12 lay_113 rfl rfl rfl rfl rfl dX12_right_40 R e11 (fun h R => ?_)
        refine mm_aload_n dX12_right_43 rfl ?_
        refine mm_iconst (v := (-1)) dX12_right_44 (by decide +kernel) ?_
        obtain ⟨D12, e13, H⟩ := hD H
        refine rD_put (key := 11307) lk_X12_16_X12 lay_113 rfl rfl rfl rfl rfl dX12_right_45 R e13 (fun h R => ?_)
        refine mm_aload_n dX12_right_48 rfl ?_
        refine rD_getR (t := 114) lk_X12_20_X12 lay_113 rfl rfl dX12_right_49 R ?_
        refine mm_iload_n dX12_right_52 rfl ?_
        obtain ⟨b14, H⟩ := hB H
        refine rD_iald lay_116 rfl dX12_right_53 R b14 ?_
        refine mm_iconst (v := 5) dX12_right_54 (by decide +kernel) ?_
        refine mm_icmp_eq 67 dX12_right_55 (by decide) (fun c15 => ?_) (fun c15 => ?_)
        · replace H := hT c15 H
          refine mm_bipush (v := (-9)) dX12_right_67 (by decide +kernel) ?_
          refine mm_iret rfl rfl dX12_right_69 ?_
          exact en_dI H R
        · replace H := hF c15 H
          refine mm_aload_n dX12_right_58 rfl ?_
          refine rD_get (key := 11319) lk_X12_226_X12 lay_113 rfl rfl rfl dX12_right_59 R ?_
          refine mm_bipush (v := 100) dX12_right_62 (by decide +kernel) ?_
          refine mm_icmp_ne 70 dX12_right_64 (by decide) (fun c16 => ?_) (fun c16 => ?_)
          · replace H := hF c16 H
            refine mm_aload_n dX12_right_70 rfl ?_
            refine mm_iload_n dX12_right_71 rfl ?_
            obtain ⟨D17, e18, H⟩ := hD H
            refine rD_put (key := 11347) lk_X12_136_X12 lay_113 rfl rfl rfl rfl rfl dX12_right_72 R e18 (fun h R => ?_)
            refine mm_aload_n dX12_right_75 rfl ?_
            refine mm_iconst (v := 0) dX12_right_76 (by decide +kernel) ?_
            obtain ⟨D19, e20, H⟩ := hD H
            refine rD_put (key := 11346) lk_X12_133_X12 lay_113 rfl rfl rfl rfl rfl dX12_right_77 R e20 (fun h R => ?_)
            refine mm_aload_n dX12_right_80 rfl ?_
            refine mm_iconst (v := 0) dX12_right_81 (by decide +kernel) ?_
            obtain ⟨D21, e22, H⟩ := hD H
            refine rD_put (key := 11349) lk_X12_139_X12 lay_113 rfl rfl rfl rfl rfl dX12_right_82 R e22 (fun h R => ?_)
            refine mm_aload_n dX12_right_85 rfl ?_
            refine mm_iconst (v := 0) dX12_right_86 (by decide +kernel) ?_
            obtain ⟨D23, e24, H⟩ := hD H
            refine rD_put (key := 11348) lk_X12_145_X12 lay_113 rfl rfl rfl rfl rfl dX12_right_87 R e24 (fun h R => ?_)
            refine mm_aload_n dX12_right_90 rfl ?_
            refine mm_iload_n dX12_right_91 rfl ?_
            obtain ⟨D25, e26, H⟩ := hD H
            refine rD_put (key := 11351) lk_X12_130_X12 lay_113 rfl rfl rfl rfl rfl dX12_right_92 R e26 (fun h R => ?_)
            refine mm_aload_n dX12_right_95 rfl ?_
            refine mm_sipush (v := 200) dX12_right_96 (by decide +kernel) ?_
            refine mm_aload_n dX12_right_99 rfl ?_
            refine rD_get (key := 11319) lk_X12_226_X12 lay_113 rfl rfl rfl dX12_right_100 R ?_
            refine mm_iadd dX12_right_103 ?_
            obtain ⟨D27, e28, H⟩ := hD H
            refine rD_put (key := 11352) lk_X12_194_X12 lay_113 rfl rfl rfl rfl rfl dX12_right_104 R e28 (fun h R => ?_)
            refine mm_aload_n dX12_right_107 rfl ?_
            refine rD_get (key := 11320) lk_X12_188_X12 lay_113 rfl rfl rfl dX12_right_108 R ?_
            refine mm_istore_n (ls' := [some (.ref 113), some (.int x1), some (.int x2), some (.int (gI D27 11320)), none, none]) dX12_right_111 (Nat.le_of_ble_eq_true rfl) rfl ?_
            refine mm_aload_n dX12_right_112 rfl ?_
            refine rD_get (key := 11321) lk_X12_174_X12 lay_113 rfl rfl rfl dX12_right_113 R ?_
            refine mm_istore (ls' := [some (.ref 113), some (.int x1), some (.int x2), some (.int (gI D27 11320)), some (.int (gI D27 11321)), none]) dX12_right_116 (Nat.le_of_ble_eq_true rfl) rfl ?_
            refine mm_aload_n dX12_right_118 rfl ?_
            refine mm_bipush (v := 58) dX12_right_119 (by decide +kernel) ?_
            refine mm_bipush (v := (-2)) dX12_right_121 (by decide +kernel) ?_
            obtain ⟨q29, H30, H⟩ := hC H
            refine mm_callV (d' := d - 1) (as := [.int 58, .int (-2)]) (st := []) (dS hd) cm_X12_readRest (mm_t6 175 rfl rfl) (mm_t6 177 rfl rfl) (mm_s3 9 rfl rfl) (T := TX12) (N := 54) rfl dX12_right_123 (R.oD (r := 113) rfl lay_113) rfl (Nat.le_of_ble_eq_true rfl) (Nat.le_of_ble_eq_true rfl) rfl rfl (t_X12_readRest (dL hd (by decide)) R H30) (fun o h q => th_dV q (fun R => ?_))
            refine mm_aload_n dX12_right_126 rfl ?_
            refine rD_get (key := 11349) lk_X12_139_X12 lay_113 rfl rfl rfl dX12_right_127 R ?_
            refine mm_if_ne 153 dX12_right_130 (by decide) (fun c31 => ?_) (fun c31 => ?_)
            · replace H := hF c31 H
              exact t_X12_right_J153 hd R H
            · replace H := hT c31 H
              refine mm_aload_n dX12_right_133 rfl ?_
              refine rD_get (key := 11346) lk_X12_133_X12 lay_113 rfl rfl rfl dX12_right_134 R ?_
              refine mm_aload_n dX12_right_137 rfl ?_
              refine rD_get (key := 11347) lk_X12_136_X12 lay_113 rfl rfl rfl dX12_right_138 R ?_
              refine mm_icmp_ge 153 dX12_right_141 (by decide) (fun c68 => ?_) (fun c68 => ?_)
              · replace H := hT c68 H
                exact t_X12_right_J153 hd R H
              · replace H := hF c68 H
                refine mm_aload_n dX12_right_144 rfl ?_
                refine mm_iconst (v := 1) dX12_right_145 (by decide +kernel) ?_
                refine mm_aload_n dX12_right_146 rfl ?_
                refine rD_get (key := 11346) lk_X12_133_X12 lay_113 rfl rfl rfl dX12_right_147 R ?_
                obtain ⟨q69, H70, H⟩ := hC H
                refine mm_callV (d' := d - 1) (as := [.int 1, .int (gI q29 11346)]) (st := []) (dS hd) cm_X12_wrong (mm_t6 144 rfl rfl) (mm_t6 146 rfl rfl) (mm_s3 2 rfl rfl) (T := TX12) (N := 54) rfl dX12_right_150 (R.oD (r := 113) rfl lay_113) rfl (Nat.le_of_ble_eq_true rfl) (Nat.le_of_ble_eq_true rfl) rfl rfl (t_X12_wrong (dL hd (by decide)) R H70) (fun o h q => th_dV q (fun R => ?_))
                exact t_X12_right_J153 hd R H
          · replace H := hT c16 H
            refine mm_bipush (v := (-9)) dX12_right_67 (by decide +kernel) ?_
            refine mm_iret rfl rfl dX12_right_69 ?_
            exact en_dI H R
      · replace H := hF c9 H
        refine mm_aload_n dX12_right_32 rfl ?_
        refine mm_iconst (v := 2) dX12_right_33 (by decide +kernel) ?_
        obtain ⟨q71, H72, H⟩ := hC H
        refine mm_callV (d' := d - 1) (as := [.int 2]) (st := []) (dS hd) cm_X12_fail (mm_t6 129 rfl rfl) (mm_t6 131 rfl rfl) (mm_s2 15 rfl rfl) (T := TX12) (N := 54) rfl dX12_right_34 (R.oD (r := 113) rfl lay_113) rfl (Nat.le_of_ble_eq_true rfl) (Nat.le_of_ble_eq_true rfl) rfl rfl (t_X12_fail (dL hd (by decide)) R H72) (fun o h q => th_dI q (fun R => ?_))
        refine mm_iret rfl rfl dX12_right_37 ?_
        exact en_dI H R
  · replace H := hT c5 H
    refine mm_aload_n dX12_right_13 rfl ?_
    refine mm_iconst (v := 1) dX12_right_14 (by decide +kernel) ?_
    obtain ⟨q73, H74, H⟩ := hC H
    refine mm_callV (d' := d - 1) (as := [.int 1]) (st := []) (dS hd) cm_X12_fail (mm_t6 129 rfl rfl) (mm_t6 131 rfl rfl) (mm_s2 15 rfl rfl) (T := TX12) (N := 54) rfl dX12_right_15 (R.oD (r := 113) rfl lay_113) rfl (Nat.le_of_ble_eq_true rfl) (Nat.le_of_ble_eq_true rfl) rfl rfl (t_X12_fail (dL hd (by decide)) R H74) (fun o h q => th_dI q (fun R => ?_))
    refine mm_iret rfl rfl dX12_right_18 ?_
    exact en_dI H R
def f_X12_days (x1 : Int32) (D : CS) : Option (Int32 × CS) :=
  bd (sI D 11300 0) fun D1 =>
  if x1 < 0 then (bnd (f_X12_fail 1 D1) fun q4 =>
    some (q4.1, q4.2))
    else (if (lg_cmp ((Int32.toInt64 (gI D1 11305)) + (Int32.toInt64 x1)) 100000) ≤ 0 then (bd (sI D1 11305 ((gI D1 11305) + x1)) fun D7 =>
      some ((gI D7 11305), D7))
      else (bnd (f_X12_fail 1 D1) fun q9 =>
      some (q9.1, q9.2)))
theorem t_X12_days {g : mm_G} {d : Nat} {h : mm_Hp} {C D : CS} {x1 : Int32} {r : (Int32 × CS)} (hd : 1 ≤ d) (R : Rep h C D) (H : f_X12_days x1 D = some r) : mm_P g d MX12_days 0 [some (.ref 113), some (.int x1)] [] h (dI C r) := by
  unfold f_X12_days at H
  refine mm_aload_n dX12_days_0 rfl ?_
  refine mm_iconst (v := 0) dX12_days_1 (by decide +kernel) ?_
  obtain ⟨D1, e2, H⟩ := hD H
  refine rD_put (key := 11300) lk_X12_111_X12 lay_113 rfl rfl rfl rfl rfl dX12_days_2 R e2 (fun h R => ?_)
  refine mm_iload_n dX12_days_5 rfl ?_
  refine mm_if_lt 24 dX12_days_6 (by decide) (fun c3 => ?_) (fun c3 => ?_)
  · replace H := hT c3 H
    refine mm_aload_n dX12_days_24 rfl ?_
    refine mm_iconst (v := 1) dX12_days_25 (by decide +kernel) ?_
    obtain ⟨q4, H5, H⟩ := hC H
    refine mm_callV (d' := d - 1) (as := [.int 1]) (st := []) (dS hd) cm_X12_fail (mm_t6 129 rfl rfl) (mm_t6 131 rfl rfl) (mm_s2 15 rfl rfl) (T := TX12) (N := 54) rfl dX12_days_26 (R.oD (r := 113) rfl lay_113) rfl (Nat.le_of_ble_eq_true rfl) (Nat.le_of_ble_eq_true rfl) rfl rfl (t_X12_fail (dL hd (by decide)) R H5) (fun o h q => th_dI q (fun R => ?_))
    refine mm_iret rfl rfl dX12_days_29 ?_
    exact en_dI H R
  · replace H := hF c3 H
    refine mm_aload_n dX12_days_9 rfl ?_
    refine rD_get (key := 11305) lk_X12_229_X12 lay_113 rfl rfl rfl dX12_days_10 R ?_
    refine mm_i2l dX12_days_13 ?_
    refine mm_iload_n dX12_days_14 rfl ?_
    refine mm_i2l dX12_days_15 ?_
    refine mm_ladd dX12_days_16 ?_
    refine mm_ldc2 (v := 100000) (mm_t6 216 rfl rfl) dX12_days_17 ?_
    refine mm_lcmp dX12_days_20 ?_
    refine mm_if_le 30 dX12_days_21 (by decide) (fun c6 => ?_) (fun c6 => ?_)
    · replace H := hT c6 H
      refine mm_aload_n dX12_days_30 rfl ?_
      refine mm_dup rfl dX12_days_31 ?_
      refine rD_get (key := 11305) lk_X12_229_X12 lay_113 rfl rfl rfl dX12_days_32 R ?_
      refine mm_iload_n dX12_days_35 rfl ?_
      refine mm_iadd dX12_days_36 ?_
      obtain ⟨D7, e8, H⟩ := hD H
      refine rD_put (key := 11305) lk_X12_229_X12 lay_113 rfl rfl rfl rfl rfl dX12_days_37 R e8 (fun h R => ?_)
      refine mm_aload_n dX12_days_40 rfl ?_
      refine rD_get (key := 11305) lk_X12_229_X12 lay_113 rfl rfl rfl dX12_days_41 R ?_
      refine mm_iret rfl rfl dX12_days_44 ?_
      exact en_dI H R
    · replace H := hF c6 H
      refine mm_aload_n dX12_days_24 rfl ?_
      refine mm_iconst (v := 1) dX12_days_25 (by decide +kernel) ?_
      obtain ⟨q9, H10, H⟩ := hC H
      refine mm_callV (d' := d - 1) (as := [.int 1]) (st := []) (dS hd) cm_X12_fail (mm_t6 129 rfl rfl) (mm_t6 131 rfl rfl) (mm_s2 15 rfl rfl) (T := TX12) (N := 54) rfl dX12_days_26 (R.oD (r := 113) rfl lay_113) rfl (Nat.le_of_ble_eq_true rfl) (Nat.le_of_ble_eq_true rfl) rfl rfl (t_X12_fail (dL hd (by decide)) R H10) (fun o h q => th_dI q (fun R => ?_))
      refine mm_iret rfl rfl dX12_days_29 ?_
      exact en_dI H R
def f_X12_restOn_L7 (N : Nat) (x1 : Int32) (x2 : Int32) (D : CS) : Nat → Int32 → Int32 → Option (Int32)
  | 0, _, _ => none
  | n + 1, x3, x4 => if (200 + (gI D 11319)) ≤ x4 then (some x3)
    else (if inb x4 300 = true then (if (gA D 122 (x4).toNatClampNeg) = x1 then (if inb x4 300 = true then (if x2 < (gA D 123 (x4).toNatClampNeg) then (f_X12_restOn_L7 N x1 x2 D n x3 (x4 + 1))
        else (f_X12_restOn_L7 N x1 x2 D n x4 (x4 + 1))) else none)
      else (f_X12_restOn_L7 N x1 x2 D n x3 (x4 + 1))) else none)
theorem t_X12_restOn_L7 {g : mm_G} {d : Nat} {Post : mm_Ou → mm_Hp → Prop} {h : mm_Hp} {C D : CS} {N : Nat} {x1 : Int32} {x2 : Int32} {res : (Int32)} (hd : 0 ≤ d) (R : Rep h C D) (KE : mm_P g d MX12_restOn 51 [none, none, none, some (.int res), none] [] h Post) : ∀ (n : Nat) (x3 : Int32) (x4 : Int32) , f_X12_restOn_L7 N x1 x2 D n x3 x4 = some res → mm_P g d MX12_restOn 7 [some (.ref 113), some (.int x1), some (.int x2), some (.int x3), some (.int x4)] [] h Post := by
  intro n
  induction n with
  | zero =>
    intro x3 x4 H
    exact hN H
  | succ n ih =>
    intro x3 x4 H
    unfold f_X12_restOn_L7 at H
    refine mm_iload dX12_restOn_7 rfl ?_
    refine mm_sipush (v := 200) dX12_restOn_9 (by decide +kernel) ?_
    refine mm_aload_n dX12_restOn_12 rfl ?_
    refine rD_get (key := 11319) lk_X12_226_X12 lay_113 rfl rfl rfl dX12_restOn_13 R ?_
    refine mm_iadd dX12_restOn_16 ?_
    refine mm_icmp_ge 51 dX12_restOn_17 (by decide) (fun c1 => ?_) (fun c1 => ?_)
    · replace H := hT c1 H
      refine mm_fgt (ls' := [none, none, none, some (.int x3), none]) ⟨rfl, trivial⟩ ?_
      cases H
      exact KE
    · replace H := hF c1 H
      refine mm_aload_n dX12_restOn_20 rfl ?_
      refine rD_getR (t := 120) lk_X12_38_X12 lay_113 rfl rfl dX12_restOn_21 R ?_
      refine mm_iload dX12_restOn_24 rfl ?_
      obtain ⟨b2, H⟩ := hB H
      refine rD_iald lay_122 rfl dX12_restOn_26 R b2 ?_
      refine mm_iload_n dX12_restOn_27 rfl ?_
      refine mm_icmp_ne 45 dX12_restOn_28 (by decide) (fun c3 => ?_) (fun c3 => ?_)
      · replace H := hF c3 H
        refine mm_iinc (v := (x4 + 1)) (ls' := [some (.ref 113), some (.int x1), some (.int x2), some (.int x3), some (.int (x4 + 1))]) dX12_restOn_45 rfl rfl rfl ?_
        refine mm_goto 7 dX12_restOn_48 (by decide) ?_
        exact ih _ _ H
      · replace H := hT c3 H
        refine mm_aload_n dX12_restOn_31 rfl ?_
        refine rD_getR (t := 121) lk_X12_41_X12 lay_113 rfl rfl dX12_restOn_32 R ?_
        refine mm_iload dX12_restOn_35 rfl ?_
        obtain ⟨b4, H⟩ := hB H
        refine rD_iald lay_123 rfl dX12_restOn_37 R b4 ?_
        refine mm_iload_n dX12_restOn_38 rfl ?_
        refine mm_icmp_gt 45 dX12_restOn_39 (by decide) (fun c5 => ?_) (fun c5 => ?_)
        · replace H := hT c5 H
          refine mm_iinc (v := (x4 + 1)) (ls' := [some (.ref 113), some (.int x1), some (.int x2), some (.int x3), some (.int (x4 + 1))]) dX12_restOn_45 rfl rfl rfl ?_
          refine mm_goto 7 dX12_restOn_48 (by decide) ?_
          exact ih _ _ H
        · replace H := hF c5 H
          refine mm_iload dX12_restOn_42 rfl ?_
          refine mm_istore_n (ls' := [some (.ref 113), some (.int x1), some (.int x2), some (.int x4), some (.int x4)]) dX12_restOn_44 (Nat.le_of_ble_eq_true rfl) rfl ?_
          refine mm_iinc (v := (x4 + 1)) (ls' := [some (.ref 113), some (.int x1), some (.int x2), some (.int x4), some (.int (x4 + 1))]) dX12_restOn_45 rfl rfl rfl ?_
          refine mm_goto 7 dX12_restOn_48 (by decide) ?_
          exact ih _ _ H
def f_X12_restOn (N : Nat) (x1 : Int32) (x2 : Int32) (D : CS) : Option Int32 :=
  bnd (f_X12_restOn_L7 N x1 x2 D N x1 200) fun q6 =>
    some q6
theorem t_X12_restOn {g : mm_G} {d : Nat} {h : mm_Hp} {C D : CS} {N : Nat} {x1 : Int32} {x2 : Int32} {r : Int32} (hd : 0 ≤ d) (R : Rep h C D) (H : f_X12_restOn N x1 x2 D = some r) : mm_P g d MX12_restOn 0 [some (.ref 113), some (.int x1), some (.int x2), none, none] [] h (mm_pureI r h) := by
  unfold f_X12_restOn at H
  refine mm_iload_n dX12_restOn_0 rfl ?_
  refine mm_istore_n (ls' := [some (.ref 113), some (.int x1), some (.int x2), some (.int x1), none]) dX12_restOn_1 (Nat.le_of_ble_eq_true rfl) rfl ?_
  refine mm_sipush (v := 200) dX12_restOn_2 (by decide +kernel) ?_
  refine mm_istore (ls' := [some (.ref 113), some (.int x1), some (.int x2), some (.int x1), some (.int 200)]) dX12_restOn_5 (Nat.le_of_ble_eq_true rfl) rfl ?_
  obtain ⟨q6, H7, H⟩ := hC H
  refine t_X12_restOn_L7 hd R ?_ N _ _ H7
  refine mm_iload_n dX12_restOn_51 rfl ?_
  refine mm_iret rfl rfl dX12_restOn_52 ?_
  exact en_pI H
def f_X12_answered_L35 (N : Nat) (x1 : Int32) (D : CS) : Nat → Int32 → Option (Int32 ⊕ (Unit))
  | 0, _ => none
  | n + 1, x2 => if (gI D 11308) ≤ x2 then (some (.inr ()))
    else (if inb x2 200 = true then (if inb x1 200 = true then (if (gA D 117 (x2).toNatClampNeg) = (gA D 117 (x1).toNatClampNeg) then (if inb x2 200 = true then (if (gA D 116 (x2).toNatClampNeg) = 5 then (f_X12_answered_L35 N x1 D n (x2 + 1))
        else (if inb x2 200 = true then (if (gA D 116 (x2).toNatClampNeg) = 4 then (f_X12_answered_L35 N x1 D n (x2 + 1))
          else (if inb x2 200 = true then (if (gA D 116 (x2).toNatClampNeg) = 0 then (some (.inl (-1)))
            else (some (.inl x2))) else none)) else none)) else none)
      else (some (.inr ()))) else none) else none)
theorem t_X12_answered_L35 {g : mm_G} {d : Nat} {Post : mm_Ou → mm_Hp → Prop} {h : mm_Hp} {C D : CS} {N : Nat} {x1 : Int32} {res : (Int32 ⊕ (Unit))} (hd : 0 ≤ d) (R : Rep h C D) (KR : ∀ (q : Int32), res = .inl q → Post (.inl (some (.int q))) h) (KE : ∀ (q : Unit), res = .inr q → mm_P g d MX12_answered 102 [none, none, none] [] h Post) : ∀ (n : Nat) (x2 : Int32) , f_X12_answered_L35 N x1 D n x2 = some res → mm_P g d MX12_answered 35 [some (.ref 113), some (.int x1), some (.int x2)] [] h Post := by
  intro n
  induction n with
  | zero =>
    intro x2 H
    exact hN H
  | succ n ih =>
    intro x2 H
    unfold f_X12_answered_L35 at H
    refine mm_iload_n dX12_answered_35 rfl ?_
    refine mm_aload_n dX12_answered_36 rfl ?_
    refine rD_get (key := 11308) lk_X12_114_X12 lay_113 rfl rfl rfl dX12_answered_37 R ?_
    refine mm_icmp_ge 102 dX12_answered_40 (by decide) (fun c7 => ?_) (fun c7 => ?_)
    · replace H := hT c7 H
      refine mm_fgt (ls' := [none, none, none]) trivial ?_
      exact KE _ (Option.some.inj H).symm
    · replace H := hF c7 H
      refine mm_aload_n dX12_answered_43 rfl ?_
      refine rD_getR (t := 115) lk_X12_23_X12 lay_113 rfl rfl dX12_answered_44 R ?_
      refine mm_iload_n dX12_answered_47 rfl ?_
      obtain ⟨b8, H⟩ := hB H
      refine rD_iald lay_117 rfl dX12_answered_48 R b8 ?_
      refine mm_aload_n dX12_answered_49 rfl ?_
      refine rD_getR (t := 115) lk_X12_23_X12 lay_113 rfl rfl dX12_answered_50 R ?_
      refine mm_iload_n dX12_answered_53 rfl ?_
      obtain ⟨b9, H⟩ := hB H
      refine rD_iald lay_117 rfl dX12_answered_54 R b9 ?_
      refine mm_icmp_ne 102 dX12_answered_55 (by decide) (fun c10 => ?_) (fun c10 => ?_)
      · replace H := hF c10 H
        refine mm_fgt (ls' := [none, none, none]) trivial ?_
        exact KE _ (Option.some.inj H).symm
      · replace H := hT c10 H
        refine mm_aload_n dX12_answered_58 rfl ?_
        refine rD_getR (t := 114) lk_X12_20_X12 lay_113 rfl rfl dX12_answered_59 R ?_
        refine mm_iload_n dX12_answered_62 rfl ?_
        obtain ⟨b11, H⟩ := hB H
        refine rD_iald lay_116 rfl dX12_answered_63 R b11 ?_
        refine mm_iconst (v := 5) dX12_answered_64 (by decide +kernel) ?_
        refine mm_icmp_eq 96 dX12_answered_65 (by decide) (fun c12 => ?_) (fun c12 => ?_)
        · replace H := hT c12 H
          refine mm_iinc (v := (x2 + 1)) (ls' := [some (.ref 113), some (.int x1), some (.int (x2 + 1))]) dX12_answered_96 rfl rfl rfl ?_
          refine mm_goto 35 dX12_answered_99 (by decide) ?_
          exact ih _ H
        · replace H := hF c12 H
          refine mm_aload_n dX12_answered_68 rfl ?_
          refine rD_getR (t := 114) lk_X12_20_X12 lay_113 rfl rfl dX12_answered_69 R ?_
          refine mm_iload_n dX12_answered_72 rfl ?_
          obtain ⟨b13, H⟩ := hB H
          refine rD_iald lay_116 rfl dX12_answered_73 R b13 ?_
          refine mm_iconst (v := 4) dX12_answered_74 (by decide +kernel) ?_
          refine mm_icmp_ne 81 dX12_answered_75 (by decide) (fun c14 => ?_) (fun c14 => ?_)
          · replace H := hF c14 H
            refine mm_aload_n dX12_answered_81 rfl ?_
            refine rD_getR (t := 114) lk_X12_20_X12 lay_113 rfl rfl dX12_answered_82 R ?_
            refine mm_iload_n dX12_answered_85 rfl ?_
            obtain ⟨b15, H⟩ := hB H
            refine rD_iald lay_116 rfl dX12_answered_86 R b15 ?_
            refine mm_if_ne 94 dX12_answered_87 (by decide) (fun c16 => ?_) (fun c16 => ?_)
            · replace H := hF c16 H
              refine mm_iload_n dX12_answered_94 rfl ?_
              refine mm_iret rfl rfl dX12_answered_95 ?_
              exact KR _ (Option.some.inj H).symm
            · replace H := hT c16 H
              refine mm_iconst (v := (-1)) dX12_answered_90 (by decide +kernel) ?_
              refine mm_goto 95 dX12_answered_91 (by decide) ?_
              refine mm_iret rfl rfl dX12_answered_95 ?_
              exact KR _ (Option.some.inj H).symm
          · replace H := hT c14 H
            refine mm_goto 96 dX12_answered_78 (by decide) ?_
            refine mm_iinc (v := (x2 + 1)) (ls' := [some (.ref 113), some (.int x1), some (.int (x2 + 1))]) dX12_answered_96 rfl rfl rfl ?_
            refine mm_goto 35 dX12_answered_99 (by decide) ?_
            exact ih _ H
def f_X12_answered (N : Nat) (x1 : Int32) (D : CS) : Option Int32 :=
  if inb x1 200 = true then (if (gA D 118 (x1).toNatClampNeg) = (-1) then (some (-1))
    else (if inb x1 200 = true then (if inb (gA D 118 (x1).toNatClampNeg) 200 = true then (if (gA D 116 ((gA D 118 (x1).toNatClampNeg)).toNatClampNeg) = 0 then (if inb x1 200 = true then (bns (f_X12_answered_L35 N x1 D N ((gA D 118 (x1).toNatClampNeg) + 1)) (fun q17 => some q17) fun q17 =>
        some (-1)) else none)
      else (some (-1))) else none) else none)) else none
theorem t_X12_answered {g : mm_G} {d : Nat} {h : mm_Hp} {C D : CS} {N : Nat} {x1 : Int32} {r : Int32} (hd : 0 ≤ d) (R : Rep h C D) (H : f_X12_answered N x1 D = some r) : mm_P g d MX12_answered 0 [some (.ref 113), some (.int x1), none] [] h (mm_pureI r h) := by
  unfold f_X12_answered at H
  refine mm_aload_n dX12_answered_0 rfl ?_
  refine rD_getR (t := 116) lk_X12_26_X12 lay_113 rfl rfl dX12_answered_1 R ?_
  refine mm_iload_n dX12_answered_4 rfl ?_
  obtain ⟨b1, H⟩ := hB H
  refine rD_iald lay_118 rfl dX12_answered_5 R b1 ?_
  refine mm_iconst (v := (-1)) dX12_answered_6 (by decide +kernel) ?_
  refine mm_icmp_eq 24 dX12_answered_7 (by decide) (fun c2 => ?_) (fun c2 => ?_)
  · replace H := hT c2 H
    refine mm_iconst (v := (-1)) dX12_answered_24 (by decide +kernel) ?_
    refine mm_iret rfl rfl dX12_answered_25 ?_
    exact en_pI H
  · replace H := hF c2 H
    refine mm_aload_n dX12_answered_10 rfl ?_
    refine rD_getR (t := 114) lk_X12_20_X12 lay_113 rfl rfl dX12_answered_11 R ?_
    refine mm_aload_n dX12_answered_14 rfl ?_
    refine rD_getR (t := 116) lk_X12_26_X12 lay_113 rfl rfl dX12_answered_15 R ?_
    refine mm_iload_n dX12_answered_18 rfl ?_
    obtain ⟨b3, H⟩ := hB H
    refine rD_iald lay_118 rfl dX12_answered_19 R b3 ?_
    obtain ⟨b4, H⟩ := hB H
    refine rD_iald lay_116 rfl dX12_answered_20 R b4 ?_
    refine mm_if_eq 26 dX12_answered_21 (by decide) (fun c5 => ?_) (fun c5 => ?_)
    · replace H := hT c5 H
      refine mm_aload_n dX12_answered_26 rfl ?_
      refine rD_getR (t := 116) lk_X12_26_X12 lay_113 rfl rfl dX12_answered_27 R ?_
      refine mm_iload_n dX12_answered_30 rfl ?_
      obtain ⟨b6, H⟩ := hB H
      refine rD_iald lay_118 rfl dX12_answered_31 R b6 ?_
      refine mm_iconst (v := 1) dX12_answered_32 (by decide +kernel) ?_
      refine mm_iadd dX12_answered_33 ?_
      refine mm_istore_n (ls' := [some (.ref 113), some (.int x1), some (.int ((gA D 118 (x1).toNatClampNeg) + 1))]) dX12_answered_34 (Nat.le_of_ble_eq_true rfl) rfl ?_
      rcases hS H with ⟨q17, H18, H⟩ | ⟨q17, H18, H⟩
      · refine t_X12_answered_L35 hd R (fun q e => ?_) (fun q e => by cases e) N _ H18
        cases e
        exact en_pI H
      · refine t_X12_answered_L35 hd R (fun q e => by cases e) (fun q e => ?_) N _ H18
        cases e
        refine mm_iconst (v := (-1)) dX12_answered_102 (by decide +kernel) ?_
        refine mm_iret rfl rfl dX12_answered_103 ?_
        exact en_pI H
    · replace H := hF c5 H
      refine mm_iconst (v := (-1)) dX12_answered_24 (by decide +kernel) ?_
      refine mm_iret rfl rfl dX12_answered_25 ?_
      exact en_pI H
def f_X12_about (N : Nat) (x1 : Int32) (x2 : Int32) (D : CS) : Option (Int32 × CS) :=
  bd (sI D 11300 0) fun D1 =>
  bnd (f_X12_isLine x1 D1) fun q3 =>
  if q3 = 0 then (bnd (f_X12_fail 1 D1) fun q23 =>
    some (q23.1, q23.2))
    else (if x2 = 0 then (if inb x1 200 = true then (some ((gA D1 119 (x1).toNatClampNeg), D1)) else none)
      else if x2 = 1 then (if inb x1 200 = true then (some ((gA D1 120 (x1).toNatClampNeg), D1)) else none)
      else if x2 = 2 then (if inb x1 200 = true then (some ((gA D1 117 (x1).toNatClampNeg), D1)) else none)
      else if x2 = 3 then (if inb x1 200 = true then (some ((gA D1 116 (x1).toNatClampNeg), D1)) else none)
      else if x2 = 4 then (if inb x1 200 = true then (some ((gA D1 118 (x1).toNatClampNeg), D1)) else none)
      else if x2 = 5 then (bnd (f_X12_answered N x1 D1) fun q17 =>
      some (q17, D1))
      else if x2 = 6 then (if inb x1 200 = true then (some ((gA D1 121 (x1).toNatClampNeg), D1)) else none)
      else (bnd (f_X12_fail 1 D1) fun q21 =>
      some (q21.1, q21.2)))
theorem t_X12_about {g : mm_G} {d : Nat} {h : mm_Hp} {C D : CS} {N : Nat} {x1 : Int32} {x2 : Int32} {r : (Int32 × CS)} (hd : 1 ≤ d) (R : Rep h C D) (H : f_X12_about N x1 x2 D = some r) : mm_P g d MX12_about 0 [some (.ref 113), some (.int x1), some (.int x2)] [] h (dI C r) := by
  unfold f_X12_about at H
  refine mm_aload_n dX12_about_0 rfl ?_
  refine mm_iconst (v := 0) dX12_about_1 (by decide +kernel) ?_
  obtain ⟨D1, e2, H⟩ := hD H
  refine rD_put (key := 11300) lk_X12_111_X12 lay_113 rfl rfl rfl rfl rfl dX12_about_2 R e2 (fun h R => ?_)
  refine mm_aload_n dX12_about_5 rfl ?_
  refine mm_iload_n dX12_about_6 rfl ?_
  obtain ⟨q3, H4, H⟩ := hC H
  refine mm_callV (d' := d - 1) (as := [.int x1]) (st := []) (dS hd) cm_X12_isLine (mm_t6 208 rfl rfl) (mm_t6 210 rfl rfl) (mm_s3 15 rfl rfl) (T := TX12) (N := 54) rfl dX12_about_7 (R.oD (r := 113) rfl lay_113) rfl (Nat.le_of_ble_eq_true rfl) (Nat.le_of_ble_eq_true rfl) rfl rfl (t_X12_isLine (dL hd (by decide)) R H4) (fun o u q => mm_thenI q ?_)
  refine mm_if_ne 19 dX12_about_10 (by decide) (fun c5 => ?_) (fun c5 => ?_)
  · replace H := hF c5 H
    refine mm_iload_n dX12_about_19 rfl ?_
    by_cases c6 : x2 = 0
    · replace H := hT c6 H
      refine mm_tabIn 64 dX12_about_20 (by rw [c6]; decide) (by rw [c6]; decide) (by rw [c6]; rfl) (by decide) ?_
      refine mm_aload_n dX12_about_64 rfl ?_
      refine rD_getR (t := 117) lk_X12_29_X12 lay_113 rfl rfl dX12_about_65 R ?_
      refine mm_iload_n dX12_about_68 rfl ?_
      obtain ⟨b7, H⟩ := hB H
      refine rD_iald lay_119 rfl dX12_about_69 R b7 ?_
      refine mm_iret rfl rfl dX12_about_70 ?_
      exact en_dI H R
    replace H := hF c6 H
    by_cases c8 : x2 = 1
    · replace H := hT c8 H
      refine mm_tabIn 71 dX12_about_20 (by rw [c8]; decide) (by rw [c8]; decide) (by rw [c8]; rfl) (by decide) ?_
      refine mm_aload_n dX12_about_71 rfl ?_
      refine rD_getR (t := 118) lk_X12_32_X12 lay_113 rfl rfl dX12_about_72 R ?_
      refine mm_iload_n dX12_about_75 rfl ?_
      obtain ⟨b9, H⟩ := hB H
      refine rD_iald lay_120 rfl dX12_about_76 R b9 ?_
      refine mm_iret rfl rfl dX12_about_77 ?_
      exact en_dI H R
    replace H := hF c8 H
    by_cases c10 : x2 = 2
    · replace H := hT c10 H
      refine mm_tabIn 78 dX12_about_20 (by rw [c10]; decide) (by rw [c10]; decide) (by rw [c10]; rfl) (by decide) ?_
      refine mm_aload_n dX12_about_78 rfl ?_
      refine rD_getR (t := 115) lk_X12_23_X12 lay_113 rfl rfl dX12_about_79 R ?_
      refine mm_iload_n dX12_about_82 rfl ?_
      obtain ⟨b11, H⟩ := hB H
      refine rD_iald lay_117 rfl dX12_about_83 R b11 ?_
      refine mm_iret rfl rfl dX12_about_84 ?_
      exact en_dI H R
    replace H := hF c10 H
    by_cases c12 : x2 = 3
    · replace H := hT c12 H
      refine mm_tabIn 85 dX12_about_20 (by rw [c12]; decide) (by rw [c12]; decide) (by rw [c12]; rfl) (by decide) ?_
      refine mm_aload_n dX12_about_85 rfl ?_
      refine rD_getR (t := 114) lk_X12_20_X12 lay_113 rfl rfl dX12_about_86 R ?_
      refine mm_iload_n dX12_about_89 rfl ?_
      obtain ⟨b13, H⟩ := hB H
      refine rD_iald lay_116 rfl dX12_about_90 R b13 ?_
      refine mm_iret rfl rfl dX12_about_91 ?_
      exact en_dI H R
    replace H := hF c12 H
    by_cases c14 : x2 = 4
    · replace H := hT c14 H
      refine mm_tabIn 92 dX12_about_20 (by rw [c14]; decide) (by rw [c14]; decide) (by rw [c14]; rfl) (by decide) ?_
      refine mm_aload_n dX12_about_92 rfl ?_
      refine rD_getR (t := 116) lk_X12_26_X12 lay_113 rfl rfl dX12_about_93 R ?_
      refine mm_iload_n dX12_about_96 rfl ?_
      obtain ⟨b15, H⟩ := hB H
      refine rD_iald lay_118 rfl dX12_about_97 R b15 ?_
      refine mm_iret rfl rfl dX12_about_98 ?_
      exact en_dI H R
    replace H := hF c14 H
    by_cases c16 : x2 = 5
    · replace H := hT c16 H
      refine mm_tabIn 99 dX12_about_20 (by rw [c16]; decide) (by rw [c16]; decide) (by rw [c16]; rfl) (by decide) ?_
      refine mm_aload_n dX12_about_99 rfl ?_
      refine mm_iload_n dX12_about_100 rfl ?_
      obtain ⟨q17, H18, H⟩ := hC H
      refine mm_callV (d' := d - 1) (as := [.int x1]) (st := []) (dS hd) cm_X12_answered (mm_t6 221 rfl rfl) (mm_t6 223 rfl rfl) (mm_s4 0 rfl rfl) (T := TX12) (N := 54) rfl dX12_about_101 (R.oD (r := 113) rfl lay_113) rfl (Nat.le_of_ble_eq_true rfl) (Nat.le_of_ble_eq_true rfl) rfl rfl (t_X12_answered (dL hd (by decide)) R H18) (fun o u q => mm_thenI q ?_)
      refine mm_iret rfl rfl dX12_about_104 ?_
      exact en_dI H R
    replace H := hF c16 H
    by_cases c19 : x2 = 6
    · replace H := hT c19 H
      refine mm_tabIn 105 dX12_about_20 (by rw [c19]; decide) (by rw [c19]; decide) (by rw [c19]; rfl) (by decide) ?_
      refine mm_aload_n dX12_about_105 rfl ?_
      refine rD_getR (t := 119) lk_X12_35_X12 lay_113 rfl rfl dX12_about_106 R ?_
      refine mm_iload_n dX12_about_109 rfl ?_
      obtain ⟨b20, H⟩ := hB H
      refine rD_iald lay_121 rfl dX12_about_110 R b20 ?_
      refine mm_iret rfl rfl dX12_about_111 ?_
      exact en_dI H R
    replace H := hF c19 H
    refine mm_tabOut 112 dX12_about_20 (sw_out 7 (by decide) (by rw [show (List.range 7).map nI = [0, 1, 2, 3, 4, 5, 6] from rfl]; simp only [List.forall_mem_cons]; exact ⟨c6, c8, c10, c12, c14, c16, c19, fun _ z => absurd z List.not_mem_nil⟩)) (by decide) ?_
    refine mm_aload_n dX12_about_112 rfl ?_
    refine mm_iconst (v := 1) dX12_about_113 (by decide +kernel) ?_
    obtain ⟨q21, H22, H⟩ := hC H
    refine mm_callV (d' := d - 1) (as := [.int 1]) (st := []) (dS hd) cm_X12_fail (mm_t6 129 rfl rfl) (mm_t6 131 rfl rfl) (mm_s2 15 rfl rfl) (T := TX12) (N := 54) rfl dX12_about_114 (R.oD (r := 113) rfl lay_113) rfl (Nat.le_of_ble_eq_true rfl) (Nat.le_of_ble_eq_true rfl) rfl rfl (t_X12_fail (dL hd (by decide)) R H22) (fun o h q => th_dI q (fun R => ?_))
    refine mm_iret rfl rfl dX12_about_117 ?_
    exact en_dI H R
  · replace H := hT c5 H
    refine mm_aload_n dX12_about_13 rfl ?_
    refine mm_iconst (v := 1) dX12_about_14 (by decide +kernel) ?_
    obtain ⟨q23, H24, H⟩ := hC H
    refine mm_callV (d' := d - 1) (as := [.int 1]) (st := []) (dS hd) cm_X12_fail (mm_t6 129 rfl rfl) (mm_t6 131 rfl rfl) (mm_s2 15 rfl rfl) (T := TX12) (N := 54) rfl dX12_about_15 (R.oD (r := 113) rfl lay_113) rfl (Nat.le_of_ble_eq_true rfl) (Nat.le_of_ble_eq_true rfl) rfl rfl (t_X12_fail (dL hd (by decide)) R H24) (fun o h q => th_dI q (fun R => ?_))
    refine mm_iret rfl rfl dX12_about_18 ?_
    exact en_dI H R
def f_X12_cited_L7 (N : Nat) (x1 : Int32) (x2 : Int32) (D : CS) : Nat → Int32 → Option ((Int32 × CS) ⊕ (Unit))
  | 0, _ => none
  | n + 1, x3 => if (gI D 11308) ≤ x3 then (some (.inr ()))
    else (if inb x3 200 = true then (if (gA D 119 (x3).toNatClampNeg) = x1 then (if inb x3 200 = true then (if (gA D 120 (x3).toNatClampNeg) = x2 then (some (.inl (x3, D)))
        else (f_X12_cited_L7 N x1 x2 D n (x3 + 1))) else none)
      else (f_X12_cited_L7 N x1 x2 D n (x3 + 1))) else none)
theorem t_X12_cited_L7 {g : mm_G} {d : Nat} {Post : mm_Ou → mm_Hp → Prop} {h : mm_Hp} {C D : CS} {N : Nat} {x1 : Int32} {x2 : Int32} {res : ((Int32 × CS) ⊕ (Unit))} (hd : 0 ≤ d) (R : Rep h C D) (KR : ∀ (q : (Int32 × CS)) (h1 : mm_Hp), res = .inl q → Rep h1 C q.2 → Post (.inl (some (.int q.1))) h1) (KE : ∀ (q : Unit), res = .inr q → mm_P g d MX12_cited 43 [none, none, none, none] [] h Post) : ∀ (n : Nat) (x3 : Int32) , f_X12_cited_L7 N x1 x2 D n x3 = some res → mm_P g d MX12_cited 7 [some (.ref 113), some (.int x1), some (.int x2), some (.int x3)] [] h Post := by
  intro n
  induction n with
  | zero =>
    intro x3 H
    exact hN H
  | succ n ih =>
    intro x3 H
    unfold f_X12_cited_L7 at H
    refine mm_iload_n dX12_cited_7 rfl ?_
    refine mm_aload_n dX12_cited_8 rfl ?_
    refine rD_get (key := 11308) lk_X12_114_X12 lay_113 rfl rfl rfl dX12_cited_9 R ?_
    refine mm_icmp_ge 43 dX12_cited_12 (by decide) (fun c3 => ?_) (fun c3 => ?_)
    · replace H := hT c3 H
      refine mm_fgt (ls' := [none, none, none, none]) trivial ?_
      exact KE _ (Option.some.inj H).symm
    · replace H := hF c3 H
      refine mm_aload_n dX12_cited_15 rfl ?_
      refine rD_getR (t := 117) lk_X12_29_X12 lay_113 rfl rfl dX12_cited_16 R ?_
      refine mm_iload_n dX12_cited_19 rfl ?_
      obtain ⟨b4, H⟩ := hB H
      refine rD_iald lay_119 rfl dX12_cited_20 R b4 ?_
      refine mm_iload_n dX12_cited_21 rfl ?_
      refine mm_icmp_ne 37 dX12_cited_22 (by decide) (fun c5 => ?_) (fun c5 => ?_)
      · replace H := hF c5 H
        refine mm_iinc (v := (x3 + 1)) (ls' := [some (.ref 113), some (.int x1), some (.int x2), some (.int (x3 + 1))]) dX12_cited_37 rfl rfl rfl ?_
        refine mm_goto 7 dX12_cited_40 (by decide) ?_
        exact ih _ H
      · replace H := hT c5 H
        refine mm_aload_n dX12_cited_25 rfl ?_
        refine rD_getR (t := 118) lk_X12_32_X12 lay_113 rfl rfl dX12_cited_26 R ?_
        refine mm_iload_n dX12_cited_29 rfl ?_
        obtain ⟨b6, H⟩ := hB H
        refine rD_iald lay_120 rfl dX12_cited_30 R b6 ?_
        refine mm_iload_n dX12_cited_31 rfl ?_
        refine mm_icmp_ne 37 dX12_cited_32 (by decide) (fun c7 => ?_) (fun c7 => ?_)
        · replace H := hF c7 H
          refine mm_iinc (v := (x3 + 1)) (ls' := [some (.ref 113), some (.int x1), some (.int x2), some (.int (x3 + 1))]) dX12_cited_37 rfl rfl rfl ?_
          refine mm_goto 7 dX12_cited_40 (by decide) ?_
          exact ih _ H
        · replace H := hT c7 H
          refine mm_iload_n dX12_cited_35 rfl ?_
          refine mm_iret rfl rfl dX12_cited_36 ?_
          exact KR _ _ (Option.some.inj H).symm R
def f_X12_cited (N : Nat) (x1 : Int32) (x2 : Int32) (D : CS) : Option (Int32 × CS) :=
  bd (sI D 11300 0) fun D1 =>
  bns (f_X12_cited_L7 N x1 x2 D1 N 0) (fun q8 => some q8) fun q8 =>
    some ((-1), D1)
theorem t_X12_cited {g : mm_G} {d : Nat} {h : mm_Hp} {C D : CS} {N : Nat} {x1 : Int32} {x2 : Int32} {r : (Int32 × CS)} (hd : 0 ≤ d) (R : Rep h C D) (H : f_X12_cited N x1 x2 D = some r) : mm_P g d MX12_cited 0 [some (.ref 113), some (.int x1), some (.int x2), none] [] h (dI C r) := by
  unfold f_X12_cited at H
  refine mm_aload_n dX12_cited_0 rfl ?_
  refine mm_iconst (v := 0) dX12_cited_1 (by decide +kernel) ?_
  obtain ⟨D1, e2, H⟩ := hD H
  refine rD_put (key := 11300) lk_X12_111_X12 lay_113 rfl rfl rfl rfl rfl dX12_cited_2 R e2 (fun h R => ?_)
  refine mm_iconst (v := 0) dX12_cited_5 (by decide +kernel) ?_
  refine mm_istore_n (ls' := [some (.ref 113), some (.int x1), some (.int x2), some (.int 0)]) dX12_cited_6 (Nat.le_of_ble_eq_true rfl) rfl ?_
  rcases hS H with ⟨q8, H9, H⟩ | ⟨q8, H9, H⟩
  · refine t_X12_cited_L7 hd R (fun q h e R => ?_) (fun q e => by cases e) N _ H9
    cases e
    exact en_dI H R
  · refine t_X12_cited_L7 hd R (fun q h e R => by cases e) (fun q e => ?_) N _ H9
    cases e
    refine mm_iconst (v := (-1)) dX12_cited_43 (by decide +kernel) ?_
    refine mm_iret rfl rfl dX12_cited_44 ?_
    exact en_dI H R
def f_X12_isFact (x1 : Int32) (D : CS) : Option Int32 :=
  if x1 < 0 then (some 0)
    else (if (gI D 11320) ≤ x1 then (some 0)
      else (some 1))
theorem t_X12_isFact {g : mm_G} {d : Nat} {h : mm_Hp} {C D : CS} {x1 : Int32} {r : Int32} (hd : 0 ≤ d) (R : Rep h C D) (H : f_X12_isFact x1 D = some r) : mm_P g d MX12_isFact 0 [some (.ref 113), some (.int x1)] [] h (mm_pureI r h) := by
  unfold f_X12_isFact at H
  refine mm_iload_n dX12_isFact_0 rfl ?_
  refine mm_if_lt 16 dX12_isFact_1 (by decide) (fun c1 => ?_) (fun c1 => ?_)
  · replace H := hT c1 H
    refine mm_iconst (v := 0) dX12_isFact_16 (by decide +kernel) ?_
    refine mm_iret rfl rfl dX12_isFact_17 ?_
    exact en_pI H
  · replace H := hF c1 H
    refine mm_iload_n dX12_isFact_4 rfl ?_
    refine mm_aload_n dX12_isFact_5 rfl ?_
    refine rD_get (key := 11320) lk_X12_188_X12 lay_113 rfl rfl rfl dX12_isFact_6 R ?_
    refine mm_icmp_ge 16 dX12_isFact_9 (by decide) (fun c2 => ?_) (fun c2 => ?_)
    · replace H := hT c2 H
      refine mm_iconst (v := 0) dX12_isFact_16 (by decide +kernel) ?_
      refine mm_iret rfl rfl dX12_isFact_17 ?_
      exact en_pI H
    · replace H := hF c2 H
      refine mm_iconst (v := 1) dX12_isFact_12 (by decide +kernel) ?_
      refine mm_goto 17 dX12_isFact_13 (by decide) ?_
      refine mm_iret rfl rfl dX12_isFact_17 ?_
      exact en_pI H
def f_X12_fact (x1 : Int32) (x2 : Int32) (D : CS) : Option (Int32 × CS) :=
  bd (sI D 11300 0) fun D1 =>
  bnd (f_X12_isFact x1 D1) fun q3 =>
  if q3 = 0 then (bnd (f_X12_fail 1 D1) fun q19 =>
    some (q19.1, q19.2))
    else (if x2 = 0 then (if inb x1 150 = true then (if inb (gA D1 126 (x1).toNatClampNeg) 300 = true then (some ((gA D1 122 ((gA D1 126 (x1).toNatClampNeg)).toNatClampNeg), D1)) else none) else none)
      else if x2 = 1 then (if inb x1 150 = true then (some ((gA D1 127 (x1).toNatClampNeg), D1)) else none)
      else if x2 = 2 then (if inb x1 150 = true then (some ((gA D1 128 (x1).toNatClampNeg), D1)) else none)
      else if x2 = 3 then (if inb x1 150 = true then (some ((gA D1 129 (x1).toNatClampNeg), D1)) else none)
      else if x2 = 4 then (if inb x1 150 = true then (some ((gA D1 130 (x1).toNatClampNeg), D1)) else none)
      else (bnd (f_X12_fail 1 D1) fun q17 =>
      some (q17.1, q17.2)))
theorem t_X12_fact {g : mm_G} {d : Nat} {h : mm_Hp} {C D : CS} {x1 : Int32} {x2 : Int32} {r : (Int32 × CS)} (hd : 1 ≤ d) (R : Rep h C D) (H : f_X12_fact x1 x2 D = some r) : mm_P g d MX12_fact 0 [some (.ref 113), some (.int x1), some (.int x2)] [] h (dI C r) := by
  unfold f_X12_fact at H
  refine mm_aload_n dX12_fact_0 rfl ?_
  refine mm_iconst (v := 0) dX12_fact_1 (by decide +kernel) ?_
  obtain ⟨D1, e2, H⟩ := hD H
  refine rD_put (key := 11300) lk_X12_111_X12 lay_113 rfl rfl rfl rfl rfl dX12_fact_2 R e2 (fun h R => ?_)
  refine mm_aload_n dX12_fact_5 rfl ?_
  refine mm_iload_n dX12_fact_6 rfl ?_
  obtain ⟨q3, H4, H⟩ := hC H
  refine mm_callV (d' := d - 1) (as := [.int x1]) (st := []) (dS hd) cm_X12_isFact (mm_t6 233 rfl rfl) (mm_t6 235 rfl rfl) (mm_s4 1 rfl rfl) (T := TX12) (N := 54) rfl dX12_fact_7 (R.oD (r := 113) rfl lay_113) rfl (Nat.le_of_ble_eq_true rfl) (Nat.le_of_ble_eq_true rfl) rfl rfl (t_X12_isFact (dL hd (by decide)) R H4) (fun o u q => mm_thenI q ?_)
  refine mm_if_ne 19 dX12_fact_10 (by decide) (fun c5 => ?_) (fun c5 => ?_)
  · replace H := hF c5 H
    refine mm_iload_n dX12_fact_19 rfl ?_
    by_cases c6 : x2 = 0
    · replace H := hT c6 H
      refine mm_tabIn 56 dX12_fact_20 (by rw [c6]; decide) (by rw [c6]; decide) (by rw [c6]; rfl) (by decide) ?_
      refine mm_aload_n dX12_fact_56 rfl ?_
      refine rD_getR (t := 120) lk_X12_38_X12 lay_113 rfl rfl dX12_fact_57 R ?_
      refine mm_aload_n dX12_fact_60 rfl ?_
      refine rD_getR (t := 124) lk_X12_50_X12 lay_113 rfl rfl dX12_fact_61 R ?_
      refine mm_iload_n dX12_fact_64 rfl ?_
      obtain ⟨b7, H⟩ := hB H
      refine rD_iald lay_126 rfl dX12_fact_65 R b7 ?_
      obtain ⟨b8, H⟩ := hB H
      refine rD_iald lay_122 rfl dX12_fact_66 R b8 ?_
      refine mm_iret rfl rfl dX12_fact_67 ?_
      exact en_dI H R
    replace H := hF c6 H
    by_cases c9 : x2 = 1
    · replace H := hT c9 H
      refine mm_tabIn 68 dX12_fact_20 (by rw [c9]; decide) (by rw [c9]; decide) (by rw [c9]; rfl) (by decide) ?_
      refine mm_aload_n dX12_fact_68 rfl ?_
      refine rD_getR (t := 125) lk_X12_53_X12 lay_113 rfl rfl dX12_fact_69 R ?_
      refine mm_iload_n dX12_fact_72 rfl ?_
      obtain ⟨b10, H⟩ := hB H
      refine rD_iald lay_127 rfl dX12_fact_73 R b10 ?_
      refine mm_iret rfl rfl dX12_fact_74 ?_
      exact en_dI H R
    replace H := hF c9 H
    by_cases c11 : x2 = 2
    · replace H := hT c11 H
      refine mm_tabIn 75 dX12_fact_20 (by rw [c11]; decide) (by rw [c11]; decide) (by rw [c11]; rfl) (by decide) ?_
      refine mm_aload_n dX12_fact_75 rfl ?_
      refine rD_getR (t := 126) lk_X12_56_X12 lay_113 rfl rfl dX12_fact_76 R ?_
      refine mm_iload_n dX12_fact_79 rfl ?_
      obtain ⟨b12, H⟩ := hB H
      refine rD_iald lay_128 rfl dX12_fact_80 R b12 ?_
      refine mm_iret rfl rfl dX12_fact_81 ?_
      exact en_dI H R
    replace H := hF c11 H
    by_cases c13 : x2 = 3
    · replace H := hT c13 H
      refine mm_tabIn 82 dX12_fact_20 (by rw [c13]; decide) (by rw [c13]; decide) (by rw [c13]; rfl) (by decide) ?_
      refine mm_aload_n dX12_fact_82 rfl ?_
      refine rD_getR (t := 127) lk_X12_59_X12 lay_113 rfl rfl dX12_fact_83 R ?_
      refine mm_iload_n dX12_fact_86 rfl ?_
      obtain ⟨b14, H⟩ := hB H
      refine rD_iald lay_129 rfl dX12_fact_87 R b14 ?_
      refine mm_iret rfl rfl dX12_fact_88 ?_
      exact en_dI H R
    replace H := hF c13 H
    by_cases c15 : x2 = 4
    · replace H := hT c15 H
      refine mm_tabIn 89 dX12_fact_20 (by rw [c15]; decide) (by rw [c15]; decide) (by rw [c15]; rfl) (by decide) ?_
      refine mm_aload_n dX12_fact_89 rfl ?_
      refine rD_getR (t := 128) lk_X12_62_X12 lay_113 rfl rfl dX12_fact_90 R ?_
      refine mm_iload_n dX12_fact_93 rfl ?_
      obtain ⟨b16, H⟩ := hB H
      refine rD_iald lay_130 rfl dX12_fact_94 R b16 ?_
      refine mm_iret rfl rfl dX12_fact_95 ?_
      exact en_dI H R
    replace H := hF c15 H
    refine mm_tabOut 96 dX12_fact_20 (sw_out 5 (by decide) (by rw [show (List.range 5).map nI = [0, 1, 2, 3, 4] from rfl]; simp only [List.forall_mem_cons]; exact ⟨c6, c9, c11, c13, c15, fun _ z => absurd z List.not_mem_nil⟩)) (by decide) ?_
    refine mm_aload_n dX12_fact_96 rfl ?_
    refine mm_iconst (v := 1) dX12_fact_97 (by decide +kernel) ?_
    obtain ⟨q17, H18, H⟩ := hC H
    refine mm_callV (d' := d - 1) (as := [.int 1]) (st := []) (dS hd) cm_X12_fail (mm_t6 129 rfl rfl) (mm_t6 131 rfl rfl) (mm_s2 15 rfl rfl) (T := TX12) (N := 54) rfl dX12_fact_98 (R.oD (r := 113) rfl lay_113) rfl (Nat.le_of_ble_eq_true rfl) (Nat.le_of_ble_eq_true rfl) rfl rfl (t_X12_fail (dL hd (by decide)) R H18) (fun o h q => th_dI q (fun R => ?_))
    refine mm_iret rfl rfl dX12_fact_101 ?_
    exact en_dI H R
  · replace H := hT c5 H
    refine mm_aload_n dX12_fact_13 rfl ?_
    refine mm_iconst (v := 1) dX12_fact_14 (by decide +kernel) ?_
    obtain ⟨q19, H20, H⟩ := hC H
    refine mm_callV (d' := d - 1) (as := [.int 1]) (st := []) (dS hd) cm_X12_fail (mm_t6 129 rfl rfl) (mm_t6 131 rfl rfl) (mm_s2 15 rfl rfl) (T := TX12) (N := 54) rfl dX12_fact_15 (R.oD (r := 113) rfl lay_113) rfl (Nat.le_of_ble_eq_true rfl) (Nat.le_of_ble_eq_true rfl) rfl rfl (t_X12_fail (dL hd (by decide)) R H20) (fun o h q => th_dI q (fun R => ?_))
    refine mm_iret rfl rfl dX12_fact_18 ?_
    exact en_dI H R
def f_X12_isOn (x1 : Int32) (x2 : Int32) (x3 : Int32) (D : CS) : Option Int32 :=
  if inb x1 60 = true then (if x2 < (gA D 136 (x1).toNatClampNeg) then (some 0)
    else (if inb x1 60 = true then (if (gA D 137 (x1).toNatClampNeg) < x2 then (some 0)
      else (if inb x1 60 = true then (if x3 < (gA D 139 (x1).toNatClampNeg) then (some 0)
        else (if inb x1 60 = true then (if (gA D 140 (x1).toNatClampNeg) = (-1) then (some 1)
          else (if inb x1 60 = true then (if (gA D 140 (x1).toNatClampNeg) ≤ x3 then (some 0)
            else (some 1)) else none)) else none)) else none)) else none)) else none
theorem t_X12_isOn {g : mm_G} {d : Nat} {h : mm_Hp} {C D : CS} {x1 : Int32} {x2 : Int32} {x3 : Int32} {r : Int32} (hd : 0 ≤ d) (R : Rep h C D) (H : f_X12_isOn x1 x2 x3 D = some r) : mm_P g d MX12_isOn 0 [some (.ref 113), some (.int x1), some (.int x2), some (.int x3)] [] h (mm_pureI r h) := by
  unfold f_X12_isOn at H
  refine mm_aload_n dX12_isOn_0 rfl ?_
  refine rD_getR (t := 134) lk_X12_81_X12 lay_113 rfl rfl dX12_isOn_1 R ?_
  refine mm_iload_n dX12_isOn_4 rfl ?_
  obtain ⟨b1, H⟩ := hB H
  refine rD_iald lay_136 rfl dX12_isOn_5 R b1 ?_
  refine mm_iload_n dX12_isOn_6 rfl ?_
  refine mm_icmp_gt 54 dX12_isOn_7 (by decide) (fun c2 => ?_) (fun c2 => ?_)
  · replace H := hT c2 H
    refine mm_iconst (v := 0) dX12_isOn_54 (by decide +kernel) ?_
    refine mm_iret rfl rfl dX12_isOn_55 ?_
    exact en_pI H
  · replace H := hF c2 H
    refine mm_iload_n dX12_isOn_10 rfl ?_
    refine mm_aload_n dX12_isOn_11 rfl ?_
    refine rD_getR (t := 135) lk_X12_84_X12 lay_113 rfl rfl dX12_isOn_12 R ?_
    refine mm_iload_n dX12_isOn_15 rfl ?_
    obtain ⟨b3, H⟩ := hB H
    refine rD_iald lay_137 rfl dX12_isOn_16 R b3 ?_
    refine mm_icmp_gt 54 dX12_isOn_17 (by decide) (fun c4 => ?_) (fun c4 => ?_)
    · replace H := hT c4 H
      refine mm_iconst (v := 0) dX12_isOn_54 (by decide +kernel) ?_
      refine mm_iret rfl rfl dX12_isOn_55 ?_
      exact en_pI H
    · replace H := hF c4 H
      refine mm_aload_n dX12_isOn_20 rfl ?_
      refine rD_getR (t := 137) lk_X12_90_X12 lay_113 rfl rfl dX12_isOn_21 R ?_
      refine mm_iload_n dX12_isOn_24 rfl ?_
      obtain ⟨b5, H⟩ := hB H
      refine rD_iald lay_139 rfl dX12_isOn_25 R b5 ?_
      refine mm_iload_n dX12_isOn_26 rfl ?_
      refine mm_icmp_gt 54 dX12_isOn_27 (by decide) (fun c6 => ?_) (fun c6 => ?_)
      · replace H := hT c6 H
        refine mm_iconst (v := 0) dX12_isOn_54 (by decide +kernel) ?_
        refine mm_iret rfl rfl dX12_isOn_55 ?_
        exact en_pI H
      · replace H := hF c6 H
        refine mm_aload_n dX12_isOn_30 rfl ?_
        refine rD_getR (t := 138) lk_X12_93_X12 lay_113 rfl rfl dX12_isOn_31 R ?_
        refine mm_iload_n dX12_isOn_34 rfl ?_
        obtain ⟨b7, H⟩ := hB H
        refine rD_iald lay_140 rfl dX12_isOn_35 R b7 ?_
        refine mm_iconst (v := (-1)) dX12_isOn_36 (by decide +kernel) ?_
        refine mm_icmp_eq 50 dX12_isOn_37 (by decide) (fun c8 => ?_) (fun c8 => ?_)
        · replace H := hT c8 H
          refine mm_iconst (v := 1) dX12_isOn_50 (by decide +kernel) ?_
          refine mm_goto 55 dX12_isOn_51 (by decide) ?_
          refine mm_iret rfl rfl dX12_isOn_55 ?_
          exact en_pI H
        · replace H := hF c8 H
          refine mm_aload_n dX12_isOn_40 rfl ?_
          refine rD_getR (t := 138) lk_X12_93_X12 lay_113 rfl rfl dX12_isOn_41 R ?_
          refine mm_iload_n dX12_isOn_44 rfl ?_
          obtain ⟨b9, H⟩ := hB H
          refine rD_iald lay_140 rfl dX12_isOn_45 R b9 ?_
          refine mm_iload_n dX12_isOn_46 rfl ?_
          refine mm_icmp_le 54 dX12_isOn_47 (by decide) (fun c10 => ?_) (fun c10 => ?_)
          · replace H := hT c10 H
            refine mm_iconst (v := 0) dX12_isOn_54 (by decide +kernel) ?_
            refine mm_iret rfl rfl dX12_isOn_55 ?_
            exact en_pI H
          · replace H := hF c10 H
            refine mm_iconst (v := 1) dX12_isOn_50 (by decide +kernel) ?_
            refine mm_goto 55 dX12_isOn_51 (by decide) ?_
            refine mm_iret rfl rfl dX12_isOn_55 ?_
            exact en_pI H
def f_X12_isStruck_L5 (N : Nat) (x1 : Int32) (x2 : Int32) (D : CS) : Nat → Int32 → Int32 → Option (Int32)
  | 0, _, _ => none
  | n + 1, x3, x4 => if (gI D 11334) ≤ x4 then (some x3)
    else (if inb x4 60 = true then (if (gA D 138 (x4).toNatClampNeg) = 0 then (bnd (f_X12_isOn x4 x1 x2 D) fun q4 =>
      if q4 = 0 then (f_X12_isStruck_L5 N x1 x2 D n x3 (x4 + 1))
        else (f_X12_isStruck_L5 N x1 x2 D n 1 (x4 + 1)))
      else (f_X12_isStruck_L5 N x1 x2 D n x3 (x4 + 1))) else none)
theorem t_X12_isStruck_L5 {g : mm_G} {d : Nat} {Post : mm_Ou → mm_Hp → Prop} {h : mm_Hp} {C D : CS} {N : Nat} {x1 : Int32} {x2 : Int32} {res : (Int32)} (hd : 1 ≤ d) (R : Rep h C D) (KE : mm_P g d MX12_isStruck 43 [none, none, none, some (.int res), none] [] h Post) : ∀ (n : Nat) (x3 : Int32) (x4 : Int32) , f_X12_isStruck_L5 N x1 x2 D n x3 x4 = some res → mm_P g d MX12_isStruck 5 [some (.ref 113), some (.int x1), some (.int x2), some (.int x3), some (.int x4)] [] h Post := by
  intro n
  induction n with
  | zero =>
    intro x3 x4 H
    exact hN H
  | succ n ih =>
    intro x3 x4 H
    unfold f_X12_isStruck_L5 at H
    refine mm_iload dX12_isStruck_5 rfl ?_
    refine mm_aload_n dX12_isStruck_7 rfl ?_
    refine rD_get (key := 11334) lk_X12_240_X12 lay_113 rfl rfl rfl dX12_isStruck_8 R ?_
    refine mm_icmp_ge 43 dX12_isStruck_11 (by decide) (fun c1 => ?_) (fun c1 => ?_)
    · replace H := hT c1 H
      refine mm_fgt (ls' := [none, none, none, some (.int x3), none]) ⟨rfl, trivial⟩ ?_
      cases H
      exact KE
    · replace H := hF c1 H
      refine mm_aload_n dX12_isStruck_14 rfl ?_
      refine rD_getR (t := 136) lk_X12_87_X12 lay_113 rfl rfl dX12_isStruck_15 R ?_
      refine mm_iload dX12_isStruck_18 rfl ?_
      obtain ⟨b2, H⟩ := hB H
      refine rD_iald lay_138 rfl dX12_isStruck_20 R b2 ?_
      refine mm_if_ne 37 dX12_isStruck_21 (by decide) (fun c3 => ?_) (fun c3 => ?_)
      · replace H := hF c3 H
        refine mm_iinc (v := (x4 + 1)) (ls' := [some (.ref 113), some (.int x1), some (.int x2), some (.int x3), some (.int (x4 + 1))]) dX12_isStruck_37 rfl rfl rfl ?_
        refine mm_goto 5 dX12_isStruck_40 (by decide) ?_
        exact ih _ _ H
      · replace H := hT c3 H
        refine mm_aload_n dX12_isStruck_24 rfl ?_
        refine mm_iload dX12_isStruck_25 rfl ?_
        refine mm_iload_n dX12_isStruck_27 rfl ?_
        refine mm_iload_n dX12_isStruck_28 rfl ?_
        obtain ⟨q4, H5, H⟩ := hC H
        refine mm_callV (d' := d - 1) (as := [.int x4, .int x1, .int x2]) (st := []) (dS hd) cm_X12_isOn (mm_t7 13 rfl rfl) (mm_t7 15 rfl rfl) (mm_s4 5 rfl rfl) (T := TX12) (N := 54) rfl dX12_isStruck_29 (R.oD (r := 113) rfl lay_113) rfl (Nat.le_of_ble_eq_true rfl) (Nat.le_of_ble_eq_true rfl) rfl rfl (t_X12_isOn (dL hd (by decide)) R H5) (fun o u q => mm_thenI q ?_)
        refine mm_if_eq 37 dX12_isStruck_32 (by decide) (fun c6 => ?_) (fun c6 => ?_)
        · replace H := hT c6 H
          refine mm_iinc (v := (x4 + 1)) (ls' := [some (.ref 113), some (.int x1), some (.int x2), some (.int x3), some (.int (x4 + 1))]) dX12_isStruck_37 rfl rfl rfl ?_
          refine mm_goto 5 dX12_isStruck_40 (by decide) ?_
          exact ih _ _ H
        · replace H := hF c6 H
          refine mm_iconst (v := 1) dX12_isStruck_35 (by decide +kernel) ?_
          refine mm_istore_n (ls' := [some (.ref 113), some (.int x1), some (.int x2), some (.int 1), some (.int x4)]) dX12_isStruck_36 (Nat.le_of_ble_eq_true rfl) rfl ?_
          refine mm_iinc (v := (x4 + 1)) (ls' := [some (.ref 113), some (.int x1), some (.int x2), some (.int 1), some (.int (x4 + 1))]) dX12_isStruck_37 rfl rfl rfl ?_
          refine mm_goto 5 dX12_isStruck_40 (by decide) ?_
          exact ih _ _ H
