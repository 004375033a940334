def f_X12_readLine_J223 (N : Nat) (x2 : Int32) (D : CS) : Option CS :=
  if (gI D 11349) = 0 then (if inb (gI D 11308) 200 = true then (bd (sA D 116 ((gI D 11308)).toNatClampNeg x2) fun D28 =>
    if inb (gI D28 11308) 200 = true then (bd (sA D28 117 ((gI D28 11308)).toNatClampNeg (gI D28 11306)) fun D31 =>
    if x2 = 5 then (if inb (gI D31 11308) 200 = true then (bd (sA D31 118 ((gI D31 11308)).toNatClampNeg (-1)) fun D63 =>
      if inb (gI D63 11308) 200 = true then (bd (sA D63 121 ((gI D63 11308)).toNatClampNeg 0) fun D66 =>
      bd (sI D66 11308 ((gI D66 11308) + 1)) fun D68 =>
      bnd (f_X12_now0 D68) fun q70 =>
      if q70 = 10 then (bd (sI D68 11346 ((gI D68 11346) + 1)) fun D73 =>
        some D73)
        else (some D68)) else none) else none)
      else (if x2 = 4 then (if inb ((gI D31 11308) - 1) 200 = true then (if inb (gI D31 11308) 200 = true then (bd (sA D31 118 ((gI D31 11308)).toNatClampNeg (gA D31 118 (((gI D31 11308) - 1)).toNatClampNeg)) fun D50 =>
        if inb (gI D50 11308) 200 = true then (bd (sA D50 121 ((gI D50 11308)).toNatClampNeg 0) fun D53 =>
        bd (sI D53 11308 ((gI D53 11308) + 1)) fun D55 =>
        bnd (f_X12_now0 D55) fun q57 =>
        if q57 = 10 then (bd (sI D55 11346 ((gI D55 11346) + 1)) fun D60 =>
          some D60)
          else (some D55)) else none) else none) else none)
        else (if inb (gI D31 11308) 200 = true then (bd (sA D31 118 ((gI D31 11308)).toNatClampNeg (gI D31 11308)) fun D36 =>
        if inb (gI D36 11308) 200 = true then (bd (sA D36 121 ((gI D36 11308)).toNatClampNeg 0) fun D39 =>
        bd (sI D39 11308 ((gI D39 11308) + 1)) fun D41 =>
        bnd (f_X12_now0 D41) fun q43 =>
        if q43 = 10 then (bd (sI D41 11346 ((gI D41 11346) + 1)) fun D46 =>
          some D46)
          else (some D41)) else none) else none))) else none) else none)
    else (some D)
theorem t_X12_readLine_J223 {g : mm_G} {d : Nat} {h : mm_Hp} {C D : CS} {N : Nat} {x2 : Int32} {r : CS} (hd : 5 ≤ d) (R : Rep h C D) (H : f_X12_readLine_J223 N x2 D = some r) : mm_P g d MX12_readLine 223 [some (.ref 113), none, some (.int x2), none] [] h (dV C r) := by
  unfold f_X12_readLine_J223 at H
  refine mm_aload_n dX12_readLine_223 rfl ?_
  refine rD_get (key := 11349) lk_X12_139_X12 lay_113 rfl rfl rfl dX12_readLine_224 R ?_
  refine mm_if_eq 231 dX12_readLine_227 (by decide) (fun c26 => ?_) (fun c26 => ?_)
  · replace H := hT c26 H
    refine mm_aload_n dX12_readLine_231 rfl ?_
    refine rD_getR (t := 114) lk_X12_20_X12 lay_113 rfl rfl dX12_readLine_232 R ?_
    refine mm_aload_n dX12_readLine_235 rfl ?_
    refine rD_get (key := 11308) lk_X12_114_X12 lay_113 rfl rfl rfl dX12_readLine_236 R ?_
    refine mm_iload_n dX12_readLine_239 rfl ?_
    obtain ⟨b27, H⟩ := hB H
    obtain ⟨D28, e29, H⟩ := hD H
    refine rD_iast lay_116 rfl dX12_readLine_240 R b27 e29 (fun h R => ?_)
    refine mm_aload_n dX12_readLine_241 rfl ?_
    refine rD_getR (t := 115) lk_X12_23_X12 lay_113 rfl rfl dX12_readLine_242 R ?_
    refine mm_aload_n dX12_readLine_245 rfl ?_
    refine rD_get (key := 11308) lk_X12_114_X12 lay_113 rfl rfl rfl dX12_readLine_246 R ?_
    refine mm_aload_n dX12_readLine_249 rfl ?_
    refine rD_get (key := 11306) lk_X12_210_X12 lay_113 rfl rfl rfl dX12_readLine_250 R ?_
    obtain ⟨b30, H⟩ := hB H
    obtain ⟨D31, e32, H⟩ := hD H
    refine rD_iast lay_117 rfl dX12_readLine_253 R b30 e32 (fun h R => ?_)
    refine mm_aload_n dX12_readLine_254 rfl ?_
    refine rD_getR (t := 116) lk_X12_26_X12 lay_113 rfl rfl dX12_readLine_255 R ?_
    refine mm_aload_n dX12_readLine_258 rfl ?_
    refine rD_get (key := 11308) lk_X12_114_X12 lay_113 rfl rfl rfl dX12_readLine_259 R ?_
    refine mm_iload_n dX12_readLine_262 rfl ?_
    refine mm_iconst (v := 5) dX12_readLine_263 (by decide +kernel) ?_
    refine mm_icmp_ne 271 dX12_readLine_264 (by decide) (fun c33 => ?_) (fun c33 => ?_)
    · replace H := hF c33 H
      refine mm_iload_n dX12_readLine_271 rfl ?_
      refine mm_iconst (v := 4) dX12_readLine_272 (by decide +kernel) ?_
      refine mm_icmp_ne 290 dX12_readLine_273 (by decide) (fun c34 => ?_) (fun c34 => ?_)
      · replace H := hF c34 H
        refine mm_aload_n dX12_readLine_290 rfl ?_
        refine rD_get (key := 11308) lk_X12_114_X12 lay_113 rfl rfl rfl dX12_readLine_291 R ?_
        obtain ⟨b35, H⟩ := hB H
        obtain ⟨D36, e37, H⟩ := hD H
        refine rD_iast lay_118 rfl dX12_readLine_294 R b35 e37 (fun h R => ?_)
        refine mm_aload_n dX12_readLine_295 rfl ?_
        refine rD_getR (t := 119) lk_X12_35_X12 lay_113 rfl rfl dX12_readLine_296 R ?_
        refine mm_aload_n dX12_readLine_299 rfl ?_
        refine rD_get (key := 11308) lk_X12_114_X12 lay_113 rfl rfl rfl dX12_readLine_300 R ?_
        refine mm_iconst (v := 0) dX12_readLine_303 (by decide +kernel) ?_
        obtain ⟨b38, H⟩ := hB H
        obtain ⟨D39, e40, H⟩ := hD H
        refine rD_iast lay_121 rfl dX12_readLine_304 R b38 e40 (fun h R => ?_)
        refine mm_aload_n dX12_readLine_305 rfl ?_
        refine mm_dup rfl dX12_readLine_306 ?_
        refine rD_get (key := 11308) lk_X12_114_X12 lay_113 rfl rfl rfl dX12_readLine_307 R ?_
        refine mm_iconst (v := 1) dX12_readLine_310 (by decide +kernel) ?_
        refine mm_iadd dX12_readLine_311 ?_
        obtain ⟨D41, e42, H⟩ := hD H
        refine rD_put (key := 11308) lk_X12_114_X12 lay_113 rfl rfl rfl rfl rfl dX12_readLine_312 R e42 (fun h R => ?_)
        refine mm_aload_n dX12_readLine_315 rfl ?_
        obtain ⟨q43, H44, H⟩ := hC H
        refine mm_callV (d' := d - 1) (as := []) (st := []) (dS hd) cm_X12_now0 (mm_t6 137 rfl rfl) (mm_t6 139 rfl rfl) (mm_s3 1 rfl rfl) (T := TX12) (N := 54) rfl dX12_readLine_316 (R.oD (r := 113) rfl lay_113) rfl (Nat.le_of_ble_eq_true rfl) (Nat.le_of_ble_eq_true rfl) rfl rfl (t_X12_now0 (dL hd (by decide)) R H44) (fun o u q => mm_thenI q ?_)
        refine mm_bipush (v := 10) dX12_readLine_319 (by decide +kernel) ?_
        refine mm_icmp_ne 334 dX12_readLine_321 (by decide) (fun c45 => ?_) (fun c45 => ?_)
        · replace H := hF c45 H
          refine mm_vret rfl dX12_readLine_334 ?_
          exact en_dV H R
        · replace H := hT c45 H
          refine mm_aload_n dX12_readLine_324 rfl ?_
          refine mm_dup rfl dX12_readLine_325 ?_
          refine rD_get (key := 11346) lk_X12_133_X12 lay_113 rfl rfl rfl dX12_readLine_326 R ?_
          refine mm_iconst (v := 1) dX12_readLine_329 (by decide +kernel) ?_
          refine mm_iadd dX12_readLine_330 ?_
          obtain ⟨D46, e47, H⟩ := hD H
          refine rD_put (key := 11346) lk_X12_133_X12 lay_113 rfl rfl rfl rfl rfl dX12_readLine_331 R e47 (fun h R => ?_)
          refine mm_vret rfl dX12_readLine_334 ?_
          exact en_dV H R
      · replace H := hT c34 H
        refine mm_aload_n dX12_readLine_276 rfl ?_
        refine rD_getR (t := 116) lk_X12_26_X12 lay_113 rfl rfl dX12_readLine_277 R ?_
        refine mm_aload_n dX12_readLine_280 rfl ?_
        refine rD_get (key := 11308) lk_X12_114_X12 lay_113 rfl rfl rfl dX12_readLine_281 R ?_
        refine mm_iconst (v := 1) dX12_readLine_284 (by decide +kernel) ?_
        refine mm_isub dX12_readLine_285 ?_
        obtain ⟨b48, H⟩ := hB H
        refine rD_iald lay_118 rfl dX12_readLine_286 R b48 ?_
        refine mm_goto 294 dX12_readLine_287 (by decide) ?_
        obtain ⟨b49, H⟩ := hB H
        obtain ⟨D50, e51, H⟩ := hD H
        refine rD_iast lay_118 rfl dX12_readLine_294 R b49 e51 (fun h R => ?_)
        refine mm_aload_n dX12_readLine_295 rfl ?_
        refine rD_getR (t := 119) lk_X12_35_X12 lay_113 rfl rfl dX12_readLine_296 R ?_
        refine mm_aload_n dX12_readLine_299 rfl ?_
        refine rD_get (key := 11308) lk_X12_114_X12 lay_113 rfl rfl rfl dX12_readLine_300 R ?_
        refine mm_iconst (v := 0) dX12_readLine_303 (by decide +kernel) ?_
        obtain ⟨b52, H⟩ := hB H
        obtain ⟨D53, e54, H⟩ := hD H
        refine rD_iast lay_121 rfl dX12_readLine_304 R b52 e54 (fun h R => ?_)
        refine mm_aload_n dX12_readLine_305 rfl ?_
        refine mm_dup rfl dX12_readLine_306 ?_
        refine rD_get (key := 11308) lk_X12_114_X12 lay_113 rfl rfl rfl dX12_readLine_307 R ?_
        refine mm_iconst (v := 1) dX12_readLine_310 (by decide +kernel) ?_
        refine mm_iadd dX12_readLine_311 ?_
        obtain ⟨D55, e56, H⟩ := hD H
        refine rD_put (key := 11308) lk_X12_114_X12 lay_113 rfl rfl rfl rfl rfl dX12_readLine_312 R e56 (fun h R => ?_)
        refine mm_aload_n dX12_readLine_315 rfl ?_
        obtain ⟨q57, H58, H⟩ := hC H
        refine mm_callV (d' := d - 1) (as := []) (st := []) (dS hd) cm_X12_now0 (mm_t6 137 rfl rfl) (mm_t6 139 rfl rfl) (mm_s3 1 rfl rfl) (T := TX12) (N := 54) rfl dX12_readLine_316 (R.oD (r := 113) rfl lay_113) rfl (Nat.le_of_ble_eq_true rfl) (Nat.le_of_ble_eq_true rfl) rfl rfl (t_X12_now0 (dL hd (by decide)) R H58) (fun o u q => mm_thenI q ?_)
        refine mm_bipush (v := 10) dX12_readLine_319 (by decide +kernel) ?_
        refine mm_icmp_ne 334 dX12_readLine_321 (by decide) (fun c59 => ?_) (fun c59 => ?_)
        · replace H := hF c59 H
          refine mm_vret rfl dX12_readLine_334 ?_
          exact en_dV H R
        · replace H := hT c59 H
          refine mm_aload_n dX12_readLine_324 rfl ?_
          refine mm_dup rfl dX12_readLine_325 ?_
          refine rD_get (key := 11346) lk_X12_133_X12 lay_113 rfl rfl rfl dX12_readLine_326 R ?_
          refine mm_iconst (v := 1) dX12_readLine_329 (by decide +kernel) ?_
          refine mm_iadd dX12_readLine_330 ?_
          obtain ⟨D60, e61, H⟩ := hD H
          refine rD_put (key := 11346) lk_X12_133_X12 lay_113 rfl rfl rfl rfl rfl dX12_readLine_331 R e61 (fun h R => ?_)
          refine mm_vret rfl dX12_readLine_334 ?_
          exact en_dV H R
    · replace H := hT c33 H
      refine mm_iconst (v := (-1)) dX12_readLine_267 (by decide +kernel) ?_
      refine mm_goto 294 dX12_readLine_268 (by decide) ?_
      obtain ⟨b62, H⟩ := hB H
      obtain ⟨D63, e64, H⟩ := hD H
      refine rD_iast lay_118 rfl dX12_readLine_294 R b62 e64 (fun h R => ?_)
      refine mm_aload_n dX12_readLine_295 rfl ?_
      refine rD_getR (t := 119) lk_X12_35_X12 lay_113 rfl rfl dX12_readLine_296 R ?_
      refine mm_aload_n dX12_readLine_299 rfl ?_
      refine rD_get (key := 11308) lk_X12_114_X12 lay_113 rfl rfl rfl dX12_readLine_300 R ?_
      refine mm_iconst (v := 0) dX12_readLine_303 (by decide +kernel) ?_
      obtain ⟨b65, H⟩ := hB H
      obtain ⟨D66, e67, H⟩ := hD H
      refine rD_iast lay_121 rfl dX12_readLine_304 R b65 e67 (fun h R => ?_)
      refine mm_aload_n dX12_readLine_305 rfl ?_
      refine mm_dup rfl dX12_readLine_306 ?_
      refine rD_get (key := 11308) lk_X12_114_X12 lay_113 rfl rfl rfl dX12_readLine_307 R ?_
      refine mm_iconst (v := 1) dX12_readLine_310 (by decide +kernel) ?_
      refine mm_iadd dX12_readLine_311 ?_
      obtain ⟨D68, e69, H⟩ := hD H
      refine rD_put (key := 11308) lk_X12_114_X12 lay_113 rfl rfl rfl rfl rfl dX12_readLine_312 R e69 (fun h R => ?_)
      refine mm_aload_n dX12_readLine_315 rfl ?_
      obtain ⟨q70, H71, H⟩ := hC H
      refine mm_callV (d' := d - 1) (as := []) (st := []) (dS hd) cm_X12_now0 (mm_t6 137 rfl rfl) (mm_t6 139 rfl rfl) (mm_s3 1 rfl rfl) (T := TX12) (N := 54) rfl dX12_readLine_316 (R.oD (r := 113) rfl lay_113) rfl (Nat.le_of_ble_eq_true rfl) (Nat.le_of_ble_eq_true rfl) rfl rfl (t_X12_now0 (dL hd (by decide)) R H71) (fun o u q => mm_thenI q ?_)
      refine mm_bipush (v := 10) dX12_readLine_319 (by decide +kernel) ?_
      refine mm_icmp_ne 334 dX12_readLine_321 (by decide) (fun c72 => ?_) (fun c72 => ?_)
      · replace H := hF c72 H
        refine mm_vret rfl dX12_readLine_334 ?_
        exact en_dV H R
      · replace H := hT c72 H
        refine mm_aload_n dX12_readLine_324 rfl ?_
        refine mm_dup rfl dX12_readLine_325 ?_
        refine rD_get (key := 11346) lk_X12_133_X12 lay_113 rfl rfl rfl dX12_readLine_326 R ?_
        refine mm_iconst (v := 1) dX12_readLine_329 (by decide +kernel) ?_
        refine mm_iadd dX12_readLine_330 ?_
        obtain ⟨D73, e74, H⟩ := hD H
        refine rD_put (key := 11346) lk_X12_133_X12 lay_113 rfl rfl rfl rfl rfl dX12_readLine_331 R e74 (fun h R => ?_)
        refine mm_vret rfl dX12_readLine_334 ?_
        exact en_dV H R
  · replace H := hF c26 H
    refine mm_vret rfl dX12_readLine_230 ?_
    exact en_dV H R
def f_X12_readLine_J175 (N : Nat) (x2 : Int32) (D : CS) : Option CS :=
  if (gI D 11349) = 0 then (bd (sI D 11346 ((gI D 11346) + 1)) fun D19 =>
    bd (sI D19 11352 (gI D19 11308)) fun D21 =>
    if x2 = 5 then (bnd (f_X12_readExhibit N D21) fun q75 =>
      f_X12_readLine_J223 N x2 q75)
      else (bnd (f_X12_readRest N 60 (gI D21 11348) D21) fun q24 =>
      f_X12_readLine_J223 N x2 q24))
    else (some D)
theorem t_X12_readLine_J175 {g : mm_G} {d : Nat} {h : mm_Hp} {C D : CS} {N : Nat} {x2 : Int32} {r : CS} (hd : 5 ≤ d) (R : Rep h C D) (H : f_X12_readLine_J175 N x2 D = some r) : mm_P g d MX12_readLine 175 [some (.ref 113), none, some (.int x2), none] [] h (dV C r) := by
  unfold f_X12_readLine_J175 at H
  refine mm_aload_n dX12_readLine_175 rfl ?_
  refine rD_get (key := 11349) lk_X12_139_X12 lay_113 rfl rfl rfl dX12_readLine_176 R ?_
  refine mm_if_eq 183 dX12_readLine_179 (by decide) (fun c18 => ?_) (fun c18 => ?_)
  · replace H := hT c18 H
    refine mm_aload_n dX12_readLine_183 rfl ?_
    refine mm_dup rfl dX12_readLine_184 ?_
    refine rD_get (key := 11346) lk_X12_133_X12 lay_113 rfl rfl rfl dX12_readLine_185 R ?_
    refine mm_iconst (v := 1) dX12_readLine_188 (by decide +kernel) ?_
    refine mm_iadd dX12_readLine_189 ?_
    obtain ⟨D19, e20, H⟩ := hD H
    refine rD_put (key := 11346) lk_X12_133_X12 lay_113 rfl rfl rfl rfl rfl dX12_readLine_190 R e20 (fun h R => ?_)
    refine mm_aload_n dX12_readLine_193 rfl ?_
    refine mm_aload_n dX12_readLine_194 rfl ?_
    refine rD_get (key := 11308) lk_X12_114_X12 lay_113 rfl rfl rfl dX12_readLine_195 R ?_
    obtain ⟨D21, e22, H⟩ := hD H
    refine rD_put (key := 11352) lk_X12_194_X12 lay_113 rfl rfl rfl rfl rfl dX12_readLine_198 R e22 (fun h R => ?_)
    refine mm_iload_n dX12_readLine_201 rfl ?_
    refine mm_iconst (v := 5) dX12_readLine_202 (by decide +kernel) ?_
    refine mm_icmp_ne 213 dX12_readLine_203 (by decide) (fun c23 => ?_) (fun c23 => ?_)
    · replace H := hF c23 H
      refine mm_aload_n dX12_readLine_213 rfl ?_
      refine mm_bipush (v := 60) dX12_readLine_214 (by decide +kernel) ?_
      refine mm_aload_n dX12_readLine_216 rfl ?_
      refine rD_get (key := 11348) lk_X12_145_X12 lay_113 rfl rfl rfl dX12_readLine_217 R ?_
      obtain ⟨q24, H25, H⟩ := hC H
      refine mm_callV (d' := d - 1) (as := [.int 60, .int (gI D21 11348)]) (st := []) (dS hd) cm_X12_readRest (mm_t6 175 rfl rfl) (mm_t6 177 rfl rfl) (mm_s3 9 rfl rfl) (T := TX12) (N := 54) rfl dX12_readLine_220 (R.oD (r := 113) rfl lay_113) rfl (Nat.le_of_ble_eq_true rfl) (Nat.le_of_ble_eq_true rfl) rfl rfl (t_X12_readRest (dL hd (by decide)) R H25) (fun o h q => th_dV q (fun R => ?_))
      exact t_X12_readLine_J223 hd R H
    · replace H := hT c23 H
      refine mm_aload_n dX12_readLine_206 rfl ?_
      obtain ⟨q75, H76, H⟩ := hC H
      refine mm_callV (d' := d - 1) (as := []) (st := []) (dS hd) cm_X12_readExhibit (mm_t6 148 rfl rfl) (mm_t6 150 rfl rfl) (mm_s3 3 rfl rfl) (T := TX12) (N := 54) rfl dX12_readLine_207 (R.oD (r := 113) rfl lay_113) rfl (Nat.le_of_ble_eq_true rfl) (Nat.le_of_ble_eq_true rfl) rfl rfl (t_X12_readExhibit (dL hd (by decide)) R H76) (fun o h q => th_dV q (fun R => ?_))
      refine mm_goto 223 dX12_readLine_210 (by decide) ?_
      exact t_X12_readLine_J223 hd R H
  · replace H := hF c18 H
    refine mm_vret rfl dX12_readLine_182 ?_
    exact en_dV H R
def f_X12_readLine_J139 (N : Nat) (x2 : Int32) (D : CS) : Option CS :=
  if (gI D 11349) = 0 then (bd (sI D 11346 ((gI D 11346) + 1)) fun D13 =>
    bnd (f_X12_now0 D13) fun q15 =>
    if q15 = 32 then (f_X12_readLine_J175 N x2 D13)
      else (bnd (f_X12_wrong 1 (gI D13 11346) D13) fun q77 =>
      f_X12_readLine_J175 N x2 q77))
    else (some D)
theorem t_X12_readLine_J139 {g : mm_G} {d : Nat} {h : mm_Hp} {C D : CS} {N : Nat} {x2 : Int32} {r : CS} (hd : 5 ≤ d) (R : Rep h C D) (H : f_X12_readLine_J139 N x2 D = some r) : mm_P g d MX12_readLine 139 [some (.ref 113), none, some (.int x2), none] [] h (dV C r) := by
  unfold f_X12_readLine_J139 at H
  refine mm_aload_n dX12_readLine_139 rfl ?_
  refine rD_get (key := 11349) lk_X12_139_X12 lay_113 rfl rfl rfl dX12_readLine_140 R ?_
  refine mm_if_eq 147 dX12_readLine_143 (by decide) (fun c12 => ?_) (fun c12 => ?_)
  · replace H := hT c12 H
    refine mm_aload_n dX12_readLine_147 rfl ?_
    refine mm_dup rfl dX12_readLine_148 ?_
    refine rD_get (key := 11346) lk_X12_133_X12 lay_113 rfl rfl rfl dX12_readLine_149 R ?_
    refine mm_iconst (v := 1) dX12_readLine_152 (by decide +kernel) ?_
    refine mm_iadd dX12_readLine_153 ?_
    obtain ⟨D13, e14, H⟩ := hD H
    refine rD_put (key := 11346) lk_X12_133_X12 lay_113 rfl rfl rfl rfl rfl dX12_readLine_154 R e14 (fun h R => ?_)
    refine mm_aload_n dX12_readLine_157 rfl ?_
    obtain ⟨q15, H16, H⟩ := hC H
    refine mm_callV (d' := d - 1) (as := []) (st := []) (dS hd) cm_X12_now0 (mm_t6 137 rfl rfl) (mm_t6 139 rfl rfl) (mm_s3 1 rfl rfl) (T := TX12) (N := 54) rfl dX12_readLine_158 (R.oD (r := 113) rfl lay_113) rfl (Nat.le_of_ble_eq_true rfl) (Nat.le_of_ble_eq_true rfl) rfl rfl (t_X12_now0 (dL hd (by decide)) R H16) (fun o u q => mm_thenI q ?_)
    refine mm_bipush (v := 32) dX12_readLine_161 (by decide +kernel) ?_
    refine mm_icmp_eq 175 dX12_readLine_163 (by decide) (fun c17 => ?_) (fun c17 => ?_)
    · replace H := hT c17 H
      exact t_X12_readLine_J175 hd R H
    · replace H := hF c17 H
      refine mm_aload_n dX12_readLine_166 rfl ?_
      refine mm_iconst (v := 1) dX12_readLine_167 (by decide +kernel) ?_
      refine mm_aload_n dX12_readLine_168 rfl ?_
      refine rD_get (key := 11346) lk_X12_133_X12 lay_113 rfl rfl rfl dX12_readLine_169 R ?_
      obtain ⟨q77, H78, H⟩ := hC H
      refine mm_callV (d' := d - 1) (as := [.int 1, .int (gI D13 11346)]) (st := []) (dS hd) cm_X12_wrong (mm_t6 144 rfl rfl) (mm_t6 146 rfl rfl) (mm_s3 2 rfl rfl) (T := TX12) (N := 54) rfl dX12_readLine_172 (R.oD (r := 113) rfl lay_113) rfl (Nat.le_of_ble_eq_true rfl) (Nat.le_of_ble_eq_true rfl) rfl rfl (t_X12_wrong (dL hd (by decide)) R H78) (fun o h q => th_dV q (fun R => ?_))
      exact t_X12_readLine_J175 hd R H
  · replace H := hF c12 H
    refine mm_vret rfl dX12_readLine_146 ?_
    exact en_dV H R
def f_X12_readLine_J120 (N : Nat) (x2 : Int32) (D : CS) : Option CS :=
  if (gI D 11308) = 200 then (bnd (f_X12_wrong 5 (gI D 11346) D) fun q79 =>
    f_X12_readLine_J139 N x2 q79)
    else (f_X12_readLine_J139 N x2 D)
theorem t_X12_readLine_J120 {g : mm_G} {d : Nat} {h : mm_Hp} {C D : CS} {N : Nat} {x2 : Int32} {r : CS} (hd : 5 ≤ d) (R : Rep h C D) (H : f_X12_readLine_J120 N x2 D = some r) : mm_P g d MX12_readLine 120 [some (.ref 113), none, some (.int x2), none] [] h (dV C r) := by
  unfold f_X12_readLine_J120 at H
  refine mm_aload_n dX12_readLine_120 rfl ?_
  refine rD_get (key := 11308) lk_X12_114_X12 lay_113 rfl rfl rfl dX12_readLine_121 R ?_
  refine mm_sipush (v := 200) dX12_readLine_124 (by decide +kernel) ?_
  refine mm_icmp_ne 139 dX12_readLine_127 (by decide) (fun c11 => ?_) (fun c11 => ?_)
  · replace H := hF c11 H
    exact t_X12_readLine_J139 hd R H
  · replace H := hT c11 H
    refine mm_aload_n dX12_readLine_130 rfl ?_
    refine mm_iconst (v := 5) dX12_readLine_131 (by decide +kernel) ?_
    refine mm_aload_n dX12_readLine_132 rfl ?_
    refine rD_get (key := 11346) lk_X12_133_X12 lay_113 rfl rfl rfl dX12_readLine_133 R ?_
    obtain ⟨q79, H80, H⟩ := hC H
    refine mm_callV (d' := d - 1) (as := [.int 5, .int (gI D 11346)]) (st := []) (dS hd) cm_X12_wrong (mm_t6 144 rfl rfl) (mm_t6 146 rfl rfl) (mm_s3 2 rfl rfl) (T := TX12) (N := 54) rfl dX12_readLine_136 (R.oD (r := 113) rfl lay_113) rfl (Nat.le_of_ble_eq_true rfl) (Nat.le_of_ble_eq_true rfl) rfl rfl (t_X12_wrong (dL hd (by decide)) R H80) (fun o h q => th_dV q (fun R => ?_))
    exact t_X12_readLine_J139 hd R H
def f_X12_readLine_J62 (N : Nat) (x1 : Int32) (x2 : Int32) (D : CS) : Option CS :=
  if x2 = (-1) then (bnd (f_X12_wrong 1 (gI D 11346) D) fun q81 =>
    f_X12_readLine_J139 N x2 q81)
    else (f_X12_readLine_J120 N x2 D)
theorem t_X12_readLine_J62 {g : mm_G} {d : Nat} {h : mm_Hp} {C D : CS} {N : Nat} {x1 : Int32} {x2 : Int32} {r : CS} (hd : 5 ≤ d) (R : Rep h C D) (H : f_X12_readLine_J62 N x1 x2 D = some r) : mm_P g d MX12_readLine 62 [some (.ref 113), some (.int x1), some (.int x2), none] [] h (dV C r) := by
  unfold f_X12_readLine_J62 at H
  refine mm_iconst (v := 0) dX12_readLine_62 (by decide +kernel) ?_
  refine mm_istore_n (ls' := [some (.ref 113), some (.int x1), some (.int x2), some (.int 0)]) dX12_readLine_63 (Nat.le_of_ble_eq_true rfl) rfl ?_
  refine mm_iload_n dX12_readLine_64 rfl ?_
  refine mm_iconst (v := (-1)) dX12_readLine_65 (by decide +kernel) ?_
  refine mm_icmp_ne 81 dX12_readLine_66 (by decide) (fun c10 => ?_) (fun c10 => ?_)
  · replace H := hF c10 H
    refine mm_iload_n dX12_readLine_81 rfl ?_
    refine mm_if_eq 120 dX12_readLine_82 (by decide) (fun _ => ?_) (fun c => absurd (by decide) c)
    refine mm_fgt (ls' := [some (.ref 113), none, some (.int x2), none]) ⟨rfl, rfl, trivial⟩ ?_
    exact t_X12_readLine_J120 hd R H
  · replace H := hT c10 H
    refine mm_aload_n dX12_readLine_69 rfl ?_
    refine mm_iconst (v := 1) dX12_readLine_70 (by decide +kernel) ?_
    refine mm_aload_n dX12_readLine_71 rfl ?_
    refine rD_get (key := 11346) lk_X12_133_X12 lay_113 rfl rfl rfl dX12_readLine_72 R ?_
    obtain ⟨q81, H82, H⟩ := hC H
    refine mm_callV (d' := d - 1) (as := [.int 1, .int (gI D 11346)]) (st := []) (dS hd) cm_X12_wrong (mm_t6 144 rfl rfl) (mm_t6 146 rfl rfl) (mm_s3 2 rfl rfl) (T := TX12) (N := 54) rfl dX12_readLine_75 (R.oD (r := 113) rfl lay_113) rfl (Nat.le_of_ble_eq_true rfl) (Nat.le_of_ble_eq_true rfl) rfl rfl (t_X12_wrong (dL hd (by decide)) R H82) (fun o h q => th_dV q (fun R => ?_))
    refine mm_goto 139 dX12_readLine_78 (by decide) ?_
    refine mm_fgt (ls' := [some (.ref 113), none, some (.int x2), none]) ⟨rfl, rfl, trivial⟩ ?_
    exact t_X12_readLine_J139 hd R H
def f_X12_readLine_J108 (N : Nat) (x2 : Int32) (D : CS) : Option CS :=
  bnd (f_X12_wrong 3 (gI D 11346) D) fun q88 =>
  f_X12_readLine_J139 N x2 q88
theorem t_X12_readLine_J108 {g : mm_G} {d : Nat} {h : mm_Hp} {C D : CS} {N : Nat} {x2 : Int32} {r : CS} (hd : 5 ≤ d) (R : Rep h C D) (H : f_X12_readLine_J108 N x2 D = some r) : mm_P g d MX12_readLine 108 [some (.ref 113), none, some (.int x2), none] [] h (dV C r) := by
  unfold f_X12_readLine_J108 at H
  refine mm_aload_n dX12_readLine_108 rfl ?_
  refine mm_iconst (v := 3) dX12_readLine_109 (by decide +kernel) ?_
  refine mm_aload_n dX12_readLine_110 rfl ?_
  refine rD_get (key := 11346) lk_X12_133_X12 lay_113 rfl rfl rfl dX12_readLine_111 R ?_
  obtain ⟨q88, H89, H⟩ := hC H
  refine mm_callV (d' := d - 1) (as := [.int 3, .int (gI D 11346)]) (st := []) (dS hd) cm_X12_wrong (mm_t6 144 rfl rfl) (mm_t6 146 rfl rfl) (mm_s3 2 rfl rfl) (T := TX12) (N := 54) rfl dX12_readLine_114 (R.oD (r := 113) rfl lay_113) rfl (Nat.le_of_ble_eq_true rfl) (Nat.le_of_ble_eq_true rfl) rfl rfl (t_X12_wrong (dL hd (by decide)) R H89) (fun o h q => th_dV q (fun R => ?_))
  refine mm_goto 139 dX12_readLine_117 (by decide) ?_
  exact t_X12_readLine_J139 hd R H
def f_X12_readLine (N : Nat) (x1 : Int32) (D : CS) : Option CS :=
  bd (sI D 11348 (gI D 11346)) fun D1 =>
  bd (sI D1 11351 (gI D1 11308)) fun D3 =>
  bnd (f_X12_now0 D3) fun q5 =>
  bnd (f_X12_kindOf q5 D3) fun q7 =>
  if q7 = 4 then (if (gI D3 11347) ≤ ((gI D3 11346) + 1) then (f_X12_readLine_J62 N x1 q7 D3)
      else (if inb ((gI D3 11346) + 1) 3000 = true then (if (gA D3 114 (((gI D3 11346) + 1)).toNatClampNeg) = 32 then (if q7 = (-1) then (bnd (f_X12_wrong 1 (gI D3 11346) D3) fun q92 =>
          f_X12_readLine_J139 N q7 q92)
          else (if (gI D3 11308) = x1 then (f_X12_readLine_J108 N q7 D3)
            else (if inb ((gI D3 11308) - 1) 200 = true then (if (gA D3 116 (((gI D3 11308) - 1)).toNatClampNeg) = 5 then (f_X12_readLine_J108 N q7 D3)
              else (f_X12_readLine_J120 N q7 D3)) else none)))
        else (f_X12_readLine_J62 N x1 q7 D3)) else none))
    else (f_X12_readLine_J62 N x1 q7 D3)
theorem t_X12_readLine {g : mm_G} {d : Nat} {h : mm_Hp} {C D : CS} {N : Nat} {x1 : Int32} {r : CS} (hd : 5 ≤ d) (R : Rep h C D) (H : f_X12_readLine N x1 D = some r) : mm_P g d MX12_readLine 0 [some (.ref 113), some (.int x1), none, none] [] h (dV C r) := by
  unfold f_X12_readLine at H
  refine mm_aload_n dX12_readLine_0 rfl ?_
  refine mm_aload_n dX12_readLine_1 rfl ?_
  refine rD_get (key := 11346) lk_X12_133_X12 lay_113 rfl rfl rfl dX12_readLine_2 R ?_
  obtain ⟨D1, e2, H⟩ := hD H
  refine rD_put (key := 11348) lk_X12_145_X12 lay_113 rfl rfl rfl rfl rfl dX12_readLine_5 R e2 (fun h R => ?_)
  refine mm_aload_n dX12_readLine_8 rfl ?_
  refine mm_aload_n dX12_readLine_9 rfl ?_
  refine rD_get (key := 11308) lk_X12_114_X12 lay_113 rfl rfl rfl dX12_readLine_10 R ?_
  obtain ⟨D3, e4, H⟩ := hD H
  refine rD_put (key := 11351) lk_X12_130_X12 lay_113 rfl rfl rfl rfl rfl dX12_readLine_13 R e4 (fun h R => ?_)
  refine mm_aload_n dX12_readLine_16 rfl ?_
  obtain ⟨q5, H6, H⟩ := hC H
  refine mm_callV (d' := d - 1) (as := []) (st := []) (dS hd) cm_X12_now0 (mm_t6 137 rfl rfl) (mm_t6 139 rfl rfl) (mm_s3 1 rfl rfl) (T := TX12) (N := 54) rfl dX12_readLine_17 (R.oD (r := 113) rfl lay_113) rfl (Nat.le_of_ble_eq_true rfl) (Nat.le_of_ble_eq_true rfl) rfl rfl (t_X12_now0 (dL hd (by decide)) R H6) (fun o u q => mm_thenI q ?_)
  obtain ⟨q7, H8, H⟩ := hC H
  refine mm_callS (d' := d - 1) (as := [.int q5]) (st := []) (dS hd) cm_X12_kindOf (mm_t6 141 rfl rfl) (mm_t6 142 rfl rfl) dX12_readLine_20 rfl (Nat.le_of_ble_eq_true rfl) (Nat.le_of_ble_eq_true rfl) rfl rfl (t_X12_kindOf (dL hd (by decide)) R H8) (fun o u q => mm_thenI q ?_)
  refine mm_istore_n (ls' := [some (.ref 113), some (.int x1), some (.int q7), none]) dX12_readLine_23 (Nat.le_of_ble_eq_true rfl) rfl ?_
  refine mm_iload_n dX12_readLine_24 rfl ?_
  refine mm_iconst (v := 4) dX12_readLine_25 (by decide +kernel) ?_
  refine mm_icmp_ne 62 dX12_readLine_26 (by decide) (fun c9 => ?_) (fun c9 => ?_)
  · replace H := hF c9 H
    exact t_X12_readLine_J62 hd R H
  · replace H := hT c9 H
    refine mm_aload_n dX12_readLine_29 rfl ?_
    refine rD_get (key := 11346) lk_X12_133_X12 lay_113 rfl rfl rfl dX12_readLine_30 R ?_
    refine mm_iconst (v := 1) dX12_readLine_33 (by decide +kernel) ?_
    refine mm_iadd dX12_readLine_34 ?_
    refine mm_aload_n dX12_readLine_35 rfl ?_
    refine rD_get (key := 11347) lk_X12_136_X12 lay_113 rfl rfl rfl dX12_readLine_36 R ?_
    refine mm_icmp_ge 62 dX12_readLine_39 (by decide) (fun c83 => ?_) (fun c83 => ?_)
    · replace H := hT c83 H
      exact t_X12_readLine_J62 hd R H
    · replace H := hF c83 H
      refine mm_aload_n dX12_readLine_42 rfl ?_
      refine rD_getR (t := 112) lk_X12_9_X12 lay_113 rfl rfl dX12_readLine_43 R ?_
      refine mm_aload_n dX12_readLine_46 rfl ?_
      refine rD_get (key := 11346) lk_X12_133_X12 lay_113 rfl rfl rfl dX12_readLine_47 R ?_
      refine mm_iconst (v := 1) dX12_readLine_50 (by decide +kernel) ?_
      refine mm_iadd dX12_readLine_51 ?_
      obtain ⟨b84, H⟩ := hB H
      refine rD_iald lay_114 rfl dX12_readLine_52 R b84 ?_
      refine mm_bipush (v := 32) dX12_readLine_53 (by decide +kernel) ?_
      refine mm_icmp_ne 62 dX12_readLine_55 (by decide) (fun c85 => ?_) (fun c85 => ?_)
      · replace H := hF c85 H
        exact t_X12_readLine_J62 hd R H
      · replace H := hT c85 H
        refine mm_iconst (v := 1) dX12_readLine_58 (by decide +kernel) ?_
        refine mm_goto 63 dX12_readLine_59 (by decide) ?_
        refine mm_istore_n (ls' := [some (.ref 113), some (.int x1), some (.int q7), some (.int 1)]) dX12_readLine_63 (Nat.le_of_ble_eq_true rfl) rfl ?_
        refine mm_iload_n dX12_readLine_64 rfl ?_
        refine mm_iconst (v := (-1)) dX12_readLine_65 (by decide +kernel) ?_
        refine mm_icmp_ne 81 dX12_readLine_66 (by decide) (fun c86 => ?_) (fun c86 => ?_)
        · replace H := hF c86 H
          refine mm_iload_n dX12_readLine_81 rfl ?_
          refine mm_if_eq 120 dX12_readLine_82 (by decide) (fun c => absurd c (by decide)) (fun _ => ?_)
          refine mm_aload_n dX12_readLine_85 rfl ?_
          refine rD_get (key := 11308) lk_X12_114_X12 lay_113 rfl rfl rfl dX12_readLine_86 R ?_
          refine mm_iload_n dX12_readLine_89 rfl ?_
          refine mm_icmp_eq 108 dX12_readLine_90 (by decide) (fun c87 => ?_) (fun c87 => ?_)
          · replace H := hT c87 H
            refine mm_fgt (ls' := [some (.ref 113), none, some (.int q7), none]) ⟨rfl, rfl, trivial⟩ ?_
            exact t_X12_readLine_J108 hd R H
          · replace H := hF c87 H
            refine mm_aload_n dX12_readLine_93 rfl ?_
            refine rD_getR (t := 114) lk_X12_20_X12 lay_113 rfl rfl dX12_readLine_94 R ?_
            refine mm_aload_n dX12_readLine_97 rfl ?_
            refine rD_get (key := 11308) lk_X12_114_X12 lay_113 rfl rfl rfl dX12_readLine_98 R ?_
            refine mm_iconst (v := 1) dX12_readLine_101 (by decide +kernel) ?_
            refine mm_isub dX12_readLine_102 ?_
            obtain ⟨b90, H⟩ := hB H
            refine rD_iald lay_116 rfl dX12_readLine_103 R b90 ?_
            refine mm_iconst (v := 5) dX12_readLine_104 (by decide +kernel) ?_
            refine mm_icmp_ne 120 dX12_readLine_105 (by decide) (fun c91 => ?_) (fun c91 => ?_)
            · replace H := hF c91 H
              refine mm_fgt (ls' := [some (.ref 113), none, some (.int q7), none]) ⟨rfl, rfl, trivial⟩ ?_
              exact t_X12_readLine_J120 hd R H
            · replace H := hT c91 H
              refine mm_fgt (ls' := [some (.ref 113), none, some (.int q7), none]) ⟨rfl, rfl, trivial⟩ ?_
              exact t_X12_readLine_J108 hd R H
        · replace H := hT c86 H
          refine mm_aload_n dX12_readLine_69 rfl ?_
          refine mm_iconst (v := 1) dX12_readLine_70 (by decide +kernel) ?_
          refine mm_aload_n dX12_readLine_71 rfl ?_
          refine rD_get (key := 11346) lk_X12_133_X12 lay_113 rfl rfl rfl dX12_readLine_72 R ?_
          obtain ⟨q92, H93, H⟩ := hC H
          refine mm_callV (d' := d - 1) (as := [.int 1, .int (gI D3 11346)]) (st := []) (dS hd) cm_X12_wrong (mm_t6 144 rfl rfl) (mm_t6 146 rfl rfl) (mm_s3 2 rfl rfl) (T := TX12) (N := 54) rfl dX12_readLine_75 (R.oD (r := 113) rfl lay_113) rfl (Nat.le_of_ble_eq_true rfl) (Nat.le_of_ble_eq_true rfl) rfl rfl (t_X12_wrong (dL hd (by decide)) R H93) (fun o h q => th_dV q (fun R => ?_))
          refine mm_goto 139 dX12_readLine_78 (by decide) ?_
          refine mm_fgt (ls' := [some (.ref 113), none, some (.int q7), none]) ⟨rfl, rfl, trivial⟩ ?_
          exact t_X12_readLine_J139 hd R H
def f_X12_keepLine_L12 (N : Nat) (x2 : Int32) : Nat → Int32 → Int32 → CS → Option (Int32 × CS)
  | 0, _, _, _ => none
  | n + 1, x3, x4, D => if (gI D 11346) ≤ x4 then (some (x3, D))
    else (if inb x4 3000 = true then (if (gA D 114 (x4).toNatClampNeg) = 10 then (some (x3, D))
      else (if inb x4 3000 = true then (if inb ((60 * x2) + x3) 18000 = true then (bd (sA D 125 (((60 * x2) + x3)).toNatClampNeg (gA D 114 (x4).toNatClampNeg)) fun D6 =>
      f_X12_keepLine_L12 N x2 n (x3 + 1) (x4 + 1) D6) else none) else none)) else none)
theorem t_X12_keepLine_L12 {g : mm_G} {d : Nat} {Post : mm_Ou → mm_Hp → Prop} {C : CS} {N : Nat} {x2 : Int32} {res : (Int32 × CS)} (hd : 0 ≤ d) (KE : ∀ (h1 : mm_Hp), Rep h1 C res.2 → mm_P g d MX12_keepLine 60 [some (.ref 113), none, some (.int x2), some (.int res.1), none] [] h1 Post) : ∀ (n : Nat) (x3 : Int32) (x4 : Int32) (D : CS) (h : mm_Hp) , Rep h C D → f_X12_keepLine_L12 N x2 n x3 x4 D = some res → mm_P g d MX12_keepLine 12 [some (.ref 113), none, some (.int x2), some (.int x3), some (.int x4)] [] h Post := by
  intro n
  induction n with
  | zero =>
    intro x3 x4 D h R H
    exact hN H
  | succ n ih =>
    intro x3 x4 D h R H
    unfold f_X12_keepLine_L12 at H
    refine mm_iload dX12_keepLine_12 rfl ?_
    refine mm_aload_n dX12_keepLine_14 rfl ?_
    refine rD_get (key := 11346) lk_X12_133_X12 lay_113 rfl rfl rfl dX12_keepLine_15 R ?_
    refine mm_icmp_ge 60 dX12_keepLine_18 (by decide) (fun c1 => ?_) (fun c1 => ?_)
    · replace H := hT c1 H
      refine mm_fgt (ls' := [some (.ref 113), none, some (.int x2), some (.int x3), none]) ⟨rfl, rfl, rfl, trivial⟩ ?_
      cases H
      exact KE _ R
    · replace H := hF c1 H
      refine mm_aload_n dX12_keepLine_21 rfl ?_
      refine rD_getR (t := 112) lk_X12_9_X12 lay_113 rfl rfl dX12_keepLine_22 R ?_
      refine mm_iload dX12_keepLine_25 rfl ?_
      obtain ⟨b2, H⟩ := hB H
      refine rD_iald lay_114 rfl dX12_keepLine_27 R b2 ?_
      refine mm_bipush (v := 10) dX12_keepLine_28 (by decide +kernel) ?_
      refine mm_icmp_eq 60 dX12_keepLine_30 (by decide) (fun c3 => ?_) (fun c3 => ?_)
      · replace H := hT c3 H
        refine mm_fgt (ls' := [some (.ref 113), none, some (.int x2), some (.int x3), none]) ⟨rfl, rfl, rfl, trivial⟩ ?_
        cases H
        exact KE _ R
      · replace H := hF c3 H
        refine mm_aload_n dX12_keepLine_33 rfl ?_
        refine rD_getR (t := 123) lk_X12_47_X12 lay_113 rfl rfl dX12_keepLine_34 R ?_
        refine mm_bipush (v := 60) dX12_keepLine_37 (by decide +kernel) ?_
        refine mm_iload_n dX12_keepLine_39 rfl ?_
        refine mm_imul dX12_keepLine_40 ?_
        refine mm_iload_n dX12_keepLine_41 rfl ?_
        refine mm_iadd dX12_keepLine_42 ?_
        refine mm_aload_n dX12_keepLine_43 rfl ?_
        refine rD_getR (t := 112) lk_X12_9_X12 lay_113 rfl rfl dX12_keepLine_44 R ?_
        refine mm_iload dX12_keepLine_47 rfl ?_
        obtain ⟨b4, H⟩ := hB H
        refine rD_iald lay_114 rfl dX12_keepLine_49 R b4 ?_
        obtain ⟨b5, H⟩ := hB H
        obtain ⟨D6, e7, H⟩ := hD H
        refine rD_iast lay_125 rfl dX12_keepLine_50 R b5 e7 (fun h R => ?_)
        refine mm_iinc (v := (x3 + 1)) (ls' := [some (.ref 113), none, some (.int x2), some (.int (x3 + 1)), some (.int x4)]) dX12_keepLine_51 rfl rfl rfl ?_
        refine mm_iinc (v := (x4 + 1)) (ls' := [some (.ref 113), none, some (.int x2), some (.int (x3 + 1)), some (.int (x4 + 1))]) dX12_keepLine_54 rfl rfl rfl ?_
        refine mm_goto 12 dX12_keepLine_57 (by decide) ?_
        exact ih _ _ _ _ R H
def f_X12_keepLine_J60 (N : Nat) (x2 : Int32) (x3 : Int32) (D : CS) : Option CS :=
  if inb x2 300 = true then (bd (sA D 124 (x2).toNatClampNeg x3) fun D11 =>
  if inb x2 300 = true then (bd (sA D11 122 (x2).toNatClampNeg x2) fun D14 =>
  if inb x2 300 = true then (bd (sA D14 123 (x2).toNatClampNeg (-2000000000)) fun D17 =>
  some D17) else none) else none) else none
theorem t_X12_keepLine_J60 {g : mm_G} {d : Nat} {h : mm_Hp} {C D : CS} {N : Nat} {x2 : Int32} {x3 : Int32} {r : CS} (hd : 0 ≤ d) (R : Rep h C D) (H : f_X12_keepLine_J60 N x2 x3 D = some r) : mm_P g d MX12_keepLine 60 [some (.ref 113), none, some (.int x2), some (.int x3), none] [] h (dV C r) := by
  unfold f_X12_keepLine_J60 at H
  refine mm_aload_n dX12_keepLine_60 rfl ?_
  refine rD_getR (t := 122) lk_X12_44_X12 lay_113 rfl rfl dX12_keepLine_61 R ?_
  refine mm_iload_n dX12_keepLine_64 rfl ?_
  refine mm_iload_n dX12_keepLine_65 rfl ?_
  obtain ⟨b10, H⟩ := hB H
  obtain ⟨D11, e12, H⟩ := hD H
  refine rD_iast lay_124 rfl dX12_keepLine_66 R b10 e12 (fun h R => ?_)
  refine mm_aload_n dX12_keepLine_67 rfl ?_
  refine rD_getR (t := 120) lk_X12_38_X12 lay_113 rfl rfl dX12_keepLine_68 R ?_
  refine mm_iload_n dX12_keepLine_71 rfl ?_
  refine mm_iload_n dX12_keepLine_72 rfl ?_
  obtain ⟨b13, H⟩ := hB H
  obtain ⟨D14, e15, H⟩ := hD H
  refine rD_iast lay_122 rfl dX12_keepLine_73 R b13 e15 (fun h R => ?_)
  refine mm_aload_n dX12_keepLine_74 rfl ?_
  refine rD_getR (t := 121) lk_X12_41_X12 lay_113 rfl rfl dX12_keepLine_75 R ?_
  refine mm_iload_n dX12_keepLine_78 rfl ?_
  refine mm_ldc (v := (-2000000000)) (mm_t6 199 rfl rfl) dX12_keepLine_79 ?_
  obtain ⟨b16, H⟩ := hB H
  obtain ⟨D17, e18, H⟩ := hD H
  refine rD_iast lay_123 rfl dX12_keepLine_81 R b16 e18 (fun h R => ?_)
  refine mm_vret rfl dX12_keepLine_82 ?_
  exact en_dV H R
def f_X12_keepLine (N : Nat) (x1 : Int32) (D : CS) : Option CS :=
  bnd (f_X12_keepLine_L12 N ((gI D 11308) - 1) N 0 x1 D) fun q8 =>
    f_X12_keepLine_J60 N ((gI D 11308) - 1) q8.1 q8.2
theorem t_X12_keepLine {g : mm_G} {d : Nat} {h : mm_Hp} {C D : CS} {N : Nat} {x1 : Int32} {r : CS} (hd : 0 ≤ d) (R : Rep h C D) (H : f_X12_keepLine N x1 D = some r) : mm_P g d MX12_keepLine 0 [some (.ref 113), some (.int x1), none, none, none] [] h (dV C r) := by
  unfold f_X12_keepLine at H
  refine mm_aload_n dX12_keepLine_0 rfl ?_
  refine rD_get (key := 11308) lk_X12_114_X12 lay_113 rfl rfl rfl dX12_keepLine_1 R ?_
  refine mm_iconst (v := 1) dX12_keepLine_4 (by decide +kernel) ?_
  refine mm_isub dX12_keepLine_5 ?_
  refine mm_istore_n (ls' := [some (.ref 113), some (.int x1), some (.int ((gI D 11308) - 1)), none, none]) dX12_keepLine_6 (Nat.le_of_ble_eq_true rfl) rfl ?_
  refine mm_iconst (v := 0) dX12_keepLine_7 (by decide +kernel) ?_
  refine mm_istore_n (ls' := [some (.ref 113), some (.int x1), some (.int ((gI D 11308) - 1)), some (.int 0), none]) dX12_keepLine_8 (Nat.le_of_ble_eq_true rfl) rfl ?_
  refine mm_iload_n dX12_keepLine_9 rfl ?_
  refine mm_istore (ls' := [some (.ref 113), some (.int x1), some (.int ((gI D 11308) - 1)), some (.int 0), some (.int x1)]) dX12_keepLine_10 (Nat.le_of_ble_eq_true rfl) rfl ?_
  obtain ⟨q8, H9, H⟩ := hC H
  refine mm_fgt (ls' := [some (.ref 113), none, some (.int ((gI D 11308) - 1)), some (.int 0), some (.int x1)]) ⟨rfl, rfl, rfl, rfl, trivial⟩ ?_
  refine t_X12_keepLine_L12 hd (fun h R => ?_) N _ _ _ _ R H9
  exact t_X12_keepLine_J60 hd R H
def f_X12_sitting_L89 (N : Nat) (x2 : Int32) (x3 : Int32) (x4 : Int32) (x5 : Int32) (x6 : Int32) : Nat → CS → Option (CS)
  | 0, _ => none
  | n + 1, D => if (gI D 11349) = 0 then (if (gI D 11347) ≤ (gI D 11346) then (some D)
      else (bnd (f_X12_readLine N x2 D) fun q20 =>
      if (gI q20 11349) = 0 then (bnd (f_X12_keepLine N (gI D 11346) q20) fun q23 =>
        f_X12_sitting_L89 N x2 x3 x4 x5 x6 n q23)
        else (f_X12_sitting_L89 N x2 x3 x4 x5 x6 n q20)))
    else (some D)
theorem t_X12_sitting_L89 {g : mm_G} {d : Nat} {Post : mm_Ou → mm_Hp → Prop} {C : CS} {N : Nat} {x2 : Int32} {x3 : Int32} {x4 : Int32} {x5 : Int32} {x6 : Int32} {res : (CS)} (hd : 6 ≤ d) (KE : ∀ (h1 : mm_Hp), Rep h1 C res → mm_P g d MX12_sitting 134 [some (.ref 113), none, some (.int x2), some (.int x3), some (.int x4), some (.int x5), some (.int x6), none, none] [] h1 Post) : ∀ (n : Nat) (D : CS) (h : mm_Hp) , Rep h C D → f_X12_sitting_L89 N x2 x3 x4 x5 x6 n D = some res → mm_P g d MX12_sitting 89 [some (.ref 113), none, some (.int x2), some (.int x3), some (.int x4), some (.int x5), some (.int x6), none, none] [] h Post := by
  intro n
  induction n with
  | zero =>
    intro D h R H
    exact hN H
  | succ n ih =>
    intro D h R H
    unfold f_X12_sitting_L89 at H
    refine mm_aload_n dX12_sitting_89 rfl ?_
    refine rD_get (key := 11349) lk_X12_139_X12 lay_113 rfl rfl rfl dX12_sitting_90 R ?_
    refine mm_if_ne 134 dX12_sitting_93 (by decide) (fun c18 => ?_) (fun c18 => ?_)
    · replace H := hF c18 H
      cases H
      exact KE _ R
    · replace H := hT c18 H
      refine mm_aload_n dX12_sitting_96 rfl ?_
      refine rD_get (key := 11346) lk_X12_133_X12 lay_113 rfl rfl rfl dX12_sitting_97 R ?_
      refine mm_aload_n dX12_sitting_100 rfl ?_
      refine rD_get (key := 11347) lk_X12_136_X12 lay_113 rfl rfl rfl dX12_sitting_101 R ?_
      refine mm_icmp_ge 134 dX12_sitting_104 (by decide) (fun c19 => ?_) (fun c19 => ?_)
      · replace H := hT c19 H
        cases H
        exact KE _ R
      · replace H := hF c19 H
        refine mm_aload_n dX12_sitting_107 rfl ?_
        refine rD_get (key := 11346) lk_X12_133_X12 lay_113 rfl rfl rfl dX12_sitting_108 R ?_
        refine mm_istore (ls' := [some (.ref 113), none, some (.int x2), some (.int x3), some (.int x4), some (.int x5), some (.int x6), some (.int (gI D 11346)), none]) dX12_sitting_111 (Nat.le_of_ble_eq_true rfl) rfl ?_
        refine mm_aload_n dX12_sitting_113 rfl ?_
        refine mm_iload_n dX12_sitting_114 rfl ?_
        obtain ⟨q20, H21, H⟩ := hC H
        refine mm_callV (d' := d - 1) (as := [.int x2]) (st := []) (dS hd) cm_X12_readLine (mm_t6 133 rfl rfl) (mm_t6 135 rfl rfl) (mm_s3 0 rfl rfl) (T := TX12) (N := 54) rfl dX12_sitting_115 (R.oD (r := 113) rfl lay_113) rfl (Nat.le_of_ble_eq_true rfl) (Nat.le_of_ble_eq_true rfl) rfl rfl (t_X12_readLine (dL hd (by decide)) R H21) (fun o h q => th_dV q (fun R => ?_))
        refine mm_aload_n dX12_sitting_118 rfl ?_
        refine rD_get (key := 11349) lk_X12_139_X12 lay_113 rfl rfl rfl dX12_sitting_119 R ?_
        refine mm_if_ne 131 dX12_sitting_122 (by decide) (fun c22 => ?_) (fun c22 => ?_)
        · replace H := hF c22 H
          refine mm_goto 89 dX12_sitting_131 (by decide) ?_
          refine mm_fgt (ls' := [some (.ref 113), none, some (.int x2), some (.int x3), some (.int x4), some (.int x5), some (.int x6), none, none]) ⟨rfl, rfl, rfl, rfl, rfl, rfl, trivial⟩ ?_
          exact ih _ _ R H
        · replace H := hT c22 H
          refine mm_aload_n dX12_sitting_125 rfl ?_
          refine mm_iload dX12_sitting_126 rfl ?_
          obtain ⟨q23, H24, H⟩ := hC H
          refine mm_callV (d' := d - 1) (as := [.int (gI D 11346)]) (st := []) (dS hd) cm_X12_keepLine (mm_t6 195 rfl rfl) (mm_t6 197 rfl rfl) (mm_s3 14 rfl rfl) (T := TX12) (N := 54) rfl dX12_sitting_128 (R.oD (r := 113) rfl lay_113) rfl (Nat.le_of_ble_eq_true rfl) (Nat.le_of_ble_eq_true rfl) rfl rfl (t_X12_keepLine (dL hd (by decide)) R H24) (fun o h q => th_dV q (fun R => ?_))
          refine mm_goto 89 dX12_sitting_131 (by decide) ?_
          refine mm_fgt (ls' := [some (.ref 113), none, some (.int x2), some (.int x3), some (.int x4), some (.int x5), some (.int x6), none, none]) ⟨rfl, rfl, rfl, rfl, rfl, rfl, trivial⟩ ?_
          exact ih _ _ R H
def f_X12_sitting_L207 (N : Nat) (x2 : Int32) (x7 : Int32) : Nat → Int32 → CS → Option (CS)
  | 0, _, _ => none
  | n + 1, x8, D => if (gI D 11308) ≤ x8 then (some D)
    else (if inb x8 200 = true then (bd (sA D 119 (x8).toNatClampNeg (x7 + ((x8 - x2) / 10))) fun D32 =>
    if inb x8 200 = true then (bd (sA D32 120 (x8).toNatClampNeg (1 + ((x8 - x2) - (x8 - x2) / 10 * 10))) fun D35 =>
    f_X12_sitting_L207 N x2 x7 n (x8 + 1) D35) else none) else none)
theorem t_X12_sitting_L207 {g : mm_G} {d : Nat} {Post : mm_Ou → mm_Hp → Prop} {C : CS} {N : Nat} {x2 : Int32} {x7 : Int32} {res : (CS)} (hd : 6 ≤ d) (KE : ∀ (h1 : mm_Hp), Rep h1 C res → mm_P g d MX12_sitting 255 [some (.ref 113), none, some (.int x2), none, none, none, none, none, none] [] h1 Post) : ∀ (n : Nat) (x8 : Int32) (D : CS) (h : mm_Hp) , Rep h C D → f_X12_sitting_L207 N x2 x7 n x8 D = some res → mm_P g d MX12_sitting 207 [some (.ref 113), none, some (.int x2), none, none, none, none, some (.int x7), some (.int x8)] [] h Post := by
  intro n
  induction n with
  | zero =>
    intro x8 D h R H
    exact hN H
  | succ n ih =>
    intro x8 D h R H
    unfold f_X12_sitting_L207 at H
    refine mm_iload dX12_sitting_207 rfl ?_
    refine mm_aload_n dX12_sitting_209 rfl ?_
    refine rD_get (key := 11308) lk_X12_114_X12 lay_113 rfl rfl rfl dX12_sitting_210 R ?_
    refine mm_icmp_ge 255 dX12_sitting_213 (by decide) (fun c30 => ?_) (fun c30 => ?_)
    · replace H := hT c30 H
      refine mm_fgt (ls' := [some (.ref 113), none, some (.int x2), none, none, none, none, none, none]) ⟨rfl, rfl, trivial⟩ ?_
      cases H
      exact KE _ R
    · replace H := hF c30 H
      refine mm_aload_n dX12_sitting_216 rfl ?_
      refine rD_getR (t := 117) lk_X12_29_X12 lay_113 rfl rfl dX12_sitting_217 R ?_
      refine mm_iload dX12_sitting_220 rfl ?_
      refine mm_iload dX12_sitting_222 rfl ?_
      refine mm_iload dX12_sitting_224 rfl ?_
      refine mm_iload_n dX12_sitting_226 rfl ?_
      refine mm_isub dX12_sitting_227 ?_
      refine mm_bipush (v := 10) dX12_sitting_228 (by decide +kernel) ?_
      refine mm_idiv (by decide) dX12_sitting_230 ?_
      refine mm_iadd dX12_sitting_231 ?_
      obtain ⟨b31, H⟩ := hB H
      obtain ⟨D32, e33, H⟩ := hD H
      refine rD_iast lay_119 rfl dX12_sitting_232 R b31 e33 (fun h R => ?_)
      refine mm_aload_n dX12_sitting_233 rfl ?_
      refine rD_getR (t := 118) lk_X12_32_X12 lay_113 rfl rfl dX12_sitting_234 R ?_
      refine mm_iload dX12_sitting_237 rfl ?_
      refine mm_iconst (v := 1) dX12_sitting_239 (by decide +kernel) ?_
      refine mm_iload dX12_sitting_240 rfl ?_
      refine mm_iload_n dX12_sitting_242 rfl ?_
      refine mm_isub dX12_sitting_243 ?_
      refine mm_bipush (v := 10) dX12_sitting_244 (by decide +kernel) ?_
      refine mm_irem (by decide) dX12_sitting_246 ?_
      refine mm_iadd dX12_sitting_247 ?_
      obtain ⟨b34, H⟩ := hB H
      obtain ⟨D35, e36, H⟩ := hD H
      refine rD_iast lay_120 rfl dX12_sitting_248 R b34 e36 (fun h R => ?_)
      refine mm_iinc (v := (x8 + 1)) (ls' := [some (.ref 113), none, some (.int x2), none, none, none, none, some (.int x7), some (.int (x8 + 1))]) dX12_sitting_249 rfl rfl rfl ?_
      refine mm_goto 207 dX12_sitting_252 (by decide) ?_
      exact ih _ _ _ R H
def f_X12_sitting_J134 (N : Nat) (x2 : Int32) (x3 : Int32) (x4 : Int32) (x5 : Int32) (x6 : Int32) (D : CS) : Option (Int32 × CS) :=
  if (gI D 11349) = 0 then (if x2 = 0 then (bnd (f_X12_sitting_L207 N x2 1 N x2 D) fun q41 =>
        bd (sI q41 11306 ((gI q41 11306) + 1)) fun D43 =>
        some (((gI D43 11308) - x2), D43))
        else (if inb (x2 - 1) 200 = true then (bnd (f_X12_sitting_L207 N x2 ((gA D 119 ((x2 - 1)).toNatClampNeg) + 1) N x2 D) fun q37 =>
        bd (sI q37 11306 ((gI q37 11306) + 1)) fun D39 =>
        some (((gI D39 11308) - x2), D39)) else none))
    else (bd (sI D 11308 x2) fun D45 =>
    bd (sI D45 11320 x3) fun D47 =>
    bd (sI D47 11321 x4) fun D49 =>
    bd (sI D49 11322 x5) fun D51 =>
    bd (sI D51 11323 x6) fun D53 =>
    bd (sI D53 11307 (gI D53 11350)) fun D55 =>
    some (((-1) - (gI D55 11349)), D55))
theorem t_X12_sitting_J134 {g : mm_G} {d : Nat} {h : mm_Hp} {C D : CS} {N : Nat} {x2 : Int32} {x3 : Int32} {x4 : Int32} {x5 : Int32} {x6 : Int32} {r : (Int32 × CS)} (hd : 6 ≤ d) (R : Rep h C D) (H : f_X12_sitting_J134 N x2 x3 x4 x5 x6 D = some r) : mm_P g d MX12_sitting 134 [some (.ref 113), none, some (.int x2), some (.int x3), some (.int x4), some (.int x5), some (.int x6), none, none] [] h (dI C r) := by
  unfold f_X12_sitting_J134 at H
  refine mm_aload_n dX12_sitting_134 rfl ?_
  refine rD_get (key := 11349) lk_X12_139_X12 lay_113 rfl rfl rfl dX12_sitting_135 R ?_
  refine mm_if_eq 184 dX12_sitting_138 (by decide) (fun c27 => ?_) (fun c27 => ?_)
  · replace H := hT c27 H
    refine mm_iload_n dX12_sitting_184 rfl ?_
    refine mm_if_ne 192 dX12_sitting_185 (by decide) (fun c28 => ?_) (fun c28 => ?_)
    · replace H := hF c28 H
      refine mm_aload_n dX12_sitting_192 rfl ?_
      refine rD_getR (t := 117) lk_X12_29_X12 lay_113 rfl rfl dX12_sitting_193 R ?_
      refine mm_iload_n dX12_sitting_196 rfl ?_
      refine mm_iconst (v := 1) dX12_sitting_197 (by decide +kernel) ?_
      refine mm_isub dX12_sitting_198 ?_
      obtain ⟨b29, H⟩ := hB H
      refine rD_iald lay_119 rfl dX12_sitting_199 R b29 ?_
      refine mm_iconst (v := 1) dX12_sitting_200 (by decide +kernel) ?_
      refine mm_iadd dX12_sitting_201 ?_
      refine mm_istore (ls' := [some (.ref 113), none, some (.int x2), some (.int x3), some (.int x4), some (.int x5), some (.int x6), some (.int ((gA D 119 ((x2 - 1)).toNatClampNeg) + 1)), none]) dX12_sitting_202 (Nat.le_of_ble_eq_true rfl) rfl ?_
      refine mm_iload_n dX12_sitting_204 rfl ?_
      refine mm_istore (ls' := [some (.ref 113), none, some (.int x2), some (.int x3), some (.int x4), some (.int x5), some (.int x6), some (.int ((gA D 119 ((x2 - 1)).toNatClampNeg) + 1)), some (.int x2)]) dX12_sitting_205 (Nat.le_of_ble_eq_true rfl) rfl ?_
      obtain ⟨q37, H38, H⟩ := hC H
      refine mm_fgt (ls' := [some (.ref 113), none, some (.int x2), none, none, none, none, some (.int ((gA D 119 ((x2 - 1)).toNatClampNeg) + 1)), some (.int x2)]) ⟨rfl, rfl, rfl, rfl, trivial⟩ ?_
      refine t_X12_sitting_L207 hd (fun h R => ?_) N _ _ _ R H38
      refine mm_aload_n dX12_sitting_255 rfl ?_
      refine mm_dup rfl dX12_sitting_256 ?_
      refine rD_get (key := 11306) lk_X12_210_X12 lay_113 rfl rfl rfl dX12_sitting_257 R ?_
      refine mm_iconst (v := 1) dX12_sitting_260 (by decide +kernel) ?_
      refine mm_iadd dX12_sitting_261 ?_
      obtain ⟨D39, e40, H⟩ := hD H
      refine rD_put (key := 11306) lk_X12_210_X12 lay_113 rfl rfl rfl rfl rfl dX12_sitting_262 R e40 (fun h R => ?_)
      refine mm_aload_n dX12_sitting_265 rfl ?_
      refine rD_get (key := 11308) lk_X12_114_X12 lay_113 rfl rfl rfl dX12_sitting_266 R ?_
      refine mm_iload_n dX12_sitting_269 rfl ?_
      refine mm_isub dX12_sitting_270 ?_
      refine mm_iret rfl rfl dX12_sitting_271 ?_
      exact en_dI H R
    · replace H := hT c28 H
      refine mm_iconst (v := 1) dX12_sitting_188 (by decide +kernel) ?_
      refine mm_goto 202 dX12_sitting_189 (by decide) ?_
      refine mm_istore (ls' := [some (.ref 113), none, some (.int x2), some (.int x3), some (.int x4), some (.int x5), some (.int x6), some (.int 1), none]) dX12_sitting_202 (Nat.le_of_ble_eq_true rfl) rfl ?_
      refine mm_iload_n dX12_sitting_204 rfl ?_
      refine mm_istore (ls' := [some (.ref 113), none, some (.int x2), some (.int x3), some (.int x4), some (.int x5), some (.int x6), some (.int 1), some (.int x2)]) dX12_sitting_205 (Nat.le_of_ble_eq_true rfl) rfl ?_
      obtain ⟨q41, H42, H⟩ := hC H
      refine mm_fgt (ls' := [some (.ref 113), none, some (.int x2), none, none, none, none, some (.int 1), some (.int x2)]) ⟨rfl, rfl, rfl, rfl, trivial⟩ ?_
      refine t_X12_sitting_L207 hd (fun h R => ?_) N _ _ _ R H42
      refine mm_aload_n dX12_sitting_255 rfl ?_
      refine mm_dup rfl dX12_sitting_256 ?_
      refine rD_get (key := 11306) lk_X12_210_X12 lay_113 rfl rfl rfl dX12_sitting_257 R ?_
      refine mm_iconst (v := 1) dX12_sitting_260 (by decide +kernel) ?_
      refine mm_iadd dX12_sitting_261 ?_
      obtain ⟨D43, e44, H⟩ := hD H
      refine rD_put (key := 11306) lk_X12_210_X12 lay_113 rfl rfl rfl rfl rfl dX12_sitting_262 R e44 (fun h R => ?_)
      refine mm_aload_n dX12_sitting_265 rfl ?_
      refine rD_get (key := 11308) lk_X12_114_X12 lay_113 rfl rfl rfl dX12_sitting_266 R ?_
      refine mm_iload_n dX12_sitting_269 rfl ?_
      refine mm_isub dX12_sitting_270 ?_
      refine mm_iret rfl rfl dX12_sitting_271 ?_
      exact en_dI H R
  · replace H := hF c27 H
    refine mm_aload_n dX12_sitting_141 rfl ?_
    refine mm_iload_n dX12_sitting_142 rfl ?_
    obtain ⟨D45, e46, H⟩ := hD H
    refine rD_put (key := 11308) lk_X12_114_X12 lay_113 rfl rfl rfl rfl rfl dX12_sitting_143 R e46 (fun h R => ?_)
    refine mm_aload_n dX12_sitting_146 rfl ?_
    refine mm_iload_n dX12_sitting_147 rfl ?_
    obtain ⟨D47, e48, H⟩ := hD H
    refine rD_put (key := 11320) lk_X12_188_X12 lay_113 rfl rfl rfl rfl rfl dX12_sitting_148 R e48 (fun h R => ?_)
    refine mm_aload_n dX12_sitting_151 rfl ?_
    refine mm_iload dX12_sitting_152 rfl ?_
    obtain ⟨D49, e50, H⟩ := hD H
    refine rD_put (key := 11321) lk_X12_174_X12 lay_113 rfl rfl rfl rfl rfl dX12_sitting_154 R e50 (fun h R => ?_)
    refine mm_aload_n dX12_sitting_157 rfl ?_
    refine mm_iload dX12_sitting_158 rfl ?_
    obtain ⟨D51, e52, H⟩ := hD H
    refine rD_put (key := 11322) lk_X12_120_X12 lay_113 rfl rfl rfl rfl rfl dX12_sitting_160 R e52 (fun h R => ?_)
    refine mm_aload_n dX12_sitting_163 rfl ?_
    refine mm_iload dX12_sitting_164 rfl ?_
    obtain ⟨D53, e54, H⟩ := hD H
    refine rD_put (key := 11323) lk_X12_127_X12 lay_113 rfl rfl rfl rfl rfl dX12_sitting_166 R e54 (fun h R => ?_)
    refine mm_aload_n dX12_sitting_169 rfl ?_
    refine mm_aload_n dX12_sitting_170 rfl ?_
    refine rD_get (key := 11350) lk_X12_142_X12 lay_113 rfl rfl rfl dX12_sitting_171 R ?_
    obtain ⟨D55, e56, H⟩ := hD H
    refine rD_put (key := 11307) lk_X12_16_X12 lay_113 rfl rfl rfl rfl rfl dX12_sitting_174 R e56 (fun h R => ?_)
    refine mm_iconst (v := (-1)) dX12_sitting_177 (by decide +kernel) ?_
    refine mm_aload_n dX12_sitting_178 rfl ?_
    refine rD_get (key := 11349) lk_X12_139_X12 lay_113 rfl rfl rfl dX12_sitting_179 R ?_
    refine mm_isub dX12_sitting_182 ?_
    refine mm_iret rfl rfl dX12_sitting_183 ?_
    exact en_dI H R
def f_X12_sitting (N : Nat) (x1 : Int32) (D : CS) : Option (Int32 × CS) :=
  bd (sI D 11300 0) fun D1 =>
  if x1 < 1 then (bnd (f_X12_fail 1 D1) fun q4 =>
    some (q4.1, q4.2))
    else (if x1 ≤ (gI D1 11303) then (bd (sI D1 11303 0) fun D7 =>
      bd (sI D7 11307 (-1)) fun D9 =>
      if (gI D9 11306) = 8 then (some ((-9), D9))
          else (bd (sI D9 11347 x1) fun D12 =>
        bd (sI D12 11346 0) fun D14 =>
        bd (sI D14 11349 0) fun D16 =>
        bnd (f_X12_sitting_L89 N (gI D16 11308) (gI D16 11320) (gI D16 11321) (gI D16 11322) (gI D16 11323) N D16) fun q25 =>
          f_X12_sitting_J134 N (gI D16 11308) (gI D16 11320) (gI D16 11321) (gI D16 11322) (gI D16 11323) q25))
      else (bnd (f_X12_fail 1 D1) fun q57 =>
      some (q57.1, q57.2)))
theorem t_X12_sitting {g : mm_G} {d : Nat} {h : mm_Hp} {C D : CS} {N : Nat} {x1 : Int32} {r : (Int32 × CS)} (hd : 6 ≤ d) (R : Rep h C D) (H : f_X12_sitting N x1 D = some r) : mm_P g d MX12_sitting 0 [some (.ref 113), some (.int x1), none, none, none, none, none, none, none] [] h (dI C r) := by
  unfold f_X12_sitting at H
  refine mm_aload_n dX12_sitting_0 rfl ?_
  refine mm_iconst (v := 0) dX12_sitting_1 (by decide +kernel) ?_
  obtain ⟨D1, e2, H⟩ := hD H
  refine rD_put (key := 11300) lk_X12_111_X12 lay_113 rfl rfl rfl rfl rfl dX12_sitting_2 R e2 (fun h R => ?_)
  refine mm_iload_n dX12_sitting_5 rfl ?_
  refine mm_iconst (v := 1) dX12_sitting_6 (by decide +kernel) ?_
  refine mm_icmp_lt 18 dX12_sitting_7 (by decide) (fun c3 => ?_) (fun c3 => ?_)
  · replace H := hT c3 H
    refine mm_aload_n dX12_sitting_18 rfl ?_
    refine mm_iconst (v := 1) dX12_sitting_19 (by decide +kernel) ?_
    obtain ⟨q4, H5, H⟩ := hC H
    refine mm_callV (d' := d - 1) (as := [.int 1]) (st := []) (dS hd) cm_X12_fail (mm_t6 129 rfl rfl) (mm_t6 131 rfl rfl) (mm_s2 15 rfl rfl) (T := TX12) (N := 54) rfl dX12_sitting_20 (R.oD (r := 113) rfl lay_113) rfl (Nat.le_of_ble_eq_true rfl) (Nat.le_of_ble_eq_true rfl) rfl rfl (t_X12_fail (dL hd (by decide)) R H5) (fun o h q => th_dI q (fun R => ?_))
    refine mm_iret rfl rfl dX12_sitting_23 ?_
    exact en_dI H R
  · replace H := hF c3 H
    refine mm_iload_n dX12_sitting_10 rfl ?_
    refine mm_aload_n dX12_sitting_11 rfl ?_
    refine rD_get (key := 11303) lk_X12_117_X12 lay_113 rfl rfl rfl dX12_sitting_12 R ?_
    refine mm_icmp_le 24 dX12_sitting_15 (by decide) (fun c6 => ?_) (fun c6 => ?_)
    · replace H := hT c6 H
      refine mm_aload_n dX12_sitting_24 rfl ?_
      refine mm_iconst (v := 0) dX12_sitting_25 (by decide +kernel) ?_
      obtain ⟨D7, e8, H⟩ := hD H
      refine rD_put (key := 11303) lk_X12_117_X12 lay_113 rfl rfl rfl rfl rfl dX12_sitting_26 R e8 (fun h R => ?_)
      refine mm_aload_n dX12_sitting_29 rfl ?_
      refine mm_iconst (v := (-1)) dX12_sitting_30 (by decide +kernel) ?_
      obtain ⟨D9, e10, H⟩ := hD H
      refine rD_put (key := 11307) lk_X12_16_X12 lay_113 rfl rfl rfl rfl rfl dX12_sitting_31 R e10 (fun h R => ?_)
      refine mm_aload_n dX12_sitting_34 rfl ?_
      refine rD_get (key := 11306) lk_X12_210_X12 lay_113 rfl rfl rfl dX12_sitting_35 R ?_
      refine mm_bipush (v := 8) dX12_sitting_38 (by decide +kernel) ?_
      refine mm_icmp_ne 46 dX12_sitting_40 (by decide) (fun c11 => ?_) (fun c11 => ?_)
      · replace H := hF c11 H
        refine mm_aload_n dX12_sitting_46 rfl ?_
        refine mm_iload_n dX12_sitting_47 rfl ?_
        obtain ⟨D12, e13, H⟩ := hD H
        refine rD_put (key := 11347) lk_X12_136_X12 lay_113 rfl rfl rfl rfl rfl dX12_sitting_48 R e13 (fun h R => ?_)
        refine mm_aload_n dX12_sitting_51 rfl ?_
        refine mm_iconst (v := 0) dX12_sitting_52 (by decide +kernel) ?_
        obtain ⟨D14, e15, H⟩ := hD H
        refine rD_put (key := 11346) lk_X12_133_X12 lay_113 rfl rfl rfl rfl rfl dX12_sitting_53 R e15 (fun h R => ?_)
        refine mm_aload_n dX12_sitting_56 rfl ?_
        refine mm_iconst (v := 0) dX12_sitting_57 (by decide +kernel) ?_
        obtain ⟨D16, e17, H⟩ := hD H
        refine rD_put (key := 11349) lk_X12_139_X12 lay_113 rfl rfl rfl rfl rfl dX12_sitting_58 R e17 (fun h R => ?_)
        refine mm_aload_n dX12_sitting_61 rfl ?_
        refine rD_get (key := 11308) lk_X12_114_X12 lay_113 rfl rfl rfl dX12_sitting_62 R ?_
        refine mm_istore_n (ls' := [some (.ref 113), some (.int x1), some (.int (gI D16 11308)), none, none, none, none, none, none]) dX12_sitting_65 (Nat.le_of_ble_eq_true rfl) rfl ?_
        refine mm_aload_n dX12_sitting_66 rfl ?_
        refine rD_get (key := 11320) lk_X12_188_X12 lay_113 rfl rfl rfl dX12_sitting_67 R ?_
        refine mm_istore_n (ls' := [some (.ref 113), some (.int x1), some (.int (gI D16 11308)), some (.int (gI D16 11320)), none, none, none, none, none]) dX12_sitting_70 (Nat.le_of_ble_eq_true rfl) rfl ?_
        refine mm_aload_n dX12_sitting_71 rfl ?_
        refine rD_get (key := 11321) lk_X12_174_X12 lay_113 rfl rfl rfl dX12_sitting_72 R ?_
        refine mm_istore (ls' := [some (.ref 113), some (.int x1), some (.int (gI D16 11308)), some (.int (gI D16 11320)), some (.int (gI D16 11321)), none, none, none, none]) dX12_sitting_75 (Nat.le_of_ble_eq_true rfl) rfl ?_
        refine mm_aload_n dX12_sitting_77 rfl ?_
        refine rD_get (key := 11322) lk_X12_120_X12 lay_113 rfl rfl rfl dX12_sitting_78 R ?_
        refine mm_istore (ls' := [some (.ref 113), some (.int x1), some (.int (gI D16 11308)), some (.int (gI D16 11320)), some (.int (gI D16 11321)), some (.int (gI D16 11322)), none, none, none]) dX12_sitting_81 (Nat.le_of_ble_eq_true rfl) rfl ?_
        refine mm_aload_n dX12_sitting_83 rfl ?_
        refine rD_get (key := 11323) lk_X12_127_X12 lay_113 rfl rfl rfl dX12_sitting_84 R ?_
        refine mm_istore (ls' := [some (.ref 113), some (.int x1), some (.int (gI D16 11308)), some (.int (gI D16 11320)), some (.int (gI D16 11321)), some (.int (gI D16 11322)), some (.int (gI D16 11323)), none, none]) dX12_sitting_87 (Nat.le_of_ble_eq_true rfl) rfl ?_
        obtain ⟨q25, H26, H⟩ := hC H
        refine mm_fgt (ls' := [some (.ref 113), none, some (.int (gI D16 11308)), some (.int (gI D16 11320)), some (.int (gI D16 11321)), some (.int (gI D16 11322)), some (.int (gI D16 11323)), none, none]) ⟨rfl, rfl, rfl, rfl, rfl, rfl, trivial⟩ ?_
        refine t_X12_sitting_L89 hd (fun h R => ?_) N _ _ R H26
        exact t_X12_sitting_J134 hd R H
      · replace H := hT c11 H
        refine mm_bipush (v := (-9)) dX12_sitting_43 (by decide +kernel) ?_
        refine mm_iret rfl rfl dX12_sitting_45 ?_
        exact en_dI H R
    · replace H := hF c6 H
      refine mm_aload_n dX12_sitting_18 rfl ?_
      refine mm_iconst (v := 1) dX12_sitting_19 (by decide +kernel) ?_
      obtain ⟨q57, H58, H⟩ := hC H
      refine mm_callV (d' := d - 1) (as := [.int 1]) (st := []) (dS hd) cm_X12_fail (mm_t6 129 rfl rfl) (mm_t6 131 rfl rfl) (mm_s2 15 rfl rfl) (T := TX12) (N := 54) rfl dX12_sitting_20 (R.oD (r := 113) rfl lay_113) rfl (Nat.le_of_ble_eq_true rfl) (Nat.le_of_ble_eq_true rfl) rfl rfl (t_X12_fail (dL hd (by decide)) R H58) (fun o h q => th_dI q (fun R => ?_))
      refine mm_iret rfl rfl dX12_sitting_23 ?_
      exact en_dI H R
def f_X12_fault (D : CS) : Option (Int32 × CS) :=
  bd (sI D 11300 0) fun D1 =>
  some ((gI D1 11307), D1)
theorem t_X12_fault {g : mm_G} {d : Nat} {h : mm_Hp} {C D : CS} {r : (Int32 × CS)} (hd : 0 ≤ d) (R : Rep h C D) (H : f_X12_fault D = some r) : mm_P g d MX12_fault 0 [some (.ref 113)] [] h (dI C r) := by
  unfold f_X12_fault at H
  refine mm_aload_n dX12_fault_0 rfl ?_
  refine mm_iconst (v := 0) dX12_fault_1 (by decide +kernel) ?_
  obtain ⟨D1, e2, H⟩ := hD H
  refine rD_put (key := 11300) lk_X12_111_X12 lay_113 rfl rfl rfl rfl rfl dX12_fault_2 R e2 (fun h R => ?_)
  refine mm_aload_n dX12_fault_5 rfl ?_
  refine rD_get (key := 11307) lk_X12_16_X12 lay_113 rfl rfl rfl dX12_fault_6 R ?_
  refine mm_iret rfl rfl dX12_fault_9 ?_
  exact en_dI H R
def f_X12_right_L187 (N : Nat) (x1 : Int32) (x2 : Int32) : Nat → Int32 → CS → Option (CS)
  | 0, _, _ => none
  | n + 1, x5, D => if 2 ≤ x5 then (some D)
    else (if inb ((60 * x1) + x5) 18000 = true then (if inb ((60 * (gI D 11352)) + x5) 18000 = true then (bd (sA D 125 (((60 * (gI D 11352)) + x5)).toNatClampNeg (gA D 125 (((60 * x1) + x5)).toNatClampNeg)) fun D36 =>
    f_X12_right_L187 N x1 x2 n (x5 + 1) D36) else none) else none)
theorem t_X12_right_L187 {g : mm_G} {d : Nat} {Post : mm_Ou → mm_Hp → Prop} {C : CS} {N : Nat} {x1 : Int32} {x2 : Int32} {res : (CS)} (hd : 5 ≤ d) (KE : ∀ (h1 : mm_Hp), Rep h1 C res → mm_P g d MX12_right 226 [some (.ref 113), some (.int x1), some (.int x2), none, none, none] [] h1 Post) : ∀ (n : Nat) (x5 : Int32) (D : CS) (h : mm_Hp) , Rep h C D → f_X12_right_L187 N x1 x2 n x5 D = some res → mm_P g d MX12_right 187 [some (.ref 113), some (.int x1), some (.int x2), none, none, some (.int x5)] [] h Post := by
  intro n
  induction n with
  | zero =>
    intro x5 D h R H
    exact hN H
  | succ n ih =>
    intro x5 D h R H
    unfold f_X12_right_L187 at H
    refine mm_iload dX12_right_187 rfl ?_
    refine mm_iconst (v := 2) dX12_right_189 (by decide +kernel) ?_
    refine mm_icmp_ge 226 dX12_right_190 (by decide) (fun c33 => ?_) (fun c33 => ?_)
    · replace H := hT c33 H
      refine mm_fgt (ls' := [some (.ref 113), some (.int x1), some (.int x2), none, none, none]) ⟨rfl, rfl, rfl, trivial⟩ ?_
      cases H
      exact KE _ R
    · replace H := hF c33 H
      refine mm_aload_n dX12_right_193 rfl ?_
      refine rD_getR (t := 123) lk_X12_47_X12 lay_113 rfl rfl dX12_right_194 R ?_
      refine mm_bipush (v := 60) dX12_right_197 (by decide +kernel) ?_
      refine mm_aload_n dX12_right_199 rfl ?_
      refine rD_get (key := 11352) lk_X12_194_X12 lay_113 rfl rfl rfl dX12_right_200 R ?_
      refine mm_imul dX12_right_203 ?_
      refine mm_iload dX12_right_204 rfl ?_
      refine mm_iadd dX12_right_206 ?_
      refine mm_aload_n dX12_right_207 rfl ?_
      refine rD_getR (t := 123) lk_X12_47_X12 lay_113 rfl rfl dX12_right_208 R ?_
      refine mm_bipush (v := 60) dX12_right_211 (by decide +kernel) ?_
      refine mm_iload_n dX12_right_213 rfl ?_
      refine mm_imul dX12_right_214 ?_
      refine mm_iload dX12_right_215 rfl ?_
      refine mm_iadd dX12_right_217 ?_
      obtain ⟨b34, H⟩ := hB H
      refine rD_iald lay_125 rfl dX12_right_218 R b34 ?_
      obtain ⟨b35, H⟩ := hB H
      obtain ⟨D36, e37, H⟩ := hD H
      refine rD_iast lay_125 rfl dX12_right_219 R b35 e37 (fun h R => ?_)
      refine mm_iinc (v := (x5 + 1)) (ls' := [some (.ref 113), some (.int x1), some (.int x2), none, none, some (.int (x5 + 1))]) dX12_right_220 rfl rfl rfl ?_
      refine mm_goto 187 dX12_right_223 (by decide) ?_
      exact ih _ _ _ R H
def f_X12_right_L229 (N : Nat) (x1 : Int32) (x2 : Int32) : Nat → Int32 → CS → Option (CS)
  | 0, _, _ => none
  | n + 1, x5, D => if x2 ≤ x5 then (some D)
    else (if inb x5 3000 = true then (if inb (((60 * (gI D 11352)) + 2) + x5) 18000 = true then (bd (sA D 125 ((((60 * (gI D 11352)) + 2) + x5)).toNatClampNeg (gA D 114 (x5).toNatClampNeg)) fun D43 =>
    f_X12_right_L229 N x1 x2 n (x5 + 1) D43) else none) else none)
theorem t_X12_right_L229 {g : mm_G} {d : Nat} {Post : mm_Ou → mm_Hp → Prop} {C : CS} {N : Nat} {x1 : Int32} {x2 : Int32} {res : (CS)} (hd : 5 ≤ d) (KE : ∀ (h1 : mm_Hp), Rep h1 C res → mm_P g d MX12_right 265 [some (.ref 113), some (.int x1), some (.int x2), none, none, none] [] h1 Post) : ∀ (n : Nat) (x5 : Int32) (D : CS) (h : mm_Hp) , Rep h C D → f_X12_right_L229 N x1 x2 n x5 D = some res → mm_P g d MX12_right 229 [some (.ref 113), some (.int x1), some (.int x2), none, none, some (.int x5)] [] h Post := by
  intro n
  induction n with
  | zero =>
    intro x5 D h R H
    exact hN H
  | succ n ih =>
    intro x5 D h R H
    unfold f_X12_right_L229 at H
    refine mm_iload dX12_right_229 rfl ?_
    refine mm_iload_n dX12_right_231 rfl ?_
    refine mm_icmp_ge 265 dX12_right_232 (by decide) (fun c40 => ?_) (fun c40 => ?_)
    · replace H := hT c40 H
      refine mm_fgt (ls' := [some (.ref 113), some (.int x1), some (.int x2), none, none, none]) ⟨rfl, rfl, rfl, trivial⟩ ?_
      cases H
      exact KE _ R
    · replace H := hF c40 H
      refine mm_aload_n dX12_right_235 rfl ?_
      refine rD_getR (t := 123) lk_X12_47_X12 lay_113 rfl rfl dX12_right_236 R ?_
      refine mm_bipush (v := 60) dX12_right_239 (by decide +kernel) ?_
      refine mm_aload_n dX12_right_241 rfl ?_
      refine rD_get (key := 11352) lk_X12_194_X12 lay_113 rfl rfl rfl dX12_right_242 R ?_
      refine mm_imul dX12_right_245 ?_
      refine mm_iconst (v := 2) dX12_right_246 (by decide +kernel) ?_
      refine mm_iadd dX12_right_247 ?_
      refine mm_iload dX12_right_248 rfl ?_
      refine mm_iadd dX12_right_250 ?_
      refine mm_aload_n dX12_right_251 rfl ?_
      refine rD_getR (t := 112) lk_X12_9_X12 lay_113 rfl rfl dX12_right_252 R ?_
      refine mm_iload dX12_right_255 rfl ?_
      obtain ⟨b41, H⟩ := hB H
      refine rD_iald lay_114 rfl dX12_right_257 R b41 ?_
      obtain ⟨b42, H⟩ := hB H
      obtain ⟨D43, e44, H⟩ := hD H
      refine rD_iast lay_125 rfl dX12_right_258 R b42 e44 (fun h R => ?_)
      refine mm_iinc (v := (x5 + 1)) (ls' := [some (.ref 113), some (.int x1), some (.int x2), none, none, some (.int (x5 + 1))]) dX12_right_259 rfl rfl rfl ?_
      refine mm_goto 229 dX12_right_262 (by decide) ?_
      exact ih _ _ _ R H
