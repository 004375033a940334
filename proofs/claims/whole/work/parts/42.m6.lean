def f_X12_shown_L136 (N : Nat) (x1 : Int32) (x2 : Int32) (x4 : Int32) (x5 : Int32) (D : CS) : Nat → Int32 → Int32 → Option (Int32)
  | 0, _, _ => none
  | n + 1, x3, x7 => if (gI D 11320) ≤ x7 then (some x3)
    else (if x7 = x5 then (f_X12_shown_L136 N x1 x2 x4 x5 D n x3 (x7 + 1))
      else (bnd (f_X12_doQuarrel N x5 x7 x2 D) fun q24 =>
      if q24 = 0 then (f_X12_shown_L136 N x1 x2 x4 x5 D n x3 (x7 + 1))
        else (f_X12_shown_L136 N x1 x2 x4 x5 D n 2 (x7 + 1))))
theorem t_X12_shown_L136 {g : mm_G} {d : Nat} {Post : mm_Ou → mm_Hp → Prop} {h : mm_Hp} {C D : CS} {N : Nat} {x1 : Int32} {x2 : Int32} {x4 : Int32} {x5 : Int32} {res : (Int32)} (hd : 4 ≤ d) (R : Rep h C D) (KE : mm_P g d MX12_shown 172 [some (.ref 113), some (.int x1), some (.int x2), some (.int res), some (.int x4), none, none, none] [] h Post) : ∀ (n : Nat) (x3 : Int32) (x7 : Int32) , f_X12_shown_L136 N x1 x2 x4 x5 D n x3 x7 = some res → mm_P g d MX12_shown 136 [some (.ref 113), some (.int x1), some (.int x2), some (.int x3), some (.int x4), some (.int x5), none, some (.int x7)] [] h Post := by
  intro n
  induction n with
  | zero =>
    intro x3 x7 H
    exact hN H
  | succ n ih =>
    intro x3 x7 H
    unfold f_X12_shown_L136 at H
    refine mm_iload dX12_shown_136 rfl ?_
    refine mm_aload_n dX12_shown_138 rfl ?_
    refine rD_get (key := 11320) lk_X12_188_X12 lay_113 rfl rfl rfl dX12_shown_139 R ?_
    refine mm_icmp_ge 172 dX12_shown_142 (by decide) (fun c22 => ?_) (fun c22 => ?_)
    · replace H := hT c22 H
      refine mm_fgt (ls' := [some (.ref 113), some (.int x1), some (.int x2), some (.int x3), some (.int x4), none, none, none]) ⟨rfl, rfl, rfl, rfl, rfl, trivial⟩ ?_
      cases H
      exact KE
    · replace H := hF c22 H
      refine mm_iload dX12_shown_145 rfl ?_
      refine mm_iload dX12_shown_147 rfl ?_
      refine mm_icmp_eq 166 dX12_shown_149 (by decide) (fun c23 => ?_) (fun c23 => ?_)
      · replace H := hT c23 H
        refine mm_iinc (v := (x7 + 1)) (ls' := [some (.ref 113), some (.int x1), some (.int x2), some (.int x3), some (.int x4), some (.int x5), none, some (.int (x7 + 1))]) dX12_shown_166 rfl rfl rfl ?_
        refine mm_goto 136 dX12_shown_169 (by decide) ?_
        exact ih _ _ H
      · replace H := hF c23 H
        refine mm_aload_n dX12_shown_152 rfl ?_
        refine mm_iload dX12_shown_153 rfl ?_
        refine mm_iload dX12_shown_155 rfl ?_
        refine mm_iload_n dX12_shown_157 rfl ?_
        obtain ⟨q24, H25, H⟩ := hC H
        refine mm_callV (d' := d - 1) (as := [.int x5, .int x7, .int x2]) (st := []) (dS hd) cm_X12_doQuarrel (mm_t7 21 rfl rfl) (mm_t7 23 rfl rfl) (mm_s4 6 rfl rfl) (T := TX12) (N := 54) rfl dX12_shown_158 (R.oD (r := 113) rfl lay_113) rfl (Nat.le_of_ble_eq_true rfl) (Nat.le_of_ble_eq_true rfl) rfl rfl (t_X12_doQuarrel (dL hd (by decide)) R H25) (fun o u q => mm_thenI q ?_)
        refine mm_if_eq 166 dX12_shown_161 (by decide) (fun c26 => ?_) (fun c26 => ?_)
        · replace H := hT c26 H
          refine mm_iinc (v := (x7 + 1)) (ls' := [some (.ref 113), some (.int x1), some (.int x2), some (.int x3), some (.int x4), some (.int x5), none, some (.int (x7 + 1))]) dX12_shown_166 rfl rfl rfl ?_
          refine mm_goto 136 dX12_shown_169 (by decide) ?_
          exact ih _ _ H
        · replace H := hF c26 H
          refine mm_iconst (v := 2) dX12_shown_164 (by decide +kernel) ?_
          refine mm_istore_n (ls' := [some (.ref 113), some (.int x1), some (.int x2), some (.int 2), some (.int x4), some (.int x5), none, some (.int x7)]) dX12_shown_165 (Nat.le_of_ble_eq_true rfl) rfl ?_
          refine mm_iinc (v := (x7 + 1)) (ls' := [some (.ref 113), some (.int x1), some (.int x2), some (.int 2), some (.int x4), some (.int x5), none, some (.int (x7 + 1))]) dX12_shown_166 rfl rfl rfl ?_
          refine mm_goto 136 dX12_shown_169 (by decide) ?_
          exact ih _ _ H
def f_X12_shown_L28 (N : Nat) (x1 : Int32) (x2 : Int32) (D : CS) : Nat → Int32 → Int32 → Option (Int32)
  | 0, _, _ => none
  | n + 1, x3, x4 => if inb x1 40 = true then (if (gA D 144 (x1).toNatClampNeg) ≤ x4 then (some x3)
    else (if inb ((8 * x1) + x4) 320 = true then (if inb (gA D 145 (((8 * x1) + x4)).toNatClampNeg) 150 = true then (if inb x1 40 = true then (if (gA D 127 ((gA D 145 (((8 * x1) + x4)).toNatClampNeg)).toNatClampNeg) = (gA D 141 (x1).toNatClampNeg) then (if inb (gA D 145 (((8 * x1) + x4)).toNatClampNeg) 150 = true then (if inb x1 40 = true then (if (gA D 128 ((gA D 145 (((8 * x1) + x4)).toNatClampNeg)).toNatClampNeg) = (gA D 142 (x1).toNatClampNeg) then (if inb (gA D 145 (((8 * x1) + x4)).toNatClampNeg) 150 = true then (if inb x1 40 = true then (if (gA D 129 ((gA D 145 (((8 * x1) + x4)).toNatClampNeg)).toNatClampNeg) = (gA D 143 (x1).toNatClampNeg) then (bnd (f_X12_standsOn N (gA D 145 (((8 * x1) + x4)).toNatClampNeg) x2 D) fun q19 =>
          if q19 = 1 then (bnd (f_X12_shown_L136 N x1 x2 x4 (gA D 145 (((8 * x1) + x4)).toNatClampNeg) D N (if x3 < 1 then 1 else x3) 0) fun q27 =>
              f_X12_shown_L28 N x1 x2 D n q27 (x4 + 1))
            else (f_X12_shown_L28 N x1 x2 D n x3 (x4 + 1)))
          else (f_X12_shown_L28 N x1 x2 D n x3 (x4 + 1))) else none) else none)
        else (f_X12_shown_L28 N x1 x2 D n x3 (x4 + 1))) else none) else none)
      else (f_X12_shown_L28 N x1 x2 D n x3 (x4 + 1))) else none) else none) else none)) else none
theorem t_X12_shown_L28 {g : mm_G} {d : Nat} {Post : mm_Ou → mm_Hp → Prop} {h : mm_Hp} {C D : CS} {N : Nat} {x1 : Int32} {x2 : Int32} {res : (Int32)} (hd : 4 ≤ d) (R : Rep h C D) (KE : mm_P g d MX12_shown 178 [none, none, none, some (.int res), none, none, none, none] [] h Post) : ∀ (n : Nat) (x3 : Int32) (x4 : Int32) , f_X12_shown_L28 N x1 x2 D n x3 x4 = some res → mm_P g d MX12_shown 28 [some (.ref 113), some (.int x1), some (.int x2), some (.int x3), some (.int x4), none, none, none] [] h Post := by
  intro n
  induction n with
  | zero =>
    intro x3 x4 H
    exact hN H
  | succ n ih =>
    intro x3 x4 H
    unfold f_X12_shown_L28 at H
    refine mm_iload dX12_shown_28 rfl ?_
    refine mm_aload_n dX12_shown_30 rfl ?_
    refine rD_getR (t := 142) lk_X12_105_X12 lay_113 rfl rfl dX12_shown_31 R ?_
    refine mm_iload_n dX12_shown_34 rfl ?_
    obtain ⟨b7, H⟩ := hB H
    refine rD_iald lay_144 rfl dX12_shown_35 R b7 ?_
    refine mm_icmp_ge 178 dX12_shown_36 (by decide) (fun c8 => ?_) (fun c8 => ?_)
    · replace H := hT c8 H
      refine mm_fgt (ls' := [none, none, none, some (.int x3), none, none, none, none]) ⟨rfl, trivial⟩ ?_
      cases H
      exact KE
    · replace H := hF c8 H
      refine mm_aload_n dX12_shown_39 rfl ?_
      refine rD_getR (t := 143) lk_X12_108_X12 lay_113 rfl rfl dX12_shown_40 R ?_
      refine mm_bipush (v := 8) dX12_shown_43 (by decide +kernel) ?_
      refine mm_iload_n dX12_shown_45 rfl ?_
      refine mm_imul dX12_shown_46 ?_
      refine mm_iload dX12_shown_47 rfl ?_
      refine mm_iadd dX12_shown_49 ?_
      obtain ⟨b9, H⟩ := hB H
      refine rD_iald lay_145 rfl dX12_shown_50 R b9 ?_
      refine mm_istore (ls' := [some (.ref 113), some (.int x1), some (.int x2), some (.int x3), some (.int x4), some (.int (gA D 145 (((8 * x1) + x4)).toNatClampNeg)), none, none]) dX12_shown_51 (Nat.le_of_ble_eq_true rfl) rfl ?_
      refine mm_aload_n dX12_shown_53 rfl ?_
      refine rD_getR (t := 125) lk_X12_53_X12 lay_113 rfl rfl dX12_shown_54 R ?_
      refine mm_iload dX12_shown_57 rfl ?_
      obtain ⟨b10, H⟩ := hB H
      refine rD_iald lay_127 rfl dX12_shown_59 R b10 ?_
      refine mm_aload_n dX12_shown_60 rfl ?_
      refine rD_getR (t := 139) lk_X12_96_X12 lay_113 rfl rfl dX12_shown_61 R ?_
      refine mm_iload_n dX12_shown_64 rfl ?_
      obtain ⟨b11, H⟩ := hB H
      refine rD_iald lay_141 rfl dX12_shown_65 R b11 ?_
      refine mm_icmp_ne 116 dX12_shown_66 (by decide) (fun c12 => ?_) (fun c12 => ?_)
      · replace H := hF c12 H
        refine mm_iconst (v := 0) dX12_shown_116 (by decide +kernel) ?_
        refine mm_istore (ls' := [some (.ref 113), some (.int x1), some (.int x2), some (.int x3), some (.int x4), some (.int (gA D 145 (((8 * x1) + x4)).toNatClampNeg)), some (.int 0), none]) dX12_shown_117 (Nat.le_of_ble_eq_true rfl) rfl ?_
        refine mm_iload dX12_shown_119 rfl ?_
        refine mm_if_ne 127 dX12_shown_121 (by decide) (fun c => absurd rfl c) (fun _ => ?_)
        refine mm_goto 172 dX12_shown_124 (by decide) ?_
        refine mm_iinc (v := (x4 + 1)) (ls' := [some (.ref 113), some (.int x1), some (.int x2), some (.int x3), some (.int (x4 + 1)), some (.int (gA D 145 (((8 * x1) + x4)).toNatClampNeg)), some (.int 0), none]) dX12_shown_172 rfl rfl rfl ?_
        refine mm_goto 28 dX12_shown_175 (by decide) ?_
        refine mm_fgt (ls' := [some (.ref 113), some (.int x1), some (.int x2), some (.int x3), some (.int (x4 + 1)), none, none, none]) ⟨rfl, rfl, rfl, rfl, rfl, trivial⟩ ?_
        exact ih _ _ H
      · replace H := hT c12 H
        refine mm_aload_n dX12_shown_69 rfl ?_
        refine rD_getR (t := 126) lk_X12_56_X12 lay_113 rfl rfl dX12_shown_70 R ?_
        refine mm_iload dX12_shown_73 rfl ?_
        obtain ⟨b13, H⟩ := hB H
        refine rD_iald lay_128 rfl dX12_shown_75 R b13 ?_
        refine mm_aload_n dX12_shown_76 rfl ?_
        refine rD_getR (t := 140) lk_X12_99_X12 lay_113 rfl rfl dX12_shown_77 R ?_
        refine mm_iload_n dX12_shown_80 rfl ?_
        obtain ⟨b14, H⟩ := hB H
        refine rD_iald lay_142 rfl dX12_shown_81 R b14 ?_
        refine mm_icmp_ne 116 dX12_shown_82 (by decide) (fun c15 => ?_) (fun c15 => ?_)
        · replace H := hF c15 H
          refine mm_iconst (v := 0) dX12_shown_116 (by decide +kernel) ?_
          refine mm_istore (ls' := [some (.ref 113), some (.int x1), some (.int x2), some (.int x3), some (.int x4), some (.int (gA D 145 (((8 * x1) + x4)).toNatClampNeg)), some (.int 0), none]) dX12_shown_117 (Nat.le_of_ble_eq_true rfl) rfl ?_
          refine mm_iload dX12_shown_119 rfl ?_
          refine mm_if_ne 127 dX12_shown_121 (by decide) (fun c => absurd rfl c) (fun _ => ?_)
          refine mm_goto 172 dX12_shown_124 (by decide) ?_
          refine mm_iinc (v := (x4 + 1)) (ls' := [some (.ref 113), some (.int x1), some (.int x2), some (.int x3), some (.int (x4 + 1)), some (.int (gA D 145 (((8 * x1) + x4)).toNatClampNeg)), some (.int 0), none]) dX12_shown_172 rfl rfl rfl ?_
          refine mm_goto 28 dX12_shown_175 (by decide) ?_
          refine mm_fgt (ls' := [some (.ref 113), some (.int x1), some (.int x2), some (.int x3), some (.int (x4 + 1)), none, none, none]) ⟨rfl, rfl, rfl, rfl, rfl, trivial⟩ ?_
          exact ih _ _ H
        · replace H := hT c15 H
          refine mm_aload_n dX12_shown_85 rfl ?_
          refine rD_getR (t := 127) lk_X12_59_X12 lay_113 rfl rfl dX12_shown_86 R ?_
          refine mm_iload dX12_shown_89 rfl ?_
          obtain ⟨b16, H⟩ := hB H
          refine rD_iald lay_129 rfl dX12_shown_91 R b16 ?_
          refine mm_aload_n dX12_shown_92 rfl ?_
          refine rD_getR (t := 141) lk_X12_102_X12 lay_113 rfl rfl dX12_shown_93 R ?_
          refine mm_iload_n dX12_shown_96 rfl ?_
          obtain ⟨b17, H⟩ := hB H
          refine rD_iald lay_143 rfl dX12_shown_97 R b17 ?_
          refine mm_icmp_ne 116 dX12_shown_98 (by decide) (fun c18 => ?_) (fun c18 => ?_)
          · replace H := hF c18 H
            refine mm_iconst (v := 0) dX12_shown_116 (by decide +kernel) ?_
            refine mm_istore (ls' := [some (.ref 113), some (.int x1), some (.int x2), some (.int x3), some (.int x4), some (.int (gA D 145 (((8 * x1) + x4)).toNatClampNeg)), some (.int 0), none]) dX12_shown_117 (Nat.le_of_ble_eq_true rfl) rfl ?_
            refine mm_iload dX12_shown_119 rfl ?_
            refine mm_if_ne 127 dX12_shown_121 (by decide) (fun c => absurd rfl c) (fun _ => ?_)
            refine mm_goto 172 dX12_shown_124 (by decide) ?_
            refine mm_iinc (v := (x4 + 1)) (ls' := [some (.ref 113), some (.int x1), some (.int x2), some (.int x3), some (.int (x4 + 1)), some (.int (gA D 145 (((8 * x1) + x4)).toNatClampNeg)), some (.int 0), none]) dX12_shown_172 rfl rfl rfl ?_
            refine mm_goto 28 dX12_shown_175 (by decide) ?_
            refine mm_fgt (ls' := [some (.ref 113), some (.int x1), some (.int x2), some (.int x3), some (.int (x4 + 1)), none, none, none]) ⟨rfl, rfl, rfl, rfl, rfl, trivial⟩ ?_
            exact ih _ _ H
          · replace H := hT c18 H
            refine mm_aload_n dX12_shown_101 rfl ?_
            refine mm_iload dX12_shown_102 rfl ?_
            refine mm_iload_n dX12_shown_104 rfl ?_
            obtain ⟨q19, H20, H⟩ := hC H
            refine mm_callV (d' := d - 1) (as := [.int (gA D 145 (((8 * x1) + x4)).toNatClampNeg), .int x2]) (st := []) (dS hd) cm_X12_standsOn (mm_t7 1 rfl rfl) (mm_t7 3 rfl rfl) (mm_s4 2 rfl rfl) (T := TX12) (N := 54) rfl dX12_shown_105 (R.oD (r := 113) rfl lay_113) rfl (Nat.le_of_ble_eq_true rfl) (Nat.le_of_ble_eq_true rfl) rfl rfl (t_X12_standsOn (dL hd (by decide)) R H20) (fun o u q => mm_thenI q ?_)
            refine mm_iconst (v := 1) dX12_shown_108 (by decide +kernel) ?_
            refine mm_icmp_ne 116 dX12_shown_109 (by decide) (fun c21 => ?_) (fun c21 => ?_)
            · replace H := hF c21 H
              refine mm_iconst (v := 0) dX12_shown_116 (by decide +kernel) ?_
              refine mm_istore (ls' := [some (.ref 113), some (.int x1), some (.int x2), some (.int x3), some (.int x4), some (.int (gA D 145 (((8 * x1) + x4)).toNatClampNeg)), some (.int 0), none]) dX12_shown_117 (Nat.le_of_ble_eq_true rfl) rfl ?_
              refine mm_iload dX12_shown_119 rfl ?_
              refine mm_if_ne 127 dX12_shown_121 (by decide) (fun c => absurd rfl c) (fun _ => ?_)
              refine mm_goto 172 dX12_shown_124 (by decide) ?_
              refine mm_iinc (v := (x4 + 1)) (ls' := [some (.ref 113), some (.int x1), some (.int x2), some (.int x3), some (.int (x4 + 1)), some (.int (gA D 145 (((8 * x1) + x4)).toNatClampNeg)), some (.int 0), none]) dX12_shown_172 rfl rfl rfl ?_
              refine mm_goto 28 dX12_shown_175 (by decide) ?_
              refine mm_fgt (ls' := [some (.ref 113), some (.int x1), some (.int x2), some (.int x3), some (.int (x4 + 1)), none, none, none]) ⟨rfl, rfl, rfl, rfl, rfl, trivial⟩ ?_
              exact ih _ _ H
            · replace H := hT c21 H
              refine mm_iconst (v := 1) dX12_shown_112 (by decide +kernel) ?_
              refine mm_goto 117 dX12_shown_113 (by decide) ?_
              refine mm_istore (ls' := [some (.ref 113), some (.int x1), some (.int x2), some (.int x3), some (.int x4), some (.int (gA D 145 (((8 * x1) + x4)).toNatClampNeg)), some (.int 1), none]) dX12_shown_117 (Nat.le_of_ble_eq_true rfl) rfl ?_
              refine mm_iload dX12_shown_119 rfl ?_
              refine mm_if_ne 127 dX12_shown_121 (by decide) (fun _ => ?_) (fun c => absurd c (by decide))
              refine mm_iload_n dX12_shown_127 rfl ?_
              refine mm_iconst (v := 1) dX12_shown_128 (by decide +kernel) ?_
              refine mm_max (mm_t7 58 rfl rfl) (mm_t3 179 rfl rfl) (mm_t1 15 rfl rfl) (mm_t3 180 rfl rfl) (Nat.le_trans (by decide) hd) rfl (Nat.le_of_ble_eq_true rfl) dX12_shown_129 ?_
              refine mm_istore_n (ls' := [some (.ref 113), some (.int x1), some (.int x2), some (.int (if x3 < 1 then 1 else x3)), some (.int x4), some (.int (gA D 145 (((8 * x1) + x4)).toNatClampNeg)), some (.int 1), none]) dX12_shown_132 (Nat.le_of_ble_eq_true rfl) rfl ?_
              refine mm_iconst (v := 0) dX12_shown_133 (by decide +kernel) ?_
              refine mm_istore (ls' := [some (.ref 113), some (.int x1), some (.int x2), some (.int (if x3 < 1 then 1 else x3)), some (.int x4), some (.int (gA D 145 (((8 * x1) + x4)).toNatClampNeg)), some (.int 1), some (.int 0)]) dX12_shown_134 (Nat.le_of_ble_eq_true rfl) rfl ?_
              obtain ⟨q27, H28, H⟩ := hC H
              refine mm_fgt (ls' := [some (.ref 113), some (.int x1), some (.int x2), some (.int (if x3 < 1 then 1 else x3)), some (.int x4), some (.int (gA D 145 (((8 * x1) + x4)).toNatClampNeg)), none, some (.int 0)]) ⟨rfl, rfl, rfl, rfl, rfl, rfl, rfl, trivial⟩ ?_
              refine t_X12_shown_L136 hd R ?_ N _ _ H28
              refine mm_iinc (v := (x4 + 1)) (ls' := [some (.ref 113), some (.int x1), some (.int x2), some (.int q27), some (.int (x4 + 1)), none, none, none]) dX12_shown_172 rfl rfl rfl ?_
              refine mm_goto 28 dX12_shown_175 (by decide) ?_
              exact ih _ _ H
def f_X12_shown (N : Nat) (x1 : Int32) (x2 : Int32) (D : CS) : Option (Int32 × CS) :=
  bd (sI D 11300 0) fun D1 =>
  if x1 < 0 then (bnd (f_X12_fail 1 D1) fun q4 =>
    some (q4.1, q4.2))
    else (if x1 < (gI D1 11335) then (bnd (f_X12_shown_L28 N x1 x2 D1 N 0 0) fun q29 =>
        some (q29, D1))
        else (bnd (f_X12_fail 1 D1) fun q31 =>
      some (q31.1, q31.2)))
theorem t_X12_shown {g : mm_G} {d : Nat} {h : mm_Hp} {C D : CS} {N : Nat} {x1 : Int32} {x2 : Int32} {r : (Int32 × CS)} (hd : 4 ≤ d) (R : Rep h C D) (H : f_X12_shown N x1 x2 D = some r) : mm_P g d MX12_shown 0 [some (.ref 113), some (.int x1), some (.int x2), none, none, none, none, none] [] h (dI C r) := by
  unfold f_X12_shown at H
  refine mm_aload_n dX12_shown_0 rfl ?_
  refine mm_iconst (v := 0) dX12_shown_1 (by decide +kernel) ?_
  obtain ⟨D1, e2, H⟩ := hD H
  refine rD_put (key := 11300) lk_X12_111_X12 lay_113 rfl rfl rfl rfl rfl dX12_shown_2 R e2 (fun h R => ?_)
  refine mm_iload_n dX12_shown_5 rfl ?_
  refine mm_if_lt 17 dX12_shown_6 (by decide) (fun c3 => ?_) (fun c3 => ?_)
  · replace H := hT c3 H
    refine mm_aload_n dX12_shown_17 rfl ?_
    refine mm_iconst (v := 1) dX12_shown_18 (by decide +kernel) ?_
    obtain ⟨q4, H5, H⟩ := hC H
    refine mm_callV (d' := d - 1) (as := [.int 1]) (st := []) (dS hd) cm_X12_fail (mm_t6 129 rfl rfl) (mm_t6 131 rfl rfl) (mm_s2 15 rfl rfl) (T := TX12) (N := 54) rfl dX12_shown_19 (R.oD (r := 113) rfl lay_113) rfl (Nat.le_of_ble_eq_true rfl) (Nat.le_of_ble_eq_true rfl) rfl rfl (t_X12_fail (dL hd (by decide)) R H5) (fun o h q => th_dI q (fun R => ?_))
    refine mm_iret rfl rfl dX12_shown_22 ?_
    exact en_dI H R
  · replace H := hF c3 H
    refine mm_iload_n dX12_shown_9 rfl ?_
    refine mm_aload_n dX12_shown_10 rfl ?_
    refine rD_get (key := 11335) lk_X12_300_X12 lay_113 rfl rfl rfl dX12_shown_11 R ?_
    refine mm_icmp_lt 23 dX12_shown_14 (by decide) (fun c6 => ?_) (fun c6 => ?_)
    · replace H := hT c6 H
      refine mm_iconst (v := 0) dX12_shown_23 (by decide +kernel) ?_
      refine mm_istore_n (ls' := [some (.ref 113), some (.int x1), some (.int x2), some (.int 0), none, none, none, none]) dX12_shown_24 (Nat.le_of_ble_eq_true rfl) rfl ?_
      refine mm_iconst (v := 0) dX12_shown_25 (by decide +kernel) ?_
      refine mm_istore (ls' := [some (.ref 113), some (.int x1), some (.int x2), some (.int 0), some (.int 0), none, none, none]) dX12_shown_26 (Nat.le_of_ble_eq_true rfl) rfl ?_
      obtain ⟨q29, H30, H⟩ := hC H
      refine t_X12_shown_L28 hd R ?_ N _ _ H30
      refine mm_iload_n dX12_shown_178 rfl ?_
      refine mm_iret rfl rfl dX12_shown_179 ?_
      exact en_dI H R
    · replace H := hF c6 H
      refine mm_aload_n dX12_shown_17 rfl ?_
      refine mm_iconst (v := 1) dX12_shown_18 (by decide +kernel) ?_
      obtain ⟨q31, H32, H⟩ := hC H
      refine mm_callV (d' := d - 1) (as := [.int 1]) (st := []) (dS hd) cm_X12_fail (mm_t6 129 rfl rfl) (mm_t6 131 rfl rfl) (mm_s2 15 rfl rfl) (T := TX12) (N := 54) rfl dX12_shown_19 (R.oD (r := 113) rfl lay_113) rfl (Nat.le_of_ble_eq_true rfl) (Nat.le_of_ble_eq_true rfl) rfl rfl (t_X12_fail (dL hd (by decide)) R H32) (fun o h q => th_dI q (fun R => ?_))
      refine mm_iret rfl rfl dX12_shown_22 ?_
      exact en_dI H R
def f_X12_count (x1 : Int32) (D : CS) : Option (Int32 × CS) :=
  bd (sI D 11300 0) fun D1 =>
  if x1 = 0 then (some ((gI D1 11308), D1))
    else if x1 = 1 then (some ((gI D1 11306), D1))
    else if x1 = 2 then (some ((gI D1 11320), D1))
    else if x1 = 3 then (some ((gI D1 11321), D1))
    else if x1 = 4 then (some ((gI D1 11322), D1))
    else if x1 = 5 then (some ((gI D1 11305), D1))
    else if x1 = 6 then (some ((gI D1 11334), D1))
    else if x1 = 7 then (some ((gI D1 11335), D1))
    else if x1 = 8 then (some ((gI D1 11303), D1))
    else if x1 = 9 then (bnd (f_X12_bytes D1) fun q13 =>
    some (q13, D1))
    else (bnd (f_X12_fail 1 D1) fun q15 =>
    some (q15.1, q15.2))
theorem t_X12_count {g : mm_G} {d : Nat} {h : mm_Hp} {C D : CS} {x1 : Int32} {r : (Int32 × CS)} (hd : 2 ≤ d) (R : Rep h C D) (H : f_X12_count x1 D = some r) : mm_P g d MX12_count 0 [some (.ref 113), some (.int x1)] [] h (dI C r) := by
  unfold f_X12_count at H
  refine mm_aload_n dX12_count_0 rfl ?_
  refine mm_iconst (v := 0) dX12_count_1 (by decide +kernel) ?_
  obtain ⟨D1, e2, H⟩ := hD H
  refine rD_put (key := 11300) lk_X12_111_X12 lay_113 rfl rfl rfl rfl rfl dX12_count_2 R e2 (fun h R => ?_)
  refine mm_iload_n dX12_count_5 rfl ?_
  by_cases c3 : x1 = 0
  · replace H := hT c3 H
    refine mm_tabIn 60 dX12_count_6 (by rw [c3]; decide) (by rw [c3]; decide) (by rw [c3]; rfl) (by decide) ?_
    refine mm_aload_n dX12_count_60 rfl ?_
    refine rD_get (key := 11308) lk_X12_114_X12 lay_113 rfl rfl rfl dX12_count_61 R ?_
    refine mm_iret rfl rfl dX12_count_64 ?_
    exact en_dI H R
  replace H := hF c3 H
  by_cases c4 : x1 = 1
  · replace H := hT c4 H
    refine mm_tabIn 65 dX12_count_6 (by rw [c4]; decide) (by rw [c4]; decide) (by rw [c4]; rfl) (by decide) ?_
    refine mm_aload_n dX12_count_65 rfl ?_
    refine rD_get (key := 11306) lk_X12_210_X12 lay_113 rfl rfl rfl dX12_count_66 R ?_
    refine mm_iret rfl rfl dX12_count_69 ?_
    exact en_dI H R
  replace H := hF c4 H
  by_cases c5 : x1 = 2
  · replace H := hT c5 H
    refine mm_tabIn 70 dX12_count_6 (by rw [c5]; decide) (by rw [c5]; decide) (by rw [c5]; rfl) (by decide) ?_
    refine mm_aload_n dX12_count_70 rfl ?_
    refine rD_get (key := 11320) lk_X12_188_X12 lay_113 rfl rfl rfl dX12_count_71 R ?_
    refine mm_iret rfl rfl dX12_count_74 ?_
    exact en_dI H R
  replace H := hF c5 H
  by_cases c6 : x1 = 3
  · replace H := hT c6 H
    refine mm_tabIn 75 dX12_count_6 (by rw [c6]; decide) (by rw [c6]; decide) (by rw [c6]; rfl) (by decide) ?_
    refine mm_aload_n dX12_count_75 rfl ?_
    refine rD_get (key := 11321) lk_X12_174_X12 lay_113 rfl rfl rfl dX12_count_76 R ?_
    refine mm_iret rfl rfl dX12_count_79 ?_
    exact en_dI H R
  replace H := hF c6 H
  by_cases c7 : x1 = 4
  · replace H := hT c7 H
    refine mm_tabIn 80 dX12_count_6 (by rw [c7]; decide) (by rw [c7]; decide) (by rw [c7]; rfl) (by decide) ?_
    refine mm_aload_n dX12_count_80 rfl ?_
    refine rD_get (key := 11322) lk_X12_120_X12 lay_113 rfl rfl rfl dX12_count_81 R ?_
    refine mm_iret rfl rfl dX12_count_84 ?_
    exact en_dI H R
  replace H := hF c7 H
  by_cases c8 : x1 = 5
  · replace H := hT c8 H
    refine mm_tabIn 85 dX12_count_6 (by rw [c8]; decide) (by rw [c8]; decide) (by rw [c8]; rfl) (by decide) ?_
    refine mm_aload_n dX12_count_85 rfl ?_
    refine rD_get (key := 11305) lk_X12_229_X12 lay_113 rfl rfl rfl dX12_count_86 R ?_
    refine mm_iret rfl rfl dX12_count_89 ?_
    exact en_dI H R
  replace H := hF c8 H
  by_cases c9 : x1 = 6
  · replace H := hT c9 H
    refine mm_tabIn 90 dX12_count_6 (by rw [c9]; decide) (by rw [c9]; decide) (by rw [c9]; rfl) (by decide) ?_
    refine mm_aload_n dX12_count_90 rfl ?_
    refine rD_get (key := 11334) lk_X12_240_X12 lay_113 rfl rfl rfl dX12_count_91 R ?_
    refine mm_iret rfl rfl dX12_count_94 ?_
    exact en_dI H R
  replace H := hF c9 H
  by_cases c10 : x1 = 7
  · replace H := hT c10 H
    refine mm_tabIn 95 dX12_count_6 (by rw [c10]; decide) (by rw [c10]; decide) (by rw [c10]; rfl) (by decide) ?_
    refine mm_aload_n dX12_count_95 rfl ?_
    refine rD_get (key := 11335) lk_X12_300_X12 lay_113 rfl rfl rfl dX12_count_96 R ?_
    refine mm_iret rfl rfl dX12_count_99 ?_
    exact en_dI H R
  replace H := hF c10 H
  by_cases c11 : x1 = 8
  · replace H := hT c11 H
    refine mm_tabIn 100 dX12_count_6 (by rw [c11]; decide) (by rw [c11]; decide) (by rw [c11]; rfl) (by decide) ?_
    refine mm_aload_n dX12_count_100 rfl ?_
    refine rD_get (key := 11303) lk_X12_117_X12 lay_113 rfl rfl rfl dX12_count_101 R ?_
    refine mm_iret rfl rfl dX12_count_104 ?_
    exact en_dI H R
  replace H := hF c11 H
  by_cases c12 : x1 = 9
  · replace H := hT c12 H
    refine mm_tabIn 105 dX12_count_6 (by rw [c12]; decide) (by rw [c12]; decide) (by rw [c12]; rfl) (by decide) ?_
    refine mm_aload_n dX12_count_105 rfl ?_
    obtain ⟨q13, H14, H⟩ := hC H
    refine mm_callV (d' := d - 1) (as := []) (st := []) (dS hd) cm_X12_bytes (mm_t7 75 rfl rfl) (mm_t7 77 rfl rfl) (mm_s4 10 rfl rfl) (T := TX12) (N := 54) rfl dX12_count_106 (R.oD (r := 113) rfl lay_113) rfl (Nat.le_of_ble_eq_true rfl) (Nat.le_of_ble_eq_true rfl) rfl rfl (t_X12_bytes (dL hd (by decide)) R H14) (fun o u q => mm_thenI q ?_)
    refine mm_iret rfl rfl dX12_count_109 ?_
    exact en_dI H R
  replace H := hF c12 H
  refine mm_tabOut 110 dX12_count_6 (sw_out 10 (by decide) (by rw [show (List.range 10).map nI = [0, 1, 2, 3, 4, 5, 6, 7, 8, 9] from rfl]; simp only [List.forall_mem_cons]; exact ⟨c3, c4, c5, c6, c7, c8, c9, c10, c11, c12, fun _ z => absurd z List.not_mem_nil⟩)) (by decide) ?_
  refine mm_aload_n dX12_count_110 rfl ?_
  refine mm_iconst (v := 1) dX12_count_111 (by decide +kernel) ?_
  obtain ⟨q15, H16, H⟩ := hC H
  refine mm_callV (d' := d - 1) (as := [.int 1]) (st := []) (dS hd) cm_X12_fail (mm_t6 129 rfl rfl) (mm_t6 131 rfl rfl) (mm_s2 15 rfl rfl) (T := TX12) (N := 54) rfl dX12_count_112 (R.oD (r := 113) rfl lay_113) rfl (Nat.le_of_ble_eq_true rfl) (Nat.le_of_ble_eq_true rfl) rfl rfl (t_X12_fail (dL hd (by decide)) R H16) (fun o h q => th_dI q (fun R => ?_))
  refine mm_iret rfl rfl dX12_count_115 ?_
  exact en_dI H R
