def f_X0_weigh (N : Nat) (x1 : Int32) (C : CS) : Option CS :=
  bnd (f_X0_weigh_L2 N x1 N 0 C) fun q8 =>
    some q8
theorem t_X0_weigh {g : mm_G} {d : Nat} {h : mm_Hp} {C D : CS} {N : Nat} {x1 : Int32} {r : CS} (hd : 4 ≤ d) (R : Rep h C D) (H : f_X0_weigh N x1 C = some r) : mm_P g d MX0_weigh 0 [some (.ref 111), some (.int x1), none] [] h (cV D r) := by
  unfold f_X0_weigh at H
  refine mm_iconst (v := 0) dX0_weigh_0 (by decide +kernel) ?_
  refine mm_istore_n (ls' := [some (.ref 111), some (.int x1), some (.int 0)]) dX0_weigh_1 (Nat.le_of_ble_eq_true rfl) rfl ?_
  obtain ⟨q8, H9, H⟩ := hC H
  refine t_X0_weigh_L2 hd (fun h R => ?_) N _ _ _ R H9
  refine mm_vret rfl dX0_weigh_40 ?_
  exact en_cV H R
def f_X0_clash_J101 (x1 : Int32) (x2 : Int32) (x3 : Int32) (C : CS) : Option Int32 :=
  if x3 = 0 then (some 0)
    else (if inb x1 150 = true then (if inb x2 150 = true then (if ((gA C 112 (x1).toNatClampNeg) * (gA C 112 (x2).toNatClampNeg)) = (-1) then (some 1)
      else (some 0)) else none) else none)
theorem t_X0_clash_J101 {g : mm_G} {d : Nat} {h : mm_Hp} {C D : CS} {x1 : Int32} {x2 : Int32} {x3 : Int32} {r : Int32} (hd : 0 ≤ d) (R : Rep h C D) (H : f_X0_clash_J101 x1 x2 x3 C = some r) : mm_P g d MX0_clash 101 [some (.ref 111), some (.int x1), some (.int x2), some (.int x3)] [] h (mm_pureI r h) := by
  unfold f_X0_clash_J101 at H
  refine mm_iload_n dX0_clash_101 rfl ?_
  refine mm_if_eq 126 dX0_clash_102 (by decide) (fun c12 => ?_) (fun c12 => ?_)
  · replace H := hT c12 H
    refine mm_iconst (v := 0) dX0_clash_126 (by decide +kernel) ?_
    refine mm_iret rfl rfl dX0_clash_127 ?_
    exact en_pI H
  · replace H := hF c12 H
    refine mm_aload_n dX0_clash_105 rfl ?_
    refine rC_getR (t := 110) lk_X0_9_X0 lay_111 rfl rfl dX0_clash_106 R ?_
    refine mm_iload_n dX0_clash_109 rfl ?_
    obtain ⟨b13, H⟩ := hB H
    refine rC_iald lay_112 rfl dX0_clash_110 R b13 ?_
    refine mm_aload_n dX0_clash_111 rfl ?_
    refine rC_getR (t := 110) lk_X0_9_X0 lay_111 rfl rfl dX0_clash_112 R ?_
    refine mm_iload_n dX0_clash_115 rfl ?_
    obtain ⟨b14, H⟩ := hB H
    refine rC_iald lay_112 rfl dX0_clash_116 R b14 ?_
    refine mm_imul dX0_clash_117 ?_
    refine mm_iconst (v := (-1)) dX0_clash_118 (by decide +kernel) ?_
    refine mm_icmp_ne 126 dX0_clash_119 (by decide) (fun c15 => ?_) (fun c15 => ?_)
    · replace H := hF c15 H
      refine mm_iconst (v := 0) dX0_clash_126 (by decide +kernel) ?_
      refine mm_iret rfl rfl dX0_clash_127 ?_
      exact en_pI H
    · replace H := hT c15 H
      refine mm_iconst (v := 1) dX0_clash_122 (by decide +kernel) ?_
      refine mm_goto 127 dX0_clash_123 (by decide) ?_
      refine mm_iret rfl rfl dX0_clash_127 ?_
      exact en_pI H
def f_X0_clash (x1 : Int32) (x2 : Int32) (C : CS) : Option Int32 :=
  if inb x1 150 = true then (if inb x2 150 = true then (if (gA C 88 (x1).toNatClampNeg) = (gA C 88 (x2).toNatClampNeg) then (if inb x1 150 = true then (if inb x2 150 = true then (if (gA C 89 (x1).toNatClampNeg) = (gA C 89 (x2).toNatClampNeg) then (if inb x1 150 = true then (if inb x2 150 = true then (if (gA C 90 (x1).toNatClampNeg) = (gA C 90 (x2).toNatClampNeg) then (if inb x1 150 = true then (if (gA C 112 (x1).toNatClampNeg) = 1 then (if inb x2 150 = true then (if (gA C 112 (x2).toNatClampNeg) = 1 then (some 0)
            else (f_X0_clash_J101 x1 x2 1 C)) else none)
          else (f_X0_clash_J101 x1 x2 1 C)) else none)
        else (if inb x1 150 = true then (if (gA C 112 (x1).toNatClampNeg) = 1 then (if inb x2 150 = true then (if (gA C 112 (x2).toNatClampNeg) = 1 then (some 1)
            else (f_X0_clash_J101 x1 x2 0 C)) else none)
          else (f_X0_clash_J101 x1 x2 0 C)) else none)) else none) else none)
      else (some 0)) else none) else none)
    else (some 0)) else none) else none
theorem t_X0_clash {g : mm_G} {d : Nat} {h : mm_Hp} {C D : CS} {x1 : Int32} {x2 : Int32} {r : Int32} (hd : 0 ≤ d) (R : Rep h C D) (H : f_X0_clash x1 x2 C = some r) : mm_P g d MX0_clash 0 [some (.ref 111), some (.int x1), some (.int x2), none] [] h (mm_pureI r h) := by
  unfold f_X0_clash at H
  refine mm_aload_n dX0_clash_0 rfl ?_
  refine rC_getR (t := 82) lk_X0_23_X0 lay_111 rfl rfl dX0_clash_1 R ?_
  refine rC_getR (t := 86) lk_X0_94_X3 lay_84 rfl rfl dX0_clash_4 R ?_
  refine mm_iload_n dX0_clash_7 rfl ?_
  obtain ⟨b1, H⟩ := hB H
  refine rC_iald lay_88 rfl dX0_clash_8 R b1 ?_
  refine mm_aload_n dX0_clash_9 rfl ?_
  refine rC_getR (t := 82) lk_X0_23_X0 lay_111 rfl rfl dX0_clash_10 R ?_
  refine rC_getR (t := 86) lk_X0_94_X3 lay_84 rfl rfl dX0_clash_13 R ?_
  refine mm_iload_n dX0_clash_16 rfl ?_
  obtain ⟨b2, H⟩ := hB H
  refine rC_iald lay_88 rfl dX0_clash_17 R b2 ?_
  refine mm_icmp_ne 42 dX0_clash_18 (by decide) (fun c3 => ?_) (fun c3 => ?_)
  · replace H := hF c3 H
    refine mm_iconst (v := 0) dX0_clash_42 (by decide +kernel) ?_
    refine mm_iret rfl rfl dX0_clash_43 ?_
    exact en_pI H
  · replace H := hT c3 H
    refine mm_aload_n dX0_clash_21 rfl ?_
    refine rC_getR (t := 82) lk_X0_23_X0 lay_111 rfl rfl dX0_clash_22 R ?_
    refine rC_getR (t := 87) lk_X0_97_X3 lay_84 rfl rfl dX0_clash_25 R ?_
    refine mm_iload_n dX0_clash_28 rfl ?_
    obtain ⟨b4, H⟩ := hB H
    refine rC_iald lay_89 rfl dX0_clash_29 R b4 ?_
    refine mm_aload_n dX0_clash_30 rfl ?_
    refine rC_getR (t := 82) lk_X0_23_X0 lay_111 rfl rfl dX0_clash_31 R ?_
    refine rC_getR (t := 87) lk_X0_97_X3 lay_84 rfl rfl dX0_clash_34 R ?_
    refine mm_iload_n dX0_clash_37 rfl ?_
    obtain ⟨b5, H⟩ := hB H
    refine rC_iald lay_89 rfl dX0_clash_38 R b5 ?_
    refine mm_icmp_eq 44 dX0_clash_39 (by decide) (fun c6 => ?_) (fun c6 => ?_)
    · replace H := hT c6 H
      refine mm_aload_n dX0_clash_44 rfl ?_
      refine rC_getR (t := 82) lk_X0_23_X0 lay_111 rfl rfl dX0_clash_45 R ?_
      refine rC_getR (t := 88) lk_X0_100_X3 lay_84 rfl rfl dX0_clash_48 R ?_
      refine mm_iload_n dX0_clash_51 rfl ?_
      obtain ⟨b7, H⟩ := hB H
      refine rC_iald lay_90 rfl dX0_clash_52 R b7 ?_
      refine mm_aload_n dX0_clash_53 rfl ?_
      refine rC_getR (t := 82) lk_X0_23_X0 lay_111 rfl rfl dX0_clash_54 R ?_
      refine rC_getR (t := 88) lk_X0_100_X3 lay_84 rfl rfl dX0_clash_57 R ?_
      refine mm_iload_n dX0_clash_60 rfl ?_
      obtain ⟨b8, H⟩ := hB H
      refine rC_iald lay_90 rfl dX0_clash_61 R b8 ?_
      refine mm_icmp_ne 69 dX0_clash_62 (by decide) (fun c9 => ?_) (fun c9 => ?_)
      · replace H := hF c9 H
        refine mm_iconst (v := 0) dX0_clash_69 (by decide +kernel) ?_
        refine mm_istore_n (ls' := [some (.ref 111), some (.int x1), some (.int x2), some (.int 0)]) dX0_clash_70 (Nat.le_of_ble_eq_true rfl) rfl ?_
        refine mm_aload_n dX0_clash_71 rfl ?_
        refine rC_getR (t := 110) lk_X0_9_X0 lay_111 rfl rfl dX0_clash_72 R ?_
        refine mm_iload_n dX0_clash_75 rfl ?_
        obtain ⟨b10, H⟩ := hB H
        refine rC_iald lay_112 rfl dX0_clash_76 R b10 ?_
        refine mm_iconst (v := 1) dX0_clash_77 (by decide +kernel) ?_
        refine mm_icmp_ne 101 dX0_clash_78 (by decide) (fun c11 => ?_) (fun c11 => ?_)
        · replace H := hF c11 H
          exact t_X0_clash_J101 hd R H
        · replace H := hT c11 H
          refine mm_aload_n dX0_clash_81 rfl ?_
          refine rC_getR (t := 110) lk_X0_9_X0 lay_111 rfl rfl dX0_clash_82 R ?_
          refine mm_iload_n dX0_clash_85 rfl ?_
          obtain ⟨b16, H⟩ := hB H
          refine rC_iald lay_112 rfl dX0_clash_86 R b16 ?_
          refine mm_iconst (v := 1) dX0_clash_87 (by decide +kernel) ?_
          refine mm_icmp_ne 101 dX0_clash_88 (by decide) (fun c17 => ?_) (fun c17 => ?_)
          · replace H := hF c17 H
            exact t_X0_clash_J101 hd R H
          · replace H := hT c17 H
            refine mm_iload_n dX0_clash_91 rfl ?_
            refine mm_if_ne 99 dX0_clash_92 (by decide) (fun c => absurd rfl c) (fun _ => ?_)
            refine mm_iconst (v := 1) dX0_clash_95 (by decide +kernel) ?_
            refine mm_goto 100 dX0_clash_96 (by decide) ?_
            refine mm_iret rfl rfl dX0_clash_100 ?_
            exact en_pI H
      · replace H := hT c9 H
        refine mm_iconst (v := 1) dX0_clash_65 (by decide +kernel) ?_
        refine mm_goto 70 dX0_clash_66 (by decide) ?_
        refine mm_istore_n (ls' := [some (.ref 111), some (.int x1), some (.int x2), some (.int 1)]) dX0_clash_70 (Nat.le_of_ble_eq_true rfl) rfl ?_
        refine mm_aload_n dX0_clash_71 rfl ?_
        refine rC_getR (t := 110) lk_X0_9_X0 lay_111 rfl rfl dX0_clash_72 R ?_
        refine mm_iload_n dX0_clash_75 rfl ?_
        obtain ⟨b18, H⟩ := hB H
        refine rC_iald lay_112 rfl dX0_clash_76 R b18 ?_
        refine mm_iconst (v := 1) dX0_clash_77 (by decide +kernel) ?_
        refine mm_icmp_ne 101 dX0_clash_78 (by decide) (fun c19 => ?_) (fun c19 => ?_)
        · replace H := hF c19 H
          exact t_X0_clash_J101 hd R H
        · replace H := hT c19 H
          refine mm_aload_n dX0_clash_81 rfl ?_
          refine rC_getR (t := 110) lk_X0_9_X0 lay_111 rfl rfl dX0_clash_82 R ?_
          refine mm_iload_n dX0_clash_85 rfl ?_
          obtain ⟨b20, H⟩ := hB H
          refine rC_iald lay_112 rfl dX0_clash_86 R b20 ?_
          refine mm_iconst (v := 1) dX0_clash_87 (by decide +kernel) ?_
          refine mm_icmp_ne 101 dX0_clash_88 (by decide) (fun c21 => ?_) (fun c21 => ?_)
          · replace H := hF c21 H
            exact t_X0_clash_J101 hd R H
          · replace H := hT c21 H
            refine mm_iload_n dX0_clash_91 rfl ?_
            refine mm_if_ne 99 dX0_clash_92 (by decide) (fun _ => ?_) (fun c => absurd c (by decide))
            refine mm_iconst (v := 0) dX0_clash_99 (by decide +kernel) ?_
            refine mm_iret rfl rfl dX0_clash_100 ?_
            exact en_pI H
    · replace H := hF c6 H
      refine mm_iconst (v := 0) dX0_clash_42 (by decide +kernel) ?_
      refine mm_iret rfl rfl dX0_clash_43 ?_
      exact en_pI H
def f_X0_seekQuarrel_L28 (N : Nat) (x1 : Int32) (x4 : Int32) : Nat → Int32 → Int32 → CS → Option ((Int32 × CS) ⊕ (Int32 × CS))
  | 0, _, _, _ => none
  | n + 1, x3, x5, C => if (gI C 8401) ≤ x5 then (some (.inr (x3, C)))
    else (if inb x4 150 = true then (if (gA C 112 (x4).toNatClampNeg) = 0 then (some (.inr (x3, C)))
      else (bnd (f_X0_clash x4 x5 C) fun q7 =>
      if q7 = 0 then (f_X0_seekQuarrel_L28 N x1 x4 n x3 (x5 + 1) C)
        else (bd (sI C 11106 x4) fun C10 =>
        bd (sI C10 11107 x5) fun C12 =>
        if (x3 + 1) ≤ x1 then (f_X0_seekQuarrel_L28 N x1 x4 n (x3 + 1) (x5 + 1) C12)
          else (some (.inl ((x3 + 1), C12)))))) else none)
theorem t_X0_seekQuarrel_L28 {g : mm_G} {d : Nat} {Post : mm_Ou → mm_Hp → Prop} {D : CS} {N : Nat} {x1 : Int32} {x4 : Int32} {res : ((Int32 × CS) ⊕ (Int32 × CS))} (hd : 5 ≤ d) (KR : ∀ (q : (Int32 × CS)) (h1 : mm_Hp), res = .inl q → Rep h1 q.2 D → Post (.inl (some (.int q.1))) h1) (KE : ∀ (q : Int32 × CS) (h1 : mm_Hp), res = .inr q → Rep h1 q.2 D → mm_P g d MX0_seekQuarrel 89 [some (.ref 111), some (.int x1), none, some (.int q.1), some (.int x4), none] [] h1 Post) : ∀ (n : Nat) (x3 : Int32) (x5 : Int32) (C : CS) (h : mm_Hp) , Rep h C D → f_X0_seekQuarrel_L28 N x1 x4 n x3 x5 C = some res → mm_P g d MX0_seekQuarrel 28 [some (.ref 111), some (.int x1), none, some (.int x3), some (.int x4), some (.int x5)] [] h Post := by
  intro n
  induction n with
  | zero =>
    intro x3 x5 C h R H
    exact hN H
  | succ n ih =>
    intro x3 x5 C h R H
    unfold f_X0_seekQuarrel_L28 at H
    refine mm_iload dX0_seekQuarrel_28 rfl ?_
    refine mm_aload_n dX0_seekQuarrel_30 rfl ?_
    refine rC_getR (t := 82) lk_X0_23_X0 lay_111 rfl rfl dX0_seekQuarrel_31 R ?_
    refine rC_get (key := 8401) lk_X0_74_X3 lay_84 rfl rfl rfl dX0_seekQuarrel_34 R ?_
    refine mm_icmp_ge 89 dX0_seekQuarrel_37 (by decide) (fun c4 => ?_) (fun c4 => ?_)
    · replace H := hT c4 H
      refine mm_fgt (ls' := [some (.ref 111), some (.int x1), none, some (.int x3), some (.int x4), none]) ⟨rfl, rfl, rfl, rfl, trivial⟩ ?_
      exact KE _ _ (Option.some.inj H).symm R
    · replace H := hF c4 H
      refine mm_aload_n dX0_seekQuarrel_40 rfl ?_
      refine rC_getR (t := 110) lk_X0_9_X0 lay_111 rfl rfl dX0_seekQuarrel_41 R ?_
      refine mm_iload dX0_seekQuarrel_44 rfl ?_
      obtain ⟨b5, H⟩ := hB H
      refine rC_iald lay_112 rfl dX0_seekQuarrel_46 R b5 ?_
      refine mm_if_eq 89 dX0_seekQuarrel_47 (by decide) (fun c6 => ?_) (fun c6 => ?_)
      · replace H := hT c6 H
        refine mm_fgt (ls' := [some (.ref 111), some (.int x1), none, some (.int x3), some (.int x4), none]) ⟨rfl, rfl, rfl, rfl, trivial⟩ ?_
        exact KE _ _ (Option.some.inj H).symm R
      · replace H := hF c6 H
        refine mm_aload_n dX0_seekQuarrel_50 rfl ?_
        refine mm_iload dX0_seekQuarrel_51 rfl ?_
        refine mm_iload dX0_seekQuarrel_53 rfl ?_
        obtain ⟨q7, H8, H⟩ := hC H
        refine mm_callV (d' := d - 1) (as := [.int x4, .int x5]) (st := []) (dS hd) cm_X0_clash (mm_t3 28 rfl rfl) (mm_t3 30 rfl rfl) (mm_s1 3 rfl rfl) (T := TX0) (N := 8) rfl dX0_seekQuarrel_55 (R.oC (r := 111) rfl lay_111) rfl (Nat.le_of_ble_eq_true rfl) (Nat.le_of_ble_eq_true rfl) rfl rfl (t_X0_clash (dL hd (by decide)) R H8) (fun o u q => mm_thenI q ?_)
        refine mm_if_eq 83 dX0_seekQuarrel_58 (by decide) (fun c9 => ?_) (fun c9 => ?_)
        · replace H := hT c9 H
          refine mm_iinc (v := (x5 + 1)) (ls' := [some (.ref 111), some (.int x1), none, some (.int x3), some (.int x4), some (.int (x5 + 1))]) dX0_seekQuarrel_83 rfl rfl rfl ?_
          refine mm_goto 28 dX0_seekQuarrel_86 (by decide) ?_
          exact ih _ _ _ _ R H
        · replace H := hF c9 H
          refine mm_aload_n dX0_seekQuarrel_61 rfl ?_
          refine mm_iload dX0_seekQuarrel_62 rfl ?_
          obtain ⟨C10, e11, H⟩ := hD H
          refine rC_put (key := 11106) lk_X0_88_X0 lay_111 rfl rfl rfl rfl rfl dX0_seekQuarrel_64 R e11 (fun h R => ?_)
          refine mm_aload_n dX0_seekQuarrel_67 rfl ?_
          refine mm_iload dX0_seekQuarrel_68 rfl ?_
          obtain ⟨C12, e13, H⟩ := hD H
          refine rC_put (key := 11107) lk_X0_91_X0 lay_111 rfl rfl rfl rfl rfl dX0_seekQuarrel_70 R e13 (fun h R => ?_)
          refine mm_iinc (v := (x3 + 1)) (ls' := [some (.ref 111), some (.int x1), none, some (.int (x3 + 1)), some (.int x4), some (.int x5)]) dX0_seekQuarrel_73 rfl rfl rfl ?_
          refine mm_iload_n dX0_seekQuarrel_76 rfl ?_
          refine mm_iload_n dX0_seekQuarrel_77 rfl ?_
          refine mm_icmp_le 83 dX0_seekQuarrel_78 (by decide) (fun c14 => ?_) (fun c14 => ?_)
          · replace H := hT c14 H
            refine mm_iinc (v := (x5 + 1)) (ls' := [some (.ref 111), some (.int x1), none, some (.int (x3 + 1)), some (.int x4), some (.int (x5 + 1))]) dX0_seekQuarrel_83 rfl rfl rfl ?_
            refine mm_goto 28 dX0_seekQuarrel_86 (by decide) ?_
            exact ih _ _ _ _ R H
          · replace H := hF c14 H
            refine mm_iload_n dX0_seekQuarrel_81 rfl ?_
            refine mm_iret rfl rfl dX0_seekQuarrel_82 ?_
            exact KR _ _ (Option.some.inj H).symm R
def f_X0_seekQuarrel_L10 (N : Nat) (x1 : Int32) : Nat → Int32 → Int32 → CS → Option ((Int32 × CS) ⊕ (Int32 × CS))
  | 0, _, _, _ => none
  | n + 1, x3, x4, C => if (gI C 8401) ≤ x4 then (some (.inr (x3, C)))
    else (bns (f_X0_seekQuarrel_L28 N x1 x4 N x3 (x4 + 1) C) (fun q15 => some (.inl q15)) fun q15 =>
      f_X0_seekQuarrel_L10 N x1 n q15.1 (x4 + 1) q15.2)
theorem t_X0_seekQuarrel_L10 {g : mm_G} {d : Nat} {Post : mm_Ou → mm_Hp → Prop} {D : CS} {N : Nat} {x1 : Int32} {res : ((Int32 × CS) ⊕ (Int32 × CS))} (hd : 5 ≤ d) (KR : ∀ (q : (Int32 × CS)) (h1 : mm_Hp), res = .inl q → Rep h1 q.2 D → Post (.inl (some (.int q.1))) h1) (KE : ∀ (q : Int32 × CS) (h1 : mm_Hp), res = .inr q → Rep h1 q.2 D → mm_P g d MX0_seekQuarrel 95 [none, none, none, some (.int q.1), none, none] [] h1 Post) : ∀ (n : Nat) (x3 : Int32) (x4 : Int32) (C : CS) (h : mm_Hp) , Rep h C D → f_X0_seekQuarrel_L10 N x1 n x3 x4 C = some res → mm_P g d MX0_seekQuarrel 10 [some (.ref 111), some (.int x1), none, some (.int x3), some (.int x4), none] [] h Post := by
  intro n
  induction n with
  | zero =>
    intro x3 x4 C h R H
    exact hN H
  | succ n ih =>
    intro x3 x4 C h R H
    unfold f_X0_seekQuarrel_L10 at H
    refine mm_iload dX0_seekQuarrel_10 rfl ?_
    refine mm_aload_n dX0_seekQuarrel_12 rfl ?_
    refine rC_getR (t := 82) lk_X0_23_X0 lay_111 rfl rfl dX0_seekQuarrel_13 R ?_
    refine rC_get (key := 8401) lk_X0_74_X3 lay_84 rfl rfl rfl dX0_seekQuarrel_16 R ?_
    refine mm_icmp_ge 95 dX0_seekQuarrel_19 (by decide) (fun c3 => ?_) (fun c3 => ?_)
    · replace H := hT c3 H
      refine mm_fgt (ls' := [none, none, none, some (.int x3), none, none]) ⟨rfl, trivial⟩ ?_
      exact KE _ _ (Option.some.inj H).symm R
    · replace H := hF c3 H
      refine mm_iload dX0_seekQuarrel_22 rfl ?_
      refine mm_iconst (v := 1) dX0_seekQuarrel_24 (by decide +kernel) ?_
      refine mm_iadd dX0_seekQuarrel_25 ?_
      refine mm_istore (ls' := [some (.ref 111), some (.int x1), none, some (.int x3), some (.int x4), some (.int (x4 + 1))]) dX0_seekQuarrel_26 (Nat.le_of_ble_eq_true rfl) rfl ?_
      rcases hS H with ⟨q15, H16, H⟩ | ⟨q15, H16, H⟩
      · refine t_X0_seekQuarrel_L28 hd (fun q h e R => ?_) (fun q h e R => by cases e) N _ _ _ _ R H16
        cases e
        exact KR _ _ (Option.some.inj H).symm R
      · refine t_X0_seekQuarrel_L28 hd (fun q h e R => by cases e) (fun q h e R => ?_) N _ _ _ _ R H16
        cases e
        refine mm_iinc (v := (x4 + 1)) (ls' := [some (.ref 111), some (.int x1), none, some (.int q15.1), some (.int (x4 + 1)), none]) dX0_seekQuarrel_89 rfl rfl rfl ?_
        refine mm_goto 10 dX0_seekQuarrel_92 (by decide) ?_
        exact ih _ _ _ _ R H
def f_X0_seekQuarrel (N : Nat) (x1 : Int32) (x2 : Int32) (C : CS) : Option (Int32 × CS) :=
  bnd (f_X0_weigh N x2 C) fun q1 =>
  bns (f_X0_seekQuarrel_L10 N x1 N 0 0 q1) (fun q17 => some q17) fun q17 =>
    some (q17.1, q17.2)
theorem t_X0_seekQuarrel {g : mm_G} {d : Nat} {h : mm_Hp} {C D : CS} {N : Nat} {x1 : Int32} {x2 : Int32} {r : (Int32 × CS)} (hd : 5 ≤ d) (R : Rep h C D) (H : f_X0_seekQuarrel N x1 x2 C = some r) : mm_P g d MX0_seekQuarrel 0 [some (.ref 111), some (.int x1), some (.int x2), none, none, none] [] h (cI D r) := by
  unfold f_X0_seekQuarrel at H
  refine mm_aload_n dX0_seekQuarrel_0 rfl ?_
  refine mm_iload_n dX0_seekQuarrel_1 rfl ?_
  obtain ⟨q1, H2, H⟩ := hC H
  refine mm_callV (d' := d - 1) (as := [.int x2]) (st := []) (dS hd) cm_X0_weigh (mm_t2 229 rfl rfl) (mm_t2 231 rfl rfl) (mm_s1 0 rfl rfl) (T := TX0) (N := 8) rfl dX0_seekQuarrel_2 (R.oC (r := 111) rfl lay_111) rfl (Nat.le_of_ble_eq_true rfl) (Nat.le_of_ble_eq_true rfl) rfl rfl (t_X0_weigh (dL hd (by decide)) R H2) (fun o h q => th_cV q (fun R => ?_))
  refine mm_iconst (v := 0) dX0_seekQuarrel_5 (by decide +kernel) ?_
  refine mm_istore_n (ls' := [some (.ref 111), some (.int x1), some (.int x2), some (.int 0), none, none]) dX0_seekQuarrel_6 (Nat.le_of_ble_eq_true rfl) rfl ?_
  refine mm_iconst (v := 0) dX0_seekQuarrel_7 (by decide +kernel) ?_
  refine mm_istore (ls' := [some (.ref 111), some (.int x1), some (.int x2), some (.int 0), some (.int 0), none]) dX0_seekQuarrel_8 (Nat.le_of_ble_eq_true rfl) rfl ?_
  rcases hS H with ⟨q17, H18, H⟩ | ⟨q17, H18, H⟩
  · refine mm_fgt (ls' := [some (.ref 111), some (.int x1), none, some (.int 0), some (.int 0), none]) ⟨rfl, rfl, rfl, rfl, trivial⟩ ?_
    refine t_X0_seekQuarrel_L10 hd (fun q h e R => ?_) (fun q h e R => by cases e) N _ _ _ _ R H18
    cases e
    exact en_cI H R
  · refine mm_fgt (ls' := [some (.ref 111), some (.int x1), none, some (.int 0), some (.int 0), none]) ⟨rfl, rfl, rfl, rfl, trivial⟩ ?_
    refine t_X0_seekQuarrel_L10 hd (fun q h e R => by cases e) (fun q h e R => ?_) N _ _ _ _ R H18
    cases e
    refine mm_iload_n dX0_seekQuarrel_95 rfl ?_
    refine mm_iret rfl rfl dX0_seekQuarrel_96 ?_
    exact en_cI H R
def f_X11_quarrels (N : Nat) (x1 : Int32) (C : CS) : Option (Int32 × CS) :=
  bnd (f_X0_seekQuarrel N 11175 x1 C) fun q1 =>
  some (q1.1, q1.2)
theorem t_X11_quarrels {g : mm_G} {d : Nat} {h : mm_Hp} {C D : CS} {N : Nat} {x1 : Int32} {r : (Int32 × CS)} (hd : 6 ≤ d) (R : Rep h C D) (H : f_X11_quarrels N x1 C = some r) : mm_P g d MX11_quarrels 0 [some (.ref 64), some (.int x1)] [] h (cI D r) := by
  unfold f_X11_quarrels at H
  refine mm_aload_n dX11_quarrels_0 rfl ?_
  refine rC_getR (t := 109) lk_X11_84_X11 lay_64 rfl rfl dX11_quarrels_1 R ?_
  refine mm_sipush (v := 11175) dX11_quarrels_4 (by decide +kernel) ?_
  refine mm_iload_n dX11_quarrels_7 rfl ?_
  obtain ⟨q1, H2, H⟩ := hC H
  refine mm_callV (d' := d - 1) (as := [.int 11175, .int x1]) (st := []) (dS hd) cm_X0_seekQuarrel (mm_t2 225 rfl rfl) (mm_t2 226 rfl rfl) (mm_t2 227 rfl rfl) (T := TX0) (N := 8) rfl dX11_quarrels_8 (R.oC (r := 111) rfl lay_111) rfl (Nat.le_of_ble_eq_true rfl) (Nat.le_of_ble_eq_true rfl) rfl rfl (t_X0_seekQuarrel (dL hd (by decide)) R H2) (fun o h q => th_cI q (fun R => ?_))
  refine mm_iret rfl rfl dX11_quarrels_11 ?_
  exact en_cI H R
def f_X11_quarrel_J17 (N : Nat) (x1 : Int32) (x2 : Int32) (x3 : Int32) (C : CS) : Option ((String ⊕ Int32) × CS) :=
  bnx (f_X11_demand 0 C) fun vq2 q2 =>
    bnd (f_X0_seekQuarrel N x1 x2 q2) fun q4 =>
    if q4.1 ≤ x1 then (bnx (f_X11_demand 0 q4.2) fun vq7 q7 =>
        if x3 = 0 then (some (.inr (gI q7 11106), q7))
          else (some (.inr (gI q7 11107), q7)))
        else (bnx (f_X11_demand 1 q4.2) fun vq10 q10 =>
        if x3 = 0 then (some (.inr (gI q10 11106), q10))
          else (some (.inr (gI q10 11107), q10)))
theorem t_X11_quarrel_J17 {g : mm_G} {d : Nat} {h : mm_Hp} {C D : CS} {N : Nat} {x1 : Int32} {x2 : Int32} {x3 : Int32} {r : ((String ⊕ Int32) × CS)} (hd : 7 ≤ d) (R : Rep h C D) (H : f_X11_quarrel_J17 N x1 x2 x3 C = some r) : mm_P g d MX11_quarrel 17 [some (.ref 64), some (.int x1), some (.int x2), some (.int x3)] [] h (cXI D r) := by
  unfold f_X11_quarrel_J17 at H
  refine mm_iconst (v := 0) dX11_quarrel_17 (by decide +kernel) ?_
  rcases hX H with ⟨E1, q2, H3, H⟩ | ⟨vq2, q2, H3, H⟩
  · refine mm_callS (d' := d - 1) (as := [.int 0]) (st := []) (dS hd) cm_X11_demand (mm_t4 175 rfl rfl) (mm_t4 176 rfl rfl) dX11_quarrel_18 rfl (Nat.le_of_ble_eq_true rfl) (Nat.le_of_ble_eq_true rfl) rfl rfl (t_X11_demand (dL hd (by decide)) R H3) (fun o h q => th_eV rfl q (fun R => ?_))
    exact en_xI2 H R
  · refine mm_callS (d' := d - 1) (as := [.int 0]) (st := []) (dS hd) cm_X11_demand (mm_t4 175 rfl rfl) (mm_t4 176 rfl rfl) dX11_quarrel_18 rfl (Nat.le_of_ble_eq_true rfl) (Nat.le_of_ble_eq_true rfl) rfl rfl (t_X11_demand (dL hd (by decide)) R H3) (fun o h q => th_xV q (fun R => ?_))
    refine mm_aload_n dX11_quarrel_21 rfl ?_
    refine rC_getR (t := 109) lk_X11_84_X11 lay_64 rfl rfl dX11_quarrel_22 R ?_
    refine mm_iload_n dX11_quarrel_25 rfl ?_
    refine mm_iload_n dX11_quarrel_26 rfl ?_
    obtain ⟨q4, H5, H⟩ := hC H
    refine mm_callV (d' := d - 1) (as := [.int x1, .int x2]) (st := []) (dS hd) cm_X0_seekQuarrel (mm_t2 225 rfl rfl) (mm_t2 226 rfl rfl) (mm_t2 227 rfl rfl) (T := TX0) (N := 8) rfl dX11_quarrel_27 (R.oC (r := 111) rfl lay_111) rfl (Nat.le_of_ble_eq_true rfl) (Nat.le_of_ble_eq_true rfl) rfl rfl (t_X0_seekQuarrel (dL hd (by decide)) R H5) (fun o h q => th_cI q (fun R => ?_))
    refine mm_iload_n dX11_quarrel_30 rfl ?_
    refine mm_icmp_le 38 dX11_quarrel_31 (by decide) (fun c6 => ?_) (fun c6 => ?_)
    · replace H := hT c6 H
      refine mm_iconst (v := 0) dX11_quarrel_38 (by decide +kernel) ?_
      rcases hX H with ⟨E1, q7, H8, H⟩ | ⟨vq7, q7, H8, H⟩
      · refine mm_callS (d' := d - 1) (as := [.int 0]) (st := []) (dS hd) cm_X11_demand (mm_t4 175 rfl rfl) (mm_t4 176 rfl rfl) dX11_quarrel_39 rfl (Nat.le_of_ble_eq_true rfl) (Nat.le_of_ble_eq_true rfl) rfl rfl (t_X11_demand (dL hd (by decide)) R H8) (fun o h q => th_eV rfl q (fun R => ?_))
        exact en_xI2 H R
      · refine mm_callS (d' := d - 1) (as := [.int 0]) (st := []) (dS hd) cm_X11_demand (mm_t4 175 rfl rfl) (mm_t4 176 rfl rfl) dX11_quarrel_39 rfl (Nat.le_of_ble_eq_true rfl) (Nat.le_of_ble_eq_true rfl) rfl rfl (t_X11_demand (dL hd (by decide)) R H8) (fun o h q => th_xV q (fun R => ?_))
        refine mm_iload_n dX11_quarrel_42 rfl ?_
        refine mm_if_ne 56 dX11_quarrel_43 (by decide) (fun c9 => ?_) (fun c9 => ?_)
        · replace H := hF c9 H
          refine mm_aload_n dX11_quarrel_56 rfl ?_
          refine rC_getR (t := 109) lk_X11_84_X11 lay_64 rfl rfl dX11_quarrel_57 R ?_
          refine rC_get (key := 11107) lk_X11_192_X0 lay_111 rfl rfl rfl dX11_quarrel_60 R ?_
          refine mm_iret rfl rfl dX11_quarrel_63 ?_
          exact en_xI H R
        · replace H := hT c9 H
          refine mm_aload_n dX11_quarrel_46 rfl ?_
          refine rC_getR (t := 109) lk_X11_84_X11 lay_64 rfl rfl dX11_quarrel_47 R ?_
          refine rC_get (key := 11106) lk_X11_189_X0 lay_111 rfl rfl rfl dX11_quarrel_50 R ?_
          refine mm_goto 63 dX11_quarrel_53 (by decide) ?_
          refine mm_iret rfl rfl dX11_quarrel_63 ?_
          exact en_xI H R
    · replace H := hF c6 H
      refine mm_iconst (v := 1) dX11_quarrel_34 (by decide +kernel) ?_
      refine mm_goto 39 dX11_quarrel_35 (by decide) ?_
      rcases hX H with ⟨E1, q10, H11, H⟩ | ⟨vq10, q10, H11, H⟩
      · refine mm_callS (d' := d - 1) (as := [.int 1]) (st := []) (dS hd) cm_X11_demand (mm_t4 175 rfl rfl) (mm_t4 176 rfl rfl) dX11_quarrel_39 rfl (Nat.le_of_ble_eq_true rfl) (Nat.le_of_ble_eq_true rfl) rfl rfl (t_X11_demand (dL hd (by decide)) R H11) (fun o h q => th_eV rfl q (fun R => ?_))
        exact en_xI2 H R
      · refine mm_callS (d' := d - 1) (as := [.int 1]) (st := []) (dS hd) cm_X11_demand (mm_t4 175 rfl rfl) (mm_t4 176 rfl rfl) dX11_quarrel_39 rfl (Nat.le_of_ble_eq_true rfl) (Nat.le_of_ble_eq_true rfl) rfl rfl (t_X11_demand (dL hd (by decide)) R H11) (fun o h q => th_xV q (fun R => ?_))
        refine mm_iload_n dX11_quarrel_42 rfl ?_
        refine mm_if_ne 56 dX11_quarrel_43 (by decide) (fun c12 => ?_) (fun c12 => ?_)
        · replace H := hF c12 H
          refine mm_aload_n dX11_quarrel_56 rfl ?_
          refine rC_getR (t := 109) lk_X11_84_X11 lay_64 rfl rfl dX11_quarrel_57 R ?_
          refine rC_get (key := 11107) lk_X11_192_X0 lay_111 rfl rfl rfl dX11_quarrel_60 R ?_
          refine mm_iret rfl rfl dX11_quarrel_63 ?_
          exact en_xI H R
        · replace H := hT c12 H
          refine mm_aload_n dX11_quarrel_46 rfl ?_
          refine rC_getR (t := 109) lk_X11_84_X11 lay_64 rfl rfl dX11_quarrel_47 R ?_
          refine rC_get (key := 11106) lk_X11_189_X0 lay_111 rfl rfl rfl dX11_quarrel_50 R ?_
          refine mm_goto 63 dX11_quarrel_53 (by decide) ?_
          refine mm_iret rfl rfl dX11_quarrel_63 ?_
          exact en_xI H R
def f_X11_quarrel_J13 (N : Nat) (x1 : Int32) (x2 : Int32) (x3 : Int32) (C : CS) : Option ((String ⊕ Int32) × CS) :=
  bnx (f_X11_demand 1 C) fun vq14 q14 =>
    bnd (f_X0_seekQuarrel N x1 x2 q14) fun q16 =>
    if q16.1 ≤ x1 then (bnx (f_X11_demand 0 q16.2) fun vq19 q19 =>
        if x3 = 0 then (some (.inr (gI q19 11106), q19))
          else (some (.inr (gI q19 11107), q19)))
        else (bnx (f_X11_demand 1 q16.2) fun vq22 q22 =>
        if x3 = 0 then (some (.inr (gI q22 11106), q22))
          else (some (.inr (gI q22 11107), q22)))
theorem t_X11_quarrel_J13 {g : mm_G} {d : Nat} {h : mm_Hp} {C D : CS} {N : Nat} {x1 : Int32} {x2 : Int32} {x3 : Int32} {r : ((String ⊕ Int32) × CS)} (hd : 7 ≤ d) (R : Rep h C D) (H : f_X11_quarrel_J13 N x1 x2 x3 C = some r) : mm_P g d MX11_quarrel 13 [some (.ref 64), some (.int x1), some (.int x2), some (.int x3)] [] h (cXI D r) := by
  unfold f_X11_quarrel_J13 at H
  refine mm_iconst (v := 1) dX11_quarrel_13 (by decide +kernel) ?_
  refine mm_goto 18 dX11_quarrel_14 (by decide) ?_
  rcases hX H with ⟨E1, q14, H15, H⟩ | ⟨vq14, q14, H15, H⟩
  · refine mm_callS (d' := d - 1) (as := [.int 1]) (st := []) (dS hd) cm_X11_demand (mm_t4 175 rfl rfl) (mm_t4 176 rfl rfl) dX11_quarrel_18 rfl (Nat.le_of_ble_eq_true rfl) (Nat.le_of_ble_eq_true rfl) rfl rfl (t_X11_demand (dL hd (by decide)) R H15) (fun o h q => th_eV rfl q (fun R => ?_))
    exact en_xI2 H R
  · refine mm_callS (d' := d - 1) (as := [.int 1]) (st := []) (dS hd) cm_X11_demand (mm_t4 175 rfl rfl) (mm_t4 176 rfl rfl) dX11_quarrel_18 rfl (Nat.le_of_ble_eq_true rfl) (Nat.le_of_ble_eq_true rfl) rfl rfl (t_X11_demand (dL hd (by decide)) R H15) (fun o h q => th_xV q (fun R => ?_))
    refine mm_aload_n dX11_quarrel_21 rfl ?_
    refine rC_getR (t := 109) lk_X11_84_X11 lay_64 rfl rfl dX11_quarrel_22 R ?_
    refine mm_iload_n dX11_quarrel_25 rfl ?_
    refine mm_iload_n dX11_quarrel_26 rfl ?_
    obtain ⟨q16, H17, H⟩ := hC H
    refine mm_callV (d' := d - 1) (as := [.int x1, .int x2]) (st := []) (dS hd) cm_X0_seekQuarrel (mm_t2 225 rfl rfl) (mm_t2 226 rfl rfl) (mm_t2 227 rfl rfl) (T := TX0) (N := 8) rfl dX11_quarrel_27 (R.oC (r := 111) rfl lay_111) rfl (Nat.le_of_ble_eq_true rfl) (Nat.le_of_ble_eq_true rfl) rfl rfl (t_X0_seekQuarrel (dL hd (by decide)) R H17) (fun o h q => th_cI q (fun R => ?_))
    refine mm_iload_n dX11_quarrel_30 rfl ?_
    refine mm_icmp_le 38 dX11_quarrel_31 (by decide) (fun c18 => ?_) (fun c18 => ?_)
    · replace H := hT c18 H
      refine mm_iconst (v := 0) dX11_quarrel_38 (by decide +kernel) ?_
      rcases hX H with ⟨E1, q19, H20, H⟩ | ⟨vq19, q19, H20, H⟩
      · refine mm_callS (d' := d - 1) (as := [.int 0]) (st := []) (dS hd) cm_X11_demand (mm_t4 175 rfl rfl) (mm_t4 176 rfl rfl) dX11_quarrel_39 rfl (Nat.le_of_ble_eq_true rfl) (Nat.le_of_ble_eq_true rfl) rfl rfl (t_X11_demand (dL hd (by decide)) R H20) (fun o h q => th_eV rfl q (fun R => ?_))
        exact en_xI2 H R
      · refine mm_callS (d' := d - 1) (as := [.int 0]) (st := []) (dS hd) cm_X11_demand (mm_t4 175 rfl rfl) (mm_t4 176 rfl rfl) dX11_quarrel_39 rfl (Nat.le_of_ble_eq_true rfl) (Nat.le_of_ble_eq_true rfl) rfl rfl (t_X11_demand (dL hd (by decide)) R H20) (fun o h q => th_xV q (fun R => ?_))
        refine mm_iload_n dX11_quarrel_42 rfl ?_
        refine mm_if_ne 56 dX11_quarrel_43 (by decide) (fun c21 => ?_) (fun c21 => ?_)
        · replace H := hF c21 H
          refine mm_aload_n dX11_quarrel_56 rfl ?_
          refine rC_getR (t := 109) lk_X11_84_X11 lay_64 rfl rfl dX11_quarrel_57 R ?_
          refine rC_get (key := 11107) lk_X11_192_X0 lay_111 rfl rfl rfl dX11_quarrel_60 R ?_
          refine mm_iret rfl rfl dX11_quarrel_63 ?_
          exact en_xI H R
        · replace H := hT c21 H
          refine mm_aload_n dX11_quarrel_46 rfl ?_
          refine rC_getR (t := 109) lk_X11_84_X11 lay_64 rfl rfl dX11_quarrel_47 R ?_
          refine rC_get (key := 11106) lk_X11_189_X0 lay_111 rfl rfl rfl dX11_quarrel_50 R ?_
          refine mm_goto 63 dX11_quarrel_53 (by decide) ?_
          refine mm_iret rfl rfl dX11_quarrel_63 ?_
          exact en_xI H R
    · replace H := hF c18 H
      refine mm_iconst (v := 1) dX11_quarrel_34 (by decide +kernel) ?_
      refine mm_goto 39 dX11_quarrel_35 (by decide) ?_
      rcases hX H with ⟨E1, q22, H23, H⟩ | ⟨vq22, q22, H23, H⟩
      · refine mm_callS (d' := d - 1) (as := [.int 1]) (st := []) (dS hd) cm_X11_demand (mm_t4 175 rfl rfl) (mm_t4 176 rfl rfl) dX11_quarrel_39 rfl (Nat.le_of_ble_eq_true rfl) (Nat.le_of_ble_eq_true rfl) rfl rfl (t_X11_demand (dL hd (by decide)) R H23) (fun o h q => th_eV rfl q (fun R => ?_))
        exact en_xI2 H R
      · refine mm_callS (d' := d - 1) (as := [.int 1]) (st := []) (dS hd) cm_X11_demand (mm_t4 175 rfl rfl) (mm_t4 176 rfl rfl) dX11_quarrel_39 rfl (Nat.le_of_ble_eq_true rfl) (Nat.le_of_ble_eq_true rfl) rfl rfl (t_X11_demand (dL hd (by decide)) R H23) (fun o h q => th_xV q (fun R => ?_))
        refine mm_iload_n dX11_quarrel_42 rfl ?_
        refine mm_if_ne 56 dX11_quarrel_43 (by decide) (fun c24 => ?_) (fun c24 => ?_)
        · replace H := hF c24 H
          refine mm_aload_n dX11_quarrel_56 rfl ?_
          refine rC_getR (t := 109) lk_X11_84_X11 lay_64 rfl rfl dX11_quarrel_57 R ?_
          refine rC_get (key := 11107) lk_X11_192_X0 lay_111 rfl rfl rfl dX11_quarrel_60 R ?_
          refine mm_iret rfl rfl dX11_quarrel_63 ?_
          exact en_xI H R
        · replace H := hT c24 H
          refine mm_aload_n dX11_quarrel_46 rfl ?_
          refine rC_getR (t := 109) lk_X11_84_X11 lay_64 rfl rfl dX11_quarrel_47 R ?_
          refine rC_get (key := 11106) lk_X11_189_X0 lay_111 rfl rfl rfl dX11_quarrel_50 R ?_
          refine mm_goto 63 dX11_quarrel_53 (by decide) ?_
          refine mm_iret rfl rfl dX11_quarrel_63 ?_
          exact en_xI H R
def f_X11_quarrel (N : Nat) (x1 : Int32) (x2 : Int32) (x3 : Int32) (C : CS) : Option ((String ⊕ Int32) × CS) :=
  if x1 < 0 then (f_X11_quarrel_J17 N x1 x2 x3 C)
    else (if x3 = 0 then (f_X11_quarrel_J13 N x1 x2 x3 C)
      else (if x3 = 1 then (f_X11_quarrel_J13 N x1 x2 x3 C)
        else (f_X11_quarrel_J17 N x1 x2 x3 C)))
theorem t_X11_quarrel {g : mm_G} {d : Nat} {h : mm_Hp} {C D : CS} {N : Nat} {x1 : Int32} {x2 : Int32} {x3 : Int32} {r : ((String ⊕ Int32) × CS)} (hd : 7 ≤ d) (R : Rep h C D) (H : f_X11_quarrel N x1 x2 x3 C = some r) : mm_P g d MX11_quarrel 0 [some (.ref 64), some (.int x1), some (.int x2), some (.int x3)] [] h (cXI D r) := by
  unfold f_X11_quarrel at H
  refine mm_iload_n dX11_quarrel_0 rfl ?_
  refine mm_if_lt 17 dX11_quarrel_1 (by decide) (fun c1 => ?_) (fun c1 => ?_)
  · replace H := hT c1 H
    exact t_X11_quarrel_J17 hd R H
  · replace H := hF c1 H
    refine mm_iload_n dX11_quarrel_4 rfl ?_
    refine mm_if_eq 13 dX11_quarrel_5 (by decide) (fun c13 => ?_) (fun c13 => ?_)
    · replace H := hT c13 H
      exact t_X11_quarrel_J13 hd R H
    · replace H := hF c13 H
      refine mm_iload_n dX11_quarrel_8 rfl ?_
      refine mm_iconst (v := 1) dX11_quarrel_9 (by decide +kernel) ?_
      refine mm_icmp_ne 17 dX11_quarrel_10 (by decide) (fun c25 => ?_) (fun c25 => ?_)
      · replace H := hF c25 H
        exact t_X11_quarrel_J17 hd R H
      · replace H := hT c25 H
        exact t_X11_quarrel_J13 hd R H
def f_X11_mention_J24 (x1 : Int32) (x2 : Int32) (C : CS) : Option ((String ⊕ Int32) × CS) :=
  bnx (f_X11_demand 0 C) fun vq2 q2 =>
    if x2 = 0 then (if inb x1 100 = true then (some (.inr (gA q2 92 (x1).toNatClampNeg), q2)) else none)
      else (if inb x1 100 = true then (some (.inr (gA q2 93 (x1).toNatClampNeg), q2)) else none)
theorem t_X11_mention_J24 {g : mm_G} {d : Nat} {h : mm_Hp} {C D : CS} {x1 : Int32} {x2 : Int32} {r : ((String ⊕ Int32) × CS)} (hd : 7 ≤ d) (R : Rep h C D) (H : f_X11_mention_J24 x1 x2 C = some r) : mm_P g d MX11_mention 24 [some (.ref 64), some (.int x1), some (.int x2)] [] h (cXI D r) := by
  unfold f_X11_mention_J24 at H
  refine mm_iconst (v := 0) dX11_mention_24 (by decide +kernel) ?_
  rcases hX H with ⟨E1, q2, H3, H⟩ | ⟨vq2, q2, H3, H⟩
  · refine mm_callS (d' := d - 1) (as := [.int 0]) (st := []) (dS hd) cm_X11_demand (mm_t4 175 rfl rfl) (mm_t4 176 rfl rfl) dX11_mention_25 rfl (Nat.le_of_ble_eq_true rfl) (Nat.le_of_ble_eq_true rfl) rfl rfl (t_X11_demand (dL hd (by decide)) R H3) (fun o h q => th_eV rfl q (fun R => ?_))
    exact en_xI2 H R
  · refine mm_callS (d' := d - 1) (as := [.int 0]) (st := []) (dS hd) cm_X11_demand (mm_t4 175 rfl rfl) (mm_t4 176 rfl rfl) dX11_mention_25 rfl (Nat.le_of_ble_eq_true rfl) (Nat.le_of_ble_eq_true rfl) rfl rfl (t_X11_demand (dL hd (by decide)) R H3) (fun o h q => th_xV q (fun R => ?_))
    refine mm_iload_n dX11_mention_28 rfl ?_
    refine mm_if_ne 44 dX11_mention_29 (by decide) (fun c4 => ?_) (fun c4 => ?_)
    · replace H := hF c4 H
      refine mm_aload_n dX11_mention_44 rfl ?_
      refine rC_getR (t := 89) lk_X11_45_X11 lay_64 rfl rfl dX11_mention_45 R ?_
      refine rC_getR (t := 91) lk_X11_197_X5 lay_91 rfl rfl dX11_mention_48 R ?_
      refine mm_iload_n dX11_mention_51 rfl ?_
      obtain ⟨b5, H⟩ := hB H
      refine rC_iald lay_93 rfl dX11_mention_52 R b5 ?_
      refine mm_iret rfl rfl dX11_mention_53 ?_
      exact en_xI H R
    · replace H := hT c4 H
      refine mm_aload_n dX11_mention_32 rfl ?_
      refine rC_getR (t := 89) lk_X11_45_X11 lay_64 rfl rfl dX11_mention_33 R ?_
      refine rC_getR (t := 90) lk_X11_196_X5 lay_91 rfl rfl dX11_mention_36 R ?_
      refine mm_iload_n dX11_mention_39 rfl ?_
      obtain ⟨b6, H⟩ := hB H
      refine rC_iald lay_92 rfl dX11_mention_40 R b6 ?_
      refine mm_goto 53 dX11_mention_41 (by decide) ?_
      refine mm_iret rfl rfl dX11_mention_53 ?_
      exact en_xI H R
def f_X11_mention_J20 (x1 : Int32) (x2 : Int32) (C : CS) : Option ((String ⊕ Int32) × CS) :=
  bnx (f_X11_demand 1 C) fun vq8 q8 =>
    if x2 = 0 then (if inb x1 100 = true then (some (.inr (gA q8 92 (x1).toNatClampNeg), q8)) else none)
      else (if inb x1 100 = true then (some (.inr (gA q8 93 (x1).toNatClampNeg), q8)) else none)
theorem t_X11_mention_J20 {g : mm_G} {d : Nat} {h : mm_Hp} {C D : CS} {x1 : Int32} {x2 : Int32} {r : ((String ⊕ Int32) × CS)} (hd : 7 ≤ d) (R : Rep h C D) (H : f_X11_mention_J20 x1 x2 C = some r) : mm_P g d MX11_mention 20 [some (.ref 64), some (.int x1), some (.int x2)] [] h (cXI D r) := by
  unfold f_X11_mention_J20 at H
  refine mm_iconst (v := 1) dX11_mention_20 (by decide +kernel) ?_
  refine mm_goto 25 dX11_mention_21 (by decide) ?_
  rcases hX H with ⟨E1, q8, H9, H⟩ | ⟨vq8, q8, H9, H⟩
  · refine mm_callS (d' := d - 1) (as := [.int 1]) (st := []) (dS hd) cm_X11_demand (mm_t4 175 rfl rfl) (mm_t4 176 rfl rfl) dX11_mention_25 rfl (Nat.le_of_ble_eq_true rfl) (Nat.le_of_ble_eq_true rfl) rfl rfl (t_X11_demand (dL hd (by decide)) R H9) (fun o h q => th_eV rfl q (fun R => ?_))
    exact en_xI2 H R
  · refine mm_callS (d' := d - 1) (as := [.int 1]) (st := []) (dS hd) cm_X11_demand (mm_t4 175 rfl rfl) (mm_t4 176 rfl rfl) dX11_mention_25 rfl (Nat.le_of_ble_eq_true rfl) (Nat.le_of_ble_eq_true rfl) rfl rfl (t_X11_demand (dL hd (by decide)) R H9) (fun o h q => th_xV q (fun R => ?_))
    refine mm_iload_n dX11_mention_28 rfl ?_
    refine mm_if_ne 44 dX11_mention_29 (by decide) (fun c10 => ?_) (fun c10 => ?_)
    · replace H := hF c10 H
      refine mm_aload_n dX11_mention_44 rfl ?_
      refine rC_getR (t := 89) lk_X11_45_X11 lay_64 rfl rfl dX11_mention_45 R ?_
      refine rC_getR (t := 91) lk_X11_197_X5 lay_91 rfl rfl dX11_mention_48 R ?_
      refine mm_iload_n dX11_mention_51 rfl ?_
      obtain ⟨b11, H⟩ := hB H
      refine rC_iald lay_93 rfl dX11_mention_52 R b11 ?_
      refine mm_iret rfl rfl dX11_mention_53 ?_
      exact en_xI H R
    · replace H := hT c10 H
      refine mm_aload_n dX11_mention_32 rfl ?_
      refine rC_getR (t := 89) lk_X11_45_X11 lay_64 rfl rfl dX11_mention_33 R ?_
      refine rC_getR (t := 90) lk_X11_196_X5 lay_91 rfl rfl dX11_mention_36 R ?_
      refine mm_iload_n dX11_mention_39 rfl ?_
      obtain ⟨b12, H⟩ := hB H
      refine rC_iald lay_92 rfl dX11_mention_40 R b12 ?_
      refine mm_goto 53 dX11_mention_41 (by decide) ?_
      refine mm_iret rfl rfl dX11_mention_53 ?_
      exact en_xI H R
def f_X11_mention (x1 : Int32) (x2 : Int32) (C : CS) : Option ((String ⊕ Int32) × CS) :=
  if (hasT (gI C 9101) x1) = 0 then (f_X11_mention_J24 x1 x2 C)
    else (if x2 = 0 then (f_X11_mention_J20 x1 x2 C)
      else (if x2 = 1 then (f_X11_mention_J20 x1 x2 C)
        else (f_X11_mention_J24 x1 x2 C)))
theorem t_X11_mention {g : mm_G} {d : Nat} {h : mm_Hp} {C D : CS} {x1 : Int32} {x2 : Int32} {r : ((String ⊕ Int32) × CS)} (hd : 7 ≤ d) (R : Rep h C D) (H : f_X11_mention x1 x2 C = some r) : mm_P g d MX11_mention 0 [some (.ref 64), some (.int x1), some (.int x2)] [] h (cXI D r) := by
  unfold f_X11_mention at H
  refine mm_aload_n dX11_mention_0 rfl ?_
  refine rC_getR (t := 89) lk_X11_45_X11 lay_64 rfl rfl dX11_mention_1 R ?_
  refine mm_iload_n dX11_mention_4 rfl ?_
  refine mm_callU (d' := d - 1) (x := ⟨"TestimonyBook$Mentions", "has", "(I)Z"⟩) (owner := "TestimonyBook$Rows") (as := [.int x1]) (st := []) (dS hd) cm_X9_has rfl (mm_t5 16 rfl rfl) (mm_t5 17 rfl rfl) (mm_t3 17 rfl rfl) (mm_t5 18 rfl rfl) (T := TX5) (N := 5) rfl dX11_mention_5 (R.oC (r := 91) rfl lay_91) rfl (Nat.le_of_ble_eq_true rfl) (Nat.le_of_ble_eq_true rfl) rfl rfl (tr_has lk_X9_13_X5 lay_91 rfl rfl R) (fun E u q => by cases q.1) (fun v u q => th_pU q ?_)
  refine mm_if_eq 24 dX11_mention_8 (by decide) (fun c1 => ?_) (fun c1 => ?_)
  · replace H := hT c1 H
    exact t_X11_mention_J24 hd R H
  · replace H := hF c1 H
    refine mm_iload_n dX11_mention_11 rfl ?_
    refine mm_if_eq 20 dX11_mention_12 (by decide) (fun c7 => ?_) (fun c7 => ?_)
    · replace H := hT c7 H
      exact t_X11_mention_J20 hd R H
    · replace H := hF c7 H
      refine mm_iload_n dX11_mention_15 rfl ?_
      refine mm_iconst (v := 1) dX11_mention_16 (by decide +kernel) ?_
      refine mm_icmp_ne 24 dX11_mention_17 (by decide) (fun c13 => ?_) (fun c13 => ?_)
      · replace H := hF c13 H
        exact t_X11_mention_J24 hd R H
      · replace H := hT c13 H
        exact t_X11_mention_J20 hd R H
def f_X6_nameOf_L5 (N : Nat) (x1 : Int32) (x2 : Int32) (C : CS) : Nat → Int64 → Int32 → Option (Int64)
  | 0, _, _ => none
  | n + 1, x3, x5 => if (gI C 9401) ≤ x5 then (some x3)
    else (if inb x5 200 = true then (if x2 < (gA C 95 (x5).toNatClampNeg) then (some x3)
      else (if inb x5 200 = true then (if (gA C 96 (x5).toNatClampNeg) = x1 then (if inb x5 200 = true then (f_X6_nameOf_L5 N x1 x2 C n (gB C 97 (x5).toNatClampNeg) (x5 + 1)) else none)
        else (f_X6_nameOf_L5 N x1 x2 C n x3 (x5 + 1))) else none)) else none)
theorem t_X6_nameOf_L5 {g : mm_G} {d : Nat} {Post : mm_Ou → mm_Hp → Prop} {h : mm_Hp} {C D : CS} {N : Nat} {x1 : Int32} {x2 : Int32} {res : (Int64)} (hd : 0 ≤ d) (R : Rep h C D) (KE : mm_P g d MX6_nameOf 50 [none, none, none, some (.long res), none, none] [] h Post) : ∀ (n : Nat) (x3 : Int64) (x5 : Int32) , f_X6_nameOf_L5 N x1 x2 C n x3 x5 = some res → mm_P g d MX6_nameOf 5 [some (.ref 94), some (.int x1), some (.int x2), some (.long x3), none, some (.int x5)] [] h Post := by
  intro n
  induction n with
  | zero =>
    intro x3 x5 H
    exact hN H
  | succ n ih =>
    intro x3 x5 H
    unfold f_X6_nameOf_L5 at H
    refine mm_iload dX6_nameOf_5 rfl ?_
    refine mm_aload_n dX6_nameOf_7 rfl ?_
    refine rC_get (key := 9401) lk_X6_22_X6 lay_94 rfl rfl rfl dX6_nameOf_8 R ?_
    refine mm_icmp_ge 50 dX6_nameOf_11 (by decide) (fun c1 => ?_) (fun c1 => ?_)
    · replace H := hT c1 H
      refine mm_fgt (ls' := [none, none, none, some (.long x3), none, none]) ⟨rfl, trivial⟩ ?_
      cases H
      exact KE
    · replace H := hF c1 H
      refine mm_aload_n dX6_nameOf_14 rfl ?_
      refine rC_getR (t := 93) lk_X6_9_X6 lay_94 rfl rfl dX6_nameOf_15 R ?_
      refine mm_iload dX6_nameOf_18 rfl ?_
      obtain ⟨b2, H⟩ := hB H
      refine rC_iald lay_95 rfl dX6_nameOf_20 R b2 ?_
      refine mm_iload_n dX6_nameOf_21 rfl ?_
      refine mm_icmp_gt 50 dX6_nameOf_22 (by decide) (fun c3 => ?_) (fun c3 => ?_)
      · replace H := hT c3 H
        refine mm_fgt (ls' := [none, none, none, some (.long x3), none, none]) ⟨rfl, trivial⟩ ?_
        cases H
        exact KE
      · replace H := hF c3 H
        refine mm_aload_n dX6_nameOf_25 rfl ?_
        refine rC_getR (t := 94) lk_X6_15_X6 lay_94 rfl rfl dX6_nameOf_26 R ?_
        refine mm_iload dX6_nameOf_29 rfl ?_
        obtain ⟨b4, H⟩ := hB H
        refine rC_iald lay_96 rfl dX6_nameOf_31 R b4 ?_
        refine mm_iload_n dX6_nameOf_32 rfl ?_
        refine mm_icmp_ne 44 dX6_nameOf_33 (by decide) (fun c5 => ?_) (fun c5 => ?_)
        · replace H := hF c5 H
          refine mm_iinc (v := (x5 + 1)) (ls' := [some (.ref 94), some (.int x1), some (.int x2), some (.long x3), none, some (.int (x5 + 1))]) dX6_nameOf_44 rfl rfl rfl ?_
          refine mm_goto 5 dX6_nameOf_47 (by decide) ?_
          exact ih _ _ H
        · replace H := hT c5 H
          refine mm_aload_n dX6_nameOf_36 rfl ?_
          refine rC_getR (t := 95) lk_X6_18_X6 lay_94 rfl rfl dX6_nameOf_37 R ?_
          refine mm_iload dX6_nameOf_40 rfl ?_
          obtain ⟨b6, H⟩ := hB H
          refine rC_lald lay_97 rfl dX6_nameOf_42 R b6 ?_
          refine mm_lstore_n (ls' := [some (.ref 94), some (.int x1), some (.int x2), some (.long (gB C 97 (x5).toNatClampNeg)), none, some (.int x5)]) dX6_nameOf_43 (Nat.le_of_ble_eq_true rfl) rfl ?_
          refine mm_iinc (v := (x5 + 1)) (ls' := [some (.ref 94), some (.int x1), some (.int x2), some (.long (gB C 97 (x5).toNatClampNeg)), none, some (.int (x5 + 1))]) dX6_nameOf_44 rfl rfl rfl ?_
          refine mm_goto 5 dX6_nameOf_47 (by decide) ?_
          exact ih _ _ H
def f_X6_nameOf (N : Nat) (x1 : Int32) (x2 : Int32) (C : CS) : Option Int64 :=
  bnd (f_X6_nameOf_L5 N x1 x2 C N 0 0) fun q7 =>
    some q7
theorem t_X6_nameOf {g : mm_G} {d : Nat} {h : mm_Hp} {C D : CS} {N : Nat} {x1 : Int32} {x2 : Int32} {r : Int64} (hd : 0 ≤ d) (R : Rep h C D) (H : f_X6_nameOf N x1 x2 C = some r) : mm_P g d MX6_nameOf 0 [some (.ref 94), some (.int x1), some (.int x2), none, none, none] [] h (pJ r h) := by
  unfold f_X6_nameOf at H
  refine mm_lconst (v := 0) dX6_nameOf_0 (by decide +kernel) ?_
  refine mm_lstore_n (ls' := [some (.ref 94), some (.int x1), some (.int x2), some (.long 0), none, none]) dX6_nameOf_1 (Nat.le_of_ble_eq_true rfl) rfl ?_
  refine mm_iconst (v := 0) dX6_nameOf_2 (by decide +kernel) ?_
  refine mm_istore (ls' := [some (.ref 94), some (.int x1), some (.int x2), some (.long 0), none, some (.int 0)]) dX6_nameOf_3 (Nat.le_of_ble_eq_true rfl) rfl ?_
  obtain ⟨q7, H8, H⟩ := hC H
  refine t_X6_nameOf_L5 hd R ?_ N _ _ H8
  refine mm_lload_n dX6_nameOf_50 rfl ?_
  refine mm_lret rfl dX6_nameOf_51 ?_
  exact en_pJ H
def f_X1_addName_67_L3 (N : Nat) (x1 : Int64) : Nat → Int32 → CS → Option (CS)
  | 0, _, _ => none
  | n + 1, x3, C => if x3 < 0 then (some C)
    else (if ((Int64.toInt32 (((x1).toUInt64 >>> ((Int32.toInt64 x3).toUInt64 &&& Int64.toUInt64 63)).toInt64)) &&& 255) = 0 then (f_X1_addName_67_L3 N x1 n (x3 + (-8)) C)
      else (bd (badd 67 ((Int64.toInt32 (((x1).toUInt64 >>> ((Int32.toInt64 x3).toUInt64 &&& Int64.toUInt64 63)).toInt64)) &&& 255) C) fun C3 =>
      f_X1_addName_67_L3 N x1 n (x3 + (-8)) C3))
theorem t_X1_addName_67_L3 {g : mm_G} {d : Nat} {Post : mm_Ou → mm_Hp → Prop} {D : CS} {N : Nat} {x1 : Int64} {res : (CS)} (hd : 3 ≤ d) (KE : ∀ (h1 : mm_Hp), Rep h1 res D → mm_P g d MX1_addName 34 [none, none, none, none, none] [] h1 Post) : ∀ (n : Nat) (x3 : Int32) (C : CS) (h : mm_Hp) , Rep h C D → f_X1_addName_67_L3 N x1 n x3 C = some res → mm_P g d MX1_addName 3 [some (.ref 67), some (.long x1), none, some (.int x3), none] [] h Post := by
  intro n
  induction n with
  | zero =>
    intro x3 C h R H
    exact hN H
  | succ n ih =>
    intro x3 C h R H
    unfold f_X1_addName_67_L3 at H
    refine mm_iload_n dX1_addName_3 rfl ?_
    refine mm_if_lt 34 dX1_addName_4 (by decide) (fun c1 => ?_) (fun c1 => ?_)
    · replace H := hT c1 H
      refine mm_fgt (ls' := [none, none, none, none, none]) trivial ?_
      cases H
      exact KE _ R
    · replace H := hF c1 H
      refine mm_lload_n dX1_addName_7 rfl ?_
      refine mm_iload_n dX1_addName_8 rfl ?_
      refine mm_lushr dX1_addName_9 ?_
      refine mm_l2i dX1_addName_10 ?_
      refine mm_sipush (v := 255) dX1_addName_11 (by decide +kernel) ?_
      refine mm_iand dX1_addName_14 ?_
      refine mm_istore (ls' := [some (.ref 67), some (.long x1), none, some (.int x3), some (.int ((Int64.toInt32 (((x1).toUInt64 >>> ((Int32.toInt64 x3).toUInt64 &&& Int64.toUInt64 63)).toInt64)) &&& 255))]) dX1_addName_15 (Nat.le_of_ble_eq_true rfl) rfl ?_
      refine mm_iload dX1_addName_17 rfl ?_
      refine mm_if_eq 28 dX1_addName_19 (by decide) (fun c2 => ?_) (fun c2 => ?_)
      · replace H := hT c2 H
        refine mm_iinc (v := (x3 + (-8))) (ls' := [some (.ref 67), some (.long x1), none, some (.int (x3 + (-8))), some (.int ((Int64.toInt32 (((x1).toUInt64 >>> ((Int32.toInt64 x3).toUInt64 &&& Int64.toUInt64 63)).toInt64)) &&& 255))]) dX1_addName_28 rfl rfl rfl ?_
        refine mm_goto 3 dX1_addName_31 (by decide) ?_
        refine mm_fgt (ls' := [some (.ref 67), some (.long x1), none, some (.int (x3 + (-8))), none]) ⟨rfl, rfl, rfl, trivial⟩ ?_
        exact ih _ _ _ R H
      · replace H := hF c2 H
        refine mm_aload_n dX1_addName_22 rfl ?_
        refine mm_iload dX1_addName_23 rfl ?_
        obtain ⟨C3, e4, H⟩ := hD H
        refine mm_callV (d' := d - 1) (as := [.int ((Int64.toInt32 (((x1).toUInt64 >>> ((Int32.toInt64 x3).toUInt64 &&& Int64.toUInt64 63)).toInt64)) &&& 255)]) (st := []) (dS hd) cm_X1_add (mm_t2 189 rfl rfl) (mm_t2 190 rfl rfl) (mm_t2 191 rfl rfl) (T := TX1) (N := 4) rfl dX1_addName_25 (R.oB (Or.inr (Or.inl rfl))).choose_spec rfl (Nat.le_of_ble_eq_true rfl) (Nat.le_of_ble_eq_true rfl) rfl rfl (tb_add (Or.inr (Or.inl rfl)) (dL hd (by decide)) R) (fun o h q => th_cV q (fun R => ?_))
        replace R := Rep.cg e4 R
        refine mm_iinc (v := (x3 + (-8))) (ls' := [some (.ref 67), some (.long x1), none, some (.int (x3 + (-8))), some (.int ((Int64.toInt32 (((x1).toUInt64 >>> ((Int32.toInt64 x3).toUInt64 &&& Int64.toUInt64 63)).toInt64)) &&& 255))]) dX1_addName_28 rfl rfl rfl ?_
        refine mm_goto 3 dX1_addName_31 (by decide) ?_
        refine mm_fgt (ls' := [some (.ref 67), some (.long x1), none, some (.int (x3 + (-8))), none]) ⟨rfl, rfl, rfl, trivial⟩ ?_
        exact ih _ _ _ R H
def f_X1_addName_67 (N : Nat) (x1 : Int64) (C : CS) : Option CS :=
  bnd (f_X1_addName_67_L3 N x1 N 40 C) fun q5 =>
    some q5
theorem t_X1_addName_67 {g : mm_G} {d : Nat} {h : mm_Hp} {C D : CS} {N : Nat} {x1 : Int64} {r : CS} (hd : 3 ≤ d) (R : Rep h C D) (H : f_X1_addName_67 N x1 C = some r) : mm_P g d MX1_addName 0 [some (.ref 67), some (.long x1), none, none, none] [] h (cV D r) := by
  unfold f_X1_addName_67 at H
  refine mm_bipush (v := 40) dX1_addName_0 (by decide +kernel) ?_
  refine mm_istore_n (ls' := [some (.ref 67), some (.long x1), none, some (.int 40), none]) dX1_addName_2 (Nat.le_of_ble_eq_true rfl) rfl ?_
  obtain ⟨q5, H6, H⟩ := hC H
  refine t_X1_addName_67_L3 hd (fun h R => ?_) N _ _ _ R H6
  refine mm_vret rfl dX1_addName_34 ?_
  exact en_cV H R
def f_X11_name_J30 (N : Nat) (x1 : Int32) (x2 : Int32) (C : CS) : Option ((String ⊕ Int32) × CS) :=
  bnx (f_X11_demand 0 C) fun vq2 q2 =>
    bd (sI q2 6701 0) fun C4 =>
    bnd (f_X6_nameOf N x1 x2 C4) fun q6 =>
    if (lg_cmp q6 0) = 0 then (some (.inr (-1), C4))
      else (bnd (f_X1_addName_67 N q6 C4) fun q9 =>
      some (.inr (gI q9 6701), q9))
theorem t_X11_name_J30 {g : mm_G} {d : Nat} {h : mm_Hp} {C D : CS} {N : Nat} {x1 : Int32} {x2 : Int32} {r : ((String ⊕ Int32) × CS)} (hd : 7 ≤ d) (R : Rep h C D) (H : f_X11_name_J30 N x1 x2 C = some r) : mm_P g d MX11_name 30 [some (.ref 64), some (.int x1), some (.int x2), none, none] [] h (cXI D r) := by
  unfold f_X11_name_J30 at H
  refine mm_iconst (v := 0) dX11_name_30 (by decide +kernel) ?_
  rcases hX H with ⟨E1, q2, H3, H⟩ | ⟨vq2, q2, H3, H⟩
  · refine mm_callS (d' := d - 1) (as := [.int 0]) (st := []) (dS hd) cm_X11_demand (mm_t4 175 rfl rfl) (mm_t4 176 rfl rfl) dX11_name_31 rfl (Nat.le_of_ble_eq_true rfl) (Nat.le_of_ble_eq_true rfl) rfl rfl (t_X11_demand (dL hd (by decide)) R H3) (fun o h q => th_eV rfl q (fun R => ?_))
    exact en_xI2 H R
  · refine mm_callS (d' := d - 1) (as := [.int 0]) (st := []) (dS hd) cm_X11_demand (mm_t4 175 rfl rfl) (mm_t4 176 rfl rfl) dX11_name_31 rfl (Nat.le_of_ble_eq_true rfl) (Nat.le_of_ble_eq_true rfl) rfl rfl (t_X11_demand (dL hd (by decide)) R H3) (fun o h q => th_xV q (fun R => ?_))
    refine mm_aload_n dX11_name_34 rfl ?_
    refine rC_getR (t := 65) lk_X11_18_X11 lay_64 rfl rfl dX11_name_35 R ?_
    obtain ⟨C4, e5, H⟩ := hD H
    refine mm_callV (d' := d - 1) (as := []) (st := []) (dS hd) cm_X1_clear (mm_t3 131 rfl rfl) (mm_t3 132 rfl rfl) (mm_t3 133 rfl rfl) (T := TX1) (N := 4) rfl dX11_name_38 (R.oB (Or.inr (Or.inl rfl))).choose_spec rfl (Nat.le_of_ble_eq_true rfl) (Nat.le_of_ble_eq_true rfl) rfl rfl (tb_clear (Or.inr (Or.inl rfl)) R) (fun o h q => th_cV q (fun R => ?_))
    replace R := Rep.cg e5 R
    refine mm_aload_n dX11_name_41 rfl ?_
    refine rC_getR (t := 92) lk_X11_52_X11 lay_64 rfl rfl dX11_name_42 R ?_
    refine mm_iload_n dX11_name_45 rfl ?_
    refine mm_iload_n dX11_name_46 rfl ?_
    obtain ⟨q6, H7, H⟩ := hC H
    refine mm_callV (d' := d - 1) (as := [.int x1, .int x2]) (st := []) (dS hd) cm_X6_nameOf (mm_t5 27 rfl rfl) (mm_t5 28 rfl rfl) (mm_t5 29 rfl rfl) (T := TX6) (N := 6) rfl dX11_name_47 (R.oC (r := 94) rfl lay_94) rfl (Nat.le_of_ble_eq_true rfl) (Nat.le_of_ble_eq_true rfl) rfl rfl (t_X6_nameOf (dL hd (by decide)) R H7) (fun o u q => th_pJ q ?_)
    refine mm_lstore_n (ls' := [some (.ref 64), some (.int x1), some (.int x2), some (.long q6), none]) dX11_name_50 (Nat.le_of_ble_eq_true rfl) rfl ?_
    refine mm_lload_n dX11_name_51 rfl ?_
    refine mm_lconst (v := 0) dX11_name_52 (by decide +kernel) ?_
    refine mm_lcmp dX11_name_53 ?_
    refine mm_if_ne 59 dX11_name_54 (by decide) (fun c8 => ?_) (fun c8 => ?_)
    · replace H := hF c8 H
      refine mm_aload_n dX11_name_59 rfl ?_
      refine rC_getR (t := 65) lk_X11_18_X11 lay_64 rfl rfl dX11_name_60 R ?_
      refine mm_lload_n dX11_name_63 rfl ?_
      obtain ⟨q9, H10, H⟩ := hC H
      refine mm_callV (d' := d - 1) (as := [.long q6]) (st := []) (dS hd) cm_X1_addName (mm_t5 31 rfl rfl) (mm_t5 32 rfl rfl) (mm_t5 33 rfl rfl) (T := TX1) (N := 4) rfl dX11_name_64 (R.oB (Or.inr (Or.inl rfl))).choose_spec rfl (Nat.le_of_ble_eq_true rfl) (Nat.le_of_ble_eq_true rfl) rfl rfl (t_X1_addName_67 (dL hd (by decide)) R H10) (fun o h q => th_cV q (fun R => ?_))
      refine mm_aload_n dX11_name_67 rfl ?_
      refine rC_getR (t := 65) lk_X11_18_X11 lay_64 rfl rfl dX11_name_68 R ?_
      refine rB_get lk_X11_92_X1 (Or.inr (Or.inl rfl)) rfl dX11_name_71 R ?_
      refine mm_iret rfl rfl dX11_name_74 ?_
      exact en_xI H R
    · replace H := hT c8 H
      refine mm_iconst (v := (-1)) dX11_name_57 (by decide +kernel) ?_
      refine mm_iret rfl rfl dX11_name_58 ?_
      exact en_xI H R
def f_X11_name (N : Nat) (x1 : Int32) (x2 : Int32) (C : CS) : Option ((String ⊕ Int32) × CS) :=
  if x1 < 0 then (f_X11_name_J30 N x1 x2 C)
    else (bnd (f_X6_exhibits N C) fun q11 =>
    if q11 ≤ x1 then (f_X11_name_J30 N x1 x2 C)
      else (if (hasT (gI C 6901) x2) = 0 then (f_X11_name_J30 N x1 x2 C)
        else (bnx (f_X11_demand 1 C) fun vq15 q15 =>
          bd (sI q15 6701 0) fun C17 =>
          bnd (f_X6_nameOf N x1 x2 C17) fun q19 =>
          if (lg_cmp q19 0) = 0 then (some (.inr (-1), C17))
            else (bnd (f_X1_addName_67 N q19 C17) fun q22 =>
            some (.inr (gI q22 6701), q22)))))
theorem t_X11_name {g : mm_G} {d : Nat} {h : mm_Hp} {C D : CS} {N : Nat} {x1 : Int32} {x2 : Int32} {r : ((String ⊕ Int32) × CS)} (hd : 7 ≤ d) (R : Rep h C D) (H : f_X11_name N x1 x2 C = some r) : mm_P g d MX11_name 0 [some (.ref 64), some (.int x1), some (.int x2), none, none] [] h (cXI D r) := by
  unfold f_X11_name at H
  refine mm_iload_n dX11_name_0 rfl ?_
  refine mm_if_lt 30 dX11_name_1 (by decide) (fun c1 => ?_) (fun c1 => ?_)
  · replace H := hT c1 H
    exact t_X11_name_J30 hd R H
  · replace H := hF c1 H
    refine mm_iload_n dX11_name_4 rfl ?_
    refine mm_aload_n dX11_name_5 rfl ?_
    refine rC_getR (t := 92) lk_X11_52_X11 lay_64 rfl rfl dX11_name_6 R ?_
    obtain ⟨q11, H12, H⟩ := hC H
    refine mm_callV (d' := d - 1) (as := []) (st := [.int x1]) (dS hd) cm_X6_exhibits (mm_t5 26 rfl rfl) (mm_t4 90 rfl rfl) (mm_t4 91 rfl rfl) (T := TX6) (N := 6) rfl dX11_name_9 (R.oC (r := 94) rfl lay_94) rfl (Nat.le_of_ble_eq_true rfl) (Nat.le_of_ble_eq_true rfl) rfl rfl (t_X6_exhibits (dL hd (by decide)) R H12) (fun o u q => mm_thenI q ?_)
    refine mm_icmp_ge 30 dX11_name_12 (by decide) (fun c13 => ?_) (fun c13 => ?_)
    · replace H := hT c13 H
      exact t_X11_name_J30 hd R H
    · replace H := hF c13 H
      refine mm_aload_n dX11_name_15 rfl ?_
      refine rC_getR (t := 67) lk_X11_24_X11 lay_64 rfl rfl dX11_name_16 R ?_
      refine mm_iload_n dX11_name_19 rfl ?_
      refine mm_callU (d' := d - 1) (x := ⟨"TestimonyBook$Lines", "has", "(I)Z"⟩) (owner := "TestimonyBook$Rows") (as := [.int x2]) (st := []) (dS hd) cm_X9_has rfl (mm_t4 174 rfl rfl) (mm_t3 14 rfl rfl) (mm_t3 17 rfl rfl) (mm_t3 16 rfl rfl) (T := TX4) (N := 9) rfl dX11_name_20 (R.oC (r := 69) rfl lay_69) rfl (Nat.le_of_ble_eq_true rfl) (Nat.le_of_ble_eq_true rfl) rfl rfl (tr_has lk_X9_13_X4 lay_69 rfl rfl R) (fun E u q => by cases q.1) (fun v u q => th_pU q ?_)
      refine mm_if_eq 30 dX11_name_23 (by decide) (fun c14 => ?_) (fun c14 => ?_)
      · replace H := hT c14 H
        exact t_X11_name_J30 hd R H
      · replace H := hF c14 H
        refine mm_iconst (v := 1) dX11_name_26 (by decide +kernel) ?_
        refine mm_goto 31 dX11_name_27 (by decide) ?_
        rcases hX H with ⟨E1, q15, H16, H⟩ | ⟨vq15, q15, H16, H⟩
        · refine mm_callS (d' := d - 1) (as := [.int 1]) (st := []) (dS hd) cm_X11_demand (mm_t4 175 rfl rfl) (mm_t4 176 rfl rfl) dX11_name_31 rfl (Nat.le_of_ble_eq_true rfl) (Nat.le_of_ble_eq_true rfl) rfl rfl (t_X11_demand (dL hd (by decide)) R H16) (fun o h q => th_eV rfl q (fun R => ?_))
          exact en_xI2 H R
        · refine mm_callS (d' := d - 1) (as := [.int 1]) (st := []) (dS hd) cm_X11_demand (mm_t4 175 rfl rfl) (mm_t4 176 rfl rfl) dX11_name_31 rfl (Nat.le_of_ble_eq_true rfl) (Nat.le_of_ble_eq_true rfl) rfl rfl (t_X11_demand (dL hd (by decide)) R H16) (fun o h q => th_xV q (fun R => ?_))
          refine mm_aload_n dX11_name_34 rfl ?_
          refine rC_getR (t := 65) lk_X11_18_X11 lay_64 rfl rfl dX11_name_35 R ?_
          obtain ⟨C17, e18, H⟩ := hD H
          refine mm_callV (d' := d - 1) (as := []) (st := []) (dS hd) cm_X1_clear (mm_t3 131 rfl rfl) (mm_t3 132 rfl rfl) (mm_t3 133 rfl rfl) (T := TX1) (N := 4) rfl dX11_name_38 (R.oB (Or.inr (Or.inl rfl))).choose_spec rfl (Nat.le_of_ble_eq_true rfl) (Nat.le_of_ble_eq_true rfl) rfl rfl (tb_clear (Or.inr (Or.inl rfl)) R) (fun o h q => th_cV q (fun R => ?_))
          replace R := Rep.cg e18 R
          refine mm_aload_n dX11_name_41 rfl ?_
          refine rC_getR (t := 92) lk_X11_52_X11 lay_64 rfl rfl dX11_name_42 R ?_
          refine mm_iload_n dX11_name_45 rfl ?_
          refine mm_iload_n dX11_name_46 rfl ?_
          obtain ⟨q19, H20, H⟩ := hC H
          refine mm_callV (d' := d - 1) (as := [.int x1, .int x2]) (st := []) (dS hd) cm_X6_nameOf (mm_t5 27 rfl rfl) (mm_t5 28 rfl rfl) (mm_t5 29 rfl rfl) (T := TX6) (N := 6) rfl dX11_name_47 (R.oC (r := 94) rfl lay_94) rfl (Nat.le_of_ble_eq_true rfl) (Nat.le_of_ble_eq_true rfl) rfl rfl (t_X6_nameOf (dL hd (by decide)) R H20) (fun o u q => th_pJ q ?_)
          refine mm_lstore_n (ls' := [some (.ref 64), some (.int x1), some (.int x2), some (.long q19), none]) dX11_name_50 (Nat.le_of_ble_eq_true rfl) rfl ?_
          refine mm_lload_n dX11_name_51 rfl ?_
          refine mm_lconst (v := 0) dX11_name_52 (by decide +kernel) ?_
          refine mm_lcmp dX11_name_53 ?_
          refine mm_if_ne 59 dX11_name_54 (by decide) (fun c21 => ?_) (fun c21 => ?_)
          · replace H := hF c21 H
            refine mm_aload_n dX11_name_59 rfl ?_
            refine rC_getR (t := 65) lk_X11_18_X11 lay_64 rfl rfl dX11_name_60 R ?_
            refine mm_lload_n dX11_name_63 rfl ?_
            obtain ⟨q22, H23, H⟩ := hC H
            refine mm_callV (d' := d - 1) (as := [.long q19]) (st := []) (dS hd) cm_X1_addName (mm_t5 31 rfl rfl) (mm_t5 32 rfl rfl) (mm_t5 33 rfl rfl) (T := TX1) (N := 4) rfl dX11_name_64 (R.oB (Or.inr (Or.inl rfl))).choose_spec rfl (Nat.le_of_ble_eq_true rfl) (Nat.le_of_ble_eq_true rfl) rfl rfl (t_X1_addName_67 (dL hd (by decide)) R H23) (fun o h q => th_cV q (fun R => ?_))
            refine mm_aload_n dX11_name_67 rfl ?_
            refine rC_getR (t := 65) lk_X11_18_X11 lay_64 rfl rfl dX11_name_68 R ?_
            refine rB_get lk_X11_92_X1 (Or.inr (Or.inl rfl)) rfl dX11_name_71 R ?_
            refine mm_iret rfl rfl dX11_name_74 ?_
            exact en_xI H R
          · replace H := hT c21 H
            refine mm_iconst (v := (-1)) dX11_name_57 (by decide +kernel) ?_
            refine mm_iret rfl rfl dX11_name_58 ?_
            exact en_xI H R
def f_X11_demandLines (x1 : Int32) (x2 : Int32) (C : CS) : Option ((String ⊕ Unit) × CS) :=
  if (hasT (gI C 6901) x1) = 0 then (bnx (f_X11_demand 0 C) fun vq2 q2 =>
      some (.inr (), q2))
      else (if (hasT (gI C 6901) x2) = 0 then (bnx (f_X11_demand 0 C) fun vq5 q5 =>
        some (.inr (), q5))
        else (if x2 < x1 then (bnx (f_X11_demand 0 C) fun vq8 q8 =>
          some (.inr (), q8))
          else (bnx (f_X11_demand 1 C) fun vq10 q10 =>
          some (.inr (), q10))))
theorem t_X11_demandLines {g : mm_G} {d : Nat} {h : mm_Hp} {C D : CS} {x1 : Int32} {x2 : Int32} {r : ((String ⊕ Unit) × CS)} (hd : 7 ≤ d) (R : Rep h C D) (H : f_X11_demandLines x1 x2 C = some r) : mm_P g d MX11_demandLines 0 [some (.ref 64), some (.int x1), some (.int x2)] [] h (cXV D r) := by
  unfold f_X11_demandLines at H
  refine mm_aload_n dX11_demandLines_0 rfl ?_
  refine rC_getR (t := 67) lk_X11_24_X11 lay_64 rfl rfl dX11_demandLines_1 R ?_
  refine mm_iload_n dX11_demandLines_4 rfl ?_
  refine mm_callU (d' := d - 1) (x := ⟨"TestimonyBook$Lines", "has", "(I)Z"⟩) (owner := "TestimonyBook$Rows") (as := [.int x1]) (st := []) (dS hd) cm_X9_has rfl (mm_t4 174 rfl rfl) (mm_t3 14 rfl rfl) (mm_t3 17 rfl rfl) (mm_t3 16 rfl rfl) (T := TX4) (N := 9) rfl dX11_demandLines_5 (R.oC (r := 69) rfl lay_69) rfl (Nat.le_of_ble_eq_true rfl) (Nat.le_of_ble_eq_true rfl) rfl rfl (tr_has lk_X9_13_X4 lay_69 rfl rfl R) (fun E u q => by cases q.1) (fun v u q => th_pU q ?_)
  refine mm_if_eq 31 dX11_demandLines_8 (by decide) (fun c1 => ?_) (fun c1 => ?_)
  · replace H := hT c1 H
    refine mm_iconst (v := 0) dX11_demandLines_31 (by decide +kernel) ?_
    rcases hX H with ⟨E1, q2, H3, H⟩ | ⟨vq2, q2, H3, H⟩
    · refine mm_callS (d' := d - 1) (as := [.int 0]) (st := []) (dS hd) cm_X11_demand (mm_t4 175 rfl rfl) (mm_t4 176 rfl rfl) dX11_demandLines_32 rfl (Nat.le_of_ble_eq_true rfl) (Nat.le_of_ble_eq_true rfl) rfl rfl (t_X11_demand (dL hd (by decide)) R H3) (fun o h q => th_eV rfl q (fun R => ?_))
      exact en_xV2 H R
    · refine mm_callS (d' := d - 1) (as := [.int 0]) (st := []) (dS hd) cm_X11_demand (mm_t4 175 rfl rfl) (mm_t4 176 rfl rfl) dX11_demandLines_32 rfl (Nat.le_of_ble_eq_true rfl) (Nat.le_of_ble_eq_true rfl) rfl rfl (t_X11_demand (dL hd (by decide)) R H3) (fun o h q => th_xV q (fun R => ?_))
      refine mm_vret rfl dX11_demandLines_35 ?_
      exact en_xV H R
  · replace H := hF c1 H
    refine mm_aload_n dX11_demandLines_11 rfl ?_
    refine rC_getR (t := 67) lk_X11_24_X11 lay_64 rfl rfl dX11_demandLines_12 R ?_
    refine mm_iload_n dX11_demandLines_15 rfl ?_
    refine mm_callU (d' := d - 1) (x := ⟨"TestimonyBook$Lines", "has", "(I)Z"⟩) (owner := "TestimonyBook$Rows") (as := [.int x2]) (st := []) (dS hd) cm_X9_has rfl (mm_t4 174 rfl rfl) (mm_t3 14 rfl rfl) (mm_t3 17 rfl rfl) (mm_t3 16 rfl rfl) (T := TX4) (N := 9) rfl dX11_demandLines_16 (R.oC (r := 69) rfl lay_69) rfl (Nat.le_of_ble_eq_true rfl) (Nat.le_of_ble_eq_true rfl) rfl rfl (tr_has lk_X9_13_X4 lay_69 rfl rfl R) (fun E u q => by cases q.1) (fun v u q => th_pU q ?_)
    refine mm_if_eq 31 dX11_demandLines_19 (by decide) (fun c4 => ?_) (fun c4 => ?_)
    · replace H := hT c4 H
      refine mm_iconst (v := 0) dX11_demandLines_31 (by decide +kernel) ?_
      rcases hX H with ⟨E1, q5, H6, H⟩ | ⟨vq5, q5, H6, H⟩
      · refine mm_callS (d' := d - 1) (as := [.int 0]) (st := []) (dS hd) cm_X11_demand (mm_t4 175 rfl rfl) (mm_t4 176 rfl rfl) dX11_demandLines_32 rfl (Nat.le_of_ble_eq_true rfl) (Nat.le_of_ble_eq_true rfl) rfl rfl (t_X11_demand (dL hd (by decide)) R H6) (fun o h q => th_eV rfl q (fun R => ?_))
        exact en_xV2 H R
      · refine mm_callS (d' := d - 1) (as := [.int 0]) (st := []) (dS hd) cm_X11_demand (mm_t4 175 rfl rfl) (mm_t4 176 rfl rfl) dX11_demandLines_32 rfl (Nat.le_of_ble_eq_true rfl) (Nat.le_of_ble_eq_true rfl) rfl rfl (t_X11_demand (dL hd (by decide)) R H6) (fun o h q => th_xV q (fun R => ?_))
        refine mm_vret rfl dX11_demandLines_35 ?_
        exact en_xV H R
    · replace H := hF c4 H
      refine mm_iload_n dX11_demandLines_22 rfl ?_
      refine mm_iload_n dX11_demandLines_23 rfl ?_
      refine mm_icmp_gt 31 dX11_demandLines_24 (by decide) (fun c7 => ?_) (fun c7 => ?_)
      · replace H := hT c7 H
        refine mm_iconst (v := 0) dX11_demandLines_31 (by decide +kernel) ?_
        rcases hX H with ⟨E1, q8, H9, H⟩ | ⟨vq8, q8, H9, H⟩
        · refine mm_callS (d' := d - 1) (as := [.int 0]) (st := []) (dS hd) cm_X11_demand (mm_t4 175 rfl rfl) (mm_t4 176 rfl rfl) dX11_demandLines_32 rfl (Nat.le_of_ble_eq_true rfl) (Nat.le_of_ble_eq_true rfl) rfl rfl (t_X11_demand (dL hd (by decide)) R H9) (fun o h q => th_eV rfl q (fun R => ?_))
          exact en_xV2 H R
        · refine mm_callS (d' := d - 1) (as := [.int 0]) (st := []) (dS hd) cm_X11_demand (mm_t4 175 rfl rfl) (mm_t4 176 rfl rfl) dX11_demandLines_32 rfl (Nat.le_of_ble_eq_true rfl) (Nat.le_of_ble_eq_true rfl) rfl rfl (t_X11_demand (dL hd (by decide)) R H9) (fun o h q => th_xV q (fun R => ?_))
          refine mm_vret rfl dX11_demandLines_35 ?_
          exact en_xV H R
      · replace H := hF c7 H
        refine mm_iconst (v := 1) dX11_demandLines_27 (by decide +kernel) ?_
        refine mm_goto 32 dX11_demandLines_28 (by decide) ?_
        rcases hX H with ⟨E1, q10, H11, H⟩ | ⟨vq10, q10, H11, H⟩
        · refine mm_callS (d' := d - 1) (as := [.int 1]) (st := []) (dS hd) cm_X11_demand (mm_t4 175 rfl rfl) (mm_t4 176 rfl rfl) dX11_demandLines_32 rfl (Nat.le_of_ble_eq_true rfl) (Nat.le_of_ble_eq_true rfl) rfl rfl (t_X11_demand (dL hd (by decide)) R H11) (fun o h q => th_eV rfl q (fun R => ?_))
          exact en_xV2 H R
        · refine mm_callS (d' := d - 1) (as := [.int 1]) (st := []) (dS hd) cm_X11_demand (mm_t4 175 rfl rfl) (mm_t4 176 rfl rfl) dX11_demandLines_32 rfl (Nat.le_of_ble_eq_true rfl) (Nat.le_of_ble_eq_true rfl) rfl rfl (t_X11_demand (dL hd (by decide)) R H11) (fun o h q => th_xV q (fun R => ?_))
          refine mm_vret rfl dX11_demandLines_35 ?_
          exact en_xV H R
def f_X11_isLevel (x0 : Int32) (C : CS) : Option Int32 :=
  if x0 < 0 then (some 0)
    else (if 3 < x0 then (some 0)
      else (some 1))
theorem t_X11_isLevel {g : mm_G} {d : Nat} {h : mm_Hp} {C D : CS} {x0 : Int32} {r : Int32} (hd : 0 ≤ d) (R : Rep h C D) (H : f_X11_isLevel x0 C = some r) : mm_P g d MX11_isLevel 0 [some (.int x0)] [] h (mm_pureI r h) := by
  unfold f_X11_isLevel at H
  refine mm_iload_n dX11_isLevel_0 rfl ?_
  refine mm_if_lt 13 dX11_isLevel_1 (by decide) (fun c1 => ?_) (fun c1 => ?_)
  · replace H := hT c1 H
    refine mm_iconst (v := 0) dX11_isLevel_13 (by decide +kernel) ?_
    refine mm_iret rfl rfl dX11_isLevel_14 ?_
    exact en_pI H
  · replace H := hF c1 H
    refine mm_iload_n dX11_isLevel_4 rfl ?_
    refine mm_iconst (v := 3) dX11_isLevel_5 (by decide +kernel) ?_
    refine mm_icmp_gt 13 dX11_isLevel_6 (by decide) (fun c2 => ?_) (fun c2 => ?_)
    · replace H := hT c2 H
      refine mm_iconst (v := 0) dX11_isLevel_13 (by decide +kernel) ?_
      refine mm_iret rfl rfl dX11_isLevel_14 ?_
      exact en_pI H
    · replace H := hF c2 H
      refine mm_iconst (v := 1) dX11_isLevel_9 (by decide +kernel) ?_
      refine mm_goto 14 dX11_isLevel_10 (by decide) ?_
      refine mm_iret rfl rfl dX11_isLevel_14 ?_
      exact en_pI H
def f_X7_add (x1 : Int32) (x2 : Int32) (x3 : Int32) (x4 : Int32) (C : CS) : Option (Int32 × CS) :=
  if (gI C 9801) < (gI C 9800) then (if inb (gI C 9801) 60 = true then (bd (sA C 99 ((gI C 9801)).toNatClampNeg x1) fun C3 =>
    if inb (gI C3 9801) 60 = true then (bd (sA C3 100 ((gI C3 9801)).toNatClampNeg x2) fun C6 =>
    if inb (gI C6 9801) 60 = true then (bd (sA C6 101 ((gI C6 9801)).toNatClampNeg x3) fun C9 =>
    if inb (gI C9 9801) 60 = true then (bd (sA C9 102 ((gI C9 9801)).toNatClampNeg x4) fun C12 =>
    if inb (gI C12 9801) 60 = true then (bd (sA C12 103 ((gI C12 9801)).toNatClampNeg (-1)) fun C15 =>
    bd (sI C15 9801 ((gI C15 9801) + 1)) fun C17 =>
    some (((gI C17 9801) - 1), C17)) else none) else none) else none) else none) else none)
    else (some ((-1), C))
theorem t_X7_add {g : mm_G} {d : Nat} {h : mm_Hp} {C D : CS} {x1 : Int32} {x2 : Int32} {x3 : Int32} {x4 : Int32} {r : (Int32 × CS)} (hd : 0 ≤ d) (R : Rep h C D) (H : f_X7_add x1 x2 x3 x4 C = some r) : mm_P g d MX7_add 0 [some (.ref 98), some (.int x1), some (.int x2), some (.int x3), some (.int x4)] [] h (cI D r) := by
  unfold f_X7_add at H
  refine mm_aload_n dX7_add_0 rfl ?_
  refine rC_get (key := 9801) lk_X7_27_X7 lay_98 rfl rfl rfl dX7_add_1 R ?_
  refine mm_aload_n dX7_add_4 rfl ?_
  refine rC_get (key := 9800) lk_X7_31_X7 lay_98 rfl rfl rfl dX7_add_5 R ?_
  refine mm_icmp_lt 13 dX7_add_8 (by decide) (fun c1 => ?_) (fun c1 => ?_)
  · replace H := hT c1 H
    refine mm_aload_n dX7_add_13 rfl ?_
    refine rC_getR (t := 97) lk_X7_9_X7 lay_98 rfl rfl dX7_add_14 R ?_
    refine mm_aload_n dX7_add_17 rfl ?_
    refine rC_get (key := 9801) lk_X7_27_X7 lay_98 rfl rfl rfl dX7_add_18 R ?_
    refine mm_iload_n dX7_add_21 rfl ?_
    obtain ⟨b2, H⟩ := hB H
    obtain ⟨C3, e4, H⟩ := hD H
    refine rC_iast lay_99 rfl dX7_add_22 R b2 e4 (fun h R => ?_)
    refine mm_aload_n dX7_add_23 rfl ?_
    refine rC_getR (t := 98) lk_X7_15_X7 lay_98 rfl rfl dX7_add_24 R ?_
    refine mm_aload_n dX7_add_27 rfl ?_
    refine rC_get (key := 9801) lk_X7_27_X7 lay_98 rfl rfl rfl dX7_add_28 R ?_
    refine mm_iload_n dX7_add_31 rfl ?_
    obtain ⟨b5, H⟩ := hB H
    obtain ⟨C6, e7, H⟩ := hD H
    refine rC_iast lay_100 rfl dX7_add_32 R b5 e7 (fun h R => ?_)
    refine mm_aload_n dX7_add_33 rfl ?_
    refine rC_getR (t := 99) lk_X7_18_X7 lay_98 rfl rfl dX7_add_34 R ?_
    refine mm_aload_n dX7_add_37 rfl ?_
    refine rC_get (key := 9801) lk_X7_27_X7 lay_98 rfl rfl rfl dX7_add_38 R ?_
    refine mm_iload_n dX7_add_41 rfl ?_
    obtain ⟨b8, H⟩ := hB H
    obtain ⟨C9, e10, H⟩ := hD H
    refine rC_iast lay_101 rfl dX7_add_42 R b8 e10 (fun h R => ?_)
    refine mm_aload_n dX7_add_43 rfl ?_
    refine rC_getR (t := 100) lk_X7_21_X7 lay_98 rfl rfl dX7_add_44 R ?_
    refine mm_aload_n dX7_add_47 rfl ?_
    refine rC_get (key := 9801) lk_X7_27_X7 lay_98 rfl rfl rfl dX7_add_48 R ?_
    refine mm_iload dX7_add_51 rfl ?_
    obtain ⟨b11, H⟩ := hB H
    obtain ⟨C12, e13, H⟩ := hD H
    refine rC_iast lay_102 rfl dX7_add_53 R b11 e13 (fun h R => ?_)
    refine mm_aload_n dX7_add_54 rfl ?_
    refine rC_getR (t := 101) lk_X7_24_X7 lay_98 rfl rfl dX7_add_55 R ?_
    refine mm_aload_n dX7_add_58 rfl ?_
    refine rC_get (key := 9801) lk_X7_27_X7 lay_98 rfl rfl rfl dX7_add_59 R ?_
    refine mm_iconst (v := (-1)) dX7_add_62 (by decide +kernel) ?_
    obtain ⟨b14, H⟩ := hB H
    obtain ⟨C15, e16, H⟩ := hD H
    refine rC_iast lay_103 rfl dX7_add_63 R b14 e16 (fun h R => ?_)
    refine mm_aload_n dX7_add_64 rfl ?_
    refine mm_dup rfl dX7_add_65 ?_
    refine rC_get (key := 9801) lk_X7_27_X7 lay_98 rfl rfl rfl dX7_add_66 R ?_
    refine mm_iconst (v := 1) dX7_add_69 (by decide +kernel) ?_
    refine mm_iadd dX7_add_70 ?_
    obtain ⟨C17, e18, H⟩ := hD H
    refine rC_put (key := 9801) lk_X7_27_X7 lay_98 rfl rfl rfl rfl rfl dX7_add_71 R e18 (fun h R => ?_)
    refine mm_aload_n dX7_add_74 rfl ?_
    refine rC_get (key := 9801) lk_X7_27_X7 lay_98 rfl rfl rfl dX7_add_75 R ?_
    refine mm_iconst (v := 1) dX7_add_78 (by decide +kernel) ?_
    refine mm_isub dX7_add_79 ?_
    refine mm_iret rfl rfl dX7_add_80 ?_
    exact en_cI H R
  · replace H := hF c1 H
    refine mm_iconst (v := (-1)) dX7_add_11 (by decide +kernel) ?_
    refine mm_iret rfl rfl dX7_add_12 ?_
    exact en_cI H R
