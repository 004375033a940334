def f_X12_thrown (D : CS) : Option Int32 :=
  some (gI D 11300)
theorem t_X12_thrown {g : mm_G} {d : Nat} {h : mm_Hp} {C D : CS} {r : Int32} (hd : 0 ≤ d) (R : Rep h C D) (H : f_X12_thrown D = some r) : mm_P g d MX12_thrown 0 [some (.ref 113)] [] h (mm_pureI r h) := by
  unfold f_X12_thrown at H
  refine mm_aload_n dX12_thrown_0 rfl ?_
  refine rD_get (key := 11300) lk_X12_111_X12 lay_113 rfl rfl rfl dX12_thrown_1 R ?_
  refine mm_iret rfl rfl dX12_thrown_4 ?_
  exact en_pI H
def f_X12_fail (x1 : Int32) (D : CS) : Option (Int32 × CS) :=
  bd (sI D 11300 x1) fun D1 =>
  some (0, D1)
theorem t_X12_fail {g : mm_G} {d : Nat} {h : mm_Hp} {C D : CS} {x1 : Int32} {r : (Int32 × CS)} (hd : 0 ≤ d) (R : Rep h C D) (H : f_X12_fail x1 D = some r) : mm_P g d MX12_fail 0 [some (.ref 113), some (.int x1)] [] h (dI C r) := by
  unfold f_X12_fail at H
  refine mm_aload_n dX12_fail_0 rfl ?_
  refine mm_iload_n dX12_fail_1 rfl ?_
  obtain ⟨D1, e2, H⟩ := hD H
  refine rD_put (key := 11300) lk_X12_111_X12 lay_113 rfl rfl rfl rfl rfl dX12_fail_2 R e2 (fun h R => ?_)
  refine mm_iconst (v := 0) dX12_fail_5 (by decide +kernel) ?_
  refine mm_iret rfl rfl dX12_fail_6 ?_
  exact en_dI H R
def f_X12_isLine (x1 : Int32) (D : CS) : Option Int32 :=
  if x1 < 0 then (some 0)
    else (if (gI D 11308) ≤ x1 then (some 0)
      else (some 1))
theorem t_X12_isLine {g : mm_G} {d : Nat} {h : mm_Hp} {C D : CS} {x1 : Int32} {r : Int32} (hd : 0 ≤ d) (R : Rep h C D) (H : f_X12_isLine x1 D = some r) : mm_P g d MX12_isLine 0 [some (.ref 113), some (.int x1)] [] h (mm_pureI r h) := by
  unfold f_X12_isLine at H
  refine mm_iload_n dX12_isLine_0 rfl ?_
  refine mm_if_lt 16 dX12_isLine_1 (by decide) (fun c1 => ?_) (fun c1 => ?_)
  · replace H := hT c1 H
    refine mm_iconst (v := 0) dX12_isLine_16 (by decide +kernel) ?_
    refine mm_iret rfl rfl dX12_isLine_17 ?_
    exact en_pI H
  · replace H := hF c1 H
    refine mm_iload_n dX12_isLine_4 rfl ?_
    refine mm_aload_n dX12_isLine_5 rfl ?_
    refine rD_get (key := 11308) lk_X12_114_X12 lay_113 rfl rfl rfl dX12_isLine_6 R ?_
    refine mm_icmp_ge 16 dX12_isLine_9 (by decide) (fun c2 => ?_) (fun c2 => ?_)
    · replace H := hT c2 H
      refine mm_iconst (v := 0) dX12_isLine_16 (by decide +kernel) ?_
      refine mm_iret rfl rfl dX12_isLine_17 ?_
      exact en_pI H
    · replace H := hF c2 H
      refine mm_iconst (v := 1) dX12_isLine_12 (by decide +kernel) ?_
      refine mm_goto 17 dX12_isLine_13 (by decide) ?_
      refine mm_iret rfl rfl dX12_isLine_17 ?_
      exact en_pI H
def f_X12_feed_L23 (N : Nat) (x1 : Int32) (x2 : Int32) (x3 : Int32) (x4 : Int32) (x5 : Int32) : Nat → Int32 → CS → Option (CS)
  | 0, _, _ => none
  | n + 1, x6, D => if 20 ≤ x6 then (some D)
    else (if 4 ≤ x6 then (if 8 ≤ x6 then (if 12 ≤ x6 then (if 16 ≤ x6 then (if inb (gI D 11303) 3000 = true then (bd (sA D 114 ((gI D 11303)).toNatClampNeg ((x5 >>> ((24 - (8 * (x6 - x6 / 4 * 4))) &&& 31)) &&& 255)) fun D10 =>
            bd (sI D10 11303 ((gI D10 11303) + 1)) fun D12 =>
            f_X12_feed_L23 N x1 x2 x3 x4 x5 n (x6 + 1) D12) else none)
            else (if inb (gI D 11303) 3000 = true then (bd (sA D 114 ((gI D 11303)).toNatClampNeg ((x4 >>> ((24 - (8 * (x6 - x6 / 4 * 4))) &&& 31)) &&& 255)) fun D15 =>
            bd (sI D15 11303 ((gI D15 11303) + 1)) fun D17 =>
            f_X12_feed_L23 N x1 x2 x3 x4 x5 n (x6 + 1) D17) else none))
          else (if inb (gI D 11303) 3000 = true then (bd (sA D 114 ((gI D 11303)).toNatClampNeg ((x3 >>> ((24 - (8 * (x6 - x6 / 4 * 4))) &&& 31)) &&& 255)) fun D20 =>
          bd (sI D20 11303 ((gI D20 11303) + 1)) fun D22 =>
          f_X12_feed_L23 N x1 x2 x3 x4 x5 n (x6 + 1) D22) else none))
        else (if inb (gI D 11303) 3000 = true then (bd (sA D 114 ((gI D 11303)).toNatClampNeg ((x2 >>> ((24 - (8 * (x6 - x6 / 4 * 4))) &&& 31)) &&& 255)) fun D25 =>
        bd (sI D25 11303 ((gI D25 11303) + 1)) fun D27 =>
        f_X12_feed_L23 N x1 x2 x3 x4 x5 n (x6 + 1) D27) else none))
      else (if inb (gI D 11303) 3000 = true then (bd (sA D 114 ((gI D 11303)).toNatClampNeg ((x1 >>> ((24 - (8 * (x6 - x6 / 4 * 4))) &&& 31)) &&& 255)) fun D30 =>
      bd (sI D30 11303 ((gI D30 11303) + 1)) fun D32 =>
      f_X12_feed_L23 N x1 x2 x3 x4 x5 n (x6 + 1) D32) else none))
theorem t_X12_feed_L23 {g : mm_G} {d : Nat} {Post : mm_Ou → mm_Hp → Prop} {C : CS} {N : Nat} {x1 : Int32} {x2 : Int32} {x3 : Int32} {x4 : Int32} {x5 : Int32} {res : (CS)} (hd : 0 ≤ d) (KE : ∀ (h1 : mm_Hp), Rep h1 C res → mm_P g d MX12_feed 120 [some (.ref 113), none, none, none, none, none, none, none] [] h1 Post) : ∀ (n : Nat) (x6 : Int32) (D : CS) (h : mm_Hp) , Rep h C D → f_X12_feed_L23 N x1 x2 x3 x4 x5 n x6 D = some res → mm_P g d MX12_feed 23 [some (.ref 113), some (.int x1), some (.int x2), some (.int x3), some (.int x4), some (.int x5), some (.int x6), none] [] h Post := by
  intro n
  induction n with
  | zero =>
    intro x6 D h R H
    exact hN H
  | succ n ih =>
    intro x6 D h R H
    unfold f_X12_feed_L23 at H
    refine mm_iload dX12_feed_23 rfl ?_
    refine mm_bipush (v := 20) dX12_feed_25 (by decide +kernel) ?_
    refine mm_icmp_ge 120 dX12_feed_27 (by decide) (fun c4 => ?_) (fun c4 => ?_)
    · replace H := hT c4 H
      refine mm_fgt (ls' := [some (.ref 113), none, none, none, none, none, none, none]) ⟨rfl, trivial⟩ ?_
      cases H
      exact KE _ R
    · replace H := hF c4 H
      refine mm_iload dX12_feed_30 rfl ?_
      refine mm_iconst (v := 4) dX12_feed_32 (by decide +kernel) ?_
      refine mm_icmp_ge 40 dX12_feed_33 (by decide) (fun c5 => ?_) (fun c5 => ?_)
      · replace H := hT c5 H
        refine mm_iload dX12_feed_40 rfl ?_
        refine mm_bipush (v := 8) dX12_feed_42 (by decide +kernel) ?_
        refine mm_icmp_ge 51 dX12_feed_44 (by decide) (fun c6 => ?_) (fun c6 => ?_)
        · replace H := hT c6 H
          refine mm_iload dX12_feed_51 rfl ?_
          refine mm_bipush (v := 12) dX12_feed_53 (by decide +kernel) ?_
          refine mm_icmp_ge 62 dX12_feed_55 (by decide) (fun c7 => ?_) (fun c7 => ?_)
          · replace H := hT c7 H
            refine mm_iload dX12_feed_62 rfl ?_
            refine mm_bipush (v := 16) dX12_feed_64 (by decide +kernel) ?_
            refine mm_icmp_ge 74 dX12_feed_66 (by decide) (fun c8 => ?_) (fun c8 => ?_)
            · replace H := hT c8 H
              refine mm_iload dX12_feed_74 rfl ?_
              refine mm_istore (ls' := [some (.ref 113), some (.int x1), some (.int x2), some (.int x3), some (.int x4), some (.int x5), some (.int x6), some (.int x5)]) dX12_feed_76 (Nat.le_of_ble_eq_true rfl) rfl ?_
              refine mm_aload_n dX12_feed_78 rfl ?_
              refine rD_getR (t := 112) lk_X12_9_X12 lay_113 rfl rfl dX12_feed_79 R ?_
              refine mm_aload_n dX12_feed_82 rfl ?_
              refine rD_get (key := 11303) lk_X12_117_X12 lay_113 rfl rfl rfl dX12_feed_83 R ?_
              refine mm_iload dX12_feed_86 rfl ?_
              refine mm_bipush (v := 24) dX12_feed_88 (by decide +kernel) ?_
              refine mm_bipush (v := 8) dX12_feed_90 (by decide +kernel) ?_
              refine mm_iload dX12_feed_92 rfl ?_
              refine mm_iconst (v := 4) dX12_feed_94 (by decide +kernel) ?_
              refine mm_irem (by decide) dX12_feed_95 ?_
              refine mm_imul dX12_feed_96 ?_
              refine mm_isub dX12_feed_97 ?_
              refine mm_ishr dX12_feed_98 ?_
              refine mm_sipush (v := 255) dX12_feed_99 (by decide +kernel) ?_
              refine mm_iand dX12_feed_102 ?_
              obtain ⟨b9, H⟩ := hB H
              obtain ⟨D10, e11, H⟩ := hD H
              refine rD_iast lay_114 rfl dX12_feed_103 R b9 e11 (fun h R => ?_)
              refine mm_aload_n dX12_feed_104 rfl ?_
              refine mm_dup rfl dX12_feed_105 ?_
              refine rD_get (key := 11303) lk_X12_117_X12 lay_113 rfl rfl rfl dX12_feed_106 R ?_
              refine mm_iconst (v := 1) dX12_feed_109 (by decide +kernel) ?_
              refine mm_iadd dX12_feed_110 ?_
              obtain ⟨D12, e13, H⟩ := hD H
              refine rD_put (key := 11303) lk_X12_117_X12 lay_113 rfl rfl rfl rfl rfl dX12_feed_111 R e13 (fun h R => ?_)
              refine mm_iinc (v := (x6 + 1)) (ls' := [some (.ref 113), some (.int x1), some (.int x2), some (.int x3), some (.int x4), some (.int x5), some (.int (x6 + 1)), some (.int x5)]) dX12_feed_114 rfl rfl rfl ?_
              refine mm_goto 23 dX12_feed_117 (by decide) ?_
              refine mm_fgt (ls' := [some (.ref 113), some (.int x1), some (.int x2), some (.int x3), some (.int x4), some (.int x5), some (.int (x6 + 1)), none]) ⟨rfl, rfl, rfl, rfl, rfl, rfl, rfl, trivial⟩ ?_
              exact ih _ _ _ R H
            · replace H := hF c8 H
              refine mm_iload dX12_feed_69 rfl ?_
              refine mm_goto 76 dX12_feed_71 (by decide) ?_
              refine mm_istore (ls' := [some (.ref 113), some (.int x1), some (.int x2), some (.int x3), some (.int x4), some (.int x5), some (.int x6), some (.int x4)]) dX12_feed_76 (Nat.le_of_ble_eq_true rfl) rfl ?_
              refine mm_aload_n dX12_feed_78 rfl ?_
              refine rD_getR (t := 112) lk_X12_9_X12 lay_113 rfl rfl dX12_feed_79 R ?_
              refine mm_aload_n dX12_feed_82 rfl ?_
              refine rD_get (key := 11303) lk_X12_117_X12 lay_113 rfl rfl rfl dX12_feed_83 R ?_
              refine mm_iload dX12_feed_86 rfl ?_
              refine mm_bipush (v := 24) dX12_feed_88 (by decide +kernel) ?_
              refine mm_bipush (v := 8) dX12_feed_90 (by decide +kernel) ?_
              refine mm_iload dX12_feed_92 rfl ?_
              refine mm_iconst (v := 4) dX12_feed_94 (by decide +kernel) ?_
              refine mm_irem (by decide) dX12_feed_95 ?_
              refine mm_imul dX12_feed_96 ?_
              refine mm_isub dX12_feed_97 ?_
              refine mm_ishr dX12_feed_98 ?_
              refine mm_sipush (v := 255) dX12_feed_99 (by decide +kernel) ?_
              refine mm_iand dX12_feed_102 ?_
              obtain ⟨b14, H⟩ := hB H
              obtain ⟨D15, e16, H⟩ := hD H
              refine rD_iast lay_114 rfl dX12_feed_103 R b14 e16 (fun h R => ?_)
              refine mm_aload_n dX12_feed_104 rfl ?_
              refine mm_dup rfl dX12_feed_105 ?_
              refine rD_get (key := 11303) lk_X12_117_X12 lay_113 rfl rfl rfl dX12_feed_106 R ?_
              refine mm_iconst (v := 1) dX12_feed_109 (by decide +kernel) ?_
              refine mm_iadd dX12_feed_110 ?_
              obtain ⟨D17, e18, H⟩ := hD H
              refine rD_put (key := 11303) lk_X12_117_X12 lay_113 rfl rfl rfl rfl rfl dX12_feed_111 R e18 (fun h R => ?_)
              refine mm_iinc (v := (x6 + 1)) (ls' := [some (.ref 113), some (.int x1), some (.int x2), some (.int x3), some (.int x4), some (.int x5), some (.int (x6 + 1)), some (.int x4)]) dX12_feed_114 rfl rfl rfl ?_
              refine mm_goto 23 dX12_feed_117 (by decide) ?_
              refine mm_fgt (ls' := [some (.ref 113), some (.int x1), some (.int x2), some (.int x3), some (.int x4), some (.int x5), some (.int (x6 + 1)), none]) ⟨rfl, rfl, rfl, rfl, rfl, rfl, rfl, trivial⟩ ?_
              exact ih _ _ _ R H
          · replace H := hF c7 H
            refine mm_iload_n dX12_feed_58 rfl ?_
            refine mm_goto 76 dX12_feed_59 (by decide) ?_
            refine mm_istore (ls' := [some (.ref 113), some (.int x1), some (.int x2), some (.int x3), some (.int x4), some (.int x5), some (.int x6), some (.int x3)]) dX12_feed_76 (Nat.le_of_ble_eq_true rfl) rfl ?_
            refine mm_aload_n dX12_feed_78 rfl ?_
            refine rD_getR (t := 112) lk_X12_9_X12 lay_113 rfl rfl dX12_feed_79 R ?_
            refine mm_aload_n dX12_feed_82 rfl ?_
            refine rD_get (key := 11303) lk_X12_117_X12 lay_113 rfl rfl rfl dX12_feed_83 R ?_
            refine mm_iload dX12_feed_86 rfl ?_
            refine mm_bipush (v := 24) dX12_feed_88 (by decide +kernel) ?_
            refine mm_bipush (v := 8) dX12_feed_90 (by decide +kernel) ?_
            refine mm_iload dX12_feed_92 rfl ?_
            refine mm_iconst (v := 4) dX12_feed_94 (by decide +kernel) ?_
            refine mm_irem (by decide) dX12_feed_95 ?_
            refine mm_imul dX12_feed_96 ?_
            refine mm_isub dX12_feed_97 ?_
            refine mm_ishr dX12_feed_98 ?_
            refine mm_sipush (v := 255) dX12_feed_99 (by decide +kernel) ?_
            refine mm_iand dX12_feed_102 ?_
            obtain ⟨b19, H⟩ := hB H
            obtain ⟨D20, e21, H⟩ := hD H
            refine rD_iast lay_114 rfl dX12_feed_103 R b19 e21 (fun h R => ?_)
            refine mm_aload_n dX12_feed_104 rfl ?_
            refine mm_dup rfl dX12_feed_105 ?_
            refine rD_get (key := 11303) lk_X12_117_X12 lay_113 rfl rfl rfl dX12_feed_106 R ?_
            refine mm_iconst (v := 1) dX12_feed_109 (by decide +kernel) ?_
            refine mm_iadd dX12_feed_110 ?_
            obtain ⟨D22, e23, H⟩ := hD H
            refine rD_put (key := 11303) lk_X12_117_X12 lay_113 rfl rfl rfl rfl rfl dX12_feed_111 R e23 (fun h R => ?_)
            refine mm_iinc (v := (x6 + 1)) (ls' := [some (.ref 113), some (.int x1), some (.int x2), some (.int x3), some (.int x4), some (.int x5), some (.int (x6 + 1)), some (.int x3)]) dX12_feed_114 rfl rfl rfl ?_
            refine mm_goto 23 dX12_feed_117 (by decide) ?_
            refine mm_fgt (ls' := [some (.ref 113), some (.int x1), some (.int x2), some (.int x3), some (.int x4), some (.int x5), some (.int (x6 + 1)), none]) ⟨rfl, rfl, rfl, rfl, rfl, rfl, rfl, trivial⟩ ?_
            exact ih _ _ _ R H
        · replace H := hF c6 H
          refine mm_iload_n dX12_feed_47 rfl ?_
          refine mm_goto 76 dX12_feed_48 (by decide) ?_
          refine mm_istore (ls' := [some (.ref 113), some (.int x1), some (.int x2), some (.int x3), some (.int x4), some (.int x5), some (.int x6), some (.int x2)]) dX12_feed_76 (Nat.le_of_ble_eq_true rfl) rfl ?_
          refine mm_aload_n dX12_feed_78 rfl ?_
          refine rD_getR (t := 112) lk_X12_9_X12 lay_113 rfl rfl dX12_feed_79 R ?_
          refine mm_aload_n dX12_feed_82 rfl ?_
          refine rD_get (key := 11303) lk_X12_117_X12 lay_113 rfl rfl rfl dX12_feed_83 R ?_
          refine mm_iload dX12_feed_86 rfl ?_
          refine mm_bipush (v := 24) dX12_feed_88 (by decide +kernel) ?_
          refine mm_bipush (v := 8) dX12_feed_90 (by decide +kernel) ?_
          refine mm_iload dX12_feed_92 rfl ?_
          refine mm_iconst (v := 4) dX12_feed_94 (by decide +kernel) ?_
          refine mm_irem (by decide) dX12_feed_95 ?_
          refine mm_imul dX12_feed_96 ?_
          refine mm_isub dX12_feed_97 ?_
          refine mm_ishr dX12_feed_98 ?_
          refine mm_sipush (v := 255) dX12_feed_99 (by decide +kernel) ?_
          refine mm_iand dX12_feed_102 ?_
          obtain ⟨b24, H⟩ := hB H
          obtain ⟨D25, e26, H⟩ := hD H
          refine rD_iast lay_114 rfl dX12_feed_103 R b24 e26 (fun h R => ?_)
          refine mm_aload_n dX12_feed_104 rfl ?_
          refine mm_dup rfl dX12_feed_105 ?_
          refine rD_get (key := 11303) lk_X12_117_X12 lay_113 rfl rfl rfl dX12_feed_106 R ?_
          refine mm_iconst (v := 1) dX12_feed_109 (by decide +kernel) ?_
          refine mm_iadd dX12_feed_110 ?_
          obtain ⟨D27, e28, H⟩ := hD H
          refine rD_put (key := 11303) lk_X12_117_X12 lay_113 rfl rfl rfl rfl rfl dX12_feed_111 R e28 (fun h R => ?_)
          refine mm_iinc (v := (x6 + 1)) (ls' := [some (.ref 113), some (.int x1), some (.int x2), some (.int x3), some (.int x4), some (.int x5), some (.int (x6 + 1)), some (.int x2)]) dX12_feed_114 rfl rfl rfl ?_
          refine mm_goto 23 dX12_feed_117 (by decide) ?_
          refine mm_fgt (ls' := [some (.ref 113), some (.int x1), some (.int x2), some (.int x3), some (.int x4), some (.int x5), some (.int (x6 + 1)), none]) ⟨rfl, rfl, rfl, rfl, rfl, rfl, rfl, trivial⟩ ?_
          exact ih _ _ _ R H
      · replace H := hF c5 H
        refine mm_iload_n dX12_feed_36 rfl ?_
        refine mm_goto 76 dX12_feed_37 (by decide) ?_
        refine mm_istore (ls' := [some (.ref 113), some (.int x1), some (.int x2), some (.int x3), some (.int x4), some (.int x5), some (.int x6), some (.int x1)]) dX12_feed_76 (Nat.le_of_ble_eq_true rfl) rfl ?_
        refine mm_aload_n dX12_feed_78 rfl ?_
        refine rD_getR (t := 112) lk_X12_9_X12 lay_113 rfl rfl dX12_feed_79 R ?_
        refine mm_aload_n dX12_feed_82 rfl ?_
        refine rD_get (key := 11303) lk_X12_117_X12 lay_113 rfl rfl rfl dX12_feed_83 R ?_
        refine mm_iload dX12_feed_86 rfl ?_
        refine mm_bipush (v := 24) dX12_feed_88 (by decide +kernel) ?_
        refine mm_bipush (v := 8) dX12_feed_90 (by decide +kernel) ?_
        refine mm_iload dX12_feed_92 rfl ?_
        refine mm_iconst (v := 4) dX12_feed_94 (by decide +kernel) ?_
        refine mm_irem (by decide) dX12_feed_95 ?_
        refine mm_imul dX12_feed_96 ?_
        refine mm_isub dX12_feed_97 ?_
        refine mm_ishr dX12_feed_98 ?_
        refine mm_sipush (v := 255) dX12_feed_99 (by decide +kernel) ?_
        refine mm_iand dX12_feed_102 ?_
        obtain ⟨b29, H⟩ := hB H
        obtain ⟨D30, e31, H⟩ := hD H
        refine rD_iast lay_114 rfl dX12_feed_103 R b29 e31 (fun h R => ?_)
        refine mm_aload_n dX12_feed_104 rfl ?_
        refine mm_dup rfl dX12_feed_105 ?_
        refine rD_get (key := 11303) lk_X12_117_X12 lay_113 rfl rfl rfl dX12_feed_106 R ?_
        refine mm_iconst (v := 1) dX12_feed_109 (by decide +kernel) ?_
        refine mm_iadd dX12_feed_110 ?_
        obtain ⟨D32, e33, H⟩ := hD H
        refine rD_put (key := 11303) lk_X12_117_X12 lay_113 rfl rfl rfl rfl rfl dX12_feed_111 R e33 (fun h R => ?_)
        refine mm_iinc (v := (x6 + 1)) (ls' := [some (.ref 113), some (.int x1), some (.int x2), some (.int x3), some (.int x4), some (.int x5), some (.int (x6 + 1)), some (.int x1)]) dX12_feed_114 rfl rfl rfl ?_
        refine mm_goto 23 dX12_feed_117 (by decide) ?_
        refine mm_fgt (ls' := [some (.ref 113), some (.int x1), some (.int x2), some (.int x3), some (.int x4), some (.int x5), some (.int (x6 + 1)), none]) ⟨rfl, rfl, rfl, rfl, rfl, rfl, rfl, trivial⟩ ?_
        exact ih _ _ _ R H
def f_X12_feed (N : Nat) (x1 : Int32) (x2 : Int32) (x3 : Int32) (x4 : Int32) (x5 : Int32) (D : CS) : Option (Int32 × CS) :=
  bd (sI D 11300 0) fun D1 =>
  if ((gI D1 11303) + 20) ≤ 3000 then (bnd (f_X12_feed_L23 N x1 x2 x3 x4 x5 N 0 D1) fun q34 =>
      some ((gI q34 11303), q34))
      else (some ((-1), D1))
theorem t_X12_feed {g : mm_G} {d : Nat} {h : mm_Hp} {C D : CS} {N : Nat} {x1 : Int32} {x2 : Int32} {x3 : Int32} {x4 : Int32} {x5 : Int32} {r : (Int32 × CS)} (hd : 0 ≤ d) (R : Rep h C D) (H : f_X12_feed N x1 x2 x3 x4 x5 D = some r) : mm_P g d MX12_feed 0 [some (.ref 113), some (.int x1), some (.int x2), some (.int x3), some (.int x4), some (.int x5), none, none] [] h (dI C r) := by
  unfold f_X12_feed at H
  refine mm_aload_n dX12_feed_0 rfl ?_
  refine mm_iconst (v := 0) dX12_feed_1 (by decide +kernel) ?_
  obtain ⟨D1, e2, H⟩ := hD H
  refine rD_put (key := 11300) lk_X12_111_X12 lay_113 rfl rfl rfl rfl rfl dX12_feed_2 R e2 (fun h R => ?_)
  refine mm_aload_n dX12_feed_5 rfl ?_
  refine rD_get (key := 11303) lk_X12_117_X12 lay_113 rfl rfl rfl dX12_feed_6 R ?_
  refine mm_bipush (v := 20) dX12_feed_9 (by decide +kernel) ?_
  refine mm_iadd dX12_feed_11 ?_
  refine mm_sipush (v := 3000) dX12_feed_12 (by decide +kernel) ?_
  refine mm_icmp_le 20 dX12_feed_15 (by decide) (fun c3 => ?_) (fun c3 => ?_)
  · replace H := hT c3 H
    refine mm_iconst (v := 0) dX12_feed_20 (by decide +kernel) ?_
    refine mm_istore (ls' := [some (.ref 113), some (.int x1), some (.int x2), some (.int x3), some (.int x4), some (.int x5), some (.int 0), none]) dX12_feed_21 (Nat.le_of_ble_eq_true rfl) rfl ?_
    obtain ⟨q34, H35, H⟩ := hC H
    refine t_X12_feed_L23 hd (fun h R => ?_) N _ _ _ R H35
    refine mm_aload_n dX12_feed_120 rfl ?_
    refine rD_get (key := 11303) lk_X12_117_X12 lay_113 rfl rfl rfl dX12_feed_121 R ?_
    refine mm_iret rfl rfl dX12_feed_124 ?_
    exact en_dI H R
  · replace H := hF c3 H
    refine mm_iconst (v := (-1)) dX12_feed_18 (by decide +kernel) ?_
    refine mm_iret rfl rfl dX12_feed_19 ?_
    exact en_dI H R
def f_X12_nameAt_L5 (N : Nat) (x1 : Int32) (x2 : Int32) (D : CS) : Nat → Int64 → Int32 → Option (Int64)
  | 0, _, _ => none
  | n + 1, x3, x5 => if (gI D 11323) ≤ x5 then (some x3)
    else (if inb x5 220 = true then (if (gA D 133 (x5).toNatClampNeg) = x1 then (if inb x5 220 = true then (if x2 < (gA D 134 (x5).toNatClampNeg) then (f_X12_nameAt_L5 N x1 x2 D n x3 (x5 + 1))
        else (if inb x5 220 = true then (f_X12_nameAt_L5 N x1 x2 D n (gB D 135 (x5).toNatClampNeg) (x5 + 1)) else none)) else none)
      else (f_X12_nameAt_L5 N x1 x2 D n x3 (x5 + 1))) else none)
theorem t_X12_nameAt_L5 {g : mm_G} {d : Nat} {Post : mm_Ou → mm_Hp → Prop} {h : mm_Hp} {C D : CS} {N : Nat} {x1 : Int32} {x2 : Int32} {res : (Int64)} (hd : 0 ≤ d) (R : Rep h C D) (KE : mm_P g d MX12_nameAt 50 [none, none, none, some (.long res), none, none] [] h Post) : ∀ (n : Nat) (x3 : Int64) (x5 : Int32) , f_X12_nameAt_L5 N x1 x2 D n x3 x5 = some res → mm_P g d MX12_nameAt 5 [some (.ref 113), some (.int x1), some (.int x2), some (.long x3), none, some (.int x5)] [] h Post := by
  intro n
  induction n with
  | zero =>
    intro x3 x5 H
    exact hN H
  | succ n ih =>
    intro x3 x5 H
    unfold f_X12_nameAt_L5 at H
    refine mm_iload dX12_nameAt_5 rfl ?_
    refine mm_aload_n dX12_nameAt_7 rfl ?_
    refine rD_get (key := 11323) lk_X12_127_X12 lay_113 rfl rfl rfl dX12_nameAt_8 R ?_
    refine mm_icmp_ge 50 dX12_nameAt_11 (by decide) (fun c1 => ?_) (fun c1 => ?_)
    · replace H := hT c1 H
      refine mm_fgt (ls' := [none, none, none, some (.long x3), none, none]) ⟨rfl, trivial⟩ ?_
      cases H
      exact KE
    · replace H := hF c1 H
      refine mm_aload_n dX12_nameAt_14 rfl ?_
      refine rD_getR (t := 131) lk_X12_71_X12 lay_113 rfl rfl dX12_nameAt_15 R ?_
      refine mm_iload dX12_nameAt_18 rfl ?_
      obtain ⟨b2, H⟩ := hB H
      refine rD_iald lay_133 rfl dX12_nameAt_20 R b2 ?_
      refine mm_iload_n dX12_nameAt_21 rfl ?_
      refine mm_icmp_ne 44 dX12_nameAt_22 (by decide) (fun c3 => ?_) (fun c3 => ?_)
      · replace H := hF c3 H
        refine mm_iinc (v := (x5 + 1)) (ls' := [some (.ref 113), some (.int x1), some (.int x2), some (.long x3), none, some (.int (x5 + 1))]) dX12_nameAt_44 rfl rfl rfl ?_
        refine mm_goto 5 dX12_nameAt_47 (by decide) ?_
        exact ih _ _ H
      · replace H := hT c3 H
        refine mm_aload_n dX12_nameAt_25 rfl ?_
        refine rD_getR (t := 132) lk_X12_74_X12 lay_113 rfl rfl dX12_nameAt_26 R ?_
        refine mm_iload dX12_nameAt_29 rfl ?_
        obtain ⟨b4, H⟩ := hB H
        refine rD_iald lay_134 rfl dX12_nameAt_31 R b4 ?_
        refine mm_iload_n dX12_nameAt_32 rfl ?_
        refine mm_icmp_gt 44 dX12_nameAt_33 (by decide) (fun c5 => ?_) (fun c5 => ?_)
        · replace H := hT c5 H
          refine mm_iinc (v := (x5 + 1)) (ls' := [some (.ref 113), some (.int x1), some (.int x2), some (.long x3), none, some (.int (x5 + 1))]) dX12_nameAt_44 rfl rfl rfl ?_
          refine mm_goto 5 dX12_nameAt_47 (by decide) ?_
          exact ih _ _ H
        · replace H := hF c5 H
          refine mm_aload_n dX12_nameAt_36 rfl ?_
          refine rD_getR (t := 133) lk_X12_77_X12 lay_113 rfl rfl dX12_nameAt_37 R ?_
          refine mm_iload dX12_nameAt_40 rfl ?_
          obtain ⟨b6, H⟩ := hB H
          refine rD_lald lay_135 rfl dX12_nameAt_42 R b6 ?_
          refine mm_lstore_n (ls' := [some (.ref 113), some (.int x1), some (.int x2), some (.long (gB D 135 (x5).toNatClampNeg)), none, some (.int x5)]) dX12_nameAt_43 (Nat.le_of_ble_eq_true rfl) rfl ?_
          refine mm_iinc (v := (x5 + 1)) (ls' := [some (.ref 113), some (.int x1), some (.int x2), some (.long (gB D 135 (x5).toNatClampNeg)), none, some (.int (x5 + 1))]) dX12_nameAt_44 rfl rfl rfl ?_
          refine mm_goto 5 dX12_nameAt_47 (by decide) ?_
          exact ih _ _ H
def f_X12_nameAt (N : Nat) (x1 : Int32) (x2 : Int32) (D : CS) : Option Int64 :=
  bnd (f_X12_nameAt_L5 N x1 x2 D N 0 0) fun q7 =>
    some q7
theorem t_X12_nameAt {g : mm_G} {d : Nat} {h : mm_Hp} {C D : CS} {N : Nat} {x1 : Int32} {x2 : Int32} {r : Int64} (hd : 0 ≤ d) (R : Rep h C D) (H : f_X12_nameAt N x1 x2 D = some r) : mm_P g d MX12_nameAt 0 [some (.ref 113), some (.int x1), some (.int x2), none, none, none] [] h (pJ r h) := by
  unfold f_X12_nameAt at H
  refine mm_lconst (v := 0) dX12_nameAt_0 (by decide +kernel) ?_
  refine mm_lstore_n (ls' := [some (.ref 113), some (.int x1), some (.int x2), some (.long 0), none, none]) dX12_nameAt_1 (Nat.le_of_ble_eq_true rfl) rfl ?_
  refine mm_iconst (v := 0) dX12_nameAt_2 (by decide +kernel) ?_
  refine mm_istore (ls' := [some (.ref 113), some (.int x1), some (.int x2), some (.long 0), none, some (.int 0)]) dX12_nameAt_3 (Nat.le_of_ble_eq_true rfl) rfl ?_
  obtain ⟨q7, H8, H⟩ := hC H
  refine t_X12_nameAt_L5 hd R ?_ N _ _ H8
  refine mm_lload_n dX12_nameAt_50 rfl ?_
  refine mm_lret rfl dX12_nameAt_51 ?_
  exact en_pJ H
def f_X12_named_L3 (N : Nat) (x1 : Int64) (x3 : Int32) (D : CS) : Nat → Int32 → Option (Int32 ⊕ (Unit))
  | 0, _ => none
  | n + 1, x4 => if (gI D 11322) ≤ x4 then (some (.inr ()))
    else (bnd (f_X12_nameAt N x4 x3 D) fun q2 =>
    if (lg_cmp q2 x1) = 0 then (some (.inl x4))
      else (f_X12_named_L3 N x1 x3 D n (x4 + 1)))
theorem t_X12_named_L3 {g : mm_G} {d : Nat} {Post : mm_Ou → mm_Hp → Prop} {h : mm_Hp} {C D : CS} {N : Nat} {x1 : Int64} {x3 : Int32} {res : (Int32 ⊕ (Unit))} (hd : 1 ≤ d) (R : Rep h C D) (KR : ∀ (q : Int32), res = .inl q → Post (.inl (some (.int q))) h) (KE : ∀ (q : Unit), res = .inr q → mm_P g d MX12_named 33 [none, none, none, none, none] [] h Post) : ∀ (n : Nat) (x4 : Int32) , f_X12_named_L3 N x1 x3 D n x4 = some res → mm_P g d MX12_named 3 [some (.ref 113), some (.long x1), none, some (.int x3), some (.int x4)] [] h Post := by
  intro n
  induction n with
  | zero =>
    intro x4 H
    exact hN H
  | succ n ih =>
    intro x4 H
    unfold f_X12_named_L3 at H
    refine mm_iload dX12_named_3 rfl ?_
    refine mm_aload_n dX12_named_5 rfl ?_
    refine rD_get (key := 11322) lk_X12_120_X12 lay_113 rfl rfl rfl dX12_named_6 R ?_
    refine mm_icmp_ge 33 dX12_named_9 (by decide) (fun c1 => ?_) (fun c1 => ?_)
    · replace H := hT c1 H
      refine mm_fgt (ls' := [none, none, none, none, none]) trivial ?_
      exact KE _ (Option.some.inj H).symm
    · replace H := hF c1 H
      refine mm_aload_n dX12_named_12 rfl ?_
      refine mm_iload dX12_named_13 rfl ?_
      refine mm_iload_n dX12_named_15 rfl ?_
      obtain ⟨q2, H3, H⟩ := hC H
      refine mm_callV (d' := d - 1) (as := [.int x4, .int x3]) (st := []) (dS hd) cm_X12_nameAt (mm_t6 167 rfl rfl) (mm_t6 169 rfl rfl) (mm_s3 7 rfl rfl) (T := TX12) (N := 54) rfl dX12_named_16 (R.oD (r := 113) rfl lay_113) rfl (Nat.le_of_ble_eq_true rfl) (Nat.le_of_ble_eq_true rfl) rfl rfl (t_X12_nameAt (dL hd (by decide)) R H3) (fun o u q => th_pJ q ?_)
      refine mm_lload_n dX12_named_19 rfl ?_
      refine mm_lcmp dX12_named_20 ?_
      refine mm_if_ne 27 dX12_named_21 (by decide) (fun c4 => ?_) (fun c4 => ?_)
      · replace H := hF c4 H
        refine mm_iinc (v := (x4 + 1)) (ls' := [some (.ref 113), some (.long x1), none, some (.int x3), some (.int (x4 + 1))]) dX12_named_27 rfl rfl rfl ?_
        refine mm_goto 3 dX12_named_30 (by decide) ?_
        exact ih _ H
      · replace H := hT c4 H
        refine mm_iload dX12_named_24 rfl ?_
        refine mm_iret rfl rfl dX12_named_26 ?_
        exact KR _ (Option.some.inj H).symm
def f_X12_named (N : Nat) (x1 : Int64) (x3 : Int32) (D : CS) : Option Int32 :=
  bns (f_X12_named_L3 N x1 x3 D N 0) (fun q5 => some q5) fun q5 =>
    some (-1)
theorem t_X12_named {g : mm_G} {d : Nat} {h : mm_Hp} {C D : CS} {N : Nat} {x1 : Int64} {x3 : Int32} {r : Int32} (hd : 1 ≤ d) (R : Rep h C D) (H : f_X12_named N x1 x3 D = some r) : mm_P g d MX12_named 0 [some (.ref 113), some (.long x1), none, some (.int x3), none] [] h (mm_pureI r h) := by
  unfold f_X12_named at H
  refine mm_iconst (v := 0) dX12_named_0 (by decide +kernel) ?_
  refine mm_istore (ls' := [some (.ref 113), some (.long x1), none, some (.int x3), some (.int 0)]) dX12_named_1 (Nat.le_of_ble_eq_true rfl) rfl ?_
  rcases hS H with ⟨q5, H6, H⟩ | ⟨q5, H6, H⟩
  · refine t_X12_named_L3 hd R (fun q e => ?_) (fun q e => by cases e) N _ H6
    cases e
    exact en_pI H
  · refine t_X12_named_L3 hd R (fun q e => by cases e) (fun q e => ?_) N _ H6
    cases e
    refine mm_iconst (v := (-1)) dX12_named_33 (by decide +kernel) ?_
    refine mm_iret rfl rfl dX12_named_34 ?_
    exact en_pI H
def f_X12_name (x1 : Int32) (x2 : Int64) (D : CS) : Option CS :=
  if inb (gI D 11323) 220 = true then (bd (sA D 133 ((gI D 11323)).toNatClampNeg x1) fun D2 =>
  if inb (gI D2 11323) 220 = true then (bd (sA D2 134 ((gI D2 11323)).toNatClampNeg (gI D2 11351)) fun D5 =>
  if inb (gI D5 11323) 220 = true then (bd (sB D5 135 ((gI D5 11323)).toNatClampNeg x2) fun D8 =>
  bd (sI D8 11323 ((gI D8 11323) + 1)) fun D10 =>
  some D10) else none) else none) else none
theorem t_X12_name {g : mm_G} {d : Nat} {h : mm_Hp} {C D : CS} {x1 : Int32} {x2 : Int64} {r : CS} (hd : 0 ≤ d) (R : Rep h C D) (H : f_X12_name x1 x2 D = some r) : mm_P g d MX12_name 0 [some (.ref 113), some (.int x1), some (.long x2), none] [] h (dV C r) := by
  unfold f_X12_name at H
  refine mm_aload_n dX12_name_0 rfl ?_
  refine rD_getR (t := 131) lk_X12_71_X12 lay_113 rfl rfl dX12_name_1 R ?_
  refine mm_aload_n dX12_name_4 rfl ?_
  refine rD_get (key := 11323) lk_X12_127_X12 lay_113 rfl rfl rfl dX12_name_5 R ?_
  refine mm_iload_n dX12_name_8 rfl ?_
  obtain ⟨b1, H⟩ := hB H
  obtain ⟨D2, e3, H⟩ := hD H
  refine rD_iast lay_133 rfl dX12_name_9 R b1 e3 (fun h R => ?_)
  refine mm_aload_n dX12_name_10 rfl ?_
  refine rD_getR (t := 132) lk_X12_74_X12 lay_113 rfl rfl dX12_name_11 R ?_
  refine mm_aload_n dX12_name_14 rfl ?_
  refine rD_get (key := 11323) lk_X12_127_X12 lay_113 rfl rfl rfl dX12_name_15 R ?_
  refine mm_aload_n dX12_name_18 rfl ?_
  refine rD_get (key := 11351) lk_X12_130_X12 lay_113 rfl rfl rfl dX12_name_19 R ?_
  obtain ⟨b4, H⟩ := hB H
  obtain ⟨D5, e6, H⟩ := hD H
  refine rD_iast lay_134 rfl dX12_name_22 R b4 e6 (fun h R => ?_)
  refine mm_aload_n dX12_name_23 rfl ?_
  refine rD_getR (t := 133) lk_X12_77_X12 lay_113 rfl rfl dX12_name_24 R ?_
  refine mm_aload_n dX12_name_27 rfl ?_
  refine rD_get (key := 11323) lk_X12_127_X12 lay_113 rfl rfl rfl dX12_name_28 R ?_
  refine mm_lload_n dX12_name_31 rfl ?_
  obtain ⟨b7, H⟩ := hB H
  obtain ⟨D8, e9, H⟩ := hD H
  refine rD_last lay_135 rfl dX12_name_32 R b7 e9 (fun h R => ?_)
  refine mm_aload_n dX12_name_33 rfl ?_
  refine mm_dup rfl dX12_name_34 ?_
  refine rD_get (key := 11323) lk_X12_127_X12 lay_113 rfl rfl rfl dX12_name_35 R ?_
  refine mm_iconst (v := 1) dX12_name_38 (by decide +kernel) ?_
  refine mm_iadd dX12_name_39 ?_
  obtain ⟨D10, e11, H⟩ := hD H
  refine rD_put (key := 11323) lk_X12_127_X12 lay_113 rfl rfl rfl rfl rfl dX12_name_40 R e11 (fun h R => ?_)
  refine mm_vret rfl dX12_name_43 ?_
  exact en_dV H R
def f_X12_now0 (D : CS) : Option Int32 :=
  if (gI D 11347) ≤ (gI D 11346) then (some (-1))
    else (if inb (gI D 11346) 3000 = true then (some (gA D 114 ((gI D 11346)).toNatClampNeg)) else none)
theorem t_X12_now0 {g : mm_G} {d : Nat} {h : mm_Hp} {C D : CS} {r : Int32} (hd : 0 ≤ d) (R : Rep h C D) (H : f_X12_now0 D = some r) : mm_P g d MX12_now0 0 [some (.ref 113)] [] h (mm_pureI r h) := by
  unfold f_X12_now0 at H
  refine mm_aload_n dX12_now0_0 rfl ?_
  refine rD_get (key := 11346) lk_X12_133_X12 lay_113 rfl rfl rfl dX12_now0_1 R ?_
  refine mm_aload_n dX12_now0_4 rfl ?_
  refine rD_get (key := 11347) lk_X12_136_X12 lay_113 rfl rfl rfl dX12_now0_5 R ?_
  refine mm_icmp_ge 23 dX12_now0_8 (by decide) (fun c1 => ?_) (fun c1 => ?_)
  · replace H := hT c1 H
    refine mm_iconst (v := (-1)) dX12_now0_23 (by decide +kernel) ?_
    refine mm_iret rfl rfl dX12_now0_24 ?_
    exact en_pI H
  · replace H := hF c1 H
    refine mm_aload_n dX12_now0_11 rfl ?_
    refine rD_getR (t := 112) lk_X12_9_X12 lay_113 rfl rfl dX12_now0_12 R ?_
    refine mm_aload_n dX12_now0_15 rfl ?_
    refine rD_get (key := 11346) lk_X12_133_X12 lay_113 rfl rfl rfl dX12_now0_16 R ?_
    obtain ⟨b2, H⟩ := hB H
    refine rD_iald lay_114 rfl dX12_now0_19 R b2 ?_
    refine mm_goto 24 dX12_now0_20 (by decide) ?_
    refine mm_iret rfl rfl dX12_now0_24 ?_
    exact en_pI H
def f_X12_wrong (x1 : Int32) (x2 : Int32) (D : CS) : Option CS :=
  if (gI D 11349) = 0 then (bd (sI D 11349 x1) fun D2 =>
    bd (sI D2 11350 x2) fun D4 =>
    some D4)
    else (some D)
theorem t_X12_wrong {g : mm_G} {d : Nat} {h : mm_Hp} {C D : CS} {x1 : Int32} {x2 : Int32} {r : CS} (hd : 0 ≤ d) (R : Rep h C D) (H : f_X12_wrong x1 x2 D = some r) : mm_P g d MX12_wrong 0 [some (.ref 113), some (.int x1), some (.int x2)] [] h (dV C r) := by
  unfold f_X12_wrong at H
  refine mm_aload_n dX12_wrong_0 rfl ?_
  refine rD_get (key := 11349) lk_X12_139_X12 lay_113 rfl rfl rfl dX12_wrong_1 R ?_
  refine mm_if_eq 8 dX12_wrong_4 (by decide) (fun c1 => ?_) (fun c1 => ?_)
  · replace H := hT c1 H
    refine mm_aload_n dX12_wrong_8 rfl ?_
    refine mm_iload_n dX12_wrong_9 rfl ?_
    obtain ⟨D2, e3, H⟩ := hD H
    refine rD_put (key := 11349) lk_X12_139_X12 lay_113 rfl rfl rfl rfl rfl dX12_wrong_10 R e3 (fun h R => ?_)
    refine mm_aload_n dX12_wrong_13 rfl ?_
    refine mm_iload_n dX12_wrong_14 rfl ?_
    obtain ⟨D4, e5, H⟩ := hD H
    refine rD_put (key := 11350) lk_X12_142_X12 lay_113 rfl rfl rfl rfl rfl dX12_wrong_15 R e5 (fun h R => ?_)
    refine mm_vret rfl dX12_wrong_18 ?_
    exact en_dV H R
  · replace H := hF c1 H
    refine mm_vret rfl dX12_wrong_7 ?_
    exact en_dV H R
def f_X12_take_J22 (D : CS) : Option CS :=
  if (gI D 11349) = 0 then (bd (sI D 11346 ((gI D 11346) + 1)) fun D3 =>
    some D3)
    else (some D)
theorem t_X12_take_J22 {g : mm_G} {d : Nat} {h : mm_Hp} {C D : CS} {r : CS} (hd : 1 ≤ d) (R : Rep h C D) (H : f_X12_take_J22 D = some r) : mm_P g d MX12_take 22 [some (.ref 113), none] [] h (dV C r) := by
  unfold f_X12_take_J22 at H
  refine mm_aload_n dX12_take_22 rfl ?_
  refine rD_get (key := 11349) lk_X12_139_X12 lay_113 rfl rfl rfl dX12_take_23 R ?_
  refine mm_if_ne 39 dX12_take_26 (by decide) (fun c2 => ?_) (fun c2 => ?_)
  · replace H := hF c2 H
    refine mm_vret rfl dX12_take_39 ?_
    exact en_dV H R
  · replace H := hT c2 H
    refine mm_aload_n dX12_take_29 rfl ?_
    refine mm_dup rfl dX12_take_30 ?_
    refine rD_get (key := 11346) lk_X12_133_X12 lay_113 rfl rfl rfl dX12_take_31 R ?_
    refine mm_iconst (v := 1) dX12_take_34 (by decide +kernel) ?_
    refine mm_iadd dX12_take_35 ?_
    obtain ⟨D3, e4, H⟩ := hD H
    refine rD_put (key := 11346) lk_X12_133_X12 lay_113 rfl rfl rfl rfl rfl dX12_take_36 R e4 (fun h R => ?_)
    refine mm_vret rfl dX12_take_39 ?_
    exact en_dV H R
def f_X12_take (x1 : Int32) (D : CS) : Option CS :=
  if ((gI D 11346) - (gI D 11348)) < x1 then (f_X12_take_J22 D)
    else (bnd (f_X12_wrong 2 (gI D 11346) D) fun q5 =>
    f_X12_take_J22 q5)
theorem t_X12_take {g : mm_G} {d : Nat} {h : mm_Hp} {C D : CS} {x1 : Int32} {r : CS} (hd : 1 ≤ d) (R : Rep h C D) (H : f_X12_take x1 D = some r) : mm_P g d MX12_take 0 [some (.ref 113), some (.int x1)] [] h (dV C r) := by
  unfold f_X12_take at H
  refine mm_aload_n dX12_take_0 rfl ?_
  refine rD_get (key := 11346) lk_X12_133_X12 lay_113 rfl rfl rfl dX12_take_1 R ?_
  refine mm_aload_n dX12_take_4 rfl ?_
  refine rD_get (key := 11348) lk_X12_145_X12 lay_113 rfl rfl rfl dX12_take_5 R ?_
  refine mm_isub dX12_take_8 ?_
  refine mm_iload_n dX12_take_9 rfl ?_
  refine mm_icmp_lt 22 dX12_take_10 (by decide) (fun c1 => ?_) (fun c1 => ?_)
  · replace H := hT c1 H
    refine mm_fgt (ls' := [some (.ref 113), none]) ⟨rfl, trivial⟩ ?_
    exact t_X12_take_J22 hd R H
  · replace H := hF c1 H
    refine mm_aload_n dX12_take_13 rfl ?_
    refine mm_iconst (v := 2) dX12_take_14 (by decide +kernel) ?_
    refine mm_aload_n dX12_take_15 rfl ?_
    refine rD_get (key := 11346) lk_X12_133_X12 lay_113 rfl rfl rfl dX12_take_16 R ?_
    obtain ⟨q5, H6, H⟩ := hC H
    refine mm_callV (d' := d - 1) (as := [.int 2, .int (gI D 11346)]) (st := []) (dS hd) cm_X12_wrong (mm_t6 144 rfl rfl) (mm_t6 146 rfl rfl) (mm_s3 2 rfl rfl) (T := TX12) (N := 54) rfl dX12_take_19 (R.oD (r := 113) rfl lay_113) rfl (Nat.le_of_ble_eq_true rfl) (Nat.le_of_ble_eq_true rfl) rfl rfl (t_X12_wrong (dL hd (by decide)) R H6) (fun o h q => th_dV q (fun R => ?_))
    refine mm_fgt (ls' := [some (.ref 113), none]) ⟨rfl, trivial⟩ ?_
    exact t_X12_take_J22 hd R H
def f_X12_isNameSign_J12 (x0 : Int32) (D : CS) : Option Int32 :=
  if x0 < 48 then (some 0)
    else (if 57 < x0 then (some 0)
      else (some 1))
theorem t_X12_isNameSign_J12 {g : mm_G} {d : Nat} {h : mm_Hp} {C D : CS} {x0 : Int32} {r : Int32} (hd : 0 ≤ d) (R : Rep h C D) (H : f_X12_isNameSign_J12 x0 D = some r) : mm_P g d MX12_isNameSign 12 [some (.int x0)] [] h (mm_pureI r h) := by
  unfold f_X12_isNameSign_J12 at H
  refine mm_iload_n dX12_isNameSign_12 rfl ?_
  refine mm_bipush (v := 48) dX12_isNameSign_13 (by decide +kernel) ?_
  refine mm_icmp_lt 28 dX12_isNameSign_15 (by decide) (fun c2 => ?_) (fun c2 => ?_)
  · replace H := hT c2 H
    refine mm_iconst (v := 0) dX12_isNameSign_28 (by decide +kernel) ?_
    refine mm_iret rfl rfl dX12_isNameSign_29 ?_
    exact en_pI H
  · replace H := hF c2 H
    refine mm_iload_n dX12_isNameSign_18 rfl ?_
    refine mm_bipush (v := 57) dX12_isNameSign_19 (by decide +kernel) ?_
    refine mm_icmp_gt 28 dX12_isNameSign_21 (by decide) (fun c3 => ?_) (fun c3 => ?_)
    · replace H := hT c3 H
      refine mm_iconst (v := 0) dX12_isNameSign_28 (by decide +kernel) ?_
      refine mm_iret rfl rfl dX12_isNameSign_29 ?_
      exact en_pI H
    · replace H := hF c3 H
      refine mm_iconst (v := 1) dX12_isNameSign_24 (by decide +kernel) ?_
      refine mm_goto 29 dX12_isNameSign_25 (by decide) ?_
      refine mm_iret rfl rfl dX12_isNameSign_29 ?_
      exact en_pI H
def f_X12_isNameSign (x0 : Int32) (D : CS) : Option Int32 :=
  if x0 < 65 then (f_X12_isNameSign_J12 x0 D)
    else (if x0 ≤ 90 then (some 1)
      else (f_X12_isNameSign_J12 x0 D))
theorem t_X12_isNameSign {g : mm_G} {d : Nat} {h : mm_Hp} {C D : CS} {x0 : Int32} {r : Int32} (hd : 0 ≤ d) (R : Rep h C D) (H : f_X12_isNameSign x0 D = some r) : mm_P g d MX12_isNameSign 0 [some (.int x0)] [] h (mm_pureI r h) := by
  unfold f_X12_isNameSign at H
  refine mm_iload_n dX12_isNameSign_0 rfl ?_
  refine mm_bipush (v := 65) dX12_isNameSign_1 (by decide +kernel) ?_
  refine mm_icmp_lt 12 dX12_isNameSign_3 (by decide) (fun c1 => ?_) (fun c1 => ?_)
  · replace H := hT c1 H
    exact t_X12_isNameSign_J12 hd R H
  · replace H := hF c1 H
    refine mm_iload_n dX12_isNameSign_6 rfl ?_
    refine mm_bipush (v := 90) dX12_isNameSign_7 (by decide +kernel) ?_
    refine mm_icmp_le 24 dX12_isNameSign_9 (by decide) (fun c4 => ?_) (fun c4 => ?_)
    · replace H := hT c4 H
      refine mm_iconst (v := 1) dX12_isNameSign_24 (by decide +kernel) ?_
      refine mm_goto 29 dX12_isNameSign_25 (by decide) ?_
      refine mm_iret rfl rfl dX12_isNameSign_29 ?_
      exact en_pI H
    · replace H := hF c4 H
      exact t_X12_isNameSign_J12 hd R H
def f_X12_readName_L29 (N : Nat) (x1 : Int32) (x2 : Int32) : Nat → CS → Option (CS)
  | 0, _ => none
  | n + 1, D => if (gI D 11349) = 0 then (bnd (f_X12_now0 D) fun q9 =>
    bnd (f_X12_isNameSign q9 D) fun q11 =>
    if q11 = 0 then (some D)
      else (if ((gI D 11346) - x2) = 6 then (bnd (f_X12_wrong 2 (gI D 11346) D) fun q21 =>
        bnd (f_X12_now0 q21) fun q23 =>
        bd (sJ q21 11353 (((gJ q21 11353) <<< (Int32.toInt64 8 &&& 63)) ||| (Int32.toInt64 q23))) fun D25 =>
        bnd (f_X12_take x1 D25) fun q27 =>
        f_X12_readName_L29 N x1 x2 n q27)
        else (bnd (f_X12_now0 D) fun q15 =>
        bd (sJ D 11353 (((gJ D 11353) <<< (Int32.toInt64 8 &&& 63)) ||| (Int32.toInt64 q15))) fun D17 =>
        bnd (f_X12_take x1 D17) fun q19 =>
        f_X12_readName_L29 N x1 x2 n q19)))
    else (some D)
theorem t_X12_readName_L29 {g : mm_G} {d : Nat} {Post : mm_Ou → mm_Hp → Prop} {C : CS} {N : Nat} {x1 : Int32} {x2 : Int32} {res : (CS)} (hd : 2 ≤ d) (KE : ∀ (h1 : mm_Hp), Rep h1 C res → mm_P g d MX12_readName 91 [none, none, some (.int x2)] [] h1 Post) : ∀ (n : Nat) (D : CS) (h : mm_Hp) , Rep h C D → f_X12_readName_L29 N x1 x2 n D = some res → mm_P g d MX12_readName 29 [some (.ref 113), some (.int x1), some (.int x2)] [] h Post := by
  intro n
  induction n with
  | zero =>
    intro D h R H
    exact hN H
  | succ n ih =>
    intro D h R H
    unfold f_X12_readName_L29 at H
    refine mm_aload_n dX12_readName_29 rfl ?_
    refine rD_get (key := 11349) lk_X12_139_X12 lay_113 rfl rfl rfl dX12_readName_30 R ?_
    refine mm_if_ne 91 dX12_readName_33 (by decide) (fun c8 => ?_) (fun c8 => ?_)
    · replace H := hF c8 H
      refine mm_fgt (ls' := [none, none, some (.int x2)]) ⟨rfl, trivial⟩ ?_
      cases H
      exact KE _ R
    · replace H := hT c8 H
      refine mm_aload_n dX12_readName_36 rfl ?_
      obtain ⟨q9, H10, H⟩ := hC H
      refine mm_callV (d' := d - 1) (as := []) (st := []) (dS hd) cm_X12_now0 (mm_t6 137 rfl rfl) (mm_t6 139 rfl rfl) (mm_s3 1 rfl rfl) (T := TX12) (N := 54) rfl dX12_readName_37 (R.oD (r := 113) rfl lay_113) rfl (Nat.le_of_ble_eq_true rfl) (Nat.le_of_ble_eq_true rfl) rfl rfl (t_X12_now0 (dL hd (by decide)) R H10) (fun o u q => mm_thenI q ?_)
      obtain ⟨q11, H12, H⟩ := hC H
      refine mm_callS (d' := d - 1) (as := [.int q9]) (st := []) (dS hd) cm_X12_isNameSign (mm_t6 156 rfl rfl) (mm_t6 157 rfl rfl) dX12_readName_40 rfl (Nat.le_of_ble_eq_true rfl) (Nat.le_of_ble_eq_true rfl) rfl rfl (t_X12_isNameSign (dL hd (by decide)) R H12) (fun o u q => mm_thenI q ?_)
      refine mm_if_eq 91 dX12_readName_43 (by decide) (fun c13 => ?_) (fun c13 => ?_)
      · replace H := hT c13 H
        refine mm_fgt (ls' := [none, none, some (.int x2)]) ⟨rfl, trivial⟩ ?_
        cases H
        exact KE _ R
      · replace H := hF c13 H
        refine mm_aload_n dX12_readName_46 rfl ?_
        refine rD_get (key := 11346) lk_X12_133_X12 lay_113 rfl rfl rfl dX12_readName_47 R ?_
        refine mm_iload_n dX12_readName_50 rfl ?_
        refine mm_isub dX12_readName_51 ?_
        refine mm_bipush (v := 6) dX12_readName_52 (by decide +kernel) ?_
        refine mm_icmp_ne 66 dX12_readName_54 (by decide) (fun c14 => ?_) (fun c14 => ?_)
        · replace H := hF c14 H
          refine mm_aload_n dX12_readName_66 rfl ?_
          refine mm_aload_n dX12_readName_67 rfl ?_
          refine rD_getJ (key := 11353) lk_X12_152_X12 lay_113 rfl rfl rfl dX12_readName_68 R ?_
          refine mm_bipush (v := 8) dX12_readName_71 (by decide +kernel) ?_
          refine mm_lshl dX12_readName_73 ?_
          refine mm_aload_n dX12_readName_74 rfl ?_
          obtain ⟨q15, H16, H⟩ := hC H
          refine mm_callV (d' := d - 1) (as := []) (st := [.long ((gJ D 11353) <<< (Int32.toInt64 8 &&& 63)), .ref 113]) (dS hd) cm_X12_now0 (mm_t6 137 rfl rfl) (mm_t6 139 rfl rfl) (mm_s3 1 rfl rfl) (T := TX12) (N := 54) rfl dX12_readName_75 (R.oD (r := 113) rfl lay_113) rfl (Nat.le_of_ble_eq_true rfl) (Nat.le_of_ble_eq_true rfl) rfl rfl (t_X12_now0 (dL hd (by decide)) R H16) (fun o u q => mm_thenI q ?_)
          refine mm_i2l dX12_readName_78 ?_
          refine mm_lor dX12_readName_79 ?_
          obtain ⟨D17, e18, H⟩ := hD H
          refine rD_putJ (key := 11353) lk_X12_152_X12 lay_113 rfl rfl rfl rfl rfl dX12_readName_80 R e18 (fun h R => ?_)
          refine mm_aload_n dX12_readName_83 rfl ?_
          refine mm_iload_n dX12_readName_84 rfl ?_
          obtain ⟨q19, H20, H⟩ := hC H
          refine mm_callV (d' := d - 1) (as := [.int x1]) (st := []) (dS hd) cm_X12_take (mm_t6 159 rfl rfl) (mm_t6 161 rfl rfl) (mm_s3 5 rfl rfl) (T := TX12) (N := 54) rfl dX12_readName_85 (R.oD (r := 113) rfl lay_113) rfl (Nat.le_of_ble_eq_true rfl) (Nat.le_of_ble_eq_true rfl) rfl rfl (t_X12_take (dL hd (by decide)) R H20) (fun o h q => th_dV q (fun R => ?_))
          refine mm_goto 29 dX12_readName_88 (by decide) ?_
          exact ih _ _ R H
        · replace H := hT c14 H
          refine mm_aload_n dX12_readName_57 rfl ?_
          refine mm_iconst (v := 2) dX12_readName_58 (by decide +kernel) ?_
          refine mm_aload_n dX12_readName_59 rfl ?_
          refine rD_get (key := 11346) lk_X12_133_X12 lay_113 rfl rfl rfl dX12_readName_60 R ?_
          obtain ⟨q21, H22, H⟩ := hC H
          refine mm_callV (d' := d - 1) (as := [.int 2, .int (gI D 11346)]) (st := []) (dS hd) cm_X12_wrong (mm_t6 144 rfl rfl) (mm_t6 146 rfl rfl) (mm_s3 2 rfl rfl) (T := TX12) (N := 54) rfl dX12_readName_63 (R.oD (r := 113) rfl lay_113) rfl (Nat.le_of_ble_eq_true rfl) (Nat.le_of_ble_eq_true rfl) rfl rfl (t_X12_wrong (dL hd (by decide)) R H22) (fun o h q => th_dV q (fun R => ?_))
          refine mm_aload_n dX12_readName_66 rfl ?_
          refine mm_aload_n dX12_readName_67 rfl ?_
          refine rD_getJ (key := 11353) lk_X12_152_X12 lay_113 rfl rfl rfl dX12_readName_68 R ?_
          refine mm_bipush (v := 8) dX12_readName_71 (by decide +kernel) ?_
          refine mm_lshl dX12_readName_73 ?_
          refine mm_aload_n dX12_readName_74 rfl ?_
          obtain ⟨q23, H24, H⟩ := hC H
          refine mm_callV (d' := d - 1) (as := []) (st := [.long ((gJ q21 11353) <<< (Int32.toInt64 8 &&& 63)), .ref 113]) (dS hd) cm_X12_now0 (mm_t6 137 rfl rfl) (mm_t6 139 rfl rfl) (mm_s3 1 rfl rfl) (T := TX12) (N := 54) rfl dX12_readName_75 (R.oD (r := 113) rfl lay_113) rfl (Nat.le_of_ble_eq_true rfl) (Nat.le_of_ble_eq_true rfl) rfl rfl (t_X12_now0 (dL hd (by decide)) R H24) (fun o u q => mm_thenI q ?_)
          refine mm_i2l dX12_readName_78 ?_
          refine mm_lor dX12_readName_79 ?_
          obtain ⟨D25, e26, H⟩ := hD H
          refine rD_putJ (key := 11353) lk_X12_152_X12 lay_113 rfl rfl rfl rfl rfl dX12_readName_80 R e26 (fun h R => ?_)
          refine mm_aload_n dX12_readName_83 rfl ?_
          refine mm_iload_n dX12_readName_84 rfl ?_
          obtain ⟨q27, H28, H⟩ := hC H
          refine mm_callV (d' := d - 1) (as := [.int x1]) (st := []) (dS hd) cm_X12_take (mm_t6 159 rfl rfl) (mm_t6 161 rfl rfl) (mm_s3 5 rfl rfl) (T := TX12) (N := 54) rfl dX12_readName_85 (R.oD (r := 113) rfl lay_113) rfl (Nat.le_of_ble_eq_true rfl) (Nat.le_of_ble_eq_true rfl) rfl rfl (t_X12_take (dL hd (by decide)) R H28) (fun o h q => th_dV q (fun R => ?_))
          refine mm_goto 29 dX12_readName_88 (by decide) ?_
          exact ih _ _ R H
def f_X12_readName (N : Nat) (x1 : Int32) (D : CS) : Option (Int32 × CS) :=
  bd (sJ D 11353 0) fun D1 =>
  bnd (f_X12_now0 D1) fun q3 =>
  bnd (f_X12_isNameSign q3 D1) fun q5 =>
  if q5 = 0 then (bnd (f_X12_wrong 1 (gI D1 11346) D1) fun q31 =>
    bnd (f_X12_readName_L29 N x1 (gI D 11346) N q31) fun q33 =>
      some ((gI D 11346), q33))
      else (bnd (f_X12_readName_L29 N x1 (gI D 11346) N D1) fun q29 =>
      some ((gI D 11346), q29))
theorem t_X12_readName {g : mm_G} {d : Nat} {h : mm_Hp} {C D : CS} {N : Nat} {x1 : Int32} {r : (Int32 × CS)} (hd : 2 ≤ d) (R : Rep h C D) (H : f_X12_readName N x1 D = some r) : mm_P g d MX12_readName 0 [some (.ref 113), some (.int x1), none] [] h (dI C r) := by
  unfold f_X12_readName at H
  refine mm_aload_n dX12_readName_0 rfl ?_
  refine rD_get (key := 11346) lk_X12_133_X12 lay_113 rfl rfl rfl dX12_readName_1 R ?_
  refine mm_istore_n (ls' := [some (.ref 113), some (.int x1), some (.int (gI D 11346))]) dX12_readName_4 (Nat.le_of_ble_eq_true rfl) rfl ?_
  refine mm_aload_n dX12_readName_5 rfl ?_
  refine mm_lconst (v := 0) dX12_readName_6 (by decide +kernel) ?_
  obtain ⟨D1, e2, H⟩ := hD H
  refine rD_putJ (key := 11353) lk_X12_152_X12 lay_113 rfl rfl rfl rfl rfl dX12_readName_7 R e2 (fun h R => ?_)
  refine mm_aload_n dX12_readName_10 rfl ?_
  obtain ⟨q3, H4, H⟩ := hC H
  refine mm_callV (d' := d - 1) (as := []) (st := []) (dS hd) cm_X12_now0 (mm_t6 137 rfl rfl) (mm_t6 139 rfl rfl) (mm_s3 1 rfl rfl) (T := TX12) (N := 54) rfl dX12_readName_11 (R.oD (r := 113) rfl lay_113) rfl (Nat.le_of_ble_eq_true rfl) (Nat.le_of_ble_eq_true rfl) rfl rfl (t_X12_now0 (dL hd (by decide)) R H4) (fun o u q => mm_thenI q ?_)
  obtain ⟨q5, H6, H⟩ := hC H
  refine mm_callS (d' := d - 1) (as := [.int q3]) (st := []) (dS hd) cm_X12_isNameSign (mm_t6 156 rfl rfl) (mm_t6 157 rfl rfl) dX12_readName_14 rfl (Nat.le_of_ble_eq_true rfl) (Nat.le_of_ble_eq_true rfl) rfl rfl (t_X12_isNameSign (dL hd (by decide)) R H6) (fun o u q => mm_thenI q ?_)
  refine mm_if_ne 29 dX12_readName_17 (by decide) (fun c7 => ?_) (fun c7 => ?_)
  · replace H := hF c7 H
    obtain ⟨q29, H30, H⟩ := hC H
    refine t_X12_readName_L29 hd (fun h R => ?_) N _ _ R H30
    refine mm_iload_n dX12_readName_91 rfl ?_
    refine mm_iret rfl rfl dX12_readName_92 ?_
    exact en_dI H R
  · replace H := hT c7 H
    refine mm_aload_n dX12_readName_20 rfl ?_
    refine mm_iconst (v := 1) dX12_readName_21 (by decide +kernel) ?_
    refine mm_aload_n dX12_readName_22 rfl ?_
    refine rD_get (key := 11346) lk_X12_133_X12 lay_113 rfl rfl rfl dX12_readName_23 R ?_
    obtain ⟨q31, H32, H⟩ := hC H
    refine mm_callV (d' := d - 1) (as := [.int 1, .int (gI D1 11346)]) (st := []) (dS hd) cm_X12_wrong (mm_t6 144 rfl rfl) (mm_t6 146 rfl rfl) (mm_s3 2 rfl rfl) (T := TX12) (N := 54) rfl dX12_readName_26 (R.oD (r := 113) rfl lay_113) rfl (Nat.le_of_ble_eq_true rfl) (Nat.le_of_ble_eq_true rfl) rfl rfl (t_X12_wrong (dL hd (by decide)) R H32) (fun o h q => th_dV q (fun R => ?_))
    obtain ⟨q33, H34, H⟩ := hC H
    refine t_X12_readName_L29 hd (fun h R => ?_) N _ _ R H34
    refine mm_iload_n dX12_readName_91 rfl ?_
    refine mm_iret rfl rfl dX12_readName_92 ?_
    exact en_dI H R
def f_X12_readNumber_L34 (N : Nat) (x1 : Int32) (x2 : Int32) : Nat → Int32 → CS → Option (Int32 × CS)
  | 0, _, _ => none
  | n + 1, x3, D => if (gI D 11349) = 0 then (bnd (f_X12_now0 D) fun q7 =>
    if q7 < 48 then (some (x3, D))
      else (bnd (f_X12_now0 D) fun q10 =>
      if 57 < q10 then (some (x3, D))
        else (if ((gI D 11346) - x2) = 4 then (bnd (f_X12_wrong 2 (gI D 11346) D) fun q18 =>
          bnd (f_X12_now0 q18) fun q20 =>
          bnd (f_X12_take x1 q18) fun q22 =>
          f_X12_readNumber_L34 N x1 x2 n (((10 * x3) + q20) - 48) q22)
          else (bnd (f_X12_now0 D) fun q14 =>
          bnd (f_X12_take x1 D) fun q16 =>
          f_X12_readNumber_L34 N x1 x2 n (((10 * x3) + q14) - 48) q16))))
    else (some (x3, D))
theorem t_X12_readNumber_L34 {g : mm_G} {d : Nat} {Post : mm_Ou → mm_Hp → Prop} {C : CS} {N : Nat} {x1 : Int32} {x2 : Int32} {res : (Int32 × CS)} (hd : 2 ≤ d) (KE : ∀ (h1 : mm_Hp), Rep h1 C res.2 → mm_P g d MX12_readNumber 99 [none, none, none, some (.int res.1)] [] h1 Post) : ∀ (n : Nat) (x3 : Int32) (D : CS) (h : mm_Hp) , Rep h C D → f_X12_readNumber_L34 N x1 x2 n x3 D = some res → mm_P g d MX12_readNumber 34 [some (.ref 113), some (.int x1), some (.int x2), some (.int x3)] [] h Post := by
  intro n
  induction n with
  | zero =>
    intro x3 D h R H
    exact hN H
  | succ n ih =>
    intro x3 D h R H
    unfold f_X12_readNumber_L34 at H
    refine mm_aload_n dX12_readNumber_34 rfl ?_
    refine rD_get (key := 11349) lk_X12_139_X12 lay_113 rfl rfl rfl dX12_readNumber_35 R ?_
    refine mm_if_ne 99 dX12_readNumber_38 (by decide) (fun c6 => ?_) (fun c6 => ?_)
    · replace H := hF c6 H
      refine mm_fgt (ls' := [none, none, none, some (.int x3)]) ⟨rfl, trivial⟩ ?_
      cases H
      exact KE _ R
    · replace H := hT c6 H
      refine mm_aload_n dX12_readNumber_41 rfl ?_
      obtain ⟨q7, H8, H⟩ := hC H
      refine mm_callV (d' := d - 1) (as := []) (st := []) (dS hd) cm_X12_now0 (mm_t6 137 rfl rfl) (mm_t6 139 rfl rfl) (mm_s3 1 rfl rfl) (T := TX12) (N := 54) rfl dX12_readNumber_42 (R.oD (r := 113) rfl lay_113) rfl (Nat.le_of_ble_eq_true rfl) (Nat.le_of_ble_eq_true rfl) rfl rfl (t_X12_now0 (dL hd (by decide)) R H8) (fun o u q => mm_thenI q ?_)
      refine mm_bipush (v := 48) dX12_readNumber_45 (by decide +kernel) ?_
      refine mm_icmp_lt 99 dX12_readNumber_47 (by decide) (fun c9 => ?_) (fun c9 => ?_)
      · replace H := hT c9 H
        refine mm_fgt (ls' := [none, none, none, some (.int x3)]) ⟨rfl, trivial⟩ ?_
        cases H
        exact KE _ R
      · replace H := hF c9 H
        refine mm_aload_n dX12_readNumber_50 rfl ?_
        obtain ⟨q10, H11, H⟩ := hC H
        refine mm_callV (d' := d - 1) (as := []) (st := []) (dS hd) cm_X12_now0 (mm_t6 137 rfl rfl) (mm_t6 139 rfl rfl) (mm_s3 1 rfl rfl) (T := TX12) (N := 54) rfl dX12_readNumber_51 (R.oD (r := 113) rfl lay_113) rfl (Nat.le_of_ble_eq_true rfl) (Nat.le_of_ble_eq_true rfl) rfl rfl (t_X12_now0 (dL hd (by decide)) R H11) (fun o u q => mm_thenI q ?_)
        refine mm_bipush (v := 57) dX12_readNumber_54 (by decide +kernel) ?_
        refine mm_icmp_gt 99 dX12_readNumber_56 (by decide) (fun c12 => ?_) (fun c12 => ?_)
        · replace H := hT c12 H
          refine mm_fgt (ls' := [none, none, none, some (.int x3)]) ⟨rfl, trivial⟩ ?_
          cases H
          exact KE _ R
        · replace H := hF c12 H
          refine mm_aload_n dX12_readNumber_59 rfl ?_
          refine rD_get (key := 11346) lk_X12_133_X12 lay_113 rfl rfl rfl dX12_readNumber_60 R ?_
          refine mm_iload_n dX12_readNumber_63 rfl ?_
          refine mm_isub dX12_readNumber_64 ?_
          refine mm_iconst (v := 4) dX12_readNumber_65 (by decide +kernel) ?_
          refine mm_icmp_ne 78 dX12_readNumber_66 (by decide) (fun c13 => ?_) (fun c13 => ?_)
          · replace H := hF c13 H
            refine mm_bipush (v := 10) dX12_readNumber_78 (by decide +kernel) ?_
            refine mm_iload_n dX12_readNumber_80 rfl ?_
            refine mm_imul dX12_readNumber_81 ?_
            refine mm_aload_n dX12_readNumber_82 rfl ?_
            obtain ⟨q14, H15, H⟩ := hC H
            refine mm_callV (d' := d - 1) (as := []) (st := [.int (10 * x3)]) (dS hd) cm_X12_now0 (mm_t6 137 rfl rfl) (mm_t6 139 rfl rfl) (mm_s3 1 rfl rfl) (T := TX12) (N := 54) rfl dX12_readNumber_83 (R.oD (r := 113) rfl lay_113) rfl (Nat.le_of_ble_eq_true rfl) (Nat.le_of_ble_eq_true rfl) rfl rfl (t_X12_now0 (dL hd (by decide)) R H15) (fun o u q => mm_thenI q ?_)
            refine mm_iadd dX12_readNumber_86 ?_
            refine mm_bipush (v := 48) dX12_readNumber_87 (by decide +kernel) ?_
            refine mm_isub dX12_readNumber_89 ?_
            refine mm_istore_n (ls' := [some (.ref 113), some (.int x1), some (.int x2), some (.int (((10 * x3) + q14) - 48))]) dX12_readNumber_90 (Nat.le_of_ble_eq_true rfl) rfl ?_
            refine mm_aload_n dX12_readNumber_91 rfl ?_
            refine mm_iload_n dX12_readNumber_92 rfl ?_
            obtain ⟨q16, H17, H⟩ := hC H
            refine mm_callV (d' := d - 1) (as := [.int x1]) (st := []) (dS hd) cm_X12_take (mm_t6 159 rfl rfl) (mm_t6 161 rfl rfl) (mm_s3 5 rfl rfl) (T := TX12) (N := 54) rfl dX12_readNumber_93 (R.oD (r := 113) rfl lay_113) rfl (Nat.le_of_ble_eq_true rfl) (Nat.le_of_ble_eq_true rfl) rfl rfl (t_X12_take (dL hd (by decide)) R H17) (fun o h q => th_dV q (fun R => ?_))
            refine mm_goto 34 dX12_readNumber_96 (by decide) ?_
            exact ih _ _ _ R H
          · replace H := hT c13 H
            refine mm_aload_n dX12_readNumber_69 rfl ?_
            refine mm_iconst (v := 2) dX12_readNumber_70 (by decide +kernel) ?_
            refine mm_aload_n dX12_readNumber_71 rfl ?_
            refine rD_get (key := 11346) lk_X12_133_X12 lay_113 rfl rfl rfl dX12_readNumber_72 R ?_
            obtain ⟨q18, H19, H⟩ := hC H
            refine mm_callV (d' := d - 1) (as := [.int 2, .int (gI D 11346)]) (st := []) (dS hd) cm_X12_wrong (mm_t6 144 rfl rfl) (mm_t6 146 rfl rfl) (mm_s3 2 rfl rfl) (T := TX12) (N := 54) rfl dX12_readNumber_75 (R.oD (r := 113) rfl lay_113) rfl (Nat.le_of_ble_eq_true rfl) (Nat.le_of_ble_eq_true rfl) rfl rfl (t_X12_wrong (dL hd (by decide)) R H19) (fun o h q => th_dV q (fun R => ?_))
            refine mm_bipush (v := 10) dX12_readNumber_78 (by decide +kernel) ?_
            refine mm_iload_n dX12_readNumber_80 rfl ?_
            refine mm_imul dX12_readNumber_81 ?_
            refine mm_aload_n dX12_readNumber_82 rfl ?_
            obtain ⟨q20, H21, H⟩ := hC H
            refine mm_callV (d' := d - 1) (as := []) (st := [.int (10 * x3)]) (dS hd) cm_X12_now0 (mm_t6 137 rfl rfl) (mm_t6 139 rfl rfl) (mm_s3 1 rfl rfl) (T := TX12) (N := 54) rfl dX12_readNumber_83 (R.oD (r := 113) rfl lay_113) rfl (Nat.le_of_ble_eq_true rfl) (Nat.le_of_ble_eq_true rfl) rfl rfl (t_X12_now0 (dL hd (by decide)) R H21) (fun o u q => mm_thenI q ?_)
            refine mm_iadd dX12_readNumber_86 ?_
            refine mm_bipush (v := 48) dX12_readNumber_87 (by decide +kernel) ?_
            refine mm_isub dX12_readNumber_89 ?_
            refine mm_istore_n (ls' := [some (.ref 113), some (.int x1), some (.int x2), some (.int (((10 * x3) + q20) - 48))]) dX12_readNumber_90 (Nat.le_of_ble_eq_true rfl) rfl ?_
            refine mm_aload_n dX12_readNumber_91 rfl ?_
            refine mm_iload_n dX12_readNumber_92 rfl ?_
            obtain ⟨q22, H23, H⟩ := hC H
            refine mm_callV (d' := d - 1) (as := [.int x1]) (st := []) (dS hd) cm_X12_take (mm_t6 159 rfl rfl) (mm_t6 161 rfl rfl) (mm_s3 5 rfl rfl) (T := TX12) (N := 54) rfl dX12_readNumber_93 (R.oD (r := 113) rfl lay_113) rfl (Nat.le_of_ble_eq_true rfl) (Nat.le_of_ble_eq_true rfl) rfl rfl (t_X12_take (dL hd (by decide)) R H23) (fun o h q => th_dV q (fun R => ?_))
            refine mm_goto 34 dX12_readNumber_96 (by decide) ?_
            exact ih _ _ _ R H
def f_X12_readNumber_J25 (N : Nat) (x1 : Int32) (x2 : Int32) (x3 : Int32) (D : CS) : Option (Int32 × CS) :=
  bnd (f_X12_wrong 1 (gI D 11346) D) fun q4 =>
  bnd (f_X12_readNumber_L34 N x1 x2 N x3 q4) fun q24 =>
    some (q24.1, q24.2)
theorem t_X12_readNumber_J25 {g : mm_G} {d : Nat} {h : mm_Hp} {C D : CS} {N : Nat} {x1 : Int32} {x2 : Int32} {x3 : Int32} {r : (Int32 × CS)} (hd : 2 ≤ d) (R : Rep h C D) (H : f_X12_readNumber_J25 N x1 x2 x3 D = some r) : mm_P g d MX12_readNumber 25 [some (.ref 113), some (.int x1), some (.int x2), some (.int x3)] [] h (dI C r) := by
  unfold f_X12_readNumber_J25 at H
  refine mm_aload_n dX12_readNumber_25 rfl ?_
  refine mm_iconst (v := 1) dX12_readNumber_26 (by decide +kernel) ?_
  refine mm_aload_n dX12_readNumber_27 rfl ?_
  refine rD_get (key := 11346) lk_X12_133_X12 lay_113 rfl rfl rfl dX12_readNumber_28 R ?_
  obtain ⟨q4, H5, H⟩ := hC H
  refine mm_callV (d' := d - 1) (as := [.int 1, .int (gI D 11346)]) (st := []) (dS hd) cm_X12_wrong (mm_t6 144 rfl rfl) (mm_t6 146 rfl rfl) (mm_s3 2 rfl rfl) (T := TX12) (N := 54) rfl dX12_readNumber_31 (R.oD (r := 113) rfl lay_113) rfl (Nat.le_of_ble_eq_true rfl) (Nat.le_of_ble_eq_true rfl) rfl rfl (t_X12_wrong (dL hd (by decide)) R H5) (fun o h q => th_dV q (fun R => ?_))
  obtain ⟨q24, H25, H⟩ := hC H
  refine t_X12_readNumber_L34 hd (fun h R => ?_) N _ _ _ R H25
  refine mm_iload_n dX12_readNumber_99 rfl ?_
  refine mm_iret rfl rfl dX12_readNumber_100 ?_
  exact en_dI H R
def f_X12_readNumber (N : Nat) (x1 : Int32) (D : CS) : Option (Int32 × CS) :=
  bnd (f_X12_now0 D) fun q1 =>
  if q1 < 48 then (f_X12_readNumber_J25 N x1 (gI D 11346) 0 D)
    else (bnd (f_X12_now0 D) fun q26 =>
    if q26 ≤ 57 then (bnd (f_X12_readNumber_L34 N x1 (gI D 11346) N 0 D) fun q29 =>
        some (q29.1, q29.2))
        else (f_X12_readNumber_J25 N x1 (gI D 11346) 0 D))
theorem t_X12_readNumber {g : mm_G} {d : Nat} {h : mm_Hp} {C D : CS} {N : Nat} {x1 : Int32} {r : (Int32 × CS)} (hd : 2 ≤ d) (R : Rep h C D) (H : f_X12_readNumber N x1 D = some r) : mm_P g d MX12_readNumber 0 [some (.ref 113), some (.int x1), none, none] [] h (dI C r) := by
  unfold f_X12_readNumber at H
  refine mm_aload_n dX12_readNumber_0 rfl ?_
  refine rD_get (key := 11346) lk_X12_133_X12 lay_113 rfl rfl rfl dX12_readNumber_1 R ?_
  refine mm_istore_n (ls' := [some (.ref 113), some (.int x1), some (.int (gI D 11346)), none]) dX12_readNumber_4 (Nat.le_of_ble_eq_true rfl) rfl ?_
  refine mm_iconst (v := 0) dX12_readNumber_5 (by decide +kernel) ?_
  refine mm_istore_n (ls' := [some (.ref 113), some (.int x1), some (.int (gI D 11346)), some (.int 0)]) dX12_readNumber_6 (Nat.le_of_ble_eq_true rfl) rfl ?_
  refine mm_aload_n dX12_readNumber_7 rfl ?_
  obtain ⟨q1, H2, H⟩ := hC H
  refine mm_callV (d' := d - 1) (as := []) (st := []) (dS hd) cm_X12_now0 (mm_t6 137 rfl rfl) (mm_t6 139 rfl rfl) (mm_s3 1 rfl rfl) (T := TX12) (N := 54) rfl dX12_readNumber_8 (R.oD (r := 113) rfl lay_113) rfl (Nat.le_of_ble_eq_true rfl) (Nat.le_of_ble_eq_true rfl) rfl rfl (t_X12_now0 (dL hd (by decide)) R H2) (fun o u q => mm_thenI q ?_)
  refine mm_bipush (v := 48) dX12_readNumber_11 (by decide +kernel) ?_
  refine mm_icmp_lt 25 dX12_readNumber_13 (by decide) (fun c3 => ?_) (fun c3 => ?_)
  · replace H := hT c3 H
    exact t_X12_readNumber_J25 hd R H
  · replace H := hF c3 H
    refine mm_aload_n dX12_readNumber_16 rfl ?_
    obtain ⟨q26, H27, H⟩ := hC H
    refine mm_callV (d' := d - 1) (as := []) (st := []) (dS hd) cm_X12_now0 (mm_t6 137 rfl rfl) (mm_t6 139 rfl rfl) (mm_s3 1 rfl rfl) (T := TX12) (N := 54) rfl dX12_readNumber_17 (R.oD (r := 113) rfl lay_113) rfl (Nat.le_of_ble_eq_true rfl) (Nat.le_of_ble_eq_true rfl) rfl rfl (t_X12_now0 (dL hd (by decide)) R H27) (fun o u q => mm_thenI q ?_)
    refine mm_bipush (v := 57) dX12_readNumber_20 (by decide +kernel) ?_
    refine mm_icmp_le 34 dX12_readNumber_22 (by decide) (fun c28 => ?_) (fun c28 => ?_)
    · replace H := hT c28 H
      obtain ⟨q29, H30, H⟩ := hC H
      refine t_X12_readNumber_L34 hd (fun h R => ?_) N _ _ _ R H30
      refine mm_iload_n dX12_readNumber_99 rfl ?_
      refine mm_iret rfl rfl dX12_readNumber_100 ?_
      exact en_dI H R
    · replace H := hF c28 H
      exact t_X12_readNumber_J25 hd R H
def f_X12_need (x1 : Int32) (x2 : Int32) (D : CS) : Option CS :=
  if (gI D 11349) = 0 then (bnd (f_X12_now0 D) fun q5 =>
    if q5 = x1 then (if (gI D 11349) = 0 then (bnd (f_X12_take x2 D) fun q9 =>
        some q9)
        else (some D))
      else (bnd (f_X12_wrong 1 (gI D 11346) D) fun q11 =>
      if (gI q11 11349) = 0 then (bnd (f_X12_take x2 q11) fun q14 =>
        some q14)
        else (some q11)))
    else (if (gI D 11349) = 0 then (bnd (f_X12_take x2 D) fun q3 =>
      some q3)
      else (some D))
theorem t_X12_need {g : mm_G} {d : Nat} {h : mm_Hp} {C D : CS} {x1 : Int32} {x2 : Int32} {r : CS} (hd : 2 ≤ d) (R : Rep h C D) (H : f_X12_need x1 x2 D = some r) : mm_P g d MX12_need 0 [some (.ref 113), some (.int x1), some (.int x2)] [] h (dV C r) := by
  unfold f_X12_need at H
  refine mm_aload_n dX12_need_0 rfl ?_
  refine rD_get (key := 11349) lk_X12_139_X12 lay_113 rfl rfl rfl dX12_need_1 R ?_
  refine mm_if_ne 24 dX12_need_4 (by decide) (fun c1 => ?_) (fun c1 => ?_)
  · replace H := hF c1 H
    refine mm_aload_n dX12_need_24 rfl ?_
    refine rD_get (key := 11349) lk_X12_139_X12 lay_113 rfl rfl rfl dX12_need_25 R ?_
    refine mm_if_ne 36 dX12_need_28 (by decide) (fun c2 => ?_) (fun c2 => ?_)
    · replace H := hF c2 H
      refine mm_vret rfl dX12_need_36 ?_
      exact en_dV H R
    · replace H := hT c2 H
      refine mm_aload_n dX12_need_31 rfl ?_
      refine mm_iload_n dX12_need_32 rfl ?_
      obtain ⟨q3, H4, H⟩ := hC H
      refine mm_callV (d' := d - 1) (as := [.int x2]) (st := []) (dS hd) cm_X12_take (mm_t6 159 rfl rfl) (mm_t6 161 rfl rfl) (mm_s3 5 rfl rfl) (T := TX12) (N := 54) rfl dX12_need_33 (R.oD (r := 113) rfl lay_113) rfl (Nat.le_of_ble_eq_true rfl) (Nat.le_of_ble_eq_true rfl) rfl rfl (t_X12_take (dL hd (by decide)) R H4) (fun o h q => th_dV q (fun R => ?_))
      refine mm_vret rfl dX12_need_36 ?_
      exact en_dV H R
  · replace H := hT c1 H
    refine mm_aload_n dX12_need_7 rfl ?_
    obtain ⟨q5, H6, H⟩ := hC H
    refine mm_callV (d' := d - 1) (as := []) (st := []) (dS hd) cm_X12_now0 (mm_t6 137 rfl rfl) (mm_t6 139 rfl rfl) (mm_s3 1 rfl rfl) (T := TX12) (N := 54) rfl dX12_need_8 (R.oD (r := 113) rfl lay_113) rfl (Nat.le_of_ble_eq_true rfl) (Nat.le_of_ble_eq_true rfl) rfl rfl (t_X12_now0 (dL hd (by decide)) R H6) (fun o u q => mm_thenI q ?_)
    refine mm_iload_n dX12_need_11 rfl ?_
    refine mm_icmp_eq 24 dX12_need_12 (by decide) (fun c7 => ?_) (fun c7 => ?_)
    · replace H := hT c7 H
      refine mm_aload_n dX12_need_24 rfl ?_
      refine rD_get (key := 11349) lk_X12_139_X12 lay_113 rfl rfl rfl dX12_need_25 R ?_
      refine mm_if_ne 36 dX12_need_28 (by decide) (fun c8 => ?_) (fun c8 => ?_)
      · replace H := hF c8 H
        refine mm_vret rfl dX12_need_36 ?_
        exact en_dV H R
      · replace H := hT c8 H
        refine mm_aload_n dX12_need_31 rfl ?_
        refine mm_iload_n dX12_need_32 rfl ?_
        obtain ⟨q9, H10, H⟩ := hC H
        refine mm_callV (d' := d - 1) (as := [.int x2]) (st := []) (dS hd) cm_X12_take (mm_t6 159 rfl rfl) (mm_t6 161 rfl rfl) (mm_s3 5 rfl rfl) (T := TX12) (N := 54) rfl dX12_need_33 (R.oD (r := 113) rfl lay_113) rfl (Nat.le_of_ble_eq_true rfl) (Nat.le_of_ble_eq_true rfl) rfl rfl (t_X12_take (dL hd (by decide)) R H10) (fun o h q => th_dV q (fun R => ?_))
        refine mm_vret rfl dX12_need_36 ?_
        exact en_dV H R
    · replace H := hF c7 H
      refine mm_aload_n dX12_need_15 rfl ?_
      refine mm_iconst (v := 1) dX12_need_16 (by decide +kernel) ?_
      refine mm_aload_n dX12_need_17 rfl ?_
      refine rD_get (key := 11346) lk_X12_133_X12 lay_113 rfl rfl rfl dX12_need_18 R ?_
      obtain ⟨q11, H12, H⟩ := hC H
      refine mm_callV (d' := d - 1) (as := [.int 1, .int (gI D 11346)]) (st := []) (dS hd) cm_X12_wrong (mm_t6 144 rfl rfl) (mm_t6 146 rfl rfl) (mm_s3 2 rfl rfl) (T := TX12) (N := 54) rfl dX12_need_21 (R.oD (r := 113) rfl lay_113) rfl (Nat.le_of_ble_eq_true rfl) (Nat.le_of_ble_eq_true rfl) rfl rfl (t_X12_wrong (dL hd (by decide)) R H12) (fun o h q => th_dV q (fun R => ?_))
      refine mm_aload_n dX12_need_24 rfl ?_
      refine rD_get (key := 11349) lk_X12_139_X12 lay_113 rfl rfl rfl dX12_need_25 R ?_
      refine mm_if_ne 36 dX12_need_28 (by decide) (fun c13 => ?_) (fun c13 => ?_)
      · replace H := hF c13 H
        refine mm_vret rfl dX12_need_36 ?_
        exact en_dV H R
      · replace H := hT c13 H
        refine mm_aload_n dX12_need_31 rfl ?_
        refine mm_iload_n dX12_need_32 rfl ?_
        obtain ⟨q14, H15, H⟩ := hC H
        refine mm_callV (d' := d - 1) (as := [.int x2]) (st := []) (dS hd) cm_X12_take (mm_t6 159 rfl rfl) (mm_t6 161 rfl rfl) (mm_s3 5 rfl rfl) (T := TX12) (N := 54) rfl dX12_need_33 (R.oD (r := 113) rfl lay_113) rfl (Nat.le_of_ble_eq_true rfl) (Nat.le_of_ble_eq_true rfl) rfl rfl (t_X12_take (dL hd (by decide)) R H15) (fun o h q => th_dV q (fun R => ?_))
        refine mm_vret rfl dX12_need_36 ?_
        exact en_dV H R
