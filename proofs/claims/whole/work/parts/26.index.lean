def ixOf (x : Int32) : Nat → Nat → Int32
  | 0, _ => -1
  | m + 1, j => if chOf 1 j = x then nI j else ixOf x m (j + 1)
/-- the kind that a line's first sign tells -/
def kdOf (v : Nat) : Int32 := if v = 81 then 0 else if v = 65 then 1 else if v = 89 then 2 else if v = 78 then 3 else if v = 32 then 4 else if v = 33 then 5 else -1
theorem kd_ix : ∀ v, v < 256 → ixOf (nI v).toInt8.toInt32 6 0 = kdOf v := by decide +kernel
section MIX
variable {g : mm_G} {d v : Nat} {h : mm_Hp}
theorem m_St_canEncode (hv : v < 256) : mm_P g d MJ1_canEncode_9a6ad 0 [some (.int (nI v))] [] h (mm_pureI 1 h) := by
  refine mm_iload_n dJ1_canEncode_9a6ad_0 rfl ?_
  refine mm_if_lt 15 dJ1_canEncode_9a6ad_1 (by decide) (fun c => absurd c (nI_pos (by omega))) (fun _ => ?_)
  refine mm_iload_n dJ1_canEncode_9a6ad_4 rfl ?_
  refine mm_sipush (v := 255) dJ1_canEncode_9a6ad_5 (by decide +kernel) ?_
  refine mm_icmp_gt 15 dJ1_canEncode_9a6ad_8 (by decide) (fun c => absurd ((nI_ltI (a := 255) (b := v) (by omega) (by omega)).mp c) (by omega)) (fun _ => ?_)
  refine mm_iconst (v := 1) dJ1_canEncode_9a6ad_11 (by decide +kernel) ?_
  refine mm_goto 16 dJ1_canEncode_9a6ad_12 (by decide) ?_
  refine mm_iret rfl rfl dJ1_canEncode_9a6ad_16 ?_
  exact ⟨rfl, rfl⟩
theorem m_St_ixLoop {x c : Int32} : ∀ m j : Nat, j + m = 6 → mm_P g d MJ1_indexOfChar_4cfef 7 [some (.ref 9), some (.int c), some (.int 0), some (.int (nI 6)), some (.int x), some (.int (nI j))] [] h (mm_pureI (ixOf x m j) h) := by
  intro m
  induction m with
  | zero =>
    intro j hj
    refine mm_iload dJ1_indexOfChar_4cfef_7 rfl ?_
    refine mm_iload_n dJ1_indexOfChar_4cfef_9 rfl ?_
    refine mm_icmp_ge 31 dJ1_indexOfChar_4cfef_10 (by decide) (fun _ => ?_) (fun c => absurd (nI_le (a := 6) (b := j) (by omega) (by omega)) c)
    refine mm_iconst (v := (-1)) dJ1_indexOfChar_4cfef_31 (by decide +kernel) ?_
    refine mm_iret rfl rfl dJ1_indexOfChar_4cfef_32 ?_
    exact ⟨rfl, rfl⟩
  | succ m ih =>
    intro j hj
    refine mm_iload dJ1_indexOfChar_4cfef_7 rfl ?_
    refine mm_iload_n dJ1_indexOfChar_4cfef_9 rfl ?_
    refine mm_icmp_ge 31 dJ1_indexOfChar_4cfef_10 (by decide) (fun c => absurd c (nI_ge (a := j) (b := 6) (by omega) (by omega))) (fun _ => ?_)
    refine mm_aload_n dJ1_indexOfChar_4cfef_13 rfl ?_
    refine mm_iload dJ1_indexOfChar_4cfef_14 rfl ?_
    refine mm_gbal (i := 1) (by decide) (by decide) (vp_in_nI (N := 6) (by omega) (by decide)) dJ1_indexOfChar_4cfef_16 ?_
    rw [nI_clamp (by omega)]
    refine mm_iload dJ1_indexOfChar_4cfef_17 rfl ?_
    refine mm_icmp_ne 25 dJ1_indexOfChar_4cfef_19 (by decide) (fun c1 => ?_) (fun c1 => ?_)
    · have c1 : ¬ chOf 1 j = x := c1
      refine mm_iinc (v := nI (j + 1)) (ls' := [some (.ref 9), some (.int c), some (.int 0), some (.int (nI 6)), some (.int x), some (.int (nI (j + 1)))]) dJ1_indexOfChar_4cfef_25 rfl (nI_1 _) rfl ?_
      refine mm_goto 7 dJ1_indexOfChar_4cfef_28 (by decide) ?_
      rw [ixOf, if_neg c1]
      exact ih (j + 1) (by omega)
    · have c1 : chOf 1 j = x := c1
      refine mm_iload dJ1_indexOfChar_4cfef_22 rfl ?_
      refine mm_iret rfl rfl dJ1_indexOfChar_4cfef_24 ?_
      exact ⟨by rw [ixOf, if_pos c1], rfl⟩
theorem m_St_indexOfChar : mm_P g d MJ1_indexOfChar_4cfef 0 [some (.ref 9), some (.int (nI v)), some (.int 0), some (.int (nI 6)), none, none] [] h (mm_pureI (ixOf (nI v).toInt8.toInt32 6 0) h) := by
  refine mm_iload_n dJ1_indexOfChar_4cfef_0 rfl ?_
  refine mm_i2b dJ1_indexOfChar_4cfef_1 ?_
  refine mm_istore (ls' := [some (.ref 9), some (.int (nI v)), some (.int 0), some (.int (nI 6)), some (.int (nI v).toInt8.toInt32), none]) dJ1_indexOfChar_4cfef_2 (Nat.le_of_ble_eq_true rfl) rfl ?_
  refine mm_iload_n dJ1_indexOfChar_4cfef_4 rfl ?_
  refine mm_istore (ls' := [some (.ref 9), some (.int (nI v)), some (.int 0), some (.int (nI 6)), some (.int (nI v).toInt8.toInt32), some (.int 0)]) dJ1_indexOfChar_4cfef_5 (Nat.le_of_ble_eq_true rfl) rfl ?_
  exact m_St_ixLoop 6 0 rfl
theorem m_St_l1indexOf (hd : 1 ≤ d) (hv : v < 256) : mm_P g d MJ1_indexOf_4cfef 0 [some (.ref 9), some (.int (nI v)), some (.int 0), some (.int (nI 6))] [] h (mm_pureI (kdOf v) h) := by
  refine mm_iload_n dJ1_indexOf_4cfef_0 rfl ?_
  refine mm_callS (d' := d - 1) (as := [.int (nI v)]) (st := []) (by omega) cm_J1_canEncode_9a6ad (mm_t3 206 rfl rfl) (mm_t3 207 rfl rfl) dJ1_indexOf_4cfef_1 rfl (Nat.le_of_ble_eq_true rfl) (Nat.le_of_ble_eq_true rfl) rfl rfl (m_St_canEncode hv) (fun o u q => mm_thenI q ?_)
  refine mm_if_ne 9 dJ1_indexOf_4cfef_4 (by decide) (fun _ => ?_) (fun c => absurd c (by decide))
  refine mm_iload_n dJ1_indexOf_4cfef_9 rfl ?_
  refine mm_iconst (v := 0) dJ1_indexOf_4cfef_10 (by decide +kernel) ?_
  refine mm_max (mm_t3 209 rfl rfl) (mm_t3 179 rfl rfl) (mm_t1 15 rfl rfl) (mm_t3 180 rfl rfl) hd rfl (Nat.le_of_ble_eq_true rfl) dJ1_indexOf_4cfef_11 ?_
  rw [show (if (0 : Int32) < 0 then (0 : Int32) else 0) = 0 from by decide]
  refine mm_istore_n (ls' := [some (.ref 9), some (.int (nI v)), some (.int 0), some (.int (nI 6))]) dJ1_indexOf_4cfef_14 (Nat.le_of_ble_eq_true rfl) rfl ?_
  refine mm_iload_n dJ1_indexOf_4cfef_15 rfl ?_
  refine mm_aload_n dJ1_indexOf_4cfef_16 rfl ?_
  refine mm_glen (i := 1) (by decide) (by decide) dJ1_indexOf_4cfef_17 ?_
  refine mm_min (mm_t3 210 rfl rfl) (mm_t2 204 rfl rfl) (mm_t1 15 rfl rfl) (mm_t2 205 rfl rfl) hd rfl (Nat.le_of_ble_eq_true rfl) dJ1_indexOf_4cfef_18 ?_
  rw [show (if (Int32.ofNat (mm_sb 1).length) < nI 6 then (Int32.ofNat (mm_sb 1).length) else nI 6) = nI 6 from by decide]
  refine mm_istore_n (ls' := [some (.ref 9), some (.int (nI v)), some (.int 0), some (.int (nI 6))]) dJ1_indexOf_4cfef_21 (Nat.le_of_ble_eq_true rfl) rfl ?_
  refine mm_iload_n dJ1_indexOf_4cfef_22 rfl ?_
  refine mm_iload_n dJ1_indexOf_4cfef_23 rfl ?_
  refine mm_icmp_lt 29 dJ1_indexOf_4cfef_24 (by decide) (fun _ => ?_) (fun c => absurd (by decide) c)
  refine mm_aload_n dJ1_indexOf_4cfef_29 rfl ?_
  refine mm_iload_n dJ1_indexOf_4cfef_30 rfl ?_
  refine mm_iload_n dJ1_indexOf_4cfef_31 rfl ?_
  refine mm_iload_n dJ1_indexOf_4cfef_32 rfl ?_
  refine mm_callS (d' := d - 1) (as := [.ref 9, .int (nI v), .int 0, .int (nI 6)]) (st := []) (by omega) cm_J1_indexOfChar_4cfef (mm_t3 211 rfl rfl) (mm_t3 212 rfl rfl) dJ1_indexOf_4cfef_33 rfl (Nat.le_of_ble_eq_true rfl) (Nat.le_of_ble_eq_true rfl) rfl rfl m_St_indexOfChar (fun o u q => mm_thenI q ?_)
  refine mm_iret rfl rfl dJ1_indexOf_4cfef_36 ?_
  exact ⟨by rw [kd_ix v hv], rfl⟩
theorem m_St_indexOf2 (hd : 2 ≤ d) (hv : v < 256) : mm_P g d MJ0_indexOf_7cf53 0 [some (.ref 1), some (.int (nI v)), some (.int 0)] [] h (mm_pureI (kdOf v) h) := by
  refine mm_aload_n dJ0_indexOf_7cf53_0 rfl ?_
  refine mm_callF (i := 1) (d' := d - 1) (as := []) (st := []) (by decide) (by decide) (by omega) cm_J0_isLatin1_aae02 (mm_t3 189 rfl rfl) (mm_t3 190 rfl rfl) (mm_t3 191 rfl rfl) dJ0_indexOf_7cf53_1 rfl (Nat.le_of_ble_eq_true rfl) (Nat.le_of_ble_eq_true rfl) rfl rfl (m_St_isLatin1 (by decide) (by decide)) (fun o u q => mm_thenI q ?_)
  refine mm_if_eq 23 dJ0_indexOf_7cf53_4 (by decide) (fun c => absurd c (by decide)) (fun _ => ?_)
  refine mm_aload_n dJ0_indexOf_7cf53_7 rfl ?_
  refine mm_gval (i := 1) (by decide) (by decide) rfl (mm_t7 114 rfl rfl) dJ0_indexOf_7cf53_8 ?_
  refine mm_iload_n dJ0_indexOf_7cf53_11 rfl ?_
  refine mm_iload_n dJ0_indexOf_7cf53_12 rfl ?_
  refine mm_aload_n dJ0_indexOf_7cf53_13 rfl ?_
  refine mm_callF (i := 1) (d' := d - 1) (as := []) (st := [.int 0, .int (nI v), .ref 9]) (by decide) (by decide) (by omega) cm_J0_length_8abf5 (mm_t3 195 rfl rfl) (mm_t3 196 rfl rfl) (mm_t3 197 rfl rfl) dJ0_indexOf_7cf53_14 rfl (Nat.le_of_ble_eq_true rfl) (Nat.le_of_ble_eq_true rfl) rfl rfl (m_St_length (by omega) (by decide) (by decide)) (fun o u q => mm_thenI q ?_)
  refine mm_callS (d' := d - 1) (as := [.ref 9, .int (nI v), .int 0, .int (nI 6)]) (st := []) (by omega) cm_J1_indexOf_4cfef (mm_t3 203 rfl rfl) (mm_t3 204 rfl rfl) dJ0_indexOf_7cf53_17 rfl (Nat.le_of_ble_eq_true rfl) (Nat.le_of_ble_eq_true rfl) rfl rfl (m_St_l1indexOf (by omega) hv) (fun o u q => mm_thenI q ?_)
  refine mm_goto 36 dJ0_indexOf_7cf53_20 (by decide) ?_
  refine mm_iret rfl rfl dJ0_indexOf_7cf53_36 ?_
  exact ⟨rfl, rfl⟩
theorem m_St_indexOf (hd : 3 ≤ d) (hv : v < 256) : mm_P g d MJ0_indexOf_0f7a4 0 [some (.ref 1), some (.int (nI v))] [] h (mm_pureI (kdOf v) h) := by
  refine mm_aload_n dJ0_indexOf_0f7a4_0 rfl ?_
  refine mm_iload_n dJ0_indexOf_0f7a4_1 rfl ?_
  refine mm_iconst (v := 0) dJ0_indexOf_0f7a4_2 (by decide +kernel) ?_
  refine mm_callF (i := 1) (d' := d - 1) (as := [.int (nI v), .int 0]) (st := []) (by decide) (by decide) (by omega) cm_J0_indexOf_7cf53 (mm_t3 185 rfl rfl) (mm_t3 186 rfl rfl) (mm_t3 187 rfl rfl) dJ0_indexOf_0f7a4_3 rfl (Nat.le_of_ble_eq_true rfl) (Nat.le_of_ble_eq_true rfl) rfl rfl (m_St_indexOf2 (by omega) hv) (fun o u q => mm_thenI q ?_)
  refine mm_iret rfl rfl dJ0_indexOf_0f7a4_6 ?_
  exact ⟨rfl, rfl⟩
end MIX
