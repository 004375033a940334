/-- of an int the byte at a shift -/
def byOf (x s : Int32) : Int32 := (x.toUInt32 >>> (s.toUInt32 &&& Int32.toUInt32 31)).toInt32
theorem m_By_addNumber {g : mm_G} {d r most s mk k cap v0 v1 v2 v3 : Nat} {b : Nat → Nat} {h : mm_Hp} {x : Int32} (hd : 3 ≤ d) (B : ByAt h r most s mk k cap b) (hm : 2 * most < 2 ^ 29) (hr : s + 4 ≤ most)
    (e0 : byOf x 24 &&& 255 = nI v0) (e1 : byOf x 16 &&& 255 = nI v1) (e2 : byOf x 8 &&& 255 = nI v2) (e3 : byOf x 0 &&& 255 = nI v3) (b0 : v0 < 256) (b1 : v1 < 256) (b2 : v2 < 256) (b3 : v3 < 256) :
    mm_P g d MX1_addNumber 0 [some (.ref r), some (.int x), none] [] h (fun o h' => o = .inl none ∧ ∃ k' cap', ByAt h' r most (s + 4) mk k' cap' (va_up (va_up (va_up (va_up b s v0) (s + 1) v1) (s + 2) v2) (s + 3) v3) ∧ mm_bg r h k cap h' k' cap') := by
  have a := B.choose_spec.1
  refine mm_bipush (v := 24) dX1_addNumber_0 (by decide +kernel) ?_
  refine mm_istore_n (ls' := [some (.ref r), some (.int x), some (.int 24)]) dX1_addNumber_2 (Nat.le_of_ble_eq_true rfl) rfl ?_
  refine mm_iload_n dX1_addNumber_3 rfl ?_
  refine mm_if_lt 20 dX1_addNumber_4 (by decide) (fun c => absurd c (by decide)) (fun _ => ?_)
  refine mm_aload_n dX1_addNumber_7 rfl ?_
  refine mm_iload_n dX1_addNumber_8 rfl ?_
  refine mm_iload_n dX1_addNumber_9 rfl ?_
  refine mm_iushr dX1_addNumber_10 ?_
  refine mm_callV (d' := d - 1) (as := [.int ((x.toUInt32 >>> (Int32.toUInt32 24 &&& Int32.toUInt32 31)).toInt32)]) (st := []) (by omega) cm_X1_add (mm_t2 189 rfl rfl) (mm_t2 190 rfl rfl) (mm_t2 191 rfl rfl) (T := TX1) (N := 4) rfl dX1_addNumber_11 a rfl (Nat.le_of_ble_eq_true rfl) (Nat.le_of_ble_eq_true rfl) rfl rfl (m_By_add (s := s + 0) (by omega) B hm (v := v0) e0 b0) (fun o u1 q => ?_)
  obtain ⟨rfl, k1, c1p, B, G1⟩ := q
  show mm_P g d MX1_addNumber (11 + 3) _ [] u1 _
  have hs1 : (if s + 0 < most then s + 0 + 1 else s + 0) = s + 1 := by rw [if_pos (by omega)]
  rw [hs1] at B
  have a := B.choose_spec.1
  refine mm_iinc (v := 16) (ls' := [some (.ref r), some (.int x), some (.int 16)]) dX1_addNumber_14 rfl (by decide) rfl ?_
  refine mm_goto 3 dX1_addNumber_17 (by decide) ?_
  refine mm_iload_n dX1_addNumber_3 rfl ?_
  refine mm_if_lt 20 dX1_addNumber_4 (by decide) (fun c => absurd c (by decide)) (fun _ => ?_)
  refine mm_aload_n dX1_addNumber_7 rfl ?_
  refine mm_iload_n dX1_addNumber_8 rfl ?_
  refine mm_iload_n dX1_addNumber_9 rfl ?_
  refine mm_iushr dX1_addNumber_10 ?_
  refine mm_callV (d' := d - 1) (as := [.int ((x.toUInt32 >>> (Int32.toUInt32 16 &&& Int32.toUInt32 31)).toInt32)]) (st := []) (by omega) cm_X1_add (mm_t2 189 rfl rfl) (mm_t2 190 rfl rfl) (mm_t2 191 rfl rfl) (T := TX1) (N := 4) rfl dX1_addNumber_11 a rfl (Nat.le_of_ble_eq_true rfl) (Nat.le_of_ble_eq_true rfl) rfl rfl (m_By_add (s := s + 1) (by omega) B hm (v := v1) e1 b1) (fun o u2 q => ?_)
  obtain ⟨rfl, k2, c2p, B, G2⟩ := q
  show mm_P g d MX1_addNumber (11 + 3) _ [] u2 _
  have hs2 : (if s + 1 < most then s + 1 + 1 else s + 1) = s + 2 := by rw [if_pos (by omega)]
  rw [hs2] at B
  have a := B.choose_spec.1
  refine mm_iinc (v := 8) (ls' := [some (.ref r), some (.int x), some (.int 8)]) dX1_addNumber_14 rfl (by decide) rfl ?_
  refine mm_goto 3 dX1_addNumber_17 (by decide) ?_
  refine mm_iload_n dX1_addNumber_3 rfl ?_
  refine mm_if_lt 20 dX1_addNumber_4 (by decide) (fun c => absurd c (by decide)) (fun _ => ?_)
  refine mm_aload_n dX1_addNumber_7 rfl ?_
  refine mm_iload_n dX1_addNumber_8 rfl ?_
  refine mm_iload_n dX1_addNumber_9 rfl ?_
  refine mm_iushr dX1_addNumber_10 ?_
  refine mm_callV (d' := d - 1) (as := [.int ((x.toUInt32 >>> (Int32.toUInt32 8 &&& Int32.toUInt32 31)).toInt32)]) (st := []) (by omega) cm_X1_add (mm_t2 189 rfl rfl) (mm_t2 190 rfl rfl) (mm_t2 191 rfl rfl) (T := TX1) (N := 4) rfl dX1_addNumber_11 a rfl (Nat.le_of_ble_eq_true rfl) (Nat.le_of_ble_eq_true rfl) rfl rfl (m_By_add (s := s + 2) (by omega) B hm (v := v2) e2 b2) (fun o u3 q => ?_)
  obtain ⟨rfl, k3, c3p, B, G3⟩ := q
  show mm_P g d MX1_addNumber (11 + 3) _ [] u3 _
  have hs3 : (if s + 2 < most then s + 2 + 1 else s + 2) = s + 3 := by rw [if_pos (by omega)]
  rw [hs3] at B
  have a := B.choose_spec.1
  refine mm_iinc (v := 0) (ls' := [some (.ref r), some (.int x), some (.int 0)]) dX1_addNumber_14 rfl (by decide) rfl ?_
  refine mm_goto 3 dX1_addNumber_17 (by decide) ?_
  refine mm_iload_n dX1_addNumber_3 rfl ?_
  refine mm_if_lt 20 dX1_addNumber_4 (by decide) (fun c => absurd c (by decide)) (fun _ => ?_)
  refine mm_aload_n dX1_addNumber_7 rfl ?_
  refine mm_iload_n dX1_addNumber_8 rfl ?_
  refine mm_iload_n dX1_addNumber_9 rfl ?_
  refine mm_iushr dX1_addNumber_10 ?_
  refine mm_callV (d' := d - 1) (as := [.int ((x.toUInt32 >>> (Int32.toUInt32 0 &&& Int32.toUInt32 31)).toInt32)]) (st := []) (by omega) cm_X1_add (mm_t2 189 rfl rfl) (mm_t2 190 rfl rfl) (mm_t2 191 rfl rfl) (T := TX1) (N := 4) rfl dX1_addNumber_11 a rfl (Nat.le_of_ble_eq_true rfl) (Nat.le_of_ble_eq_true rfl) rfl rfl (m_By_add (s := s + 3) (by omega) B hm (v := v3) e3 b3) (fun o u4 q => ?_)
  obtain ⟨rfl, k4, c4p, B, G4⟩ := q
  show mm_P g d MX1_addNumber (11 + 3) _ [] u4 _
  have hs4 : (if s + 3 < most then s + 3 + 1 else s + 3) = s + 4 := by rw [if_pos (by omega)]
  rw [hs4] at B
  have a := B.choose_spec.1
  refine mm_iinc (v := (-8)) (ls' := [some (.ref r), some (.int x), some (.int (-8))]) dX1_addNumber_14 rfl (by decide) rfl ?_
  refine mm_goto 3 dX1_addNumber_17 (by decide) ?_
  refine mm_iload_n dX1_addNumber_3 rfl ?_
  refine mm_if_lt 20 dX1_addNumber_4 (by decide) (fun _ => ?_) (fun c => absurd (by decide) c)
  refine mm_vret rfl dX1_addNumber_20 ?_
  exact ⟨rfl, k4, c4p, B, mm_bg.trans (mm_bg.trans (mm_bg.trans G1 G2) G3) G4⟩
