/-! Rests: the object at 76, its rows at 79 to 83; its text is at 77 -/
def ReAt (h : mm_Hp) (n mk : Nat) (la be da fr le : Nat → Int32) : Prop := mm_at h 76 (.inr (8, [.int 300, .int (nI n), .int (nI mk), .ref 77, .ref 79, .ref 80, .ref 81, .ref 82, .ref 83])) ∧ mm_at h 79 (.inl (0, 200, .inl la)) ∧ mm_at h 80 (.inl (0, 300, .inl be)) ∧ mm_at h 81 (.inl (0, 300, .inl da)) ∧ mm_at h 82 (.inl (0, 300, .inl fr)) ∧ mm_at h 83 (.inl (0, 300, .inl le))
/-- each rest goes back to an earlier one, or to none -/
def reOk (n : Nat) (be : Nat → Int32) : Prop := ∀ r, r < n → be r = -1 ∨ ∃ q, q < r ∧ be r = nI q
def heOf (be da : Nat → Int32) (k : Int32) : Nat → Nat → Nat
  | 0, r => r
  | m + 1, r => if be r = -1 ∨ da r ≤ k then r else heOf be da k m (be r).toNatClampNeg
def tiOf (be : Nat → Int32) : Nat → Nat → Nat
  | 0, _ => 0
  | m + 1, r => if be r = -1 then 0 else tiOf be m (be r).toNatClampNeg + 1
theorem m_Re_held_loop {g : mm_G} {d n mk : Nat} {h : mm_Hp} {la be da fr le : Nat → Int32} {x k : Int32} (L : ReAt h n mk la be da fr le) (hn : n ≤ 300) (hb : reOk n be) : ∀ (m i r : Nat), i + m = n → r < n → mm_P g d MX8_heldOn 10 [some (.ref 76), some (.int x), some (.int k), some (.int (nI r)), some (.int (nI i))] [] h (mm_pureI (nI (heOf be da k m r)) h) := by
  obtain ⟨a76, a79, a80, a81, a82, a83⟩ := L
  intro m
  induction m with
  | zero =>
    intro i r hi hr
    refine mm_iload dX8_heldOn_10 rfl ?_
    refine mm_aload_n dX8_heldOn_12 rfl ?_
    refine mm_get lk_X8_38_X8 dX8_heldOn_13 a76 rfl ?_
    refine mm_icmp_ge 52 dX8_heldOn_16 (by decide) (fun c1 => ?_) (fun c1 => ?_)
    · have c1 : n ≤ i := (nI_leI (a := n) (b := i) (by omega) (by omega)).mp c1
      refine mm_iload_n dX8_heldOn_52 rfl ?_
      refine mm_iret rfl rfl dX8_heldOn_53 ?_
      exact ⟨rfl, rfl⟩
    · have c1 : ¬ n ≤ i := fun z => c1 ((nI_leI (a := n) (b := i) (by omega) (by omega)).mpr z)
      exact absurd (show n ≤ i by omega) c1
  | succ m ih =>
    intro i r hi hr
    refine mm_iload dX8_heldOn_10 rfl ?_
    refine mm_aload_n dX8_heldOn_12 rfl ?_
    refine mm_get lk_X8_38_X8 dX8_heldOn_13 a76 rfl ?_
    refine mm_icmp_ge 52 dX8_heldOn_16 (by decide) (fun c1 => ?_) (fun c1 => ?_)
    · have c1 : n ≤ i := (nI_leI (a := n) (b := i) (by omega) (by omega)).mp c1
      exact absurd c1 (by omega)
    · have c1 : ¬ n ≤ i := fun z => c1 ((nI_leI (a := n) (b := i) (by omega) (by omega)).mpr z)
      refine mm_aload_n dX8_heldOn_19 rfl ?_
      refine mm_get lk_X8_22_X8 dX8_heldOn_20 a76 rfl ?_
      refine mm_iload_n dX8_heldOn_23 rfl ?_
      refine mm_ialdN (i := r) dX8_heldOn_24 a80 (by omega) (by decide) ?_
      refine mm_iconst (v := (-1)) dX8_heldOn_25 (by decide +kernel) ?_
      refine mm_icmp_eq 52 dX8_heldOn_26 (by decide) (fun c2 => ?_) (fun c2 => ?_)
      · refine mm_iload_n dX8_heldOn_52 rfl ?_
        refine mm_iret rfl rfl dX8_heldOn_53 ?_
        exact ⟨by rw [heOf, if_pos (Or.inl c2)], rfl⟩
      · refine mm_aload_n dX8_heldOn_29 rfl ?_
        refine mm_get lk_X8_25_X8 dX8_heldOn_30 a76 rfl ?_
        refine mm_iload_n dX8_heldOn_33 rfl ?_
        refine mm_ialdN (i := r) dX8_heldOn_34 a81 (by omega) (by decide) ?_
        refine mm_iload_n dX8_heldOn_35 rfl ?_
        refine mm_icmp_le 52 dX8_heldOn_36 (by decide) (fun c3 => ?_) (fun c3 => ?_)
        · refine mm_iload_n dX8_heldOn_52 rfl ?_
          refine mm_iret rfl rfl dX8_heldOn_53 ?_
          exact ⟨by rw [heOf, if_pos (Or.inr c3)], rfl⟩
        · refine mm_aload_n dX8_heldOn_39 rfl ?_
          refine mm_get lk_X8_22_X8 dX8_heldOn_40 a76 rfl ?_
          refine mm_iload_n dX8_heldOn_43 rfl ?_
          refine mm_ialdN (i := r) dX8_heldOn_44 a80 (by omega) (by decide) ?_
          obtain ⟨q, hq, z⟩ := (hb r hr).resolve_left c2
          rw [z]
          refine mm_istore_n (ls' := [some (.ref 76), some (.int x), some (.int k), some (.int (nI q)), some (.int (nI i))]) dX8_heldOn_45 (Nat.le_of_ble_eq_true rfl) rfl ?_
          refine mm_iinc (v := nI (i + 1)) (ls' := [some (.ref 76), some (.int x), some (.int k), some (.int (nI q)), some (.int (nI (i + 1)))]) dX8_heldOn_46 rfl (nI_1 _) rfl ?_
          refine mm_goto 10 dX8_heldOn_49 (by decide) ?_
          rw [heOf, if_neg (fun y => y.elim c2 c3), z, nI_clamp (by omega)]
          exact ih (i + 1) q (by omega) (by omega)
theorem m_Re_heldOn {g : mm_G} {d n mk : Nat} {h : mm_Hp} {la be da fr le : Nat → Int32} {k : Int32} {j r : Nat} (L : ReAt h n mk la be da fr le) (hn : n ≤ 300) (hb : reOk n be) (hj : j < 200) (hr : r < n) (e : la j = nI r) : mm_P g d MX8_heldOn 0 [some (.ref 76), some (.int (nI j)), some (.int k), none, none] [] h (mm_pureI (nI (heOf be da k n r)) h) := by
  obtain ⟨a76, a79, a80, a81, a82, a83⟩ := L
  refine mm_aload_n dX8_heldOn_0 rfl ?_
  refine mm_get lk_X8_18_X8 dX8_heldOn_1 a76 rfl ?_
  refine mm_iload_n dX8_heldOn_4 rfl ?_
  refine mm_ialdN (i := j) dX8_heldOn_5 a79 (by omega) (by decide) ?_
  rw [e]
  refine mm_istore_n (ls' := [some (.ref 76), some (.int (nI j)), some (.int k), some (.int (nI r)), none]) dX8_heldOn_6 (Nat.le_of_ble_eq_true rfl) rfl ?_
  refine mm_iconst (v := 0) dX8_heldOn_7 (by decide +kernel) ?_
  refine mm_istore (ls' := [some (.ref 76), some (.int (nI j)), some (.int k), some (.int (nI r)), some (.int 0)]) dX8_heldOn_8 (Nat.le_of_ble_eq_true rfl) rfl ?_
  exact m_Re_held_loop ⟨a76, a79, a80, a81, a82, a83⟩ hn hb n 0 r (by omega) hr
theorem m_Re_times_loop {g : mm_G} {d n mk : Nat} {h : mm_Hp} {la be da fr le : Nat → Int32} {x : Int32} (L : ReAt h n mk la be da fr le) (hn : n ≤ 300) (hb : reOk n be) : ∀ (m i r : Nat), i + m = n → r < n → mm_P g d MX8_timesRighted 9 [some (.ref 76), some (.int x), some (.int (nI i)), some (.int (nI r))] [] h (mm_pureI (nI (i + tiOf be m r)) h) := by
  obtain ⟨a76, a79, a80, a81, a82, a83⟩ := L
  intro m
  induction m with
  | zero =>
    intro i r hi hr
    refine mm_iload_n dX8_timesRighted_9 rfl ?_
    refine mm_aload_n dX8_timesRighted_10 rfl ?_
    refine mm_get lk_X8_38_X8 dX8_timesRighted_11 a76 rfl ?_
    refine mm_icmp_ge 40 dX8_timesRighted_14 (by decide) (fun c1 => ?_) (fun c1 => ?_)
    · have c1 : n ≤ i := (nI_leI (a := n) (b := i) (by omega) (by omega)).mp c1
      refine mm_iload_n dX8_timesRighted_40 rfl ?_
      refine mm_iret rfl rfl dX8_timesRighted_41 ?_
      exact ⟨rfl, rfl⟩
    · have c1 : ¬ n ≤ i := fun z => c1 ((nI_leI (a := n) (b := i) (by omega) (by omega)).mpr z)
      exact absurd (show n ≤ i by omega) c1
  | succ m ih =>
    intro i r hi hr
    refine mm_iload_n dX8_timesRighted_9 rfl ?_
    refine mm_aload_n dX8_timesRighted_10 rfl ?_
    refine mm_get lk_X8_38_X8 dX8_timesRighted_11 a76 rfl ?_
    refine mm_icmp_ge 40 dX8_timesRighted_14 (by decide) (fun c1 => ?_) (fun c1 => ?_)
    · have c1 : n ≤ i := (nI_leI (a := n) (b := i) (by omega) (by omega)).mp c1
      exact absurd c1 (by omega)
    · have c1 : ¬ n ≤ i := fun z => c1 ((nI_leI (a := n) (b := i) (by omega) (by omega)).mpr z)
      refine mm_aload_n dX8_timesRighted_17 rfl ?_
      refine mm_get lk_X8_22_X8 dX8_timesRighted_18 a76 rfl ?_
      refine mm_iload_n dX8_timesRighted_21 rfl ?_
      refine mm_ialdN (i := r) dX8_timesRighted_22 a80 (by omega) (by decide) ?_
      refine mm_iconst (v := (-1)) dX8_timesRighted_23 (by decide +kernel) ?_
      refine mm_icmp_eq 40 dX8_timesRighted_24 (by decide) (fun c2 => ?_) (fun c2 => ?_)
      · refine mm_iload_n dX8_timesRighted_40 rfl ?_
        refine mm_iret rfl rfl dX8_timesRighted_41 ?_
        exact ⟨by rw [tiOf, if_pos c2, Nat.add_zero], rfl⟩
      · refine mm_iinc (v := nI (i + 1)) (ls' := [some (.ref 76), some (.int x), some (.int (nI (i + 1))), some (.int (nI r))]) dX8_timesRighted_27 rfl (nI_1 _) rfl ?_
        refine mm_aload_n dX8_timesRighted_30 rfl ?_
        refine mm_get lk_X8_22_X8 dX8_timesRighted_31 a76 rfl ?_
        refine mm_iload_n dX8_timesRighted_34 rfl ?_
        refine mm_ialdN (i := r) dX8_timesRighted_35 a80 (by omega) (by decide) ?_
        obtain ⟨q, hq, z⟩ := (hb r hr).resolve_left c2
        rw [z]
        refine mm_istore_n (ls' := [some (.ref 76), some (.int x), some (.int (nI (i + 1))), some (.int (nI q))]) dX8_timesRighted_36 (Nat.le_of_ble_eq_true rfl) rfl ?_
        refine mm_goto 9 dX8_timesRighted_37 (by decide) ?_
        rw [tiOf, if_neg c2, z, nI_clamp (by omega), show i + (tiOf be m q + 1) = (i + 1) + tiOf be m q by omega]
        exact ih (i + 1) q (by omega) (by omega)
theorem m_Re_times {g : mm_G} {d n mk : Nat} {h : mm_Hp} {la be da fr le : Nat → Int32} {j r : Nat} (L : ReAt h n mk la be da fr le) (hn : n ≤ 300) (hb : reOk n be) (hj : j < 200) (hr : r < n) (e : la j = nI r) : mm_P g d MX8_timesRighted 0 [some (.ref 76), some (.int (nI j)), none, none] [] h (mm_pureI (nI (tiOf be n r)) h) := by
  obtain ⟨a76, a79, a80, a81, a82, a83⟩ := L
  refine mm_iconst (v := 0) dX8_timesRighted_0 (by decide +kernel) ?_
  refine mm_istore_n (ls' := [some (.ref 76), some (.int (nI j)), some (.int 0), none]) dX8_timesRighted_1 (Nat.le_of_ble_eq_true rfl) rfl ?_
  refine mm_aload_n dX8_timesRighted_2 rfl ?_
  refine mm_get lk_X8_18_X8 dX8_timesRighted_3 a76 rfl ?_
  refine mm_iload_n dX8_timesRighted_6 rfl ?_
  refine mm_ialdN (i := j) dX8_timesRighted_7 a79 (by omega) (by decide) ?_
  rw [e]
  refine mm_istore_n (ls' := [some (.ref 76), some (.int (nI j)), some (.int 0), some (.int (nI r))]) dX8_timesRighted_8 (Nat.le_of_ble_eq_true rfl) rfl ?_
  have q := m_Re_times_loop (g := g) (d := d) (x := nI j) ⟨a76, a79, a80, a81, a82, a83⟩ hn hb n 0 r (by omega) hr
  rw [Nat.zero_add] at q
  exact q
