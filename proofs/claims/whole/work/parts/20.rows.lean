def FaAt (h : mm_Hp) (n mk : Nat) (li : Nat → Int32) (re : Nat → Int32) (pl : Nat → Int32) (su : Nat → Int32) (da : Nat → Int32) (va : Nat → Int32) : Prop := mm_at h 84 (.inr (3, [.int 150, .int (nI n), .int (nI mk), .ref 85, .ref 86, .ref 87, .ref 88, .ref 89, .ref 90])) ∧ mm_at h 85 (.inl (0, 150, .inl li)) ∧ mm_at h 86 (.inl (0, 150, .inl re)) ∧ mm_at h 87 (.inl (0, 150, .inl pl)) ∧ mm_at h 88 (.inl (0, 150, .inl su)) ∧ mm_at h 89 (.inl (0, 150, .inl da)) ∧ mm_at h 90 (.inl (0, 150, .inl va))
def MeAt (h : mm_Hp) (n mk : Nat) (li : Nat → Int32) (ex : Nat → Int32) : Prop := mm_at h 91 (.inr (5, [.int 100, .int (nI n), .int (nI mk), .ref 92, .ref 93])) ∧ mm_at h 92 (.inl (0, 100, .inl li)) ∧ mm_at h 93 (.inl (0, 100, .inl ex))
def NaAt (h : mm_Hp) (n mk : Nat) (li : Nat → Int32) (ex : Nat → Int32) (na : Nat → Int64) : Prop := mm_at h 94 (.inr (6, [.int 200, .int (nI n), .int (nI mk), .ref 95, .ref 96, .ref 97])) ∧ mm_at h 95 (.inl (0, 200, .inl li)) ∧ mm_at h 96 (.inl (0, 200, .inl ex)) ∧ mm_at h 97 (.inl (2, 200, .inr (.inl na)))
def OrAt (h : mm_Hp) (n mk : Nat) (fr : Nat → Int32) (to : Nat → Int32) (lv : Nat → Int32) (gi : Nat → Int32) (lf : Nat → Int32) : Prop := mm_at h 98 (.inr (7, [.int 60, .int (nI n), .int (nI mk), .ref 99, .ref 100, .ref 101, .ref 102, .ref 103])) ∧ mm_at h 99 (.inl (0, 60, .inl fr)) ∧ mm_at h 100 (.inl (0, 60, .inl to)) ∧ mm_at h 101 (.inl (0, 60, .inl lv)) ∧ mm_at h 102 (.inl (0, 60, .inl gi)) ∧ mm_at h 103 (.inl (0, 60, .inl lf))
def DiAt (h : mm_Hp) (n mk : Nat) (su : Nat → Int32) (da : Nat → Int32) (va : Nat → Int32) (ct : Nat → Int32) (fa : Nat → Int32) : Prop := mm_at h 104 (.inr (2, [.int 40, .int (nI n), .int (nI mk), .ref 105, .ref 106, .ref 107, .ref 108, .ref 109])) ∧ mm_at h 105 (.inl (0, 40, .inl su)) ∧ mm_at h 106 (.inl (0, 40, .inl da)) ∧ mm_at h 107 (.inl (0, 40, .inl va)) ∧ mm_at h 108 (.inl (0, 40, .inl ct)) ∧ mm_at h 109 (.inl (0, 320, .inl fa))
theorem m_Fa_add {g : mm_G} {d n mk : Nat} {h : mm_Hp} {li : Nat → Int32} {re : Nat → Int32} {pl : Nat → Int32} {su : Nat → Int32} {da : Nat → Int32} {va : Nat → Int32} {a b c : Int32} (L : FaAt h n mk li re pl su da va) (hn : n < 150) : mm_P g d MX3_add 0 [some (.ref 84), some (.int a), some (.int b), some (.int c)] [] h (fun o h' => o = .inl none ∧ FaAt h' (n + 1) mk (upd li n a) (upd re n b) (upd pl n c) su da va ∧ mm_fr 84 90 h h') := by
  obtain ⟨a84, a85, a86, a87, a88, a89, a90⟩ := L
  refine mm_aload_n dX3_add_0 rfl ?_
  refine mm_get lk_X3_30_X3 dX3_add_1 a84 rfl ?_
  refine mm_aload_n dX3_add_4 rfl ?_
  refine mm_get lk_X3_34_X3 dX3_add_5 a84 rfl ?_
  refine mm_icmp_lt 12 dX3_add_8 (by decide) (fun c1 => ?_) (fun c1 => ?_)
  · have c1 : n < 150 := (nI_ltI (a := n) (b := 150) (by omega) (by omega)).mp c1
    refine mm_aload_n dX3_add_12 rfl ?_
    refine mm_get lk_X3_9_X3 dX3_add_13 a84 rfl ?_
    refine mm_aload_n dX3_add_16 rfl ?_
    refine mm_get lk_X3_30_X3 dX3_add_17 a84 rfl ?_
    refine mm_iload_n dX3_add_20 rfl ?_
    refine mm_iastN (i := n) dX3_add_21 a85 (by omega) (by decide) (fun h2 eh2 => ?_)
    have a84 := mm_at.ne1 a84 eh2 (by decide)
    have a85 := mm_at.up1 a85 eh2
    have a86 := mm_at.ne1 a86 eh2 (by decide)
    have a87 := mm_at.ne1 a87 eh2 (by decide)
    have a88 := mm_at.ne1 a88 eh2 (by decide)
    have a89 := mm_at.ne1 a89 eh2 (by decide)
    have a90 := mm_at.ne1 a90 eh2 (by decide)
    refine mm_aload_n dX3_add_22 rfl ?_
    refine mm_get lk_X3_15_X3 dX3_add_23 a84 rfl ?_
    refine mm_aload_n dX3_add_26 rfl ?_
    refine mm_get lk_X3_30_X3 dX3_add_27 a84 rfl ?_
    refine mm_iload_n dX3_add_30 rfl ?_
    refine mm_iastN (i := n) dX3_add_31 a86 (by omega) (by decide) (fun h3 eh3 => ?_)
    have a84 := mm_at.ne1 a84 eh3 (by decide)
    have a85 := mm_at.ne1 a85 eh3 (by decide)
    have a86 := mm_at.up1 a86 eh3
    have a87 := mm_at.ne1 a87 eh3 (by decide)
    have a88 := mm_at.ne1 a88 eh3 (by decide)
    have a89 := mm_at.ne1 a89 eh3 (by decide)
    have a90 := mm_at.ne1 a90 eh3 (by decide)
    refine mm_aload_n dX3_add_32 rfl ?_
    refine mm_get lk_X3_18_X3 dX3_add_33 a84 rfl ?_
    refine mm_aload_n dX3_add_36 rfl ?_
    refine mm_get lk_X3_30_X3 dX3_add_37 a84 rfl ?_
    refine mm_iload_n dX3_add_40 rfl ?_
    refine mm_iastN (i := n) dX3_add_41 a87 (by omega) (by decide) (fun h4 eh4 => ?_)
    have a84 := mm_at.ne1 a84 eh4 (by decide)
    have a85 := mm_at.ne1 a85 eh4 (by decide)
    have a86 := mm_at.ne1 a86 eh4 (by decide)
    have a87 := mm_at.up1 a87 eh4
    have a88 := mm_at.ne1 a88 eh4 (by decide)
    have a89 := mm_at.ne1 a89 eh4 (by decide)
    have a90 := mm_at.ne1 a90 eh4 (by decide)
    refine mm_aload_n dX3_add_42 rfl ?_
    refine mm_dup rfl dX3_add_43 ?_
    refine mm_get lk_X3_30_X3 dX3_add_44 a84 rfl ?_
    refine mm_iconst (v := 1) dX3_add_47 (by decide +kernel) ?_
    refine mm_iadd dX3_add_48 ?_
    rw [nI_1]
    refine mm_put1 (fs' := [.int 150, .int (nI (n + 1)), .int (nI mk), .ref 85, .ref 86, .ref 87, .ref 88, .ref 89, .ref 90]) lk_X3_30_X3 rfl dX3_add_49 a84 (fun _ e => by rw [e]; rfl) (fun _ e => by rw [e]; rfl) (Nat.le_of_ble_eq_true rfl) rfl (fun h5 eh5 => ?_)
    have a84 := mm_at.up1 a84 eh5
    have a85 := mm_at.ne1 a85 eh5 (by decide)
    have a86 := mm_at.ne1 a86 eh5 (by decide)
    have a87 := mm_at.ne1 a87 eh5 (by decide)
    have a88 := mm_at.ne1 a88 eh5 (by decide)
    have a89 := mm_at.ne1 a89 eh5 (by decide)
    have a90 := mm_at.ne1 a90 eh5 (by decide)
    refine mm_vret rfl dX3_add_52 ?_
    exact ⟨rfl, ⟨a84, a85, a86, a87, a88, a89, a90⟩, (mm_fr.up (mm_fr.up (mm_fr.up (mm_fr.up mm_fr.rfl eh2 (by decide) (by decide)) eh3 (by decide) (by decide)) eh4 (by decide) (by decide)) eh5 (by decide) (by decide))⟩
  · have c1 : ¬ n < 150 := fun z => c1 ((nI_ltI (a := n) (b := 150) (by omega) (by omega)).mpr z)
    exact absurd (show n < 150 by omega) c1
theorem m_Fa_set {g : mm_G} {d n mk : Nat} {h : mm_Hp} {li : Nat → Int32} {re : Nat → Int32} {pl : Nat → Int32} {su : Nat → Int32} {da : Nat → Int32} {va : Nat → Int32} {a b c : Int32} (L : FaAt h n mk li re pl su da va) (hn : n ≤ 150) (h0 : 0 < n) : mm_P g d MX3_setNumbers 0 [some (.ref 84), some (.int a), some (.int b), some (.int c)] [] h (fun o h' => o = .inl none ∧ FaAt h' n mk li re pl (upd su (n - 1) a) (upd da (n - 1) b) (upd va (n - 1) c) ∧ mm_fr 84 90 h h') := by
  obtain ⟨a84, a85, a86, a87, a88, a89, a90⟩ := L
  refine mm_aload_n dX3_setNumbers_0 rfl ?_
  refine mm_get lk_X3_30_X3 dX3_setNumbers_1 a84 rfl ?_
  refine mm_if_le 43 dX3_setNumbers_4 (by decide) (fun c1 => ?_) (fun c1 => ?_)
  · have c1 : n ≤ 0 := (nI_leI (a := n) (b := 0) (by omega) (by omega)).mp c1
    exact absurd h0 (by omega)
  · have c1 : ¬ n ≤ 0 := fun z => c1 ((nI_leI (a := n) (b := 0) (by omega) (by omega)).mpr z)
    refine mm_aload_n dX3_setNumbers_7 rfl ?_
    refine mm_get lk_X3_21_X3 dX3_setNumbers_8 a84 rfl ?_
    refine mm_aload_n dX3_setNumbers_11 rfl ?_
    refine mm_get lk_X3_30_X3 dX3_setNumbers_12 a84 rfl ?_
    refine mm_iconst (v := 1) dX3_setNumbers_15 (by decide +kernel) ?_
    refine mm_isub dX3_setNumbers_16 ?_
    rw [show nI n - 1 = nI (n - 1) from pk_sub (a := n) (b := 1) (by omega)]
    refine mm_iload_n dX3_setNumbers_17 rfl ?_
    refine mm_iastN (i := (n - 1)) dX3_setNumbers_18 a88 (by omega) (by decide) (fun h2 eh2 => ?_)
    have a84 := mm_at.ne1 a84 eh2 (by decide)
    have a85 := mm_at.ne1 a85 eh2 (by decide)
    have a86 := mm_at.ne1 a86 eh2 (by decide)
    have a87 := mm_at.ne1 a87 eh2 (by decide)
    have a88 := mm_at.up1 a88 eh2
    have a89 := mm_at.ne1 a89 eh2 (by decide)
    have a90 := mm_at.ne1 a90 eh2 (by decide)
    refine mm_aload_n dX3_setNumbers_19 rfl ?_
    refine mm_get lk_X3_24_X3 dX3_setNumbers_20 a84 rfl ?_
    refine mm_aload_n dX3_setNumbers_23 rfl ?_
    refine mm_get lk_X3_30_X3 dX3_setNumbers_24 a84 rfl ?_
    refine mm_iconst (v := 1) dX3_setNumbers_27 (by decide +kernel) ?_
    refine mm_isub dX3_setNumbers_28 ?_
    rw [show nI n - 1 = nI (n - 1) from pk_sub (a := n) (b := 1) (by omega)]
    refine mm_iload_n dX3_setNumbers_29 rfl ?_
    refine mm_iastN (i := (n - 1)) dX3_setNumbers_30 a89 (by omega) (by decide) (fun h3 eh3 => ?_)
    have a84 := mm_at.ne1 a84 eh3 (by decide)
    have a85 := mm_at.ne1 a85 eh3 (by decide)
    have a86 := mm_at.ne1 a86 eh3 (by decide)
    have a87 := mm_at.ne1 a87 eh3 (by decide)
    have a88 := mm_at.ne1 a88 eh3 (by decide)
    have a89 := mm_at.up1 a89 eh3
    have a90 := mm_at.ne1 a90 eh3 (by decide)
    refine mm_aload_n dX3_setNumbers_31 rfl ?_
    refine mm_get lk_X3_27_X3 dX3_setNumbers_32 a84 rfl ?_
    refine mm_aload_n dX3_setNumbers_35 rfl ?_
    refine mm_get lk_X3_30_X3 dX3_setNumbers_36 a84 rfl ?_
    refine mm_iconst (v := 1) dX3_setNumbers_39 (by decide +kernel) ?_
    refine mm_isub dX3_setNumbers_40 ?_
    rw [show nI n - 1 = nI (n - 1) from pk_sub (a := n) (b := 1) (by omega)]
    refine mm_iload_n dX3_setNumbers_41 rfl ?_
    refine mm_iastN (i := (n - 1)) dX3_setNumbers_42 a90 (by omega) (by decide) (fun h4 eh4 => ?_)
    have a84 := mm_at.ne1 a84 eh4 (by decide)
    have a85 := mm_at.ne1 a85 eh4 (by decide)
    have a86 := mm_at.ne1 a86 eh4 (by decide)
    have a87 := mm_at.ne1 a87 eh4 (by decide)
    have a88 := mm_at.ne1 a88 eh4 (by decide)
    have a89 := mm_at.ne1 a89 eh4 (by decide)
    have a90 := mm_at.up1 a90 eh4
    refine mm_vret rfl dX3_setNumbers_43 ?_
    exact ⟨rfl, ⟨a84, a85, a86, a87, a88, a89, a90⟩, (mm_fr.up (mm_fr.up (mm_fr.up mm_fr.rfl eh2 (by decide) (by decide)) eh3 (by decide) (by decide)) eh4 (by decide) (by decide))⟩
theorem m_Me_add {g : mm_G} {d n mk : Nat} {h : mm_Hp} {li : Nat → Int32} {ex : Nat → Int32} {a b : Int32} (L : MeAt h n mk li ex) (hn : n < 100) : mm_P g d MX5_add 0 [some (.ref 91), some (.int a), some (.int b)] [] h (fun o h' => o = .inl none ∧ MeAt h' (n + 1) mk (upd li n a) (upd ex n b) ∧ mm_fr 91 93 h h') := by
  obtain ⟨a91, a92, a93⟩ := L
  refine mm_aload_n dX5_add_0 rfl ?_
  refine mm_get lk_X5_18_X5 dX5_add_1 a91 rfl ?_
  refine mm_aload_n dX5_add_4 rfl ?_
  refine mm_get lk_X5_22_X5 dX5_add_5 a91 rfl ?_
  refine mm_icmp_lt 12 dX5_add_8 (by decide) (fun c1 => ?_) (fun c1 => ?_)
  · have c1 : n < 100 := (nI_ltI (a := n) (b := 100) (by omega) (by omega)).mp c1
    refine mm_aload_n dX5_add_12 rfl ?_
    refine mm_get lk_X5_9_X5 dX5_add_13 a91 rfl ?_
    refine mm_aload_n dX5_add_16 rfl ?_
    refine mm_get lk_X5_18_X5 dX5_add_17 a91 rfl ?_
    refine mm_iload_n dX5_add_20 rfl ?_
    refine mm_iastN (i := n) dX5_add_21 a92 (by omega) (by decide) (fun h2 eh2 => ?_)
    have a91 := mm_at.ne1 a91 eh2 (by decide)
    have a92 := mm_at.up1 a92 eh2
    have a93 := mm_at.ne1 a93 eh2 (by decide)
    refine mm_aload_n dX5_add_22 rfl ?_
    refine mm_get lk_X5_15_X5 dX5_add_23 a91 rfl ?_
    refine mm_aload_n dX5_add_26 rfl ?_
    refine mm_get lk_X5_18_X5 dX5_add_27 a91 rfl ?_
    refine mm_iload_n dX5_add_30 rfl ?_
    refine mm_iastN (i := n) dX5_add_31 a93 (by omega) (by decide) (fun h3 eh3 => ?_)
    have a91 := mm_at.ne1 a91 eh3 (by decide)
    have a92 := mm_at.ne1 a92 eh3 (by decide)
    have a93 := mm_at.up1 a93 eh3
    refine mm_aload_n dX5_add_32 rfl ?_
    refine mm_dup rfl dX5_add_33 ?_
    refine mm_get lk_X5_18_X5 dX5_add_34 a91 rfl ?_
    refine mm_iconst (v := 1) dX5_add_37 (by decide +kernel) ?_
    refine mm_iadd dX5_add_38 ?_
    rw [nI_1]
    refine mm_put1 (fs' := [.int 100, .int (nI (n + 1)), .int (nI mk), .ref 92, .ref 93]) lk_X5_18_X5 rfl dX5_add_39 a91 (fun _ e => by rw [e]; rfl) (fun _ e => by rw [e]; rfl) (Nat.le_of_ble_eq_true rfl) rfl (fun h4 eh4 => ?_)
    have a91 := mm_at.up1 a91 eh4
    have a92 := mm_at.ne1 a92 eh4 (by decide)
    have a93 := mm_at.ne1 a93 eh4 (by decide)
    refine mm_vret rfl dX5_add_42 ?_
    exact ⟨rfl, ⟨a91, a92, a93⟩, (mm_fr.up (mm_fr.up (mm_fr.up mm_fr.rfl eh2 (by decide) (by decide)) eh3 (by decide) (by decide)) eh4 (by decide) (by decide))⟩
  · have c1 : ¬ n < 100 := fun z => c1 ((nI_ltI (a := n) (b := 100) (by omega) (by omega)).mpr z)
    exact absurd (show n < 100 by omega) c1
theorem m_Na_add {g : mm_G} {d n mk : Nat} {h : mm_Hp} {li : Nat → Int32} {ex : Nat → Int32} {na : Nat → Int64} {a b : Int32} {c : Int64} (L : NaAt h n mk li ex na) (hn : n < 200) : mm_P g d MX6_add 0 [some (.ref 94), some (.int a), some (.int b), some (.long c), none] [] h (fun o h' => o = .inl none ∧ NaAt h' (n + 1) mk (upd li n a) (upd ex n b) (vp_updL na n c) ∧ mm_fr 94 97 h h') := by
  obtain ⟨a94, a95, a96, a97⟩ := L
  refine mm_aload_n dX6_add_0 rfl ?_
  refine mm_get lk_X6_22_X6 dX6_add_1 a94 rfl ?_
  refine mm_aload_n dX6_add_4 rfl ?_
  refine mm_get lk_X6_26_X6 dX6_add_5 a94 rfl ?_
  refine mm_icmp_lt 12 dX6_add_8 (by decide) (fun c1 => ?_) (fun c1 => ?_)
  · have c1 : n < 200 := (nI_ltI (a := n) (b := 200) (by omega) (by omega)).mp c1
    refine mm_aload_n dX6_add_12 rfl ?_
    refine mm_get lk_X6_9_X6 dX6_add_13 a94 rfl ?_
    refine mm_aload_n dX6_add_16 rfl ?_
    refine mm_get lk_X6_22_X6 dX6_add_17 a94 rfl ?_
    refine mm_iload_n dX6_add_20 rfl ?_
    refine mm_iastN (i := n) dX6_add_21 a95 (by omega) (by decide) (fun h2 eh2 => ?_)
    have a94 := mm_at.ne1 a94 eh2 (by decide)
    have a95 := mm_at.up1 a95 eh2
    have a96 := mm_at.ne1 a96 eh2 (by decide)
    have a97 := mm_at.ne1 a97 eh2 (by decide)
    refine mm_aload_n dX6_add_22 rfl ?_
    refine mm_get lk_X6_15_X6 dX6_add_23 a94 rfl ?_
    refine mm_aload_n dX6_add_26 rfl ?_
    refine mm_get lk_X6_22_X6 dX6_add_27 a94 rfl ?_
    refine mm_iload_n dX6_add_30 rfl ?_
    refine mm_iastN (i := n) dX6_add_31 a96 (by omega) (by decide) (fun h3 eh3 => ?_)
    have a94 := mm_at.ne1 a94 eh3 (by decide)
    have a95 := mm_at.ne1 a95 eh3 (by decide)
    have a96 := mm_at.up1 a96 eh3
    have a97 := mm_at.ne1 a97 eh3 (by decide)
    refine mm_aload_n dX6_add_32 rfl ?_
    refine mm_get lk_X6_18_X6 dX6_add_33 a94 rfl ?_
    refine mm_aload_n dX6_add_36 rfl ?_
    refine mm_get lk_X6_22_X6 dX6_add_37 a94 rfl ?_
    refine mm_lload_n dX6_add_40 rfl ?_
    refine mm_lastN (i := n) dX6_add_41 a97 (by omega) (by decide) (fun h4 eh4 => ?_)
    have a94 := mm_at.ne1 a94 eh4 (by decide)
    have a95 := mm_at.ne1 a95 eh4 (by decide)
    have a96 := mm_at.ne1 a96 eh4 (by decide)
    have a97 := mm_at.up1 a97 eh4
    refine mm_aload_n dX6_add_42 rfl ?_
    refine mm_dup rfl dX6_add_43 ?_
    refine mm_get lk_X6_22_X6 dX6_add_44 a94 rfl ?_
    refine mm_iconst (v := 1) dX6_add_47 (by decide +kernel) ?_
    refine mm_iadd dX6_add_48 ?_
    rw [nI_1]
    refine mm_put1 (fs' := [.int 200, .int (nI (n + 1)), .int (nI mk), .ref 95, .ref 96, .ref 97]) lk_X6_22_X6 rfl dX6_add_49 a94 (fun _ e => by rw [e]; rfl) (fun _ e => by rw [e]; rfl) (Nat.le_of_ble_eq_true rfl) rfl (fun h5 eh5 => ?_)
    have a94 := mm_at.up1 a94 eh5
    have a95 := mm_at.ne1 a95 eh5 (by decide)
    have a96 := mm_at.ne1 a96 eh5 (by decide)
    have a97 := mm_at.ne1 a97 eh5 (by decide)
    refine mm_vret rfl dX6_add_52 ?_
    exact ⟨rfl, ⟨a94, a95, a96, a97⟩, (mm_fr.up (mm_fr.up (mm_fr.up (mm_fr.up mm_fr.rfl eh2 (by decide) (by decide)) eh3 (by decide) (by decide)) eh4 (by decide) (by decide)) eh5 (by decide) (by decide))⟩
  · have c1 : ¬ n < 200 := fun z => c1 ((nI_ltI (a := n) (b := 200) (by omega) (by omega)).mpr z)
    exact absurd (show n < 200 by omega) c1
theorem m_Or_add {g : mm_G} {d n mk : Nat} {h : mm_Hp} {fr : Nat → Int32} {to : Nat → Int32} {lv : Nat → Int32} {gi : Nat → Int32} {lf : Nat → Int32} {a b c t : Int32} (L : OrAt h n mk fr to lv gi lf) (hn : n < 60) : mm_P g d MX7_add 0 [some (.ref 98), some (.int a), some (.int b), some (.int c), some (.int t)] [] h (fun o h' => o = .inl (some (.int (nI n))) ∧ OrAt h' (n + 1) mk (upd fr n a) (upd to n b) (upd lv n c) (upd gi n t) (upd lf n (-1)) ∧ mm_fr 98 103 h h') := by
  obtain ⟨a98, a99, a100, a101, a102, a103⟩ := L
  refine mm_aload_n dX7_add_0 rfl ?_
  refine mm_get lk_X7_27_X7 dX7_add_1 a98 rfl ?_
  refine mm_aload_n dX7_add_4 rfl ?_
  refine mm_get lk_X7_31_X7 dX7_add_5 a98 rfl ?_
  refine mm_icmp_lt 13 dX7_add_8 (by decide) (fun c1 => ?_) (fun c1 => ?_)
  · have c1 : n < 60 := (nI_ltI (a := n) (b := 60) (by omega) (by omega)).mp c1
    refine mm_aload_n dX7_add_13 rfl ?_
    refine mm_get lk_X7_9_X7 dX7_add_14 a98 rfl ?_
    refine mm_aload_n dX7_add_17 rfl ?_
    refine mm_get lk_X7_27_X7 dX7_add_18 a98 rfl ?_
    refine mm_iload_n dX7_add_21 rfl ?_
    refine mm_iastN (i := n) dX7_add_22 a99 (by omega) (by decide) (fun h2 eh2 => ?_)
    have a98 := mm_at.ne1 a98 eh2 (by decide)
    have a99 := mm_at.up1 a99 eh2
    have a100 := mm_at.ne1 a100 eh2 (by decide)
    have a101 := mm_at.ne1 a101 eh2 (by decide)
    have a102 := mm_at.ne1 a102 eh2 (by decide)
    have a103 := mm_at.ne1 a103 eh2 (by decide)
    refine mm_aload_n dX7_add_23 rfl ?_
    refine mm_get lk_X7_15_X7 dX7_add_24 a98 rfl ?_
    refine mm_aload_n dX7_add_27 rfl ?_
    refine mm_get lk_X7_27_X7 dX7_add_28 a98 rfl ?_
    refine mm_iload_n dX7_add_31 rfl ?_
    refine mm_iastN (i := n) dX7_add_32 a100 (by omega) (by decide) (fun h3 eh3 => ?_)
    have a98 := mm_at.ne1 a98 eh3 (by decide)
    have a99 := mm_at.ne1 a99 eh3 (by decide)
    have a100 := mm_at.up1 a100 eh3
    have a101 := mm_at.ne1 a101 eh3 (by decide)
    have a102 := mm_at.ne1 a102 eh3 (by decide)
    have a103 := mm_at.ne1 a103 eh3 (by decide)
    refine mm_aload_n dX7_add_33 rfl ?_
    refine mm_get lk_X7_18_X7 dX7_add_34 a98 rfl ?_
    refine mm_aload_n dX7_add_37 rfl ?_
    refine mm_get lk_X7_27_X7 dX7_add_38 a98 rfl ?_
    refine mm_iload_n dX7_add_41 rfl ?_
    refine mm_iastN (i := n) dX7_add_42 a101 (by omega) (by decide) (fun h4 eh4 => ?_)
    have a98 := mm_at.ne1 a98 eh4 (by decide)
    have a99 := mm_at.ne1 a99 eh4 (by decide)
    have a100 := mm_at.ne1 a100 eh4 (by decide)
    have a101 := mm_at.up1 a101 eh4
    have a102 := mm_at.ne1 a102 eh4 (by decide)
    have a103 := mm_at.ne1 a103 eh4 (by decide)
    refine mm_aload_n dX7_add_43 rfl ?_
    refine mm_get lk_X7_21_X7 dX7_add_44 a98 rfl ?_
    refine mm_aload_n dX7_add_47 rfl ?_
    refine mm_get lk_X7_27_X7 dX7_add_48 a98 rfl ?_
    refine mm_iload dX7_add_51 rfl ?_
    refine mm_iastN (i := n) dX7_add_53 a102 (by omega) (by decide) (fun h5 eh5 => ?_)
    have a98 := mm_at.ne1 a98 eh5 (by decide)
    have a99 := mm_at.ne1 a99 eh5 (by decide)
    have a100 := mm_at.ne1 a100 eh5 (by decide)
    have a101 := mm_at.ne1 a101 eh5 (by decide)
    have a102 := mm_at.up1 a102 eh5
    have a103 := mm_at.ne1 a103 eh5 (by decide)
    refine mm_aload_n dX7_add_54 rfl ?_
    refine mm_get lk_X7_24_X7 dX7_add_55 a98 rfl ?_
    refine mm_aload_n dX7_add_58 rfl ?_
    refine mm_get lk_X7_27_X7 dX7_add_59 a98 rfl ?_
    refine mm_iconst (v := (-1)) dX7_add_62 (by decide +kernel) ?_
    refine mm_iastN (i := n) dX7_add_63 a103 (by omega) (by decide) (fun h6 eh6 => ?_)
    have a98 := mm_at.ne1 a98 eh6 (by decide)
    have a99 := mm_at.ne1 a99 eh6 (by decide)
    have a100 := mm_at.ne1 a100 eh6 (by decide)
    have a101 := mm_at.ne1 a101 eh6 (by decide)
    have a102 := mm_at.ne1 a102 eh6 (by decide)
    have a103 := mm_at.up1 a103 eh6
    refine mm_aload_n dX7_add_64 rfl ?_
    refine mm_dup rfl dX7_add_65 ?_
    refine mm_get lk_X7_27_X7 dX7_add_66 a98 rfl ?_
    refine mm_iconst (v := 1) dX7_add_69 (by decide +kernel) ?_
    refine mm_iadd dX7_add_70 ?_
    rw [nI_1]
    refine mm_put1 (fs' := [.int 60, .int (nI (n + 1)), .int (nI mk), .ref 99, .ref 100, .ref 101, .ref 102, .ref 103]) lk_X7_27_X7 rfl dX7_add_71 a98 (fun _ e => by rw [e]; rfl) (fun _ e => by rw [e]; rfl) (Nat.le_of_ble_eq_true rfl) rfl (fun h7 eh7 => ?_)
    have a98 := mm_at.up1 a98 eh7
    have a99 := mm_at.ne1 a99 eh7 (by decide)
    have a100 := mm_at.ne1 a100 eh7 (by decide)
    have a101 := mm_at.ne1 a101 eh7 (by decide)
    have a102 := mm_at.ne1 a102 eh7 (by decide)
    have a103 := mm_at.ne1 a103 eh7 (by decide)
    refine mm_aload_n dX7_add_74 rfl ?_
    refine mm_get lk_X7_27_X7 dX7_add_75 a98 rfl ?_
    refine mm_iconst (v := 1) dX7_add_78 (by decide +kernel) ?_
    refine mm_isub dX7_add_79 ?_
    rw [show nI (n + 1) - 1 = nI ((n + 1) - 1) from pk_sub (a := (n + 1)) (b := 1) (by omega)]
    refine mm_iret rfl rfl dX7_add_80 ?_
    exact ⟨by rw [Nat.add_sub_cancel], ⟨a98, a99, a100, a101, a102, a103⟩, (mm_fr.up (mm_fr.up (mm_fr.up (mm_fr.up (mm_fr.up (mm_fr.up mm_fr.rfl eh2 (by decide) (by decide)) eh3 (by decide) (by decide)) eh4 (by decide) (by decide)) eh5 (by decide) (by decide)) eh6 (by decide) (by decide)) eh7 (by decide) (by decide))⟩
  · have c1 : ¬ n < 60 := fun z => c1 ((nI_ltI (a := n) (b := 60) (by omega) (by omega)).mpr z)
    exact absurd (show n < 60 by omega) c1
theorem m_Di_add {g : mm_G} {d n mk : Nat} {h : mm_Hp} {su : Nat → Int32} {da : Nat → Int32} {va : Nat → Int32} {ct : Nat → Int32} {fa : Nat → Int32} {a b c : Int32} (L : DiAt h n mk su da va ct fa) (hn : n < 40) : mm_P g d MX2_add 0 [some (.ref 104), some (.int a), some (.int b), some (.int c)] [] h (fun o h' => o = .inl (some (.int (nI n))) ∧ DiAt h' (n + 1) mk (upd su n a) (upd da n b) (upd va n c) (upd ct n 0) fa ∧ mm_fr 104 109 h h') := by
  obtain ⟨a104, a105, a106, a107, a108, a109⟩ := L
  refine mm_aload_n dX2_add_0 rfl ?_
  refine mm_get lk_X2_27_X2 dX2_add_1 a104 rfl ?_
  refine mm_aload_n dX2_add_4 rfl ?_
  refine mm_get lk_X2_31_X2 dX2_add_5 a104 rfl ?_
  refine mm_icmp_lt 13 dX2_add_8 (by decide) (fun c1 => ?_) (fun c1 => ?_)
  · have c1 : n < 40 := (nI_ltI (a := n) (b := 40) (by omega) (by omega)).mp c1
    refine mm_aload_n dX2_add_13 rfl ?_
    refine mm_get lk_X2_9_X2 dX2_add_14 a104 rfl ?_
    refine mm_aload_n dX2_add_17 rfl ?_
    refine mm_get lk_X2_27_X2 dX2_add_18 a104 rfl ?_
    refine mm_iload_n dX2_add_21 rfl ?_
    refine mm_iastN (i := n) dX2_add_22 a105 (by omega) (by decide) (fun h2 eh2 => ?_)
    have a104 := mm_at.ne1 a104 eh2 (by decide)
    have a105 := mm_at.up1 a105 eh2
    have a106 := mm_at.ne1 a106 eh2 (by decide)
    have a107 := mm_at.ne1 a107 eh2 (by decide)
    have a108 := mm_at.ne1 a108 eh2 (by decide)
    have a109 := mm_at.ne1 a109 eh2 (by decide)
    refine mm_aload_n dX2_add_23 rfl ?_
    refine mm_get lk_X2_15_X2 dX2_add_24 a104 rfl ?_
    refine mm_aload_n dX2_add_27 rfl ?_
    refine mm_get lk_X2_27_X2 dX2_add_28 a104 rfl ?_
    refine mm_iload_n dX2_add_31 rfl ?_
    refine mm_iastN (i := n) dX2_add_32 a106 (by omega) (by decide) (fun h3 eh3 => ?_)
    have a104 := mm_at.ne1 a104 eh3 (by decide)
    have a105 := mm_at.ne1 a105 eh3 (by decide)
    have a106 := mm_at.up1 a106 eh3
    have a107 := mm_at.ne1 a107 eh3 (by decide)
    have a108 := mm_at.ne1 a108 eh3 (by decide)
    have a109 := mm_at.ne1 a109 eh3 (by decide)
    refine mm_aload_n dX2_add_33 rfl ?_
    refine mm_get lk_X2_18_X2 dX2_add_34 a104 rfl ?_
    refine mm_aload_n dX2_add_37 rfl ?_
    refine mm_get lk_X2_27_X2 dX2_add_38 a104 rfl ?_
    refine mm_iload_n dX2_add_41 rfl ?_
    refine mm_iastN (i := n) dX2_add_42 a107 (by omega) (by decide) (fun h4 eh4 => ?_)
    have a104 := mm_at.ne1 a104 eh4 (by decide)
    have a105 := mm_at.ne1 a105 eh4 (by decide)
    have a106 := mm_at.ne1 a106 eh4 (by decide)
    have a107 := mm_at.up1 a107 eh4
    have a108 := mm_at.ne1 a108 eh4 (by decide)
    have a109 := mm_at.ne1 a109 eh4 (by decide)
    refine mm_aload_n dX2_add_43 rfl ?_
    refine mm_get lk_X2_21_X2 dX2_add_44 a104 rfl ?_
    refine mm_aload_n dX2_add_47 rfl ?_
    refine mm_get lk_X2_27_X2 dX2_add_48 a104 rfl ?_
    refine mm_iconst (v := 0) dX2_add_51 (by decide +kernel) ?_
    refine mm_iastN (i := n) dX2_add_52 a108 (by omega) (by decide) (fun h5 eh5 => ?_)
    have a104 := mm_at.ne1 a104 eh5 (by decide)
    have a105 := mm_at.ne1 a105 eh5 (by decide)
    have a106 := mm_at.ne1 a106 eh5 (by decide)
    have a107 := mm_at.ne1 a107 eh5 (by decide)
    have a108 := mm_at.up1 a108 eh5
    have a109 := mm_at.ne1 a109 eh5 (by decide)
    refine mm_aload_n dX2_add_53 rfl ?_
    refine mm_dup rfl dX2_add_54 ?_
    refine mm_get lk_X2_27_X2 dX2_add_55 a104 rfl ?_
    refine mm_iconst (v := 1) dX2_add_58 (by decide +kernel) ?_
    refine mm_iadd dX2_add_59 ?_
    rw [nI_1]
    refine mm_put1 (fs' := [.int 40, .int (nI (n + 1)), .int (nI mk), .ref 105, .ref 106, .ref 107, .ref 108, .ref 109]) lk_X2_27_X2 rfl dX2_add_60 a104 (fun _ e => by rw [e]; rfl) (fun _ e => by rw [e]; rfl) (Nat.le_of_ble_eq_true rfl) rfl (fun h6 eh6 => ?_)
    have a104 := mm_at.up1 a104 eh6
    have a105 := mm_at.ne1 a105 eh6 (by decide)
    have a106 := mm_at.ne1 a106 eh6 (by decide)
    have a107 := mm_at.ne1 a107 eh6 (by decide)
    have a108 := mm_at.ne1 a108 eh6 (by decide)
    have a109 := mm_at.ne1 a109 eh6 (by decide)
    refine mm_aload_n dX2_add_63 rfl ?_
    refine mm_get lk_X2_27_X2 dX2_add_64 a104 rfl ?_
    refine mm_iconst (v := 1) dX2_add_67 (by decide +kernel) ?_
    refine mm_isub dX2_add_68 ?_
    rw [show nI (n + 1) - 1 = nI ((n + 1) - 1) from pk_sub (a := (n + 1)) (b := 1) (by omega)]
    refine mm_iret rfl rfl dX2_add_69 ?_
    exact ⟨by rw [Nat.add_sub_cancel], ⟨a104, a105, a106, a107, a108, a109⟩, (mm_fr.up (mm_fr.up (mm_fr.up (mm_fr.up (mm_fr.up mm_fr.rfl eh2 (by decide) (by decide)) eh3 (by decide) (by decide)) eh4 (by decide) (by decide)) eh5 (by decide) (by decide)) eh6 (by decide) (by decide))⟩
  · have c1 : ¬ n < 40 := fun z => c1 ((nI_ltI (a := n) (b := 40) (by omega) (by omega)).mpr z)
    exact absurd (show n < 40 by omega) c1
theorem m_Or_lift {g : mm_G} {d n mk : Nat} {h : mm_Hp} {fr : Nat → Int32} {to : Nat → Int32} {lv : Nat → Int32} {gi : Nat → Int32} {lf : Nat → Int32} {i : Nat} {t : Int32} (L : OrAt h n mk fr to lv gi lf) (hi : i < 60) : mm_P g d MX7_liftOn 0 [some (.ref 98), some (.int (nI i)), some (.int t)] [] h (fun o h' => o = .inl (some (.int (if lf i = -1 then 1 else 0))) ∧ OrAt h' n mk fr to lv gi (if lf i = -1 then upd lf i t else lf) ∧ mm_fr 98 103 h h') := by
  obtain ⟨a98, a99, a100, a101, a102, a103⟩ := L
  refine mm_aload_n dX7_liftOn_0 rfl ?_
  refine mm_get lk_X7_24_X7 dX7_liftOn_1 a98 rfl ?_
  refine mm_iload_n dX7_liftOn_4 rfl ?_
  refine mm_ialdN (i := i) dX7_liftOn_5 a103 (by omega) (by decide) ?_
  refine mm_iconst (v := (-1)) dX7_liftOn_6 (by decide +kernel) ?_
  refine mm_icmp_eq 12 dX7_liftOn_7 (by decide) (fun c1 => ?_) (fun c1 => ?_)
  · refine mm_aload_n dX7_liftOn_12 rfl ?_
    refine mm_get lk_X7_24_X7 dX7_liftOn_13 a98 rfl ?_
    refine mm_iload_n dX7_liftOn_16 rfl ?_
    refine mm_iload_n dX7_liftOn_17 rfl ?_
    refine mm_iastN (i := i) dX7_liftOn_18 a103 (by omega) (by decide) (fun h2 eh2 => ?_)
    have a98 := mm_at.ne1 a98 eh2 (by decide)
    have a99 := mm_at.ne1 a99 eh2 (by decide)
    have a100 := mm_at.ne1 a100 eh2 (by decide)
    have a101 := mm_at.ne1 a101 eh2 (by decide)
    have a102 := mm_at.ne1 a102 eh2 (by decide)
    have a103 := mm_at.up1 a103 eh2
    refine mm_iconst (v := 1) dX7_liftOn_19 (by decide +kernel) ?_
    refine mm_iret rfl rfl dX7_liftOn_20 ?_
    exact ⟨by rw [if_pos c1], by rw [if_pos c1]; exact ⟨a98, a99, a100, a101, a102, a103⟩, (mm_fr.up mm_fr.rfl eh2 (by decide) (by decide))⟩
  · refine mm_iconst (v := 0) dX7_liftOn_10 (by decide +kernel) ?_
    refine mm_iret rfl rfl dX7_liftOn_11 ?_
    exact ⟨by rw [if_neg c1], by rw [if_neg c1]; exact ⟨a98, a99, a100, a101, a102, a103⟩, mm_fr.rfl⟩
def hoOf (fr to gi lf : Nat → Int32) (i : Nat) (l k : Int32) : Bool := !decide (l < fr i) && !decide (to i < l) && !decide (k < gi i) && (decide (lf i = -1) || !decide (lf i ≤ k))
theorem m_Or_holds {g : mm_G} {d n mk : Nat} {h : mm_Hp} {fr : Nat → Int32} {to : Nat → Int32} {lv : Nat → Int32} {gi : Nat → Int32} {lf : Nat → Int32} {i : Nat} {l k : Int32} (L : OrAt h n mk fr to lv gi lf) (hi : i < 60) : mm_P g d MX7_holds 0 [some (.ref 98), some (.int (nI i)), some (.int l), some (.int k)] [] h (mm_pureI (if hoOf fr to gi lf i l k = true then 1 else 0) h) := by
  obtain ⟨a98, a99, a100, a101, a102, a103⟩ := L
  refine mm_aload_n dX7_holds_0 rfl ?_
  refine mm_get lk_X7_9_X7 dX7_holds_1 a98 rfl ?_
  refine mm_iload_n dX7_holds_4 rfl ?_
  refine mm_ialdN (i := i) dX7_holds_5 a99 (by omega) (by decide) ?_
  refine mm_iload_n dX7_holds_6 rfl ?_
  refine mm_icmp_gt 54 dX7_holds_7 (by decide) (fun c1 => ?_) (fun c1 => ?_)
  · refine mm_iconst (v := 0) dX7_holds_54 (by decide +kernel) ?_
    refine mm_iret rfl rfl dX7_holds_55 ?_
    exact ⟨by simp [hoOf, c1], rfl⟩
  · refine mm_iload_n dX7_holds_10 rfl ?_
    refine mm_aload_n dX7_holds_11 rfl ?_
    refine mm_get lk_X7_15_X7 dX7_holds_12 a98 rfl ?_
    refine mm_iload_n dX7_holds_15 rfl ?_
    refine mm_ialdN (i := i) dX7_holds_16 a100 (by omega) (by decide) ?_
    refine mm_icmp_gt 54 dX7_holds_17 (by decide) (fun c2 => ?_) (fun c2 => ?_)
    · refine mm_iconst (v := 0) dX7_holds_54 (by decide +kernel) ?_
      refine mm_iret rfl rfl dX7_holds_55 ?_
      exact ⟨by simp [hoOf, c1, c2], rfl⟩
    · refine mm_aload_n dX7_holds_20 rfl ?_
      refine mm_get lk_X7_21_X7 dX7_holds_21 a98 rfl ?_
      refine mm_iload_n dX7_holds_24 rfl ?_
      refine mm_ialdN (i := i) dX7_holds_25 a102 (by omega) (by decide) ?_
      refine mm_iload_n dX7_holds_26 rfl ?_
      refine mm_icmp_gt 54 dX7_holds_27 (by decide) (fun c3 => ?_) (fun c3 => ?_)
      · refine mm_iconst (v := 0) dX7_holds_54 (by decide +kernel) ?_
        refine mm_iret rfl rfl dX7_holds_55 ?_
        exact ⟨by simp [hoOf, c1, c2, c3], rfl⟩
      · refine mm_aload_n dX7_holds_30 rfl ?_
        refine mm_get lk_X7_24_X7 dX7_holds_31 a98 rfl ?_
        refine mm_iload_n dX7_holds_34 rfl ?_
        refine mm_ialdN (i := i) dX7_holds_35 a103 (by omega) (by decide) ?_
        refine mm_iconst (v := (-1)) dX7_holds_36 (by decide +kernel) ?_
        refine mm_icmp_eq 50 dX7_holds_37 (by decide) (fun c4 => ?_) (fun c4 => ?_)
        · refine mm_iconst (v := 1) dX7_holds_50 (by decide +kernel) ?_
          refine mm_goto 55 dX7_holds_51 (by decide) ?_
          refine mm_iret rfl rfl dX7_holds_55 ?_
          exact ⟨by simp [hoOf, c1, c2, c3, c4], rfl⟩
        · refine mm_aload_n dX7_holds_40 rfl ?_
          refine mm_get lk_X7_24_X7 dX7_holds_41 a98 rfl ?_
          refine mm_iload_n dX7_holds_44 rfl ?_
          refine mm_ialdN (i := i) dX7_holds_45 a103 (by omega) (by decide) ?_
          refine mm_iload_n dX7_holds_46 rfl ?_
          refine mm_icmp_le 54 dX7_holds_47 (by decide) (fun c5 => ?_) (fun c5 => ?_)
          · refine mm_iconst (v := 0) dX7_holds_54 (by decide +kernel) ?_
            refine mm_iret rfl rfl dX7_holds_55 ?_
            exact ⟨by simp [hoOf, c1, c2, c3, c4, c5], rfl⟩
          · refine mm_iconst (v := 1) dX7_holds_50 (by decide +kernel) ?_
            refine mm_goto 55 dX7_holds_51 (by decide) ?_
            refine mm_iret rfl rfl dX7_holds_55 ?_
            exact ⟨by simp [hoOf, c1, c2, c3, c4, c5], rfl⟩
theorem m_Di_citedBy {g : mm_G} {d n mk : Nat} {h : mm_Hp} {su : Nat → Int32} {da : Nat → Int32} {va : Nat → Int32} {ct : Nat → Int32} {fa : Nat → Int32} {i j : Nat} (L : DiAt h n mk su da va ct fa) (hi : i < 40) (hj : j < 8) : mm_P g d MX2_citedBy 0 [some (.ref 104), some (.int (nI i)), some (.int (nI j))] [] h (mm_pureI (fa (i * 8 + j)) h) := by
  obtain ⟨a104, a105, a106, a107, a108, a109⟩ := L
  refine mm_aload_n dX2_citedBy_0 rfl ?_
  refine mm_get lk_X2_24_X2 dX2_citedBy_1 a104 rfl ?_
  refine mm_iload_n dX2_citedBy_4 rfl ?_
  refine mm_bipush (v := 8) dX2_citedBy_5 (by decide +kernel) ?_
  refine mm_imul dX2_citedBy_7 ?_
  rw [show nI i * (8 : Int32) = nI (i * 8) from pk_mul i 8]
  refine mm_iload_n dX2_citedBy_8 rfl ?_
  refine mm_iadd dX2_citedBy_9 ?_
  rw [nI_add]
  refine mm_ialdN (i := ((i * 8) + j)) dX2_citedBy_10 a109 (by omega) (by decide) ?_
  refine mm_iret rfl rfl dX2_citedBy_11 ?_
  exact ⟨rfl, rfl⟩
def skOf (fr to lv gi lf : Nat → Int32) (l k : Int32) : Nat → Nat → Int32
  | 0, _ => 0
  | m + 1, i => if lv i = 0 ∧ hoOf fr to gi lf i l k = true then 1 else skOf fr to lv gi lf l k m (i + 1)
def leOf (fr to lv gi lf : Nat → Int32) (l k : Int32) : Nat → Nat → Int32 → Int32
  | 0, _, v => v
  | m + 1, i, v => leOf fr to lv gi lf l k m (i + 1) (if ¬ lv i ≤ v ∧ hoOf fr to gi lf i l k = true then lv i else v)
theorem m_Or_strike_loop {g : mm_G} {d n mk : Nat} {h : mm_Hp} {fr : Nat → Int32} {to : Nat → Int32} {lv : Nat → Int32} {gi : Nat → Int32} {lf : Nat → Int32} {l k : Int32} (hd : 1 ≤ d) (L : OrAt h n mk fr to lv gi lf) (hn : n ≤ 60) : ∀ (m i : Nat) , i + m = n → mm_P g d MX7_strike 2 [some (.ref 98), some (.int l), some (.int k), some (.int (nI i))] [] h (mm_pureI (skOf fr to lv gi lf l k m i) h) := by
  obtain ⟨a98, a99, a100, a101, a102, a103⟩ := L
  intro m
  induction m with
  | zero =>
    intro i  hi
    refine mm_iload_n dX7_strike_2 rfl ?_
    refine mm_aload_n dX7_strike_3 rfl ?_
    refine mm_get lk_X7_27_X7 dX7_strike_4 a98 rfl ?_
    refine mm_icmp_ge 37 dX7_strike_7 (by decide) (fun c1 => ?_) (fun c1 => ?_)
    · have c1 : n ≤ i := (nI_leI (a := n) (b := i) (by omega) (by omega)).mp c1
      refine mm_iconst (v := 0) dX7_strike_37 (by decide +kernel) ?_
      refine mm_iret rfl rfl dX7_strike_38 ?_
      exact ⟨rfl, rfl⟩
    · have c1 : ¬ n ≤ i := fun z => c1 ((nI_leI (a := n) (b := i) (by omega) (by omega)).mpr z)
      exact absurd (show n ≤ i by omega) c1
  | succ m ih =>
    intro i  hi
    refine mm_iload_n dX7_strike_2 rfl ?_
    refine mm_aload_n dX7_strike_3 rfl ?_
    refine mm_get lk_X7_27_X7 dX7_strike_4 a98 rfl ?_
    refine mm_icmp_ge 37 dX7_strike_7 (by decide) (fun c1 => ?_) (fun c1 => ?_)
    · have c1 : n ≤ i := (nI_leI (a := n) (b := i) (by omega) (by omega)).mp c1
      exact absurd c1 (by omega)
    · have c1 : ¬ n ≤ i := fun z => c1 ((nI_leI (a := n) (b := i) (by omega) (by omega)).mpr z)
      refine mm_aload_n dX7_strike_10 rfl ?_
      refine mm_get lk_X7_18_X7 dX7_strike_11 a98 rfl ?_
      refine mm_iload_n dX7_strike_14 rfl ?_
      refine mm_ialdN (i := i) dX7_strike_15 a101 (by omega) (by decide) ?_
      refine mm_if_ne 31 dX7_strike_16 (by decide) (fun c2 => ?_) (fun c2 => ?_)
      · refine mm_iinc (v := nI (i + 1)) (ls' := [some (.ref 98), some (.int l), some (.int k), some (.int (nI (i + 1)))]) dX7_strike_31 rfl (nI_1 _) rfl ?_
        refine mm_goto 2 dX7_strike_34 (by decide) ?_
        rw [skOf, if_neg (fun z => c2 z.1)]
        exact ih (i + 1) (by omega)
      · have L0 : OrAt h n mk fr to lv gi lf := ⟨a98, a99, a100, a101, a102, a103⟩
        refine mm_aload_n dX7_strike_19 rfl ?_
        refine mm_iload_n dX7_strike_20 rfl ?_
        refine mm_iload_n dX7_strike_21 rfl ?_
        refine mm_iload_n dX7_strike_22 rfl ?_
        refine mm_callV (d' := d - 1) (as := [.int (nI i), .int l, .int k]) (st := []) (by omega) cm_X7_holds (mm_t3 6 rfl rfl) (mm_t3 8 rfl rfl) (mm_s1 1 rfl rfl) (T := TX7) (N := 8) rfl dX7_strike_23 a98 rfl (Nat.le_of_ble_eq_true rfl) (Nat.le_of_ble_eq_true rfl) rfl rfl (m_Or_holds L0 (by omega)) (fun o u3 q => mm_thenI q ?_)
        refine mm_if_eq 31 dX7_strike_26 (by decide) (fun c4 => ?_) (fun c4 => ?_)
        · refine mm_iinc (v := nI (i + 1)) (ls' := [some (.ref 98), some (.int l), some (.int k), some (.int (nI (i + 1)))]) dX7_strike_31 rfl (nI_1 _) rfl ?_
          refine mm_goto 2 dX7_strike_34 (by decide) ?_
          rw [skOf, if_neg (fun z => absurd c4 (by rw [if_pos z.2]; decide))]
          exact ih (i + 1) (by omega)
        · refine mm_iconst (v := 1) dX7_strike_29 (by decide +kernel) ?_
          refine mm_iret rfl rfl dX7_strike_30 ?_
          have z : hoOf fr to gi lf i l k = true := Decidable.not_not.mp (fun z => c4 (if_neg z))
          exact ⟨by rw [skOf, if_pos ⟨c2, z⟩], rfl⟩
theorem m_Or_strike {g : mm_G} {d n mk : Nat} {h : mm_Hp} {fr : Nat → Int32} {to : Nat → Int32} {lv : Nat → Int32} {gi : Nat → Int32} {lf : Nat → Int32} {l k : Int32} (hd : 1 ≤ d) (L : OrAt h n mk fr to lv gi lf) (hn : n ≤ 60) : mm_P g d MX7_strike 0 [some (.ref 98), some (.int l), some (.int k), none] [] h (mm_pureI (skOf fr to lv gi lf l k n 0) h) := by
  refine mm_iconst (v := 0) dX7_strike_0 (by decide +kernel) ?_
  refine mm_istore_n (ls' := [some (.ref 98), some (.int l), some (.int k), some (.int 0)]) dX7_strike_1 (Nat.le_of_ble_eq_true rfl) rfl ?_
  exact m_Or_strike_loop hd L hn n 0 (by omega)
theorem m_Or_level_loop {g : mm_G} {d n mk : Nat} {h : mm_Hp} {fr : Nat → Int32} {to : Nat → Int32} {lv : Nat → Int32} {gi : Nat → Int32} {lf : Nat → Int32} {l k : Int32} (hd : 1 ≤ d) (L : OrAt h n mk fr to lv gi lf) (hn : n ≤ 60) : ∀ (m i : Nat) (v : Int32), i + m = n → mm_P g d MX7_levelOf 5 [some (.ref 98), some (.int l), some (.int k), some (.int v), some (.int (nI i))] [] h (mm_pureI (leOf fr to lv gi lf l k m i v) h) := by
  obtain ⟨a98, a99, a100, a101, a102, a103⟩ := L
  intro m
  induction m with
  | zero =>
    intro i v hi
    refine mm_iload dX7_levelOf_5 rfl ?_
    refine mm_aload_n dX7_levelOf_7 rfl ?_
    refine mm_get lk_X7_27_X7 dX7_levelOf_8 a98 rfl ?_
    refine mm_icmp_ge 50 dX7_levelOf_11 (by decide) (fun c1 => ?_) (fun c1 => ?_)
    · have c1 : n ≤ i := (nI_leI (a := n) (b := i) (by omega) (by omega)).mp c1
      refine mm_iload_n dX7_levelOf_50 rfl ?_
      refine mm_iret rfl rfl dX7_levelOf_51 ?_
      exact ⟨rfl, rfl⟩
    · have c1 : ¬ n ≤ i := fun z => c1 ((nI_leI (a := n) (b := i) (by omega) (by omega)).mpr z)
      exact absurd (show n ≤ i by omega) c1
  | succ m ih =>
    intro i v hi
    refine mm_iload dX7_levelOf_5 rfl ?_
    refine mm_aload_n dX7_levelOf_7 rfl ?_
    refine mm_get lk_X7_27_X7 dX7_levelOf_8 a98 rfl ?_
    refine mm_icmp_ge 50 dX7_levelOf_11 (by decide) (fun c1 => ?_) (fun c1 => ?_)
    · have c1 : n ≤ i := (nI_leI (a := n) (b := i) (by omega) (by omega)).mp c1
      exact absurd c1 (by omega)
    · have c1 : ¬ n ≤ i := fun z => c1 ((nI_leI (a := n) (b := i) (by omega) (by omega)).mpr z)
      refine mm_aload_n dX7_levelOf_14 rfl ?_
      refine mm_get lk_X7_18_X7 dX7_levelOf_15 a98 rfl ?_
      refine mm_iload dX7_levelOf_18 rfl ?_
      refine mm_ialdN (i := i) dX7_levelOf_20 a101 (by omega) (by decide) ?_
      refine mm_iload_n dX7_levelOf_21 rfl ?_
      refine mm_icmp_le 44 dX7_levelOf_22 (by decide) (fun c2 => ?_) (fun c2 => ?_)
      · refine mm_iinc (v := nI (i + 1)) (ls' := [some (.ref 98), some (.int l), some (.int k), some (.int v), some (.int (nI (i + 1)))]) dX7_levelOf_44 rfl (nI_1 _) rfl ?_
        refine mm_goto 5 dX7_levelOf_47 (by decide) ?_
        rw [leOf, if_neg (fun z => z.1 c2)]
        exact ih (i + 1) _ (by omega)
      · have L0 : OrAt h n mk fr to lv gi lf := ⟨a98, a99, a100, a101, a102, a103⟩
        refine mm_aload_n dX7_levelOf_25 rfl ?_
        refine mm_iload dX7_levelOf_26 rfl ?_
        refine mm_iload_n dX7_levelOf_28 rfl ?_
        refine mm_iload_n dX7_levelOf_29 rfl ?_
        refine mm_callV (d' := d - 1) (as := [.int (nI i), .int l, .int k]) (st := []) (by omega) cm_X7_holds (mm_t3 6 rfl rfl) (mm_t3 8 rfl rfl) (mm_s1 1 rfl rfl) (T := TX7) (N := 8) rfl dX7_levelOf_30 a98 rfl (Nat.le_of_ble_eq_true rfl) (Nat.le_of_ble_eq_true rfl) rfl rfl (m_Or_holds L0 (by omega)) (fun o u3 q => mm_thenI q ?_)
        refine mm_if_eq 44 dX7_levelOf_33 (by decide) (fun c4 => ?_) (fun c4 => ?_)
        · refine mm_iinc (v := nI (i + 1)) (ls' := [some (.ref 98), some (.int l), some (.int k), some (.int v), some (.int (nI (i + 1)))]) dX7_levelOf_44 rfl (nI_1 _) rfl ?_
          refine mm_goto 5 dX7_levelOf_47 (by decide) ?_
          rw [leOf, if_neg (fun z => absurd c4 (by rw [if_pos z.2]; decide))]
          exact ih (i + 1) _ (by omega)
        · refine mm_aload_n dX7_levelOf_36 rfl ?_
          refine mm_get lk_X7_18_X7 dX7_levelOf_37 a98 rfl ?_
          refine mm_iload dX7_levelOf_40 rfl ?_
          refine mm_ialdN (i := i) dX7_levelOf_42 a101 (by omega) (by decide) ?_
          refine mm_istore_n (ls' := [some (.ref 98), some (.int l), some (.int k), some (.int (lv i)), some (.int (nI i))]) dX7_levelOf_43 (Nat.le_of_ble_eq_true rfl) rfl ?_
          refine mm_iinc (v := nI (i + 1)) (ls' := [some (.ref 98), some (.int l), some (.int k), some (.int (lv i)), some (.int (nI (i + 1)))]) dX7_levelOf_44 rfl (nI_1 _) rfl ?_
          refine mm_goto 5 dX7_levelOf_47 (by decide) ?_
          rw [leOf, if_pos ⟨c2, Decidable.not_not.mp (fun z => c4 (if_neg z))⟩]
          exact ih (i + 1) _ (by omega)
theorem m_Or_level {g : mm_G} {d n mk : Nat} {h : mm_Hp} {fr : Nat → Int32} {to : Nat → Int32} {lv : Nat → Int32} {gi : Nat → Int32} {lf : Nat → Int32} {l k : Int32} (hd : 1 ≤ d) (L : OrAt h n mk fr to lv gi lf) (hn : n ≤ 60) : mm_P g d MX7_levelOf 0 [some (.ref 98), some (.int l), some (.int k), none, none] [] h (mm_pureI (leOf fr to lv gi lf l k n 0 0) h) := by
  refine mm_iconst (v := 0) dX7_levelOf_0 (by decide +kernel) ?_
  refine mm_istore_n (ls' := [some (.ref 98), some (.int l), some (.int k), some (.int 0), none]) dX7_levelOf_1 (Nat.le_of_ble_eq_true rfl) rfl ?_
  refine mm_iconst (v := 0) dX7_levelOf_2 (by decide +kernel) ?_
  refine mm_istore (ls' := [some (.ref 98), some (.int l), some (.int k), some (.int 0), some (.int 0)]) dX7_levelOf_3 (Nat.le_of_ble_eq_true rfl) rfl ?_
  exact m_Or_level_loop hd L hn n 0 0 (by omega)
def exOf (ex : Nat → Int32) : Nat → Nat → Int32 → Int32
  | 0, _, v => v
  | m + 1, i, v => exOf ex m (i + 1) (if v < ex i + 1 then ex i + 1 else v)
def hdOf (li ex : Nat → Int32) (na : Nat → Int64) (s : Int64) (b : Int32) : Nat → Nat → Int32 → Int32
  | 0, _, f => f
  | m + 1, i, f => if b < li i then f else hdOf li ex na s b m (i + 1) (if lg_cmp (na i) s = 0 then ex i else if ex i = f then -1 else f)
def nmOf (li ex : Nat → Int32) (na : Nat → Int64) (x b : Int32) : Nat → Nat → Int64 → Int64
  | 0, _, f => f
  | m + 1, i, f => if b < li i then f else nmOf li ex na x b m (i + 1) (if ex i = x then na i else f)
theorem m_Na_exh_loop {g : mm_G} {d n mk : Nat} {h : mm_Hp} {li : Nat → Int32} {ex : Nat → Int32} {na : Nat → Int64}  (hd : 1 ≤ d) (L : NaAt h n mk li ex na) (hn : n ≤ 200) : ∀ (m i : Nat) (v : Int32), i + m = n → mm_P g d MX6_exhibits 4 [some (.ref 94), some (.int v), some (.int (nI i))] [] h (mm_pureI (exOf ex m i v) h) := by
  obtain ⟨a94, a95, a96, a97⟩ := L
  intro m
  induction m with
  | zero =>
    intro i v hi
    refine mm_iload_n dX6_exhibits_4 rfl ?_
    refine mm_aload_n dX6_exhibits_5 rfl ?_
    refine mm_get lk_X6_22_X6 dX6_exhibits_6 a94 rfl ?_
    refine mm_icmp_ge 31 dX6_exhibits_9 (by decide) (fun c1 => ?_) (fun c1 => ?_)
    · have c1 : n ≤ i := (nI_leI (a := n) (b := i) (by omega) (by omega)).mp c1
      refine mm_iload_n dX6_exhibits_31 rfl ?_
      refine mm_iret rfl rfl dX6_exhibits_32 ?_
      exact ⟨rfl, rfl⟩
    · have c1 : ¬ n ≤ i := fun z => c1 ((nI_leI (a := n) (b := i) (by omega) (by omega)).mpr z)
      exact absurd (show n ≤ i by omega) c1
  | succ m ih =>
    intro i v hi
    refine mm_iload_n dX6_exhibits_4 rfl ?_
    refine mm_aload_n dX6_exhibits_5 rfl ?_
    refine mm_get lk_X6_22_X6 dX6_exhibits_6 a94 rfl ?_
    refine mm_icmp_ge 31 dX6_exhibits_9 (by decide) (fun c1 => ?_) (fun c1 => ?_)
    · have c1 : n ≤ i := (nI_leI (a := n) (b := i) (by omega) (by omega)).mp c1
      exact absurd c1 (by omega)
    · have c1 : ¬ n ≤ i := fun z => c1 ((nI_leI (a := n) (b := i) (by omega) (by omega)).mpr z)
      refine mm_iload_n dX6_exhibits_12 rfl ?_
      refine mm_aload_n dX6_exhibits_13 rfl ?_
      refine mm_get lk_X6_15_X6 dX6_exhibits_14 a94 rfl ?_
      refine mm_iload_n dX6_exhibits_17 rfl ?_
      refine mm_ialdN (i := i) dX6_exhibits_18 a96 (by omega) (by decide) ?_
      refine mm_iconst (v := 1) dX6_exhibits_19 (by decide +kernel) ?_
      refine mm_iadd dX6_exhibits_20 ?_
      refine mm_max (mm_t4 94 rfl rfl) (mm_t3 180 rfl rfl) (mm_t1 15 rfl rfl) (mm_t3 181 rfl rfl) (by omega) rfl (Nat.le_of_ble_eq_true rfl) dX6_exhibits_21 ?_
      refine mm_istore_n (ls' := [some (.ref 94), some (.int (if v < ((ex i) + 1) then ((ex i) + 1) else v)), some (.int (nI i))]) dX6_exhibits_24 (Nat.le_of_ble_eq_true rfl) rfl ?_
      refine mm_iinc (v := nI (i + 1)) (ls' := [some (.ref 94), some (.int (if v < ((ex i) + 1) then ((ex i) + 1) else v)), some (.int (nI (i + 1)))]) dX6_exhibits_25 rfl (nI_1 _) rfl ?_
      refine mm_goto 4 dX6_exhibits_28 (by decide) ?_
      exact ih (i + 1) _ (by omega)
theorem m_Na_exhibits {g : mm_G} {d n mk : Nat} {h : mm_Hp} {li : Nat → Int32} {ex : Nat → Int32} {na : Nat → Int64} (hd : 1 ≤ d) (L : NaAt h n mk li ex na) (hn : n ≤ 200) : mm_P g d MX6_exhibits 0 [some (.ref 94), none, none] [] h (mm_pureI (exOf ex n 0 0) h) := by
  refine mm_iconst (v := 0) dX6_exhibits_0 (by decide +kernel) ?_
  refine mm_istore_n (ls' := [some (.ref 94), some (.int 0), none]) dX6_exhibits_1 (Nat.le_of_ble_eq_true rfl) rfl ?_
  refine mm_iconst (v := 0) dX6_exhibits_2 (by decide +kernel) ?_
  refine mm_istore_n (ls' := [some (.ref 94), some (.int 0), some (.int 0)]) dX6_exhibits_3 (Nat.le_of_ble_eq_true rfl) rfl ?_
  exact m_Na_exh_loop hd L hn n 0 0 (by omega)
theorem m_Na_holder_loop {g : mm_G} {d n mk : Nat} {h : mm_Hp} {li : Nat → Int32} {ex : Nat → Int32} {na : Nat → Int64} {s : Int64} {b : Int32}  (L : NaAt h n mk li ex na) (hn : n ≤ 200) : ∀ (m i : Nat) (f : Int32), i + m = n → mm_P g d MX6_holder 6 [some (.ref 94), some (.long s), none, some (.int b), some (.int f), some (.int (nI i))] [] h (mm_pureI (hdOf li ex na s b m i f) h) := by
  obtain ⟨a94, a95, a96, a97⟩ := L
  intro m
  induction m with
  | zero =>
    intro i f hi
    refine mm_iload dX6_holder_6 rfl ?_
    refine mm_aload_n dX6_holder_8 rfl ?_
    refine mm_get lk_X6_22_X6 dX6_holder_9 a94 rfl ?_
    refine mm_icmp_ge 71 dX6_holder_12 (by decide) (fun c1 => ?_) (fun c1 => ?_)
    · have c1 : n ≤ i := (nI_leI (a := n) (b := i) (by omega) (by omega)).mp c1
      refine mm_iload dX6_holder_71 rfl ?_
      refine mm_iret rfl rfl dX6_holder_73 ?_
      exact ⟨rfl, rfl⟩
    · have c1 : ¬ n ≤ i := fun z => c1 ((nI_leI (a := n) (b := i) (by omega) (by omega)).mpr z)
      exact absurd (show n ≤ i by omega) c1
  | succ m ih =>
    intro i f hi
    refine mm_iload dX6_holder_6 rfl ?_
    refine mm_aload_n dX6_holder_8 rfl ?_
    refine mm_get lk_X6_22_X6 dX6_holder_9 a94 rfl ?_
    refine mm_icmp_ge 71 dX6_holder_12 (by decide) (fun c1 => ?_) (fun c1 => ?_)
    · have c1 : n ≤ i := (nI_leI (a := n) (b := i) (by omega) (by omega)).mp c1
      exact absurd c1 (by omega)
    · have c1 : ¬ n ≤ i := fun z => c1 ((nI_leI (a := n) (b := i) (by omega) (by omega)).mpr z)
      refine mm_aload_n dX6_holder_15 rfl ?_
      refine mm_get lk_X6_9_X6 dX6_holder_16 a94 rfl ?_
      refine mm_iload dX6_holder_19 rfl ?_
      refine mm_ialdN (i := i) dX6_holder_21 a95 (by omega) (by decide) ?_
      refine mm_iload_n dX6_holder_22 rfl ?_
      refine mm_icmp_gt 71 dX6_holder_23 (by decide) (fun c2 => ?_) (fun c2 => ?_)
      · refine mm_iload dX6_holder_71 rfl ?_
        refine mm_iret rfl rfl dX6_holder_73 ?_
        exact ⟨by rw [hdOf, if_pos c2], rfl⟩
      · refine mm_aload_n dX6_holder_26 rfl ?_
        refine mm_get lk_X6_18_X6 dX6_holder_27 a94 rfl ?_
        refine mm_iload dX6_holder_30 rfl ?_
        refine mm_laldN (i := i) dX6_holder_32 a97 (by omega) (by decide) ?_
        refine mm_lload_n dX6_holder_33 rfl ?_
        refine mm_lcmp dX6_holder_34 ?_
        refine mm_if_ne 50 dX6_holder_35 (by decide) (fun c3 => ?_) (fun c3 => ?_)
        · refine mm_aload_n dX6_holder_50 rfl ?_
          refine mm_get lk_X6_15_X6 dX6_holder_51 a94 rfl ?_
          refine mm_iload dX6_holder_54 rfl ?_
          refine mm_ialdN (i := i) dX6_holder_56 a96 (by omega) (by decide) ?_
          refine mm_iload dX6_holder_57 rfl ?_
          refine mm_icmp_ne 65 dX6_holder_59 (by decide) (fun c4 => ?_) (fun c4 => ?_)
          · refine mm_iinc (v := nI (i + 1)) (ls' := [some (.ref 94), some (.long s), none, some (.int b), some (.int f), some (.int (nI (i + 1)))]) dX6_holder_65 rfl (nI_1 _) rfl ?_
            refine mm_goto 6 dX6_holder_68 (by decide) ?_
            rw [hdOf, if_neg c2, if_neg c3, if_neg c4]
            exact ih (i + 1) _ (by omega)
          · refine mm_iconst (v := (-1)) dX6_holder_62 (by decide +kernel) ?_
            refine mm_istore (ls' := [some (.ref 94), some (.long s), none, some (.int b), some (.int (-1)), some (.int (nI i))]) dX6_holder_63 (Nat.le_of_ble_eq_true rfl) rfl ?_
            refine mm_iinc (v := nI (i + 1)) (ls' := [some (.ref 94), some (.long s), none, some (.int b), some (.int (-1)), some (.int (nI (i + 1)))]) dX6_holder_65 rfl (nI_1 _) rfl ?_
            refine mm_goto 6 dX6_holder_68 (by decide) ?_
            rw [hdOf, if_neg c2, if_neg c3, if_pos c4]
            exact ih (i + 1) _ (by omega)
        · refine mm_aload_n dX6_holder_38 rfl ?_
          refine mm_get lk_X6_15_X6 dX6_holder_39 a94 rfl ?_
          refine mm_iload dX6_holder_42 rfl ?_
          refine mm_ialdN (i := i) dX6_holder_44 a96 (by omega) (by decide) ?_
          refine mm_istore (ls' := [some (.ref 94), some (.long s), none, some (.int b), some (.int (ex i)), some (.int (nI i))]) dX6_holder_45 (Nat.le_of_ble_eq_true rfl) rfl ?_
          refine mm_goto 65 dX6_holder_47 (by decide) ?_
          refine mm_iinc (v := nI (i + 1)) (ls' := [some (.ref 94), some (.long s), none, some (.int b), some (.int (ex i)), some (.int (nI (i + 1)))]) dX6_holder_65 rfl (nI_1 _) rfl ?_
          refine mm_goto 6 dX6_holder_68 (by decide) ?_
          rw [hdOf, if_neg c2, if_pos c3]
          exact ih (i + 1) _ (by omega)
theorem m_Na_holder {g : mm_G} {d n mk : Nat} {h : mm_Hp} {li : Nat → Int32} {ex : Nat → Int32} {na : Nat → Int64} {s : Int64} {b : Int32} (L : NaAt h n mk li ex na) (hn : n ≤ 200) : mm_P g d MX6_holder 0 [some (.ref 94), some (.long s), none, some (.int b), none, none] [] h (mm_pureI (hdOf li ex na s b n 0 (-1)) h) := by
  refine mm_iconst (v := (-1)) dX6_holder_0 (by decide +kernel) ?_
  refine mm_istore (ls' := [some (.ref 94), some (.long s), none, some (.int b), some (.int (-1)), none]) dX6_holder_1 (Nat.le_of_ble_eq_true rfl) rfl ?_
  refine mm_iconst (v := 0) dX6_holder_3 (by decide +kernel) ?_
  refine mm_istore (ls' := [some (.ref 94), some (.long s), none, some (.int b), some (.int (-1)), some (.int 0)]) dX6_holder_4 (Nat.le_of_ble_eq_true rfl) rfl ?_
  exact m_Na_holder_loop L hn n 0 (-1) (by omega)
