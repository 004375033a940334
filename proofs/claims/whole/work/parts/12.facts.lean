theorem mm_t1 (i : Nat) {w : Cond} (h : tables_1_1[i]? = some w) (hk : mm_okw w = true) : w ∈ mm_tb := by
  have h1 : w ∈ tables_1_1 := List.mem_of_getElem? h
  have h2 : w ∈ tables_1 := (List.mem_append_left _ h1)
  exact List.mem_filter.mpr ⟨List.mem_append_right _ h2, hk⟩
theorem mm_t2 (i : Nat) {w : Cond} (h : tables_1_2[i]? = some w) (hk : mm_okw w = true) : w ∈ mm_tb := by
  have h1 : w ∈ tables_1_2 := List.mem_of_getElem? h
  have h2 : w ∈ tables_1 := (List.mem_append_right _ (List.mem_append_left _ h1))
  exact List.mem_filter.mpr ⟨List.mem_append_right _ h2, hk⟩
theorem mm_t3 (i : Nat) {w : Cond} (h : tables_1_3[i]? = some w) (hk : mm_okw w = true) : w ∈ mm_tb := by
  have h1 : w ∈ tables_1_3 := List.mem_of_getElem? h
  have h2 : w ∈ tables_1 := (List.mem_append_right _ (List.mem_append_right _ (List.mem_append_left _ h1)))
  exact List.mem_filter.mpr ⟨List.mem_append_right _ h2, hk⟩
theorem mm_t4 (i : Nat) {w : Cond} (h : tables_1_4[i]? = some w) (hk : mm_okw w = true) : w ∈ mm_tb := by
  have h1 : w ∈ tables_1_4 := List.mem_of_getElem? h
  have h2 : w ∈ tables_1 := (List.mem_append_right _ (List.mem_append_right _ (List.mem_append_right _ (List.mem_append_left _ h1))))
  exact List.mem_filter.mpr ⟨List.mem_append_right _ h2, hk⟩
theorem mm_t5 (i : Nat) {w : Cond} (h : tables_1_5[i]? = some w) (hk : mm_okw w = true) : w ∈ mm_tb := by
  have h1 : w ∈ tables_1_5 := List.mem_of_getElem? h
  have h2 : w ∈ tables_1 := (List.mem_append_right _ (List.mem_append_right _ (List.mem_append_right _ (List.mem_append_right _ (List.mem_append_left _ h1)))))
  exact List.mem_filter.mpr ⟨List.mem_append_right _ h2, hk⟩
theorem mm_t6 (i : Nat) {w : Cond} (h : tables_1_6[i]? = some w) (hk : mm_okw w = true) : w ∈ mm_tb := by
  have h1 : w ∈ tables_1_6 := List.mem_of_getElem? h
  have h2 : w ∈ tables_1 := (List.mem_append_right _ (List.mem_append_right _ (List.mem_append_right _ (List.mem_append_right _ (List.mem_append_right _ (List.mem_append_left _ h1))))))
  exact List.mem_filter.mpr ⟨List.mem_append_right _ h2, hk⟩
theorem mm_t7 (i : Nat) {w : Cond} (h : tables_1_7[i]? = some w) (hk : mm_okw w = true) : w ∈ mm_tb := by
  have h1 : w ∈ tables_1_7 := List.mem_of_getElem? h
  have h2 : w ∈ tables_1 := (List.mem_append_right _ (List.mem_append_right _ (List.mem_append_right _ (List.mem_append_right _ (List.mem_append_right _ (List.mem_append_right _ h1))))))
  exact List.mem_filter.mpr ⟨List.mem_append_right _ h2, hk⟩
theorem mm_s1 (i : Nat) {w : Cond} (h : (k2_sels lw_privs_1)[i]? = some w) (hk : mm_okw w = true) : w ∈ mm_tb := by
  have h0 : w ∈ k2_sels lw_privs_1 := List.mem_of_getElem? h
  obtain ⟨q, h1, h2⟩ := List.mem_map.mp h0
  have h3 : q ∈ lw_privs := (List.mem_append_left _ h1)
  have h4 : w ∈ k2_sels lw_privs := List.mem_map.mpr ⟨q, h3, h2⟩
  exact List.mem_filter.mpr ⟨List.mem_append_left _ h4, hk⟩
theorem mm_s2 (i : Nat) {w : Cond} (h : (k2_sels lw_privs_2)[i]? = some w) (hk : mm_okw w = true) : w ∈ mm_tb := by
  have h0 : w ∈ k2_sels lw_privs_2 := List.mem_of_getElem? h
  obtain ⟨q, h1, h2⟩ := List.mem_map.mp h0
  have h3 : q ∈ lw_privs := (List.mem_append_right _ (List.mem_append_left _ h1))
  have h4 : w ∈ k2_sels lw_privs := List.mem_map.mpr ⟨q, h3, h2⟩
  exact List.mem_filter.mpr ⟨List.mem_append_left _ h4, hk⟩
theorem mm_s3 (i : Nat) {w : Cond} (h : (k2_sels lw_privs_3)[i]? = some w) (hk : mm_okw w = true) : w ∈ mm_tb := by
  have h0 : w ∈ k2_sels lw_privs_3 := List.mem_of_getElem? h
  obtain ⟨q, h1, h2⟩ := List.mem_map.mp h0
  have h3 : q ∈ lw_privs := (List.mem_append_right _ (List.mem_append_right _ (List.mem_append_left _ h1)))
  have h4 : w ∈ k2_sels lw_privs := List.mem_map.mpr ⟨q, h3, h2⟩
  exact List.mem_filter.mpr ⟨List.mem_append_left _ h4, hk⟩
theorem mm_s4 (i : Nat) {w : Cond} (h : (k2_sels lw_privs_4)[i]? = some w) (hk : mm_okw w = true) : w ∈ mm_tb := by
  have h0 : w ∈ k2_sels lw_privs_4 := List.mem_of_getElem? h
  obtain ⟨q, h1, h2⟩ := List.mem_map.mp h0
  have h3 : q ∈ lw_privs := (List.mem_append_right _ (List.mem_append_right _ (List.mem_append_right _ h1)))
  have h4 : w ∈ k2_sels lw_privs := List.mem_map.mpr ⟨q, h3, h2⟩
  exact List.mem_filter.mpr ⟨List.mem_append_left _ h4, hk⟩
theorem uw_X0 : ∀ w ∈ u_ws RX0 TX0 8, w ∈ mm_tb := List.forall_mem_cons.mpr ⟨(mm_t2 121 rfl rfl), List.forall_mem_cons.mpr ⟨(mm_t2 123 rfl rfl), List.forall_mem_cons.mpr ⟨(mm_t2 125 rfl rfl), List.forall_mem_cons.mpr ⟨(mm_t2 127 rfl rfl), List.forall_mem_cons.mpr ⟨(mm_t2 129 rfl rfl), List.forall_mem_cons.mpr ⟨(mm_t2 131 rfl rfl), List.forall_mem_cons.mpr ⟨(mm_t2 133 rfl rfl), List.forall_mem_cons.mpr ⟨(mm_t2 135 rfl rfl), fun _ h => absurd h List.not_mem_nil⟩⟩⟩⟩⟩⟩⟩⟩
theorem kc_X0 : mm_kc 0 RX0 TX0 8 tyX0 := ⟨rfl, uw_X0, tyX0_ok, nmX0⟩
theorem uw_X1 : ∀ w ∈ u_ws RX1 TX1 4, w ∈ mm_tb := List.forall_mem_cons.mpr ⟨(mm_t1 94 rfl rfl), List.forall_mem_cons.mpr ⟨(mm_t1 96 rfl rfl), List.forall_mem_cons.mpr ⟨(mm_t1 98 rfl rfl), List.forall_mem_cons.mpr ⟨(mm_t1 92 rfl rfl), fun _ h => absurd h List.not_mem_nil⟩⟩⟩⟩
theorem kc_X1 : mm_kc 1 RX1 TX1 4 tyX1 := ⟨rfl, uw_X1, tyX1_ok, nmX1⟩
theorem uw_X2 : ∀ w ∈ u_ws RX2 TX2 8, w ∈ mm_tb := List.forall_mem_cons.mpr ⟨(mm_t2 54 rfl rfl), List.forall_mem_cons.mpr ⟨(mm_t2 55 rfl rfl), List.forall_mem_cons.mpr ⟨(mm_t2 56 rfl rfl), List.forall_mem_cons.mpr ⟨(mm_t2 44 rfl rfl), List.forall_mem_cons.mpr ⟨(mm_t2 46 rfl rfl), List.forall_mem_cons.mpr ⟨(mm_t2 48 rfl rfl), List.forall_mem_cons.mpr ⟨(mm_t2 50 rfl rfl), List.forall_mem_cons.mpr ⟨(mm_t2 52 rfl rfl), fun _ h => absurd h List.not_mem_nil⟩⟩⟩⟩⟩⟩⟩⟩
theorem kc_X2 : mm_kc 2 RX2 TX2 8 tyX2 := ⟨rfl, uw_X2, tyX2_ok, nmX2⟩
theorem uw_X3 : ∀ w ∈ u_ws RX3 TX3 9, w ∈ mm_tb := List.forall_mem_cons.mpr ⟨(mm_t1 202 rfl rfl), List.forall_mem_cons.mpr ⟨(mm_t1 203 rfl rfl), List.forall_mem_cons.mpr ⟨(mm_t1 204 rfl rfl), List.forall_mem_cons.mpr ⟨(mm_t1 190 rfl rfl), List.forall_mem_cons.mpr ⟨(mm_t1 192 rfl rfl), List.forall_mem_cons.mpr ⟨(mm_t1 194 rfl rfl), List.forall_mem_cons.mpr ⟨(mm_t1 196 rfl rfl), List.forall_mem_cons.mpr ⟨(mm_t1 198 rfl rfl), List.forall_mem_cons.mpr ⟨(mm_t1 200 rfl rfl), fun _ h => absurd h List.not_mem_nil⟩⟩⟩⟩⟩⟩⟩⟩⟩
theorem kc_X3 : mm_kc 3 RX3 TX3 9 tyX3 := ⟨rfl, uw_X3, tyX3_ok, nmX3⟩
theorem uw_X4 : ∀ w ∈ u_ws RX4 TX4 9, w ∈ mm_tb := List.forall_mem_cons.mpr ⟨(mm_t1 132 rfl rfl), List.forall_mem_cons.mpr ⟨(mm_t1 133 rfl rfl), List.forall_mem_cons.mpr ⟨(mm_t1 134 rfl rfl), List.forall_mem_cons.mpr ⟨(mm_t1 120 rfl rfl), List.forall_mem_cons.mpr ⟨(mm_t1 122 rfl rfl), List.forall_mem_cons.mpr ⟨(mm_t1 124 rfl rfl), List.forall_mem_cons.mpr ⟨(mm_t1 126 rfl rfl), List.forall_mem_cons.mpr ⟨(mm_t1 128 rfl rfl), List.forall_mem_cons.mpr ⟨(mm_t1 130 rfl rfl), fun _ h => absurd h List.not_mem_nil⟩⟩⟩⟩⟩⟩⟩⟩⟩
theorem kc_X4 : mm_kc 4 RX4 TX4 9 tyX4 := ⟨rfl, uw_X4, tyX4_ok, nmX4⟩
theorem uw_X5 : ∀ w ∈ u_ws RX5 TX5 5, w ∈ mm_tb := List.forall_mem_cons.mpr ⟨(mm_t1 220 rfl rfl), List.forall_mem_cons.mpr ⟨(mm_t1 221 rfl rfl), List.forall_mem_cons.mpr ⟨(mm_t1 222 rfl rfl), List.forall_mem_cons.mpr ⟨(mm_t1 216 rfl rfl), List.forall_mem_cons.mpr ⟨(mm_t1 218 rfl rfl), fun _ h => absurd h List.not_mem_nil⟩⟩⟩⟩⟩
theorem kc_X5 : mm_kc 5 RX5 TX5 5 tyX5 := ⟨rfl, uw_X5, tyX5_ok, nmX5⟩
theorem uw_X6 : ∀ w ∈ u_ws RX6 TX6 6, w ∈ mm_tb := List.forall_mem_cons.mpr ⟨(mm_t1 239 rfl rfl), List.forall_mem_cons.mpr ⟨(mm_t2 0 rfl rfl), List.forall_mem_cons.mpr ⟨(mm_t2 1 rfl rfl), List.forall_mem_cons.mpr ⟨(mm_t1 233 rfl rfl), List.forall_mem_cons.mpr ⟨(mm_t1 235 rfl rfl), List.forall_mem_cons.mpr ⟨(mm_t1 237 rfl rfl), fun _ h => absurd h List.not_mem_nil⟩⟩⟩⟩⟩⟩
theorem kc_X6 : mm_kc 6 RX6 TX6 6 tyX6 := ⟨rfl, uw_X6, tyX6_ok, nmX6⟩
theorem uw_X7 : ∀ w ∈ u_ws RX7 TX7 8, w ∈ mm_tb := List.forall_mem_cons.mpr ⟨(mm_t2 25 rfl rfl), List.forall_mem_cons.mpr ⟨(mm_t2 26 rfl rfl), List.forall_mem_cons.mpr ⟨(mm_t2 27 rfl rfl), List.forall_mem_cons.mpr ⟨(mm_t2 15 rfl rfl), List.forall_mem_cons.mpr ⟨(mm_t2 17 rfl rfl), List.forall_mem_cons.mpr ⟨(mm_t2 19 rfl rfl), List.forall_mem_cons.mpr ⟨(mm_t2 21 rfl rfl), List.forall_mem_cons.mpr ⟨(mm_t2 23 rfl rfl), fun _ h => absurd h List.not_mem_nil⟩⟩⟩⟩⟩⟩⟩⟩
theorem kc_X7 : mm_kc 7 RX7 TX7 8 tyX7 := ⟨rfl, uw_X7, tyX7_ok, nmX7⟩
theorem uw_X8 : ∀ w ∈ u_ws RX8 TX8 9, w ∈ mm_tb := List.forall_mem_cons.mpr ⟨(mm_t1 164 rfl rfl), List.forall_mem_cons.mpr ⟨(mm_t1 165 rfl rfl), List.forall_mem_cons.mpr ⟨(mm_t1 166 rfl rfl), List.forall_mem_cons.mpr ⟨(mm_t1 152 rfl rfl), List.forall_mem_cons.mpr ⟨(mm_t1 154 rfl rfl), List.forall_mem_cons.mpr ⟨(mm_t1 156 rfl rfl), List.forall_mem_cons.mpr ⟨(mm_t1 158 rfl rfl), List.forall_mem_cons.mpr ⟨(mm_t1 160 rfl rfl), List.forall_mem_cons.mpr ⟨(mm_t1 162 rfl rfl), fun _ h => absurd h List.not_mem_nil⟩⟩⟩⟩⟩⟩⟩⟩⟩
theorem kc_X8 : mm_kc 8 RX8 TX8 9 tyX8 := ⟨rfl, uw_X8, tyX8_ok, nmX8⟩
theorem uw_X10 : ∀ w ∈ u_ws RX10 TX10 13, w ∈ mm_tb := List.forall_mem_cons.mpr ⟨(mm_t2 78 rfl rfl), List.forall_mem_cons.mpr ⟨(mm_t2 80 rfl rfl), List.forall_mem_cons.mpr ⟨(mm_t2 82 rfl rfl), List.forall_mem_cons.mpr ⟨(mm_t2 84 rfl rfl), List.forall_mem_cons.mpr ⟨(mm_t2 86 rfl rfl), List.forall_mem_cons.mpr ⟨(mm_t2 88 rfl rfl), List.forall_mem_cons.mpr ⟨(mm_t2 90 rfl rfl), List.forall_mem_cons.mpr ⟨(mm_t2 92 rfl rfl), List.forall_mem_cons.mpr ⟨(mm_t2 94 rfl rfl), List.forall_mem_cons.mpr ⟨(mm_t2 96 rfl rfl), List.forall_mem_cons.mpr ⟨(mm_t2 98 rfl rfl), List.forall_mem_cons.mpr ⟨(mm_t2 100 rfl rfl), List.forall_mem_cons.mpr ⟨(mm_t2 102 rfl rfl), fun _ h => absurd h List.not_mem_nil⟩⟩⟩⟩⟩⟩⟩⟩⟩⟩⟩⟩⟩
theorem kc_X10 : mm_kc 9 RX10 TX10 13 tyX10 := ⟨rfl, uw_X10, tyX10_ok, nmX10⟩
theorem uw_X11 : ∀ w ∈ u_ws RX11 TX11 14, w ∈ mm_tb := List.forall_mem_cons.mpr ⟨(mm_t2 152 rfl rfl), List.forall_mem_cons.mpr ⟨(mm_t2 154 rfl rfl), List.forall_mem_cons.mpr ⟨(mm_t2 156 rfl rfl), List.forall_mem_cons.mpr ⟨(mm_t2 158 rfl rfl), List.forall_mem_cons.mpr ⟨(mm_t2 160 rfl rfl), List.forall_mem_cons.mpr ⟨(mm_t2 162 rfl rfl), List.forall_mem_cons.mpr ⟨(mm_t2 164 rfl rfl), List.forall_mem_cons.mpr ⟨(mm_t2 166 rfl rfl), List.forall_mem_cons.mpr ⟨(mm_t2 168 rfl rfl), List.forall_mem_cons.mpr ⟨(mm_t2 170 rfl rfl), List.forall_mem_cons.mpr ⟨(mm_t2 172 rfl rfl), List.forall_mem_cons.mpr ⟨(mm_t2 174 rfl rfl), List.forall_mem_cons.mpr ⟨(mm_t2 176 rfl rfl), List.forall_mem_cons.mpr ⟨(mm_t2 178 rfl rfl), fun _ h => absurd h List.not_mem_nil⟩⟩⟩⟩⟩⟩⟩⟩⟩⟩⟩⟩⟩⟩
theorem kc_X11 : mm_kc 10 RX11 TX11 14 tyX11 := ⟨rfl, uw_X11, tyX11_ok, nmX11⟩
theorem uw_X12 : ∀ w ∈ u_ws RX12 TX12 54, w ∈ mm_tb := List.forall_mem_cons.mpr ⟨(mm_t6 8 rfl rfl), List.forall_mem_cons.mpr ⟨(mm_t6 10 rfl rfl), List.forall_mem_cons.mpr ⟨(mm_t6 12 rfl rfl), List.forall_mem_cons.mpr ⟨(mm_t6 14 rfl rfl), List.forall_mem_cons.mpr ⟨(mm_t6 16 rfl rfl), List.forall_mem_cons.mpr ⟨(mm_t6 18 rfl rfl), List.forall_mem_cons.mpr ⟨(mm_t6 20 rfl rfl), List.forall_mem_cons.mpr ⟨(mm_t6 22 rfl rfl), List.forall_mem_cons.mpr ⟨(mm_t6 24 rfl rfl), List.forall_mem_cons.mpr ⟨(mm_t6 26 rfl rfl), List.forall_mem_cons.mpr ⟨(mm_t6 28 rfl rfl), List.forall_mem_cons.mpr ⟨(mm_t6 30 rfl rfl), List.forall_mem_cons.mpr ⟨(mm_t6 32 rfl rfl), List.forall_mem_cons.mpr ⟨(mm_t6 34 rfl rfl), List.forall_mem_cons.mpr ⟨(mm_t6 36 rfl rfl), List.forall_mem_cons.mpr ⟨(mm_t6 38 rfl rfl), List.forall_mem_cons.mpr ⟨(mm_t6 40 rfl rfl), List.forall_mem_cons.mpr ⟨(mm_t6 42 rfl rfl), List.forall_mem_cons.mpr ⟨(mm_t6 44 rfl rfl), List.forall_mem_cons.mpr ⟨(mm_t6 46 rfl rfl), List.forall_mem_cons.mpr ⟨(mm_t6 48 rfl rfl), List.forall_mem_cons.mpr ⟨(mm_t6 50 rfl rfl), List.forall_mem_cons.mpr ⟨(mm_t6 52 rfl rfl), List.forall_mem_cons.mpr ⟨(mm_t6 54 rfl rfl), List.forall_mem_cons.mpr ⟨(mm_t6 56 rfl rfl), List.forall_mem_cons.mpr ⟨(mm_t6 58 rfl rfl), List.forall_mem_cons.mpr ⟨(mm_t6 60 rfl rfl), List.forall_mem_cons.mpr ⟨(mm_t6 62 rfl rfl), List.forall_mem_cons.mpr ⟨(mm_t6 64 rfl rfl), List.forall_mem_cons.mpr ⟨(mm_t6 66 rfl rfl), List.forall_mem_cons.mpr ⟨(mm_t6 68 rfl rfl), List.forall_mem_cons.mpr ⟨(mm_t6 70 rfl rfl), List.forall_mem_cons.mpr ⟨(mm_t6 72 rfl rfl), List.forall_mem_cons.mpr ⟨(mm_t6 74 rfl rfl), List.forall_mem_cons.mpr ⟨(mm_t6 76 rfl rfl), List.forall_mem_cons.mpr ⟨(mm_t6 78 rfl rfl), List.forall_mem_cons.mpr ⟨(mm_t6 80 rfl rfl), List.forall_mem_cons.mpr ⟨(mm_t6 82 rfl rfl), List.forall_mem_cons.mpr ⟨(mm_t6 84 rfl rfl), List.forall_mem_cons.mpr ⟨(mm_t6 86 rfl rfl), List.forall_mem_cons.mpr ⟨(mm_t6 88 rfl rfl), List.forall_mem_cons.mpr ⟨(mm_t6 90 rfl rfl), List.forall_mem_cons.mpr ⟨(mm_t6 92 rfl rfl), List.forall_mem_cons.mpr ⟨(mm_t6 94 rfl rfl), List.forall_mem_cons.mpr ⟨(mm_t6 96 rfl rfl), List.forall_mem_cons.mpr ⟨(mm_t6 98 rfl rfl), List.forall_mem_cons.mpr ⟨(mm_t6 100 rfl rfl), List.forall_mem_cons.mpr ⟨(mm_t6 102 rfl rfl), List.forall_mem_cons.mpr ⟨(mm_t6 104 rfl rfl), List.forall_mem_cons.mpr ⟨(mm_t6 106 rfl rfl), List.forall_mem_cons.mpr ⟨(mm_t6 108 rfl rfl), List.forall_mem_cons.mpr ⟨(mm_t6 110 rfl rfl), List.forall_mem_cons.mpr ⟨(mm_t6 112 rfl rfl), List.forall_mem_cons.mpr ⟨(mm_t6 114 rfl rfl), fun _ h => absurd h List.not_mem_nil⟩⟩⟩⟩⟩⟩⟩⟩⟩⟩⟩⟩⟩⟩⟩⟩⟩⟩⟩⟩⟩⟩⟩⟩⟩⟩⟩⟩⟩⟩⟩⟩⟩⟩⟩⟩⟩⟩⟩⟩⟩⟩⟩⟩⟩⟩⟩⟩⟩⟩⟩⟩⟩⟩
theorem kc_X12 : mm_kc 11 RX12 TX12 54 tyX12 := ⟨rfl, uw_X12, tyX12_ok, nmX12⟩
abbrev MX0_init : mm_Me := (yX0_init, cX0_init, 6, none, [])
abbrev MX0_signOf : mm_Me := (yX0_signOf, cX0_signOf, 5, (some .int), [])
abbrev MX0_signByAnswer : mm_Me := (yX0_signByAnswer, cX0_signByAnswer, 3, (some .int), [])
abbrev MX0_weigh : mm_Me := (yX0_weigh, cX0_weigh, 3, none, [])
abbrev MX0_seekQuarrel : mm_Me := (yX0_seekQuarrel, cX0_seekQuarrel, 6, (some .int), [])
abbrev MX0_clash : mm_Me := (yX0_clash, cX0_clash, 4, (some .boolean), [])
abbrev MX0_judge : mm_Me := (yX0_judge, cX0_judge, 6, (some .int), [])
abbrev MX0_shows : mm_Me := (yX0_shows, cX0_shows, 3, (some .boolean), [])
abbrev MX0_isDisputed : mm_Me := (yX0_isDisputed, cX0_isDisputed, 3, (some .boolean), [])
abbrev MX1_init : mm_Me := (yX1_init, cX1_init, 2, none, [])
abbrev MX1_clear : mm_Me := (yX1_clear, cX1_clear, 1, none, [])
abbrev MX1_byteAt : mm_Me := (yX1_byteAt, cX1_byteAt, 2, (some .int), [])
abbrev MX1_add : mm_Me := (yX1_add, cX1_add, 2, none, [])
abbrev MX1_addNumber : mm_Me := (yX1_addNumber, cX1_addNumber, 3, none, [])
abbrev MX1_addName : mm_Me := (yX1_addName, cX1_addName, 5, none, [])
abbrev MX1_addText : mm_Me := (yX1_addText, cX1_addText, 3, (some .int), [])
abbrev MX2_init : mm_Me := (yX2_init, cX2_init, 1, none, [])
abbrev MX2_add : mm_Me := (yX2_add, cX2_add, 4, (some .int), [])
abbrev MX2_citedBy : mm_Me := (yX2_citedBy, cX2_citedBy, 3, (some .int), [])
abbrev MX2_addCite : mm_Me := (yX2_addCite, cX2_addCite, 5, (some .int), [])
abbrev MX3_init : mm_Me := (yX3_init, cX3_init, 1, none, [])
abbrev MX3_add : mm_Me := (yX3_add, cX3_add, 4, none, [])
abbrev MX3_setNumbers : mm_Me := (yX3_setNumbers, cX3_setNumbers, 4, none, [])
abbrev MX4_init : mm_Me := (yX4_init, cX4_init, 1, none, [])
abbrev MX4_canGoOn : mm_Me := (yX4_canGoOn, cX4_canGoOn, 2, (some .boolean), [])
abbrev MX4_add : mm_Me := (yX4_add, cX4_add, 3, none, [])
abbrev MX4_setPage : mm_Me := (yX4_setPage, cX4_setPage, 2, none, [])
abbrev MX4_setEntry : mm_Me := (yX4_setEntry, cX4_setEntry, 3, none, [])
abbrev MX4_entryBefore : mm_Me := (yX4_entryBefore, cX4_entryBefore, 3, (some .int), [])
abbrev MX4_answerTo : mm_Me := (yX4_answerTo, cX4_answerTo, 3, (some .int), [])
abbrev MX4_kindOfEntry : mm_Me := (yX4_kindOfEntry, cX4_kindOfEntry, 3, (some .int), [])
abbrev MX4_standingAt : mm_Me := (yX4_standingAt, cX4_standingAt, 4, (some .int), [])
abbrev MX5_init : mm_Me := (yX5_init, cX5_init, 1, none, [])
abbrev MX5_add : mm_Me := (yX5_add, cX5_add, 3, none, [])
abbrev MX6_init : mm_Me := (yX6_init, cX6_init, 1, none, [])
abbrev MX6_add : mm_Me := (yX6_add, cX6_add, 5, none, [])
abbrev MX6_exhibits : mm_Me := (yX6_exhibits, cX6_exhibits, 3, (some .int), [])
abbrev MX6_holder : mm_Me := (yX6_holder, cX6_holder, 6, (some .int), [])
abbrev MX6_nameOf : mm_Me := (yX6_nameOf, cX6_nameOf, 6, (some .long), [])
abbrev MX7_init : mm_Me := (yX7_init, cX7_init, 1, none, [])
abbrev MX7_add : mm_Me := (yX7_add, cX7_add, 5, (some .int), [])
abbrev MX7_liftOn : mm_Me := (yX7_liftOn, cX7_liftOn, 3, (some .boolean), [])
abbrev MX7_holds : mm_Me := (yX7_holds, cX7_holds, 4, (some .boolean), [])
abbrev MX7_strike : mm_Me := (yX7_strike, cX7_strike, 4, (some .boolean), [])
abbrev MX7_levelOf : mm_Me := (yX7_levelOf, cX7_levelOf, 5, (some .int), [])
abbrev MX8_init : mm_Me := (yX8_init, cX8_init, 1, none, [])
abbrev MX8_addFirst : mm_Me := (yX8_addFirst, cX8_addFirst, 5, none, [])
abbrev MX8_addRight : mm_Me := (yX8_addRight, cX8_addRight, 6, none, [])
abbrev MX8_add : mm_Me := (yX8_add, cX8_add, 8, none, [])
abbrev MX8_heldOn : mm_Me := (yX8_heldOn, cX8_heldOn, 5, (some .int), [])
abbrev MX8_timesRighted : mm_Me := (yX8_timesRighted, cX8_timesRighted, 4, (some .int), [])
abbrev MX8_tell : mm_Me := (yX8_tell, cX8_tell, 4, (some .int), [])
abbrev MX9_init : mm_Me := (yX9_init, cX9_init, 2, none, [])
abbrev MX9_has : mm_Me := (yX9_has, cX9_has, 2, (some .boolean), [])
abbrev MX9_isFull : mm_Me := (yX9_isFull, cX9_isFull, 1, (some .boolean), [])
abbrev MX9_mark : mm_Me := (yX9_mark, cX9_mark, 1, none, [])
abbrev MX9_takeBack : mm_Me := (yX9_takeBack, cX9_takeBack, 1, none, [])
abbrev MX10_init : mm_Me := (yX10_init, cX10_init, 7, none, [])
abbrev MX10_takeSitting : mm_Me := (yX10_takeSitting, cX10_takeSitting, 5, (some .int), [])
abbrev MX10_takeRight : mm_Me := (yX10_takeRight, cX10_takeRight, 5, (some .int), [])
abbrev MX10_begin : mm_Me := (yX10_begin, cX10_begin, 2, none, [])
abbrev MX10_finish : mm_Me := (yX10_finish, cX10_finish, 2, (some .int), [])
abbrev MX10_refuse : mm_Me := (yX10_refuse, cX10_refuse, 3, (some .boolean), [])
abbrev MX10_sign : mm_Me := (yX10_sign, cX10_sign, 1, (some .int), [])
abbrev MX10_lineEnds : mm_Me := (yX10_lineEnds, cX10_lineEnds, 1, (some .boolean), [])
abbrev MX10_step : mm_Me := (yX10_step, cX10_step, 1, (some .boolean), [])
abbrev MX10_expect : mm_Me := (yX10_expect, cX10_expect, 2, (some .boolean), [])
abbrev MX10_takeLine : mm_Me := (yX10_takeLine, cX10_takeLine, 5, (some .boolean), [])
abbrev MX10_takeHead : mm_Me := (yX10_takeHead, cX10_takeHead, 4, (some .boolean), [])
abbrev MX10_takeRest : mm_Me := (yX10_takeRest, cX10_takeRest, 6, (some .boolean), [])
abbrev MX10_isPlain : mm_Me := (yX10_isPlain, cX10_isPlain, 1, (some .boolean), [])
abbrev MX10_takeFact : mm_Me := (yX10_takeFact, cX10_takeFact, 5, (some .boolean), [])
abbrev MX10_takeNumber : mm_Me := (yX10_takeNumber, cX10_takeNumber, 3, (some .boolean), [])
abbrev MX10_takeMention : mm_Me := (yX10_takeMention, cX10_takeMention, 4, (some .boolean), [])
abbrev MX10_takeNaming : mm_Me := (yX10_takeNaming, cX10_takeNaming, 5, (some .boolean), [])
abbrev MX10_takeNewName : mm_Me := (yX10_takeNewName, cX10_takeNewName, 4, (some .boolean), [])
abbrev MX10_takeName : mm_Me := (yX10_takeName, cX10_takeName, 3, (some .boolean), [])
abbrev MX10_isOfName : mm_Me := (yX10_isOfName, cX10_isOfName, 1, (some .boolean), [])
abbrev MX11_init : mm_Me := (yX11_init, cX11_init, 1, none, [])
abbrev MX11_feed : mm_Me := (yX11_feed, cX11_feed, 6, (some .int), [])
abbrev MX11_sitting : mm_Me := (yX11_sitting, cX11_sitting, 4, (some .int), [])
abbrev MX11_fault : mm_Me := (yX11_fault, cX11_fault, 1, (some .int), [])
abbrev MX11_right : mm_Me := (yX11_right, cX11_right, 4, (some .int), [])
abbrev MX11_days : mm_Me := (yX11_days, cX11_days, 2, (some .int), [])
abbrev MX11_about : mm_Me := (yX11_about, cX11_about, 3, (some .int), [])
abbrev MX11_cited : mm_Me := (yX11_cited, cX11_cited, 3, (some .int), [])
abbrev MX11_fact : mm_Me := (yX11_fact, cX11_fact, 3, (some .int), [])
abbrev MX11_stands : mm_Me := (yX11_stands, cX11_stands, 3, (some .int), [])
abbrev MX11_quarrels : mm_Me := (yX11_quarrels, cX11_quarrels, 2, (some .int), [])
abbrev MX11_quarrel : mm_Me := (yX11_quarrel, cX11_quarrel, 4, (some .int), [])
abbrev MX11_mention : mm_Me := (yX11_mention, cX11_mention, 3, (some .int), [])
abbrev MX11_name : mm_Me := (yX11_name, cX11_name, 5, (some .int), [])
abbrev MX11_order : mm_Me := (yX11_order, cX11_order, 4, (some .int), [])
abbrev MX11_lift : mm_Me := (yX11_lift, cX11_lift, 2, (some .boolean), [])
abbrev MX11_status : mm_Me := (yX11_status, cX11_status, 4, (some .int), [])
abbrev MX11_read : mm_Me := (yX11_read, cX11_read, 7, (some .int), [])
abbrev MX11_told : mm_Me := (yX11_told, cX11_told, 2, (some .int), [])
abbrev MX11_digest : mm_Me := (yX11_digest, cX11_digest, 4, (some .int), [])
abbrev MX11_cite : mm_Me := (yX11_cite, cX11_cite, 3, (some .int), [])
abbrev MX11_shown : mm_Me := (yX11_shown, cX11_shown, 3, (some .int), [])
abbrev MX11_count : mm_Me := (yX11_count, cX11_count, 2, (some .int), [])
abbrev MX11_demand : mm_Me := (yX11_demand, cX11_demand, 1, none, [])
abbrev MX11_demandLines : mm_Me := (yX11_demandLines, cX11_demandLines, 3, none, [])
abbrev MX11_demandOnTape : mm_Me := (yX11_demandOnTape, cX11_demandOnTape, 2, none, [])
abbrev MX11_isLevel : mm_Me := (yX11_isLevel, cX11_isLevel, 1, (some .boolean), [])
abbrev MX11_isNumber : mm_Me := (yX11_isNumber, cX11_isNumber, 1, (some .boolean), [])
abbrev MX11_endReading : mm_Me := (yX11_endReading, cX11_endReading, 2, none, [])
abbrev MX11_readBack : mm_Me := (yX11_readBack, cX11_readBack, 5, (some .int), [])
abbrev MX12_init : mm_Me := (yX12_init, cX12_init, 1, none, [])
abbrev MX12_thrown : mm_Me := (yX12_thrown, cX12_thrown, 1, (some .int), [])
abbrev MX12_fail : mm_Me := (yX12_fail, cX12_fail, 2, (some .int), [])
abbrev MX12_isLine : mm_Me := (yX12_isLine, cX12_isLine, 2, (some .boolean), [])
abbrev MX12_feed : mm_Me := (yX12_feed, cX12_feed, 8, (some .int), [])
abbrev MX12_named : mm_Me := (yX12_named, cX12_named, 5, (some .int), [])
abbrev MX12_nameAt : mm_Me := (yX12_nameAt, cX12_nameAt, 6, (some .long), [])
abbrev MX12_name : mm_Me := (yX12_name, cX12_name, 4, none, [])
abbrev MX12_now0 : mm_Me := (yX12_now0, cX12_now0, 1, (some .int), [])
abbrev MX12_wrong : mm_Me := (yX12_wrong, cX12_wrong, 3, none, [])
abbrev MX12_take : mm_Me := (yX12_take, cX12_take, 2, none, [])
abbrev MX12_isNameSign : mm_Me := (yX12_isNameSign, cX12_isNameSign, 1, (some .boolean), [])
abbrev MX12_readName : mm_Me := (yX12_readName, cX12_readName, 3, (some .int), [])
abbrev MX12_readNumber : mm_Me := (yX12_readNumber, cX12_readNumber, 4, (some .int), [])
abbrev MX12_need : mm_Me := (yX12_need, cX12_need, 3, none, [])
abbrev MX12_readRest : mm_Me := (yX12_readRest, cX12_readRest, 4, none, [])
abbrev MX12_readMention : mm_Me := (yX12_readMention, cX12_readMention, 4, none, [])
abbrev MX12_readFact : mm_Me := (yX12_readFact, cX12_readFact, 7, none, [])
abbrev MX12_readExhibit : mm_Me := (yX12_readExhibit, cX12_readExhibit, 6, none, [])
abbrev MX12_kindOf : mm_Me := (yX12_kindOf, cX12_kindOf, 1, (some .int), [])
abbrev MX12_readLine : mm_Me := (yX12_readLine, cX12_readLine, 4, none, [])
abbrev MX12_sitting : mm_Me := (yX12_sitting, cX12_sitting, 9, (some .int), [])
abbrev MX12_keepLine : mm_Me := (yX12_keepLine, cX12_keepLine, 5, none, [])
abbrev MX12_fault : mm_Me := (yX12_fault, cX12_fault, 1, (some .int), [])
abbrev MX12_right : mm_Me := (yX12_right, cX12_right, 6, (some .int), [])
abbrev MX12_days : mm_Me := (yX12_days, cX12_days, 2, (some .int), [])
abbrev MX12_restOn : mm_Me := (yX12_restOn, cX12_restOn, 5, (some .int), [])
abbrev MX12_answered : mm_Me := (yX12_answered, cX12_answered, 3, (some .int), [])
abbrev MX12_about : mm_Me := (yX12_about, cX12_about, 3, (some .int), [])
abbrev MX12_cited : mm_Me := (yX12_cited, cX12_cited, 4, (some .int), [])
abbrev MX12_isFact : mm_Me := (yX12_isFact, cX12_isFact, 2, (some .boolean), [])
abbrev MX12_fact : mm_Me := (yX12_fact, cX12_fact, 3, (some .int), [])
abbrev MX12_isStruck : mm_Me := (yX12_isStruck, cX12_isStruck, 5, (some .boolean), [])
abbrev MX12_isOn : mm_Me := (yX12_isOn, cX12_isOn, 4, (some .boolean), [])
abbrev MX12_level : mm_Me := (yX12_level, cX12_level, 5, (some .int), [])
abbrev MX12_standsOn : mm_Me := (yX12_standsOn, cX12_standsOn, 6, (some .int), [])
abbrev MX12_stands : mm_Me := (yX12_stands, cX12_stands, 3, (some .int), [])
abbrev MX12_doQuarrel : mm_Me := (yX12_doQuarrel, cX12_doQuarrel, 6, (some .boolean), [])
abbrev MX12_quarrels : mm_Me := (yX12_quarrels, cX12_quarrels, 5, (some .int), [])
abbrev MX12_quarrel : mm_Me := (yX12_quarrel, cX12_quarrel, 7, (some .int), [])
abbrev MX12_mention : mm_Me := (yX12_mention, cX12_mention, 3, (some .int), [])
abbrev MX12_say : mm_Me := (yX12_say, cX12_say, 2, none, [])
abbrev MX12_name_ : mm_Me := (yX12_name_, cX12_name_, 6, (some .int), [])
abbrev MX12_order : mm_Me := (yX12_order, cX12_order, 4, (some .int), [])
abbrev MX12_lift : mm_Me := (yX12_lift, cX12_lift, 2, (some .boolean), [])
abbrev MX12_status : mm_Me := (yX12_status, cX12_status, 4, (some .int), [])
abbrev MX12_sayHidden : mm_Me := (yX12_sayHidden, cX12_sayHidden, 4, none, [])
abbrev MX12_read : mm_Me := (yX12_read, cX12_read, 8, (some .int), [])
abbrev MX12_bytes : mm_Me := (yX12_bytes, cX12_bytes, 1, (some .int), [])
abbrev MX12_told : mm_Me := (yX12_told, cX12_told, 2, (some .int), [])
abbrev MX12_digest : mm_Me := (yX12_digest, cX12_digest, 4, (some .int), [])
abbrev MX12_cite : mm_Me := (yX12_cite, cX12_cite, 5, (some .int), [])
abbrev MX12_shown : mm_Me := (yX12_shown, cX12_shown, 8, (some .int), [])
abbrev MX12_count : mm_Me := (yX12_count, cX12_count, 2, (some .int), [])
abbrev MJ11_isValidCodePoint_9a6ad : mm_Me := (yJ11_isValidCodePoint_9a6ad, cJ11_isValidCodePoint_9a6ad, 2, (some .boolean), [])
abbrev MJ11_highSurrogate_5068e : mm_Me := (yJ11_highSurrogate_5068e, cJ11_highSurrogate_5068e, 1, (some .char), [])
abbrev MJ11_lowSurrogate_5068e : mm_Me := (yJ11_lowSurrogate_5068e, cJ11_lowSurrogate_5068e, 1, (some .char), [])
abbrev MJ9_max_7cf53 : mm_Me := (yJ9_max_7cf53, cJ9_max_7cf53, 2, (some .int), [])
abbrev MJ9_min_7cf53 : mm_Me := (yJ9_min_7cf53, cJ9_min_7cf53, 2, (some .int), [])
abbrev MJ0_length_8abf5 : mm_Me := (yJ0_length_8abf5, cJ0_length_8abf5, 1, (some .int), [])
abbrev MJ0_charAt_5068e : mm_Me := (yJ0_charAt_5068e, cJ0_charAt_5068e, 2, (some .char), [])
abbrev MJ0_indexOf_0f7a4 : mm_Me := (yJ0_indexOf_0f7a4, cJ0_indexOf_0f7a4, 2, (some .int), [])
abbrev MJ0_indexOf_7cf53 : mm_Me := (yJ0_indexOf_7cf53, cJ0_indexOf_7cf53, 3, (some .int), [])
abbrev MJ0_coder_7d493 : mm_Me := (yJ0_coder_7d493, cJ0_coder_7d493, 1, (some .byte), [])
abbrev MJ0_isLatin1_aae02 : mm_Me := (yJ0_isLatin1_aae02, cJ0_isLatin1_aae02, 1, (some .boolean), [])
abbrev MJ0_checkIndex_df160 : mm_Me := (yJ0_checkIndex_df160, cJ0_checkIndex_df160, 2, none, [])
abbrev MJ0_checkBoundsBeginEnd_23922 : mm_Me := (yJ0_checkBoundsBeginEnd_23922, cJ0_checkBoundsBeginEnd_23922, 3, none, [])
abbrev MJ1_charAt_3b067 : mm_Me := (yJ1_charAt_3b067, cJ1_charAt_3b067, 2, (some .char), [])
abbrev MJ1_canEncode_9a6ad : mm_Me := (yJ1_canEncode_9a6ad, cJ1_canEncode_9a6ad, 1, (some .boolean), [])
abbrev MJ1_indexOf_4cfef : mm_Me := (yJ1_indexOf_4cfef, cJ1_indexOf_4cfef, 4, (some .int), [])
abbrev MJ1_indexOfChar_4cfef : mm_Me := (yJ1_indexOfChar_4cfef, cJ1_indexOfChar_4cfef, 6, (some .int), [])
abbrev MJ2_getChar_3b067 : mm_Me := (yJ2_getChar_3b067, cJ2_getChar_3b067, 2, (some .char), [])
abbrev MJ2_length_9d52b : mm_Me := (yJ2_length_9d52b, cJ2_length_9d52b, 1, (some .int), [])
abbrev MJ2_indexOf_4cfef : mm_Me := (yJ2_indexOf_4cfef, cJ2_indexOf_4cfef, 4, (some .int), [])
abbrev MJ2_indexOfChar_4cfef : mm_Me := (yJ2_indexOfChar_4cfef, cJ2_indexOfChar_4cfef, 4, (some .int), [])
abbrev MJ2_indexOfCharUnsafe_4cfef : mm_Me := (yJ2_indexOfCharUnsafe_4cfef, cJ2_indexOfCharUnsafe_4cfef, 5, (some .int), [])
abbrev MJ2_indexOfSupplementary_4cfef : mm_Me := (yJ2_indexOfSupplementary_4cfef, cJ2_indexOfSupplementary_4cfef, 7, (some .int), [])
abbrev MJ2_charAt_3b067 : mm_Me := (yJ2_charAt_3b067, cJ2_charAt_3b067, 2, (some .char), [])
abbrev MJ2_checkIndex_2214a : mm_Me := (yJ2_checkIndex_2214a, cJ2_checkIndex_2214a, 2, none, [])
abbrev MJ2_checkBoundsBeginEnd_d044e : mm_Me := (yJ2_checkBoundsBeginEnd_d044e, cJ2_checkBoundsBeginEnd_d044e, 3, none, [])
abbrev MJ7_copyOf_9075b : mm_Me := (yJ7_copyOf_9075b, cJ7_copyOf_9075b, 3, (some (.array .byte)), [])
abbrev MJ3_checkIndex_8e157 : mm_Me := (yJ3_checkIndex_8e157, cJ3_checkIndex_8e157, 3, (some .int), [])
abbrev MJ3_checkFromToIndex_8c36e : mm_Me := (yJ3_checkFromToIndex_8c36e, cJ3_checkFromToIndex_8c36e, 4, (some .int), [])
abbrev ML_sitting : mm_Me := (yL_sitting, cL_sitting, 4, (some .int), [(0, 9, 12, 13)])
abbrev ML_right : mm_Me := (yL_right, cL_right, 5, (some .int), [(0, 10, 13, 19), (0, 10, 17, 13)])
abbrev ML_days : mm_Me := (yL_days, cL_days, 4, (some .int), [(0, 9, 12, 13)])
abbrev ML_about : mm_Me := (yL_about, cL_about, 5, (some .int), [(0, 10, 13, 19)])
abbrev ML_fact : mm_Me := (yL_fact, cL_fact, 5, (some .int), [(0, 10, 13, 19)])
abbrev ML_stands : mm_Me := (yL_stands, cL_stands, 5, (some .int), [(0, 10, 13, 19)])
abbrev ML_quarrel : mm_Me := (yL_quarrel, cL_quarrel, 6, (some .int), [(0, 12, 15, 19)])
abbrev ML_mention : mm_Me := (yL_mention, cL_mention, 5, (some .int), [(0, 10, 13, 19)])
abbrev ML_name : mm_Me := (yL_name, cL_name, 5, (some .int), [(0, 10, 13, 19)])
abbrev ML_order : mm_Me := (yL_order, cL_order, 6, (some .int), [(0, 12, 15, 19)])
abbrev ML_lift : mm_Me := (yL_lift, cL_lift, 4, (some .int), [(0, 16, 19, 19)])
abbrev ML_status : mm_Me := (yL_status, cL_status, 6, (some .int), [(0, 12, 15, 19)])
abbrev ML_read : mm_Me := (yL_read, cL_read, 7, (some .int), [(0, 14, 17, 19), (0, 14, 21, 13)])
abbrev ML_told : mm_Me := (yL_told, cL_told, 4, (some .int), [(0, 9, 12, 19)])
abbrev ML_cite : mm_Me := (yL_cite, cL_cite, 5, (some .int), [(0, 10, 13, 19)])
abbrev ML_shown : mm_Me := (yL_shown, cL_shown, 5, (some .int), [(0, 10, 13, 19)])
abbrev ML_count : mm_Me := (yL_count, cL_count, 4, (some .int), [(0, 9, 12, 19)])
abbrev ML_law : mm_Me := (yL_law, cL_law, 7, (some .boolean), [])
