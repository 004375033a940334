section MMK
variable {g : mm_G} {d : Nat} {M : mm_Me} {pc : Nat} {ls ls' : List (Option Value)} {st : List Value} {h : mm_Hp} {Post : mm_Ou → mm_Hp → Prop}
/-- a thing is caught, and its handler lays it into a local, where it is forgotten -/
theorem mm_catch2 {E name : String} {k : Nat} (pre : List (Nat × Nat × Nat × Nat)) (x : Nat × Nat × Nat × Nat) (suf : List (Nat × Nat × Nat × Nat)) (hsplit : M.2.2.2.2 = pre ++ x :: suf)
    (hpass : ∀ z ∈ pre, z.2.2.2 ≠ 0 ∧ Cond.classLink M.1.cls z.2.2.2 "java/util/NoSuchElementException" ∈ mm_tb ∧ E = "java/lang/IllegalArgumentException") (hx : x.1 ≤ pc ∧ pc < x.2.1) (h0 : x.2.2.2 ≠ 0) (hlink : Cond.classLink M.1.cls x.2.2.2 name ∈ mm_tb) (hcast : Cond.castable E name ∈ mm_tb)
    (hd : decode M.2.1 x.2.2.1 = .ok (.astore k, 2)) (hk : (k : Nat) < ls.length) (hl : (mm_kl ls (k : Nat)).set (k : Nat) none = ls') (kk : mm_P g d M (x.2.2.1 + 2) ls' [] h Post) : mm_T g d M pc ls st h E Post := by
  obtain ⟨o, h', hp, k1, k2, kk⟩ := kk
  refine ⟨o, h', hp, k1, k2, fun p e R s m args below meth c H locs cells slots LS q ce X hq hv hcl => ?_⟩
  have hts := X.1.2.2.2.2.2.2.2.1
  have hF := X.1.2.2.2.2.2.2.2.2.2.1
  refine mm_catchW (E := E) (name := name) X.1.2.2.2.2.1 (tableOf pre) ⟨x.1, x.2.1, x.2.2.1, x.2.2.2⟩ (tableOf suf) (by rw [X.1.2.2.2.2.2.2.2.2.2.2.2, hsplit]; simp [tableOf]) (fun z hz => ?_) (by simp [covers]; exact hx) h0 (hts _ hlink) (hts _ hcast) hq hv hcl ?_
  · obtain ⟨z0, h1, rfl⟩ := List.mem_map.mp hz
    obtain ⟨h2, h3, h4⟩ := hpass z0 h1
    exact Or.inr ⟨h2, _, hts _ h3, by rw [h4]; exact hF.2.2.2.2.2.1⟩
  · have hL := X.2.2.2.2.2.2
    refine lv_astore X.1.1 X.1.2.1 hd hL.has hk rfl (fun LS' hL' => ?_)
    refine kk p e R s m args below meth c H locs cells slots LS' ⟨X.1, X.2.1, X.2.2.1, X.2.2.2.1, X.2.2.2.2.1, X.2.2.2.2.2.1, ?_⟩
    subst hl
    refine ⟨by rw [hL'.1]; simp [mm_kl_len], hL'.2.1, fun j u hj => ?_⟩
    rw [List.getElem?_set] at hj
    by_cases e1 : (k : Nat) = j
    · rw [if_pos e1] at hj
      split at hj <;> cases hj
    · rw [if_neg e1] at hj
      obtain ⟨h1, h2⟩ := mm_kl_at hj
      refine hL'.2.2 (j, mm_v g u) (List.mem_cons_of_mem _ (List.mem_filter.mpr ⟨mm_al_mem.mpr ⟨u, h1, rfl⟩, ?_⟩))
      have e' : ¬ j = (k : Nat) := fun z => e1 z.symm
      by_cases hc : j + 1 = (k : Nat)
      · have h3 : ¬ u.category = 2 := fun z => h2 ⟨hc, z⟩
        simp [e', hc, mm_v_cat, h3]
      · simp [e', hc]
end MMK
def lI (r : Int32 × CS × CS) : mm_Ou → mm_Hp → Prop := fun o h => o = .inl (some (.int r.1)) ∧ Rep h r.2.1 r.2.2
theorem en_lI {h : mm_Hp} {C1 D1 : CS} {v : Int32} {r : Int32 × CS × CS} (H : some (v, C1, D1) = some r) (R : Rep h C1 D1) : lI r (.inl (some (.int v))) h := by cases H; exact ⟨rfl, R⟩
theorem th_lI {g : mm_G} {d : Nat} {M : mm_Me} {pc : Nat} {ls : List (Option Value)} {st : List Value} {h1 : mm_Hp} {Post : mm_Ou → mm_Hp → Prop} {r : Int32 × CS × CS} {v : Option Value} (q : lI r (.inl v) h1) (k : Rep h1 r.2.1 r.2.2 → mm_P g d M (pc + 3) ls (.int r.1 :: st) h1 Post) : mm_P g d M (pc + 3) ls (v.toList ++ st) h1 Post := by
  obtain ⟨q1, q2⟩ := q
  cases q1
  exact k q2
theorem th_xE {g : mm_G} {d : Nat} {M : mm_Me} {pc : Nat} {ls : List (Option Value)} {st : List Value} {h1 : mm_Hp} {Post : mm_Ou → mm_Hp → Prop} {o : mm_Ou} {D C1 : CS} {E : String} (q : cXI D (.inl E, C1) o h1) (k : Rep h1 C1 D → mm_T g d M pc ls st h1 E Post) : mm_then g d M pc ls st Post o h1 := by
  obtain ⟨rfl, q2⟩ := q
  exact k q2
abbrev eN : String := "java/util/NoSuchElementException"
abbrev eI : String := "java/lang/IllegalArgumentException"
def wr1 (E0 : String) (x : Option ((String ⊕ Int32) × CS)) (D : CS) (cv : Int32 → Int64) : Option (Int32 × CS × CS) := match x with
  | none => none
  | some (.inr v, C1) => some (0, C1, sB D 146 0 (cv v))
  | some (.inl E, C1) => if E = E0 then some (1, C1, D) else none
def wr2 (x : Option ((String ⊕ Int32) × CS)) (D : CS) (cv : Int32 → Int64) : Option (Int32 × CS × CS) := match x with
  | none => none
  | some (.inr v, C1) => some (0, C1, sB D 146 0 (cv v))
  | some (.inl E, C1) => if E = eN then some (1, C1, D) else if E = eI then some (2, C1, D) else none
theorem hW1 {E0 : String} {x : Option ((String ⊕ Int32) × CS)} {D : CS} {cv : Int32 → Int64} {r : Int32 × CS × CS} (H : wr1 E0 x D cv = some r) : (∃ v C1, x = some (.inr v, C1) ∧ some (0, C1, sB D 146 0 (cv v)) = some r) ∨ (∃ C1, x = some (.inl E0, C1) ∧ some (1, C1, D) = some r) := by
  rcases x with _ | ⟨E | v, C1⟩
  · cases H
  · by_cases c : E = E0
    · subst c
      exact Or.inr ⟨C1, rfl, by rw [← H, wr1, if_pos rfl]⟩
    · rw [wr1, if_neg c] at H
      cases H
  · exact Or.inl ⟨v, C1, rfl, H⟩
theorem hW2 {x : Option ((String ⊕ Int32) × CS)} {D : CS} {cv : Int32 → Int64} {r : Int32 × CS × CS} (H : wr2 x D cv = some r) : (∃ v C1, x = some (.inr v, C1) ∧ some (0, C1, sB D 146 0 (cv v)) = some r) ∨ (∃ C1, x = some (.inl eN, C1) ∧ some (1, C1, D) = some r) ∨ (∃ C1, x = some (.inl eI, C1) ∧ some (2, C1, D) = some r) := by
  rcases x with _ | ⟨E | v, C1⟩
  · cases H
  · by_cases c : E = eN
    · subst c
      exact Or.inr (Or.inl ⟨C1, rfl, by rw [← H, wr2, if_pos rfl]⟩)
    · by_cases c2 : E = eI
      · subst c2
        exact Or.inr (Or.inr ⟨C1, rfl, by rw [← H, wr2, if_neg c, if_pos rfl]⟩)
      · rw [wr2, if_neg c, if_neg c2] at H
        cases H
  · exact Or.inl ⟨v, C1, rfl, H⟩
def cvB (x : Int32) : Int64 := if x = 0 then 0 else 1
def f_L_sitting (N : Nat) (x1 : Int32) (C D : CS) : Option (Int32 × CS × CS) := wr1 eI (f_X11_sitting N x1 C) D Int32.toInt64
theorem t_L_sitting {g : mm_G} {d : Nat} {h : mm_Hp} {C D : CS} {N : Nat} {x1 : Int32} {r : Int32 × CS × CS} (hd : 8 ≤ d) (R : Rep h C D) (H : f_L_sitting N x1 C D = some r) : mm_P g d ML_sitting 0 [some (.ref 64), some (.int x1), some (.ref 146), none] [] h (lI r) := by
  unfold f_L_sitting at H
  refine mm_aload_n dL_sitting_0 rfl ?_
  refine mm_iconst (v := 0) dL_sitting_1 (by decide +kernel) ?_
  refine mm_aload_n dL_sitting_2 rfl ?_
  refine mm_iload_n dL_sitting_3 rfl ?_
  rcases hW1 H with ⟨v, C1, H1, H⟩ | ⟨C1, H1, H⟩
  · refine mm_callV (d' := d - 1) (as := [.int x1]) (st := [.int 0, .ref 146]) (dS hd) cm_X11_sitting (mm_t3 53 rfl rfl) (mm_t3 54 rfl rfl) (mm_t3 55 rfl rfl) (T := TX11) (N := 14) rfl dL_sitting_4 (R.oC (r := 64) rfl lay_64) rfl (Nat.le_of_ble_eq_true rfl) (Nat.le_of_ble_eq_true rfl) rfl rfl (t_X11_sitting (dL hd (by decide)) R H1) (fun o h q => th_xI q (fun R => ?_))
    refine mm_i2l dL_sitting_7 ?_
    refine rD_last lay_146 rfl dL_sitting_8 R rfl rfl (fun h R => ?_)
    refine mm_goto 15 dL_sitting_9 (by decide) ?_
    refine mm_iconst (v := 0) dL_sitting_15 (by decide +kernel) ?_
    refine mm_iret rfl rfl dL_sitting_16 ?_
    exact en_lI H R
  · refine mm_callV (d' := d - 1) (as := [.int x1]) (st := [.int 0, .ref 146]) (dS hd) cm_X11_sitting (mm_t3 53 rfl rfl) (mm_t3 54 rfl rfl) (mm_t3 55 rfl rfl) (T := TX11) (N := 14) rfl dL_sitting_4 (R.oC (r := 64) rfl lay_64) rfl (Nat.le_of_ble_eq_true rfl) (Nat.le_of_ble_eq_true rfl) rfl rfl (t_X11_sitting (dL hd (by decide)) R H1) (fun o h q => th_xE q (fun R => ?_))
    refine mm_catch (name := "java/lang/IllegalArgumentException") [] (0, 9, 12, 13) [] rfl (fun z hz => absurd hz List.not_mem_nil) ⟨by decide, by decide⟩ (by decide) (mm_t3 52 rfl rfl) (mm_t3 63 rfl rfl) dL_sitting_12 (Nat.le_of_ble_eq_true rfl) (ls' := [some (.ref 64), some (.int x1), some (.ref 146), none]) rfl ?_
    refine mm_iconst (v := 1) dL_sitting_13 (by decide +kernel) ?_
    refine mm_iret rfl rfl dL_sitting_14 ?_
    exact en_lI H R
def f_L_right (N : Nat) (x1 : Int32) (x2 : Int32) (C D : CS) : Option (Int32 × CS × CS) := wr2 (f_X11_right N x1 x2 C) D Int32.toInt64
theorem t_L_right {g : mm_G} {d : Nat} {h : mm_Hp} {C D : CS} {N : Nat} {x1 : Int32} {x2 : Int32} {r : Int32 × CS × CS} (hd : 8 ≤ d) (R : Rep h C D) (H : f_L_right N x1 x2 C D = some r) : mm_P g d ML_right 0 [some (.ref 64), some (.int x1), some (.int x2), some (.ref 146), none] [] h (lI r) := by
  unfold f_L_right at H
  refine mm_aload_n dL_right_0 rfl ?_
  refine mm_iconst (v := 0) dL_right_1 (by decide +kernel) ?_
  refine mm_aload_n dL_right_2 rfl ?_
  refine mm_iload_n dL_right_3 rfl ?_
  refine mm_iload_n dL_right_4 rfl ?_
  rcases hW2 H with ⟨v, C1, H1, H⟩ | ⟨C1, H1, H⟩ | ⟨C1, H1, H⟩
  · refine mm_callV (d' := d - 1) (as := [.int x1, .int x2]) (st := [.int 0, .ref 146]) (dS hd) cm_X11_right (mm_t4 170 rfl rfl) (mm_t4 171 rfl rfl) (mm_t4 172 rfl rfl) (T := TX11) (N := 14) rfl dL_right_5 (R.oC (r := 64) rfl lay_64) rfl (Nat.le_of_ble_eq_true rfl) (Nat.le_of_ble_eq_true rfl) rfl rfl (t_X11_right (dL hd (by decide)) R H1) (fun o h q => th_xI q (fun R => ?_))
    refine mm_i2l dL_right_8 ?_
    refine rD_last lay_146 rfl dL_right_9 R rfl rfl (fun h R => ?_)
    refine mm_goto 21 dL_right_10 (by decide) ?_
    refine mm_iconst (v := 0) dL_right_21 (by decide +kernel) ?_
    refine mm_iret rfl rfl dL_right_22 ?_
    exact en_lI H R
  · refine mm_callV (d' := d - 1) (as := [.int x1, .int x2]) (st := [.int 0, .ref 146]) (dS hd) cm_X11_right (mm_t4 170 rfl rfl) (mm_t4 171 rfl rfl) (mm_t4 172 rfl rfl) (T := TX11) (N := 14) rfl dL_right_5 (R.oC (r := 64) rfl lay_64) rfl (Nat.le_of_ble_eq_true rfl) (Nat.le_of_ble_eq_true rfl) rfl rfl (t_X11_right (dL hd (by decide)) R H1) (fun o h q => th_xE q (fun R => ?_))
    refine mm_catch2 (k := 4) (name := "java/util/NoSuchElementException") [] (0, 10, 13, 19) [(0, 10, 17, 13)] rfl (fun z hz => absurd hz List.not_mem_nil) ⟨by decide, by decide⟩ (by decide) (mm_t4 169 rfl rfl) (mm_t4 180 rfl rfl) dL_right_13 (Nat.le_of_ble_eq_true rfl) (ls' := [some (.ref 64), some (.int x1), some (.int x2), some (.ref 146), none]) rfl ?_
    refine mm_iconst (v := 1) dL_right_15 (by decide +kernel) ?_
    refine mm_iret rfl rfl dL_right_16 ?_
    exact en_lI H R
  · refine mm_callV (d' := d - 1) (as := [.int x1, .int x2]) (st := [.int 0, .ref 146]) (dS hd) cm_X11_right (mm_t4 170 rfl rfl) (mm_t4 171 rfl rfl) (mm_t4 172 rfl rfl) (T := TX11) (N := 14) rfl dL_right_5 (R.oC (r := 64) rfl lay_64) rfl (Nat.le_of_ble_eq_true rfl) (Nat.le_of_ble_eq_true rfl) rfl rfl (t_X11_right (dL hd (by decide)) R H1) (fun o h q => th_xE q (fun R => ?_))
    refine mm_catch2 (k := 4) (name := "java/lang/IllegalArgumentException") [(0, 10, 13, 19)] (0, 10, 17, 13) [] rfl (fun z hz => by cases hz with | head => exact ⟨by decide, (mm_t4 169 rfl rfl), rfl⟩ | tail _ hz => exact absurd hz List.not_mem_nil) ⟨by decide, by decide⟩ (by decide) (mm_t3 52 rfl rfl) (mm_t3 63 rfl rfl) dL_right_17 (Nat.le_of_ble_eq_true rfl) (ls' := [some (.ref 64), some (.int x1), some (.int x2), some (.ref 146), none]) rfl ?_
    refine mm_iconst (v := 2) dL_right_19 (by decide +kernel) ?_
    refine mm_iret rfl rfl dL_right_20 ?_
    exact en_lI H R
def f_L_days (x1 : Int32) (C D : CS) : Option (Int32 × CS × CS) := wr1 eI (f_X11_days x1 C) D Int32.toInt64
theorem t_L_days {g : mm_G} {d : Nat} {h : mm_Hp} {C D : CS} {x1 : Int32} {r : Int32 × CS × CS} (hd : 7 ≤ d) (R : Rep h C D) (H : f_L_days x1 C D = some r) : mm_P g d ML_days 0 [some (.ref 64), some (.int x1), some (.ref 146), none] [] h (lI r) := by
  unfold f_L_days at H
  refine mm_aload_n dL_days_0 rfl ?_
  refine mm_iconst (v := 0) dL_days_1 (by decide +kernel) ?_
  refine mm_aload_n dL_days_2 rfl ?_
  refine mm_iload_n dL_days_3 rfl ?_
  rcases hW1 H with ⟨v, C1, H1, H⟩ | ⟨C1, H1, H⟩
  · refine mm_callV (d' := d - 1) (as := [.int x1]) (st := [.int 0, .ref 146]) (dS hd) cm_X11_days (mm_t4 205 rfl rfl) (mm_t4 206 rfl rfl) (mm_t4 207 rfl rfl) (T := TX11) (N := 14) rfl dL_days_4 (R.oC (r := 64) rfl lay_64) rfl (Nat.le_of_ble_eq_true rfl) (Nat.le_of_ble_eq_true rfl) rfl rfl (t_X11_days (dL hd (by decide)) R H1) (fun o h q => th_xI q (fun R => ?_))
    refine mm_i2l dL_days_7 ?_
    refine rD_last lay_146 rfl dL_days_8 R rfl rfl (fun h R => ?_)
    refine mm_goto 15 dL_days_9 (by decide) ?_
    refine mm_iconst (v := 0) dL_days_15 (by decide +kernel) ?_
    refine mm_iret rfl rfl dL_days_16 ?_
    exact en_lI H R
  · refine mm_callV (d' := d - 1) (as := [.int x1]) (st := [.int 0, .ref 146]) (dS hd) cm_X11_days (mm_t4 205 rfl rfl) (mm_t4 206 rfl rfl) (mm_t4 207 rfl rfl) (T := TX11) (N := 14) rfl dL_days_4 (R.oC (r := 64) rfl lay_64) rfl (Nat.le_of_ble_eq_true rfl) (Nat.le_of_ble_eq_true rfl) rfl rfl (t_X11_days (dL hd (by decide)) R H1) (fun o h q => th_xE q (fun R => ?_))
    refine mm_catch (name := "java/lang/IllegalArgumentException") [] (0, 9, 12, 13) [] rfl (fun z hz => absurd hz List.not_mem_nil) ⟨by decide, by decide⟩ (by decide) (mm_t3 52 rfl rfl) (mm_t3 63 rfl rfl) dL_days_12 (Nat.le_of_ble_eq_true rfl) (ls' := [some (.ref 64), some (.int x1), some (.ref 146), none]) rfl ?_
    refine mm_iconst (v := 1) dL_days_13 (by decide +kernel) ?_
    refine mm_iret rfl rfl dL_days_14 ?_
    exact en_lI H R
def f_L_about (N : Nat) (x1 : Int32) (x2 : Int32) (C D : CS) : Option (Int32 × CS × CS) := wr1 eN (f_X11_about N x1 x2 C) D Int32.toInt64
theorem t_L_about {g : mm_G} {d : Nat} {h : mm_Hp} {C D : CS} {N : Nat} {x1 : Int32} {x2 : Int32} {r : Int32 × CS × CS} (hd : 8 ≤ d) (R : Rep h C D) (H : f_L_about N x1 x2 C D = some r) : mm_P g d ML_about 0 [some (.ref 64), some (.int x1), some (.int x2), some (.ref 146), none] [] h (lI r) := by
  unfold f_L_about at H
  refine mm_aload_n dL_about_0 rfl ?_
  refine mm_iconst (v := 0) dL_about_1 (by decide +kernel) ?_
  refine mm_aload_n dL_about_2 rfl ?_
  refine mm_iload_n dL_about_3 rfl ?_
  refine mm_iload_n dL_about_4 rfl ?_
  rcases hW1 H with ⟨v, C1, H1, H⟩ | ⟨C1, H1, H⟩
  · refine mm_callV (d' := d - 1) (as := [.int x1, .int x2]) (st := [.int 0, .ref 146]) (dS hd) cm_X11_about (mm_t4 214 rfl rfl) (mm_t4 215 rfl rfl) (mm_t4 216 rfl rfl) (T := TX11) (N := 14) rfl dL_about_5 (R.oC (r := 64) rfl lay_64) rfl (Nat.le_of_ble_eq_true rfl) (Nat.le_of_ble_eq_true rfl) rfl rfl (t_X11_about (dL hd (by decide)) R H1) (fun o h q => th_xI q (fun R => ?_))
    refine mm_i2l dL_about_8 ?_
    refine rD_last lay_146 rfl dL_about_9 R rfl rfl (fun h R => ?_)
    refine mm_goto 17 dL_about_10 (by decide) ?_
    refine mm_iconst (v := 0) dL_about_17 (by decide +kernel) ?_
    refine mm_iret rfl rfl dL_about_18 ?_
    exact en_lI H R
  · refine mm_callV (d' := d - 1) (as := [.int x1, .int x2]) (st := [.int 0, .ref 146]) (dS hd) cm_X11_about (mm_t4 214 rfl rfl) (mm_t4 215 rfl rfl) (mm_t4 216 rfl rfl) (T := TX11) (N := 14) rfl dL_about_5 (R.oC (r := 64) rfl lay_64) rfl (Nat.le_of_ble_eq_true rfl) (Nat.le_of_ble_eq_true rfl) rfl rfl (t_X11_about (dL hd (by decide)) R H1) (fun o h q => th_xE q (fun R => ?_))
    refine mm_catch2 (k := 4) (name := "java/util/NoSuchElementException") [] (0, 10, 13, 19) [] rfl (fun z hz => absurd hz List.not_mem_nil) ⟨by decide, by decide⟩ (by decide) (mm_t4 169 rfl rfl) (mm_t4 180 rfl rfl) dL_about_13 (Nat.le_of_ble_eq_true rfl) (ls' := [some (.ref 64), some (.int x1), some (.int x2), some (.ref 146), none]) rfl ?_
    refine mm_iconst (v := 1) dL_about_15 (by decide +kernel) ?_
    refine mm_iret rfl rfl dL_about_16 ?_
    exact en_lI H R
def f_L_fact (x1 : Int32) (x2 : Int32) (C D : CS) : Option (Int32 × CS × CS) := wr1 eN (f_X11_fact x1 x2 C) D Int32.toInt64
theorem t_L_fact {g : mm_G} {d : Nat} {h : mm_Hp} {C D : CS} {x1 : Int32} {x2 : Int32} {r : Int32 × CS × CS} (hd : 8 ≤ d) (R : Rep h C D) (H : f_L_fact x1 x2 C D = some r) : mm_P g d ML_fact 0 [some (.ref 64), some (.int x1), some (.int x2), some (.ref 146), none] [] h (lI r) := by
  unfold f_L_fact at H
  refine mm_aload_n dL_fact_0 rfl ?_
  refine mm_iconst (v := 0) dL_fact_1 (by decide +kernel) ?_
  refine mm_aload_n dL_fact_2 rfl ?_
  refine mm_iload_n dL_fact_3 rfl ?_
  refine mm_iload_n dL_fact_4 rfl ?_
  rcases hW1 H with ⟨v, C1, H1, H⟩ | ⟨C1, H1, H⟩
  · refine mm_callV (d' := d - 1) (as := [.int x1, .int x2]) (st := [.int 0, .ref 146]) (dS hd) cm_X11_fact (mm_t4 227 rfl rfl) (mm_t4 228 rfl rfl) (mm_t4 229 rfl rfl) (T := TX11) (N := 14) rfl dL_fact_5 (R.oC (r := 64) rfl lay_64) rfl (Nat.le_of_ble_eq_true rfl) (Nat.le_of_ble_eq_true rfl) rfl rfl (t_X11_fact (dL hd (by decide)) R H1) (fun o h q => th_xI q (fun R => ?_))
    refine mm_i2l dL_fact_8 ?_
    refine rD_last lay_146 rfl dL_fact_9 R rfl rfl (fun h R => ?_)
    refine mm_goto 17 dL_fact_10 (by decide) ?_
    refine mm_iconst (v := 0) dL_fact_17 (by decide +kernel) ?_
    refine mm_iret rfl rfl dL_fact_18 ?_
    exact en_lI H R
  · refine mm_callV (d' := d - 1) (as := [.int x1, .int x2]) (st := [.int 0, .ref 146]) (dS hd) cm_X11_fact (mm_t4 227 rfl rfl) (mm_t4 228 rfl rfl) (mm_t4 229 rfl rfl) (T := TX11) (N := 14) rfl dL_fact_5 (R.oC (r := 64) rfl lay_64) rfl (Nat.le_of_ble_eq_true rfl) (Nat.le_of_ble_eq_true rfl) rfl rfl (t_X11_fact (dL hd (by decide)) R H1) (fun o h q => th_xE q (fun R => ?_))
    refine mm_catch2 (k := 4) (name := "java/util/NoSuchElementException") [] (0, 10, 13, 19) [] rfl (fun z hz => absurd hz List.not_mem_nil) ⟨by decide, by decide⟩ (by decide) (mm_t4 169 rfl rfl) (mm_t4 180 rfl rfl) dL_fact_13 (Nat.le_of_ble_eq_true rfl) (ls' := [some (.ref 64), some (.int x1), some (.int x2), some (.ref 146), none]) rfl ?_
    refine mm_iconst (v := 1) dL_fact_15 (by decide +kernel) ?_
    refine mm_iret rfl rfl dL_fact_16 ?_
    exact en_lI H R
def f_L_stands (N : Nat) (x1 : Int32) (x2 : Int32) (C D : CS) : Option (Int32 × CS × CS) := wr1 eN (f_X11_stands N x1 x2 C) D Int32.toInt64
theorem t_L_stands {g : mm_G} {d : Nat} {h : mm_Hp} {C D : CS} {N : Nat} {x1 : Int32} {x2 : Int32} {r : Int32 × CS × CS} (hd : 8 ≤ d) (R : Rep h C D) (H : f_L_stands N x1 x2 C D = some r) : mm_P g d ML_stands 0 [some (.ref 64), some (.int x1), some (.int x2), some (.ref 146), none] [] h (lI r) := by
  unfold f_L_stands at H
  refine mm_aload_n dL_stands_0 rfl ?_
  refine mm_iconst (v := 0) dL_stands_1 (by decide +kernel) ?_
  refine mm_aload_n dL_stands_2 rfl ?_
  refine mm_iload_n dL_stands_3 rfl ?_
  refine mm_iload_n dL_stands_4 rfl ?_
  rcases hW1 H with ⟨v, C1, H1, H⟩ | ⟨C1, H1, H⟩
  · refine mm_callV (d' := d - 1) (as := [.int x1, .int x2]) (st := [.int 0, .ref 146]) (dS hd) cm_X11_stands (mm_t4 237 rfl rfl) (mm_t4 238 rfl rfl) (mm_t4 239 rfl rfl) (T := TX11) (N := 14) rfl dL_stands_5 (R.oC (r := 64) rfl lay_64) rfl (Nat.le_of_ble_eq_true rfl) (Nat.le_of_ble_eq_true rfl) rfl rfl (t_X11_stands (dL hd (by decide)) R H1) (fun o h q => th_xI q (fun R => ?_))
    refine mm_i2l dL_stands_8 ?_
    refine rD_last lay_146 rfl dL_stands_9 R rfl rfl (fun h R => ?_)
    refine mm_goto 17 dL_stands_10 (by decide) ?_
    refine mm_iconst (v := 0) dL_stands_17 (by decide +kernel) ?_
    refine mm_iret rfl rfl dL_stands_18 ?_
    exact en_lI H R
  · refine mm_callV (d' := d - 1) (as := [.int x1, .int x2]) (st := [.int 0, .ref 146]) (dS hd) cm_X11_stands (mm_t4 237 rfl rfl) (mm_t4 238 rfl rfl) (mm_t4 239 rfl rfl) (T := TX11) (N := 14) rfl dL_stands_5 (R.oC (r := 64) rfl lay_64) rfl (Nat.le_of_ble_eq_true rfl) (Nat.le_of_ble_eq_true rfl) rfl rfl (t_X11_stands (dL hd (by decide)) R H1) (fun o h q => th_xE q (fun R => ?_))
    refine mm_catch2 (k := 4) (name := "java/util/NoSuchElementException") [] (0, 10, 13, 19) [] rfl (fun z hz => absurd hz List.not_mem_nil) ⟨by decide, by decide⟩ (by decide) (mm_t4 169 rfl rfl) (mm_t4 180 rfl rfl) dL_stands_13 (Nat.le_of_ble_eq_true rfl) (ls' := [some (.ref 64), some (.int x1), some (.int x2), some (.ref 146), none]) rfl ?_
    refine mm_iconst (v := 1) dL_stands_15 (by decide +kernel) ?_
    refine mm_iret rfl rfl dL_stands_16 ?_
    exact en_lI H R
def f_L_quarrel (N : Nat) (x1 : Int32) (x2 : Int32) (x3 : Int32) (C D : CS) : Option (Int32 × CS × CS) := wr1 eN (f_X11_quarrel N x1 x2 x3 C) D Int32.toInt64
theorem t_L_quarrel {g : mm_G} {d : Nat} {h : mm_Hp} {C D : CS} {N : Nat} {x1 : Int32} {x2 : Int32} {x3 : Int32} {r : Int32 × CS × CS} (hd : 8 ≤ d) (R : Rep h C D) (H : f_L_quarrel N x1 x2 x3 C D = some r) : mm_P g d ML_quarrel 0 [some (.ref 64), some (.int x1), some (.int x2), some (.int x3), some (.ref 146), none] [] h (lI r) := by
  unfold f_L_quarrel at H
  refine mm_aload dL_quarrel_0 rfl ?_
  refine mm_iconst (v := 0) dL_quarrel_2 (by decide +kernel) ?_
  refine mm_aload_n dL_quarrel_3 rfl ?_
  refine mm_iload_n dL_quarrel_4 rfl ?_
  refine mm_iload_n dL_quarrel_5 rfl ?_
  refine mm_iload_n dL_quarrel_6 rfl ?_
  rcases hW1 H with ⟨v, C1, H1, H⟩ | ⟨C1, H1, H⟩
  · refine mm_callV (d' := d - 1) (as := [.int x1, .int x2, .int x3]) (st := [.int 0, .ref 146]) (dS hd) cm_X11_quarrel (mm_t5 5 rfl rfl) (mm_t5 6 rfl rfl) (mm_t5 7 rfl rfl) (T := TX11) (N := 14) rfl dL_quarrel_7 (R.oC (r := 64) rfl lay_64) rfl (Nat.le_of_ble_eq_true rfl) (Nat.le_of_ble_eq_true rfl) rfl rfl (t_X11_quarrel (dL hd (by decide)) R H1) (fun o h q => th_xI q (fun R => ?_))
    refine mm_i2l dL_quarrel_10 ?_
    refine rD_last lay_146 rfl dL_quarrel_11 R rfl rfl (fun h R => ?_)
    refine mm_goto 19 dL_quarrel_12 (by decide) ?_
    refine mm_iconst (v := 0) dL_quarrel_19 (by decide +kernel) ?_
    refine mm_iret rfl rfl dL_quarrel_20 ?_
    exact en_lI H R
  · refine mm_callV (d' := d - 1) (as := [.int x1, .int x2, .int x3]) (st := [.int 0, .ref 146]) (dS hd) cm_X11_quarrel (mm_t5 5 rfl rfl) (mm_t5 6 rfl rfl) (mm_t5 7 rfl rfl) (T := TX11) (N := 14) rfl dL_quarrel_7 (R.oC (r := 64) rfl lay_64) rfl (Nat.le_of_ble_eq_true rfl) (Nat.le_of_ble_eq_true rfl) rfl rfl (t_X11_quarrel (dL hd (by decide)) R H1) (fun o h q => th_xE q (fun R => ?_))
    refine mm_catch2 (k := 5) (name := "java/util/NoSuchElementException") [] (0, 12, 15, 19) [] rfl (fun z hz => absurd hz List.not_mem_nil) ⟨by decide, by decide⟩ (by decide) (mm_t4 169 rfl rfl) (mm_t4 180 rfl rfl) dL_quarrel_15 (Nat.le_of_ble_eq_true rfl) (ls' := [some (.ref 64), some (.int x1), some (.int x2), some (.int x3), some (.ref 146), none]) rfl ?_
    refine mm_iconst (v := 1) dL_quarrel_17 (by decide +kernel) ?_
    refine mm_iret rfl rfl dL_quarrel_18 ?_
    exact en_lI H R
def f_L_mention (x1 : Int32) (x2 : Int32) (C D : CS) : Option (Int32 × CS × CS) := wr1 eN (f_X11_mention x1 x2 C) D Int32.toInt64
theorem t_L_mention {g : mm_G} {d : Nat} {h : mm_Hp} {C D : CS} {x1 : Int32} {x2 : Int32} {r : Int32 × CS × CS} (hd : 8 ≤ d) (R : Rep h C D) (H : f_L_mention x1 x2 C D = some r) : mm_P g d ML_mention 0 [some (.ref 64), some (.int x1), some (.int x2), some (.ref 146), none] [] h (lI r) := by
  unfold f_L_mention at H
  refine mm_aload_n dL_mention_0 rfl ?_
  refine mm_iconst (v := 0) dL_mention_1 (by decide +kernel) ?_
  refine mm_aload_n dL_mention_2 rfl ?_
  refine mm_iload_n dL_mention_3 rfl ?_
  refine mm_iload_n dL_mention_4 rfl ?_
  rcases hW1 H with ⟨v, C1, H1, H⟩ | ⟨C1, H1, H⟩
  · refine mm_callV (d' := d - 1) (as := [.int x1, .int x2]) (st := [.int 0, .ref 146]) (dS hd) cm_X11_mention (mm_t5 12 rfl rfl) (mm_t5 13 rfl rfl) (mm_t5 14 rfl rfl) (T := TX11) (N := 14) rfl dL_mention_5 (R.oC (r := 64) rfl lay_64) rfl (Nat.le_of_ble_eq_true rfl) (Nat.le_of_ble_eq_true rfl) rfl rfl (t_X11_mention (dL hd (by decide)) R H1) (fun o h q => th_xI q (fun R => ?_))
    refine mm_i2l dL_mention_8 ?_
    refine rD_last lay_146 rfl dL_mention_9 R rfl rfl (fun h R => ?_)
    refine mm_goto 17 dL_mention_10 (by decide) ?_
    refine mm_iconst (v := 0) dL_mention_17 (by decide +kernel) ?_
    refine mm_iret rfl rfl dL_mention_18 ?_
    exact en_lI H R
  · refine mm_callV (d' := d - 1) (as := [.int x1, .int x2]) (st := [.int 0, .ref 146]) (dS hd) cm_X11_mention (mm_t5 12 rfl rfl) (mm_t5 13 rfl rfl) (mm_t5 14 rfl rfl) (T := TX11) (N := 14) rfl dL_mention_5 (R.oC (r := 64) rfl lay_64) rfl (Nat.le_of_ble_eq_true rfl) (Nat.le_of_ble_eq_true rfl) rfl rfl (t_X11_mention (dL hd (by decide)) R H1) (fun o h q => th_xE q (fun R => ?_))
    refine mm_catch2 (k := 4) (name := "java/util/NoSuchElementException") [] (0, 10, 13, 19) [] rfl (fun z hz => absurd hz List.not_mem_nil) ⟨by decide, by decide⟩ (by decide) (mm_t4 169 rfl rfl) (mm_t4 180 rfl rfl) dL_mention_13 (Nat.le_of_ble_eq_true rfl) (ls' := [some (.ref 64), some (.int x1), some (.int x2), some (.ref 146), none]) rfl ?_
    refine mm_iconst (v := 1) dL_mention_15 (by decide +kernel) ?_
    refine mm_iret rfl rfl dL_mention_16 ?_
    exact en_lI H R
def f_L_name (N : Nat) (x1 : Int32) (x2 : Int32) (C D : CS) : Option (Int32 × CS × CS) := wr1 eN (f_X11_name N x1 x2 C) D Int32.toInt64
theorem t_L_name {g : mm_G} {d : Nat} {h : mm_Hp} {C D : CS} {N : Nat} {x1 : Int32} {x2 : Int32} {r : Int32 × CS × CS} (hd : 8 ≤ d) (R : Rep h C D) (H : f_L_name N x1 x2 C D = some r) : mm_P g d ML_name 0 [some (.ref 64), some (.int x1), some (.int x2), some (.ref 146), none] [] h (lI r) := by
  unfold f_L_name at H
  refine mm_aload_n dL_name_0 rfl ?_
  refine mm_iconst (v := 0) dL_name_1 (by decide +kernel) ?_
  refine mm_aload_n dL_name_2 rfl ?_
  refine mm_iload_n dL_name_3 rfl ?_
  refine mm_iload_n dL_name_4 rfl ?_
  rcases hW1 H with ⟨v, C1, H1, H⟩ | ⟨C1, H1, H⟩
  · refine mm_callV (d' := d - 1) (as := [.int x1, .int x2]) (st := [.int 0, .ref 146]) (dS hd) cm_X11_name (mm_t5 22 rfl rfl) (mm_t5 23 rfl rfl) (mm_t5 24 rfl rfl) (T := TX11) (N := 14) rfl dL_name_5 (R.oC (r := 64) rfl lay_64) rfl (Nat.le_of_ble_eq_true rfl) (Nat.le_of_ble_eq_true rfl) rfl rfl (t_X11_name (dL hd (by decide)) R H1) (fun o h q => th_xI q (fun R => ?_))
    refine mm_i2l dL_name_8 ?_
    refine rD_last lay_146 rfl dL_name_9 R rfl rfl (fun h R => ?_)
    refine mm_goto 17 dL_name_10 (by decide) ?_
    refine mm_iconst (v := 0) dL_name_17 (by decide +kernel) ?_
    refine mm_iret rfl rfl dL_name_18 ?_
    exact en_lI H R
  · refine mm_callV (d' := d - 1) (as := [.int x1, .int x2]) (st := [.int 0, .ref 146]) (dS hd) cm_X11_name (mm_t5 22 rfl rfl) (mm_t5 23 rfl rfl) (mm_t5 24 rfl rfl) (T := TX11) (N := 14) rfl dL_name_5 (R.oC (r := 64) rfl lay_64) rfl (Nat.le_of_ble_eq_true rfl) (Nat.le_of_ble_eq_true rfl) rfl rfl (t_X11_name (dL hd (by decide)) R H1) (fun o h q => th_xE q (fun R => ?_))
    refine mm_catch2 (k := 4) (name := "java/util/NoSuchElementException") [] (0, 10, 13, 19) [] rfl (fun z hz => absurd hz List.not_mem_nil) ⟨by decide, by decide⟩ (by decide) (mm_t4 169 rfl rfl) (mm_t4 180 rfl rfl) dL_name_13 (Nat.le_of_ble_eq_true rfl) (ls' := [some (.ref 64), some (.int x1), some (.int x2), some (.ref 146), none]) rfl ?_
    refine mm_iconst (v := 1) dL_name_15 (by decide +kernel) ?_
    refine mm_iret rfl rfl dL_name_16 ?_
    exact en_lI H R
def f_L_order (x1 : Int32) (x2 : Int32) (x3 : Int32) (C D : CS) : Option (Int32 × CS × CS) := wr1 eN (f_X11_order x1 x2 x3 C) D Int32.toInt64
theorem t_L_order {g : mm_G} {d : Nat} {h : mm_Hp} {C D : CS} {x1 : Int32} {x2 : Int32} {x3 : Int32} {r : Int32 × CS × CS} (hd : 9 ≤ d) (R : Rep h C D) (H : f_L_order x1 x2 x3 C D = some r) : mm_P g d ML_order 0 [some (.ref 64), some (.int x1), some (.int x2), some (.int x3), some (.ref 146), none] [] h (lI r) := by
  unfold f_L_order at H
  refine mm_aload dL_order_0 rfl ?_
  refine mm_iconst (v := 0) dL_order_2 (by decide +kernel) ?_
  refine mm_aload_n dL_order_3 rfl ?_
  refine mm_iload_n dL_order_4 rfl ?_
  refine mm_iload_n dL_order_5 rfl ?_
  refine mm_iload_n dL_order_6 rfl ?_
  rcases hW1 H with ⟨v, C1, H1, H⟩ | ⟨C1, H1, H⟩
  · refine mm_callV (d' := d - 1) (as := [.int x1, .int x2, .int x3]) (st := [.int 0, .ref 146]) (dS hd) cm_X11_order (mm_t5 38 rfl rfl) (mm_t5 39 rfl rfl) (mm_t5 40 rfl rfl) (T := TX11) (N := 14) rfl dL_order_7 (R.oC (r := 64) rfl lay_64) rfl (Nat.le_of_ble_eq_true rfl) (Nat.le_of_ble_eq_true rfl) rfl rfl (t_X11_order (dL hd (by decide)) R H1) (fun o h q => th_xI q (fun R => ?_))
    refine mm_i2l dL_order_10 ?_
    refine rD_last lay_146 rfl dL_order_11 R rfl rfl (fun h R => ?_)
    refine mm_goto 19 dL_order_12 (by decide) ?_
    refine mm_iconst (v := 0) dL_order_19 (by decide +kernel) ?_
    refine mm_iret rfl rfl dL_order_20 ?_
    exact en_lI H R
  · refine mm_callV (d' := d - 1) (as := [.int x1, .int x2, .int x3]) (st := [.int 0, .ref 146]) (dS hd) cm_X11_order (mm_t5 38 rfl rfl) (mm_t5 39 rfl rfl) (mm_t5 40 rfl rfl) (T := TX11) (N := 14) rfl dL_order_7 (R.oC (r := 64) rfl lay_64) rfl (Nat.le_of_ble_eq_true rfl) (Nat.le_of_ble_eq_true rfl) rfl rfl (t_X11_order (dL hd (by decide)) R H1) (fun o h q => th_xE q (fun R => ?_))
    refine mm_catch2 (k := 5) (name := "java/util/NoSuchElementException") [] (0, 12, 15, 19) [] rfl (fun z hz => absurd hz List.not_mem_nil) ⟨by decide, by decide⟩ (by decide) (mm_t4 169 rfl rfl) (mm_t4 180 rfl rfl) dL_order_15 (Nat.le_of_ble_eq_true rfl) (ls' := [some (.ref 64), some (.int x1), some (.int x2), some (.int x3), some (.ref 146), none]) rfl ?_
    refine mm_iconst (v := 1) dL_order_17 (by decide +kernel) ?_
    refine mm_iret rfl rfl dL_order_18 ?_
    exact en_lI H R
def f_L_lift (x1 : Int32) (C D : CS) : Option (Int32 × CS × CS) := wr1 eN (f_X11_lift x1 C) D cvB
theorem t_L_lift {g : mm_G} {d : Nat} {h : mm_Hp} {C D : CS} {x1 : Int32} {r : Int32 × CS × CS} (hd : 8 ≤ d) (R : Rep h C D) (H : f_L_lift x1 C D = some r) : mm_P g d ML_lift 0 [some (.ref 64), some (.int x1), some (.ref 146), none] [] h (lI r) := by
  unfold f_L_lift at H
  refine mm_aload_n dL_lift_0 rfl ?_
  refine mm_iconst (v := 0) dL_lift_1 (by decide +kernel) ?_
  refine mm_aload_n dL_lift_2 rfl ?_
  refine mm_iload_n dL_lift_3 rfl ?_
  rcases hW1 H with ⟨v, C1, H1, H⟩ | ⟨C1, H1, H⟩
  · refine mm_callV (d' := d - 1) (as := [.int x1]) (st := [.int 0, .ref 146]) (dS hd) cm_X11_lift (mm_t5 59 rfl rfl) (mm_t5 60 rfl rfl) (mm_t5 61 rfl rfl) (T := TX11) (N := 14) rfl dL_lift_4 (R.oC (r := 64) rfl lay_64) rfl (Nat.le_of_ble_eq_true rfl) (Nat.le_of_ble_eq_true rfl) rfl rfl (t_X11_lift (dL hd (by decide)) R H1) (fun o h q => th_xI q (fun R => ?_))
    refine mm_if_eq 14 dL_lift_7 (by decide) (fun c => ?_) (fun c => ?_)
    · refine mm_lconst (v := 0) dL_lift_14 (by decide +kernel) ?_
      refine rD_last lay_146 rfl dL_lift_15 R rfl rfl (fun h R => ?_)
      refine mm_goto 22 dL_lift_16 (by decide) ?_
      refine mm_iconst (v := 0) dL_lift_22 (by decide +kernel) ?_
      refine mm_iret rfl rfl dL_lift_23 ?_
      rw [cvB, if_pos c] at H
      exact en_lI H R
    · refine mm_lconst (v := 1) dL_lift_10 (by decide +kernel) ?_
      refine mm_goto 15 dL_lift_11 (by decide) ?_
      refine rD_last lay_146 rfl dL_lift_15 R rfl rfl (fun h R => ?_)
      refine mm_goto 22 dL_lift_16 (by decide) ?_
      refine mm_iconst (v := 0) dL_lift_22 (by decide +kernel) ?_
      refine mm_iret rfl rfl dL_lift_23 ?_
      rw [cvB, if_neg c] at H
      exact en_lI H R
  · refine mm_callV (d' := d - 1) (as := [.int x1]) (st := [.int 0, .ref 146]) (dS hd) cm_X11_lift (mm_t5 59 rfl rfl) (mm_t5 60 rfl rfl) (mm_t5 61 rfl rfl) (T := TX11) (N := 14) rfl dL_lift_4 (R.oC (r := 64) rfl lay_64) rfl (Nat.le_of_ble_eq_true rfl) (Nat.le_of_ble_eq_true rfl) rfl rfl (t_X11_lift (dL hd (by decide)) R H1) (fun o h q => th_xE q (fun R => ?_))
    refine mm_catch (name := "java/util/NoSuchElementException") [] (0, 16, 19, 19) [] rfl (fun z hz => absurd hz List.not_mem_nil) ⟨by decide, by decide⟩ (by decide) (mm_t4 169 rfl rfl) (mm_t4 180 rfl rfl) dL_lift_19 (Nat.le_of_ble_eq_true rfl) (ls' := [some (.ref 64), some (.int x1), some (.ref 146), none]) rfl ?_
    refine mm_iconst (v := 1) dL_lift_20 (by decide +kernel) ?_
    refine mm_iret rfl rfl dL_lift_21 ?_
    exact en_lI H R
def f_L_status (N : Nat) (x1 : Int32) (x2 : Int32) (x3 : Int32) (C D : CS) : Option (Int32 × CS × CS) := wr1 eN (f_X11_status N x1 x2 x3 C) D Int32.toInt64
theorem t_L_status {g : mm_G} {d : Nat} {h : mm_Hp} {C D : CS} {N : Nat} {x1 : Int32} {x2 : Int32} {x3 : Int32} {r : Int32 × CS × CS} (hd : 8 ≤ d) (R : Rep h C D) (H : f_L_status N x1 x2 x3 C D = some r) : mm_P g d ML_status 0 [some (.ref 64), some (.int x1), some (.int x2), some (.int x3), some (.ref 146), none] [] h (lI r) := by
  unfold f_L_status at H
  refine mm_aload dL_status_0 rfl ?_
  refine mm_iconst (v := 0) dL_status_2 (by decide +kernel) ?_
  refine mm_aload_n dL_status_3 rfl ?_
  refine mm_iload_n dL_status_4 rfl ?_
  refine mm_iload_n dL_status_5 rfl ?_
  refine mm_iload_n dL_status_6 rfl ?_
  rcases hW1 H with ⟨v, C1, H1, H⟩ | ⟨C1, H1, H⟩
  · refine mm_callV (d' := d - 1) (as := [.int x1, .int x2, .int x3]) (st := [.int 0, .ref 146]) (dS hd) cm_X11_status (mm_t5 73 rfl rfl) (mm_t5 74 rfl rfl) (mm_t5 75 rfl rfl) (T := TX11) (N := 14) rfl dL_status_7 (R.oC (r := 64) rfl lay_64) rfl (Nat.le_of_ble_eq_true rfl) (Nat.le_of_ble_eq_true rfl) rfl rfl (t_X11_status (dL hd (by decide)) R H1) (fun o h q => th_xI q (fun R => ?_))
    refine mm_i2l dL_status_10 ?_
    refine rD_last lay_146 rfl dL_status_11 R rfl rfl (fun h R => ?_)
    refine mm_goto 19 dL_status_12 (by decide) ?_
    refine mm_iconst (v := 0) dL_status_19 (by decide +kernel) ?_
    refine mm_iret rfl rfl dL_status_20 ?_
    exact en_lI H R
  · refine mm_callV (d' := d - 1) (as := [.int x1, .int x2, .int x3]) (st := [.int 0, .ref 146]) (dS hd) cm_X11_status (mm_t5 73 rfl rfl) (mm_t5 74 rfl rfl) (mm_t5 75 rfl rfl) (T := TX11) (N := 14) rfl dL_status_7 (R.oC (r := 64) rfl lay_64) rfl (Nat.le_of_ble_eq_true rfl) (Nat.le_of_ble_eq_true rfl) rfl rfl (t_X11_status (dL hd (by decide)) R H1) (fun o h q => th_xE q (fun R => ?_))
    refine mm_catch2 (k := 5) (name := "java/util/NoSuchElementException") [] (0, 12, 15, 19) [] rfl (fun z hz => absurd hz List.not_mem_nil) ⟨by decide, by decide⟩ (by decide) (mm_t4 169 rfl rfl) (mm_t4 180 rfl rfl) dL_status_15 (Nat.le_of_ble_eq_true rfl) (ls' := [some (.ref 64), some (.int x1), some (.int x2), some (.int x3), some (.ref 146), none]) rfl ?_
    refine mm_iconst (v := 1) dL_status_17 (by decide +kernel) ?_
    refine mm_iret rfl rfl dL_status_18 ?_
    exact en_lI H R
def f_L_read (N : Nat) (x1 : Int32) (x2 : Int32) (x3 : Int32) (x4 : Int32) (C D : CS) : Option (Int32 × CS × CS) := wr2 (f_X11_read N x1 x2 x3 x4 C) D Int32.toInt64
theorem t_L_read {g : mm_G} {d : Nat} {h : mm_Hp} {C D : CS} {N : Nat} {x1 : Int32} {x2 : Int32} {x3 : Int32} {x4 : Int32} {r : Int32 × CS × CS} (hd : 9 ≤ d) (R : Rep h C D) (H : f_L_read N x1 x2 x3 x4 C D = some r) : mm_P g d ML_read 0 [some (.ref 64), some (.int x1), some (.int x2), some (.int x3), some (.int x4), some (.ref 146), none] [] h (lI r) := by
  unfold f_L_read at H
  refine mm_aload dL_read_0 rfl ?_
  refine mm_iconst (v := 0) dL_read_2 (by decide +kernel) ?_
  refine mm_aload_n dL_read_3 rfl ?_
  refine mm_iload_n dL_read_4 rfl ?_
  refine mm_iload_n dL_read_5 rfl ?_
  refine mm_iload_n dL_read_6 rfl ?_
  refine mm_iload dL_read_7 rfl ?_
  rcases hW2 H with ⟨v, C1, H1, H⟩ | ⟨C1, H1, H⟩ | ⟨C1, H1, H⟩
  · refine mm_callV (d' := d - 1) (as := [.int x1, .int x2, .int x3, .int x4]) (st := [.int 0, .ref 146]) (dS hd) cm_X11_read (mm_t5 85 rfl rfl) (mm_t5 86 rfl rfl) (mm_t5 87 rfl rfl) (T := TX11) (N := 14) rfl dL_read_9 (R.oC (r := 64) rfl lay_64) rfl (Nat.le_of_ble_eq_true rfl) (Nat.le_of_ble_eq_true rfl) rfl rfl (t_X11_read (dL hd (by decide)) R H1) (fun o h q => th_xI q (fun R => ?_))
    refine mm_i2l dL_read_12 ?_
    refine rD_last lay_146 rfl dL_read_13 R rfl rfl (fun h R => ?_)
    refine mm_goto 25 dL_read_14 (by decide) ?_
    refine mm_iconst (v := 0) dL_read_25 (by decide +kernel) ?_
    refine mm_iret rfl rfl dL_read_26 ?_
    exact en_lI H R
  · refine mm_callV (d' := d - 1) (as := [.int x1, .int x2, .int x3, .int x4]) (st := [.int 0, .ref 146]) (dS hd) cm_X11_read (mm_t5 85 rfl rfl) (mm_t5 86 rfl rfl) (mm_t5 87 rfl rfl) (T := TX11) (N := 14) rfl dL_read_9 (R.oC (r := 64) rfl lay_64) rfl (Nat.le_of_ble_eq_true rfl) (Nat.le_of_ble_eq_true rfl) rfl rfl (t_X11_read (dL hd (by decide)) R H1) (fun o h q => th_xE q (fun R => ?_))
    refine mm_catch2 (k := 6) (name := "java/util/NoSuchElementException") [] (0, 14, 17, 19) [(0, 14, 21, 13)] rfl (fun z hz => absurd hz List.not_mem_nil) ⟨by decide, by decide⟩ (by decide) (mm_t4 169 rfl rfl) (mm_t4 180 rfl rfl) dL_read_17 (Nat.le_of_ble_eq_true rfl) (ls' := [some (.ref 64), some (.int x1), some (.int x2), some (.int x3), some (.int x4), some (.ref 146), none]) rfl ?_
    refine mm_iconst (v := 1) dL_read_19 (by decide +kernel) ?_
    refine mm_iret rfl rfl dL_read_20 ?_
    exact en_lI H R
  · refine mm_callV (d' := d - 1) (as := [.int x1, .int x2, .int x3, .int x4]) (st := [.int 0, .ref 146]) (dS hd) cm_X11_read (mm_t5 85 rfl rfl) (mm_t5 86 rfl rfl) (mm_t5 87 rfl rfl) (T := TX11) (N := 14) rfl dL_read_9 (R.oC (r := 64) rfl lay_64) rfl (Nat.le_of_ble_eq_true rfl) (Nat.le_of_ble_eq_true rfl) rfl rfl (t_X11_read (dL hd (by decide)) R H1) (fun o h q => th_xE q (fun R => ?_))
    refine mm_catch2 (k := 6) (name := "java/lang/IllegalArgumentException") [(0, 14, 17, 19)] (0, 14, 21, 13) [] rfl (fun z hz => by cases hz with | head => exact ⟨by decide, (mm_t4 169 rfl rfl), rfl⟩ | tail _ hz => exact absurd hz List.not_mem_nil) ⟨by decide, by decide⟩ (by decide) (mm_t3 52 rfl rfl) (mm_t3 63 rfl rfl) dL_read_21 (Nat.le_of_ble_eq_true rfl) (ls' := [some (.ref 64), some (.int x1), some (.int x2), some (.int x3), some (.int x4), some (.ref 146), none]) rfl ?_
    refine mm_iconst (v := 2) dL_read_23 (by decide +kernel) ?_
    refine mm_iret rfl rfl dL_read_24 ?_
    exact en_lI H R
def f_L_told (x1 : Int32) (C D : CS) : Option (Int32 × CS × CS) := wr1 eN (f_X11_told x1 C) D Int32.toInt64
theorem t_L_told {g : mm_G} {d : Nat} {h : mm_Hp} {C D : CS} {x1 : Int32} {r : Int32 × CS × CS} (hd : 8 ≤ d) (R : Rep h C D) (H : f_L_told x1 C D = some r) : mm_P g d ML_told 0 [some (.ref 64), some (.int x1), some (.ref 146), none] [] h (lI r) := by
  unfold f_L_told at H
  refine mm_aload_n dL_told_0 rfl ?_
  refine mm_iconst (v := 0) dL_told_1 (by decide +kernel) ?_
  refine mm_aload_n dL_told_2 rfl ?_
  refine mm_iload_n dL_told_3 rfl ?_
  rcases hW1 H with ⟨v, C1, H1, H⟩ | ⟨C1, H1, H⟩
  · refine mm_callV (d' := d - 1) (as := [.int x1]) (st := [.int 0, .ref 146]) (dS hd) cm_X11_told (mm_t5 133 rfl rfl) (mm_t5 134 rfl rfl) (mm_t5 135 rfl rfl) (T := TX11) (N := 14) rfl dL_told_4 (R.oC (r := 64) rfl lay_64) rfl (Nat.le_of_ble_eq_true rfl) (Nat.le_of_ble_eq_true rfl) rfl rfl (t_X11_told (dL hd (by decide)) R H1) (fun o h q => th_xI q (fun R => ?_))
    refine mm_i2l dL_told_7 ?_
    refine rD_last lay_146 rfl dL_told_8 R rfl rfl (fun h R => ?_)
    refine mm_goto 15 dL_told_9 (by decide) ?_
    refine mm_iconst (v := 0) dL_told_15 (by decide +kernel) ?_
    refine mm_iret rfl rfl dL_told_16 ?_
    exact en_lI H R
  · refine mm_callV (d' := d - 1) (as := [.int x1]) (st := [.int 0, .ref 146]) (dS hd) cm_X11_told (mm_t5 133 rfl rfl) (mm_t5 134 rfl rfl) (mm_t5 135 rfl rfl) (T := TX11) (N := 14) rfl dL_told_4 (R.oC (r := 64) rfl lay_64) rfl (Nat.le_of_ble_eq_true rfl) (Nat.le_of_ble_eq_true rfl) rfl rfl (t_X11_told (dL hd (by decide)) R H1) (fun o h q => th_xE q (fun R => ?_))
    refine mm_catch (name := "java/util/NoSuchElementException") [] (0, 9, 12, 19) [] rfl (fun z hz => absurd hz List.not_mem_nil) ⟨by decide, by decide⟩ (by decide) (mm_t4 169 rfl rfl) (mm_t4 180 rfl rfl) dL_told_12 (Nat.le_of_ble_eq_true rfl) (ls' := [some (.ref 64), some (.int x1), some (.ref 146), none]) rfl ?_
    refine mm_iconst (v := 1) dL_told_13 (by decide +kernel) ?_
    refine mm_iret rfl rfl dL_told_14 ?_
    exact en_lI H R
def f_L_cite (N : Nat) (x1 : Int32) (x2 : Int32) (C D : CS) : Option (Int32 × CS × CS) := wr1 eN (f_X11_cite N x1 x2 C) D Int32.toInt64
theorem t_L_cite {g : mm_G} {d : Nat} {h : mm_Hp} {C D : CS} {N : Nat} {x1 : Int32} {x2 : Int32} {r : Int32 × CS × CS} (hd : 8 ≤ d) (R : Rep h C D) (H : f_L_cite N x1 x2 C D = some r) : mm_P g d ML_cite 0 [some (.ref 64), some (.int x1), some (.int x2), some (.ref 146), none] [] h (lI r) := by
  unfold f_L_cite at H
  refine mm_aload_n dL_cite_0 rfl ?_
  refine mm_iconst (v := 0) dL_cite_1 (by decide +kernel) ?_
  refine mm_aload_n dL_cite_2 rfl ?_
  refine mm_iload_n dL_cite_3 rfl ?_
  refine mm_iload_n dL_cite_4 rfl ?_
  rcases hW1 H with ⟨v, C1, H1, H⟩ | ⟨C1, H1, H⟩
  · refine mm_callV (d' := d - 1) (as := [.int x1, .int x2]) (st := [.int 0, .ref 146]) (dS hd) cm_X11_cite (mm_t5 144 rfl rfl) (mm_t5 145 rfl rfl) (mm_t5 146 rfl rfl) (T := TX11) (N := 14) rfl dL_cite_5 (R.oC (r := 64) rfl lay_64) rfl (Nat.le_of_ble_eq_true rfl) (Nat.le_of_ble_eq_true rfl) rfl rfl (t_X11_cite (dL hd (by decide)) R H1) (fun o h q => th_xI q (fun R => ?_))
    refine mm_i2l dL_cite_8 ?_
    refine rD_last lay_146 rfl dL_cite_9 R rfl rfl (fun h R => ?_)
    refine mm_goto 17 dL_cite_10 (by decide) ?_
    refine mm_iconst (v := 0) dL_cite_17 (by decide +kernel) ?_
    refine mm_iret rfl rfl dL_cite_18 ?_
    exact en_lI H R
  · refine mm_callV (d' := d - 1) (as := [.int x1, .int x2]) (st := [.int 0, .ref 146]) (dS hd) cm_X11_cite (mm_t5 144 rfl rfl) (mm_t5 145 rfl rfl) (mm_t5 146 rfl rfl) (T := TX11) (N := 14) rfl dL_cite_5 (R.oC (r := 64) rfl lay_64) rfl (Nat.le_of_ble_eq_true rfl) (Nat.le_of_ble_eq_true rfl) rfl rfl (t_X11_cite (dL hd (by decide)) R H1) (fun o h q => th_xE q (fun R => ?_))
    refine mm_catch2 (k := 4) (name := "java/util/NoSuchElementException") [] (0, 10, 13, 19) [] rfl (fun z hz => absurd hz List.not_mem_nil) ⟨by decide, by decide⟩ (by decide) (mm_t4 169 rfl rfl) (mm_t4 180 rfl rfl) dL_cite_13 (Nat.le_of_ble_eq_true rfl) (ls' := [some (.ref 64), some (.int x1), some (.int x2), some (.ref 146), none]) rfl ?_
    refine mm_iconst (v := 1) dL_cite_15 (by decide +kernel) ?_
    refine mm_iret rfl rfl dL_cite_16 ?_
    exact en_lI H R
def f_L_shown (N : Nat) (x1 : Int32) (x2 : Int32) (C D : CS) : Option (Int32 × CS × CS) := wr1 eN (f_X11_shown N x1 x2 C) D Int32.toInt64
theorem t_L_shown {g : mm_G} {d : Nat} {h : mm_Hp} {C D : CS} {N : Nat} {x1 : Int32} {x2 : Int32} {r : Int32 × CS × CS} (hd : 8 ≤ d) (R : Rep h C D) (H : f_L_shown N x1 x2 C D = some r) : mm_P g d ML_shown 0 [some (.ref 64), some (.int x1), some (.int x2), some (.ref 146), none] [] h (lI r) := by
  unfold f_L_shown at H
  refine mm_aload_n dL_shown_0 rfl ?_
  refine mm_iconst (v := 0) dL_shown_1 (by decide +kernel) ?_
  refine mm_aload_n dL_shown_2 rfl ?_
  refine mm_iload_n dL_shown_3 rfl ?_
  refine mm_iload_n dL_shown_4 rfl ?_
  rcases hW1 H with ⟨v, C1, H1, H⟩ | ⟨C1, H1, H⟩
  · refine mm_callV (d' := d - 1) (as := [.int x1, .int x2]) (st := [.int 0, .ref 146]) (dS hd) cm_X11_shown (mm_t5 162 rfl rfl) (mm_t5 163 rfl rfl) (mm_t5 164 rfl rfl) (T := TX11) (N := 14) rfl dL_shown_5 (R.oC (r := 64) rfl lay_64) rfl (Nat.le_of_ble_eq_true rfl) (Nat.le_of_ble_eq_true rfl) rfl rfl (t_X11_shown (dL hd (by decide)) R H1) (fun o h q => th_xI q (fun R => ?_))
    refine mm_i2l dL_shown_8 ?_
    refine rD_last lay_146 rfl dL_shown_9 R rfl rfl (fun h R => ?_)
    refine mm_goto 17 dL_shown_10 (by decide) ?_
    refine mm_iconst (v := 0) dL_shown_17 (by decide +kernel) ?_
    refine mm_iret rfl rfl dL_shown_18 ?_
    exact en_lI H R
  · refine mm_callV (d' := d - 1) (as := [.int x1, .int x2]) (st := [.int 0, .ref 146]) (dS hd) cm_X11_shown (mm_t5 162 rfl rfl) (mm_t5 163 rfl rfl) (mm_t5 164 rfl rfl) (T := TX11) (N := 14) rfl dL_shown_5 (R.oC (r := 64) rfl lay_64) rfl (Nat.le_of_ble_eq_true rfl) (Nat.le_of_ble_eq_true rfl) rfl rfl (t_X11_shown (dL hd (by decide)) R H1) (fun o h q => th_xE q (fun R => ?_))
    refine mm_catch2 (k := 4) (name := "java/util/NoSuchElementException") [] (0, 10, 13, 19) [] rfl (fun z hz => absurd hz List.not_mem_nil) ⟨by decide, by decide⟩ (by decide) (mm_t4 169 rfl rfl) (mm_t4 180 rfl rfl) dL_shown_13 (Nat.le_of_ble_eq_true rfl) (ls' := [some (.ref 64), some (.int x1), some (.int x2), some (.ref 146), none]) rfl ?_
    refine mm_iconst (v := 1) dL_shown_15 (by decide +kernel) ?_
    refine mm_iret rfl rfl dL_shown_16 ?_
    exact en_lI H R
def f_L_count (N : Nat) (x1 : Int32) (C D : CS) : Option (Int32 × CS × CS) := wr1 eN (f_X11_count N x1 C) D Int32.toInt64
theorem t_L_count {g : mm_G} {d : Nat} {h : mm_Hp} {C D : CS} {N : Nat} {x1 : Int32} {r : Int32 × CS × CS} (hd : 7 ≤ d) (R : Rep h C D) (H : f_L_count N x1 C D = some r) : mm_P g d ML_count 0 [some (.ref 64), some (.int x1), some (.ref 146), none] [] h (lI r) := by
  unfold f_L_count at H
  refine mm_aload_n dL_count_0 rfl ?_
  refine mm_iconst (v := 0) dL_count_1 (by decide +kernel) ?_
  refine mm_aload_n dL_count_2 rfl ?_
  refine mm_iload_n dL_count_3 rfl ?_
  rcases hW1 H with ⟨v, C1, H1, H⟩ | ⟨C1, H1, H⟩
  · refine mm_callV (d' := d - 1) (as := [.int x1]) (st := [.int 0, .ref 146]) (dS hd) cm_X11_count (mm_t5 184 rfl rfl) (mm_t5 185 rfl rfl) (mm_t5 186 rfl rfl) (T := TX11) (N := 14) rfl dL_count_4 (R.oC (r := 64) rfl lay_64) rfl (Nat.le_of_ble_eq_true rfl) (Nat.le_of_ble_eq_true rfl) rfl rfl (t_X11_count (dL hd (by decide)) R H1) (fun o h q => th_xI q (fun R => ?_))
    refine mm_i2l dL_count_7 ?_
    refine rD_last lay_146 rfl dL_count_8 R rfl rfl (fun h R => ?_)
    refine mm_goto 15 dL_count_9 (by decide) ?_
    refine mm_iconst (v := 0) dL_count_15 (by decide +kernel) ?_
    refine mm_iret rfl rfl dL_count_16 ?_
    exact en_lI H R
  · refine mm_callV (d' := d - 1) (as := [.int x1]) (st := [.int 0, .ref 146]) (dS hd) cm_X11_count (mm_t5 184 rfl rfl) (mm_t5 185 rfl rfl) (mm_t5 186 rfl rfl) (T := TX11) (N := 14) rfl dL_count_4 (R.oC (r := 64) rfl lay_64) rfl (Nat.le_of_ble_eq_true rfl) (Nat.le_of_ble_eq_true rfl) rfl rfl (t_X11_count (dL hd (by decide)) R H1) (fun o h q => th_xE q (fun R => ?_))
    refine mm_catch (name := "java/util/NoSuchElementException") [] (0, 9, 12, 19) [] rfl (fun z hz => absurd hz List.not_mem_nil) ⟨by decide, by decide⟩ (by decide) (mm_t4 169 rfl rfl) (mm_t4 180 rfl rfl) dL_count_12 (Nat.le_of_ble_eq_true rfl) (ls' := [some (.ref 64), some (.int x1), some (.ref 146), none]) rfl ?_
    refine mm_iconst (v := 1) dL_count_13 (by decide +kernel) ?_
    refine mm_iret rfl rfl dL_count_14 ?_
    exact en_lI H R
