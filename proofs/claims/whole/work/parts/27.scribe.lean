/-! Scribe: the object at 110. Its state: end, place, limit (the line's start and 60), number, name, fault, fault's place -/
abbrev Sc : Type := Nat × Nat × Nat × Int32 × Int64 × Int32 × Int32
def ScAt (h : mm_Hp) (s : Sc) : Prop := mm_at h 110 (.inr (9, [.ref 65, .ref 69, .ref 76, .ref 84, .ref 91, .ref 94, .int (nI s.1), .int (nI s.2.1), .int (nI s.2.2.1 - 60), .int s.2.2.2.1, .long s.2.2.2.2.1, .int s.2.2.2.2.2.1, .int s.2.2.2.2.2.2]))
/-- the sign at a place of a text that ends at en -/
def sgOf (b : Nat → Nat) (en p : Nat) : Int32 := if p < en then nI (b p) else -1
def scRefuse (k q : Int32) (s : Sc) : Int32 × Sc := (0, (s.1, s.2.1, s.2.2.1, s.2.2.2.1, s.2.2.2.2.1, k, q))
def scStep (s : Sc) : Int32 × Sc := if s.2.1 < s.2.2.1 then (1, (s.1, s.2.1 + 1, s.2.2)) else scRefuse 2 (nI s.2.1) s
def scExpect (b : Nat → Nat) (c : Int32) (s : Sc) : Int32 × Sc := if sgOf b s.1 s.2.1 = c then scStep s else scRefuse 1 (nI s.2.1) s
theorem st_lt {p lim : Nat} (h1 : p < 2 ^ 20) (h2 : lim < 2 ^ 20) : nI p - (nI lim - 60) < 60 ↔ p < lim := by
  have e : nI p - (nI lim - 60) = nI (p + 60) - nI lim := by
    rw [← nI_add]
    show nI p - (nI lim - nI 60) = nI p + nI 60 - nI lim
    generalize nI p = x
    generalize nI lim = y
    generalize nI 60 = z
    grind
  rw [e, Int32.lt_iff_toInt_lt, pk_sub_toInt (by omega) (by omega), show (60 : Int32).toInt = 60 from by decide]
  omega
theorem m_Sc_refuse {g : mm_G} {d en p lim : Nat} {nu fa pl : Int32} {nm : Int64} {h : mm_Hp} {x y : Int32} (a110 : ScAt h (en, p, lim, nu, nm, fa, pl)) : mm_P g d MX10_refuse 0 [some (.ref 110), some (.int x), some (.int y)] [] h (fun o h' => o = .inl (some (.int (scRefuse x y (en, p, lim, nu, nm, fa, pl)).1)) ∧ ScAt h' (scRefuse x y (en, p, lim, nu, nm, fa, pl)).2 ∧ mm_fr 110 110 h h') := by
  refine mm_aload_n dX10_refuse_0 rfl ?_
  refine mm_iload_n dX10_refuse_1 rfl ?_
  refine mm_put1 (fs' := [.ref 65, .ref 69, .ref 76, .ref 84, .ref 91, .ref 94, .int (nI en), .int (nI p), .int (nI lim - 60), .int nu, .long nm, .int x, .int pl]) lk_X10_81_X10 rfl dX10_refuse_2 a110 (fun _ e => by rw [e]; rfl) (fun _ e => by rw [e]; rfl) (Nat.le_of_ble_eq_true rfl) rfl (fun h1 eh1 => ?_)
  have a110 := mm_at.up1 a110 eh1
  refine mm_aload_n dX10_refuse_5 rfl ?_
  refine mm_iload_n dX10_refuse_6 rfl ?_
  refine mm_put1 (fs' := [.ref 65, .ref 69, .ref 76, .ref 84, .ref 91, .ref 94, .int (nI en), .int (nI p), .int (nI lim - 60), .int nu, .long nm, .int x, .int y]) lk_X10_84_X10 rfl dX10_refuse_7 a110 (fun _ e => by rw [e]; rfl) (fun _ e => by rw [e]; rfl) (Nat.le_of_ble_eq_true rfl) rfl (fun h2 eh2 => ?_)
  have a110 := mm_at.up1 a110 eh2
  refine mm_iconst (v := 0) dX10_refuse_10 (by decide +kernel) ?_
  refine mm_iret rfl rfl dX10_refuse_11 ?_
  exact ⟨rfl, a110, (mm_fr.up (mm_fr.up mm_fr.rfl eh1 (by decide) (by decide)) eh2 (by decide) (by decide))⟩
theorem m_Sc_sign {g : mm_G} {d en p lim : Nat} {nu fa pl : Int32} {nm : Int64} {h : mm_Hp} {sz mk k cap : Nat} {b : Nat → Nat} (hd : 1 ≤ d) (a110 : ScAt h (en, p, lim, nu, nm, fa, pl)) (B : ByAt h 65 3000 sz mk k cap b) (hen : en ≤ sz) (hsz : sz ≤ 3000) (hp : p < 2 ^ 20) : mm_P g d MX10_sign 0 [some (.ref 110)] [] h (mm_pureI (sgOf b en p) h) := by
  have a65 := B.choose_spec.1
  refine mm_aload_n dX10_sign_0 rfl ?_
  refine mm_get lk_X10_39_X10 dX10_sign_1 a110 rfl ?_
  refine mm_aload_n dX10_sign_4 rfl ?_
  refine mm_get lk_X10_43_X10 dX10_sign_5 a110 rfl ?_
  refine mm_icmp_ge 25 dX10_sign_8 (by decide) (fun c1 => ?_) (fun c1 => ?_)
  · have c1 : en ≤ p := (nI_leI (a := en) (b := p) (by omega) (by omega)).mp c1
    refine mm_iconst (v := (-1)) dX10_sign_25 (by decide +kernel) ?_
    refine mm_iret rfl rfl dX10_sign_26 ?_
    exact ⟨by rw [sgOf, if_neg (by omega)], rfl⟩
  · have c1 : ¬ en ≤ p := fun z => c1 ((nI_leI (a := en) (b := p) (by omega) (by omega)).mpr z)
    refine mm_aload_n dX10_sign_11 rfl ?_
    refine mm_get lk_X10_9_X10 dX10_sign_12 a110 rfl ?_
    refine mm_aload_n dX10_sign_15 rfl ?_
    refine mm_get lk_X10_39_X10 dX10_sign_16 a110 rfl ?_
    refine mm_callV (d' := d - 1) (as := [.int (nI p)]) (st := []) (by omega) cm_X1_byteAt (mm_t3 175 rfl rfl) (mm_t3 176 rfl rfl) (mm_t3 177 rfl rfl) (T := TX1) (N := 4) rfl dX10_sign_19 a65 rfl (Nat.le_of_ble_eq_true rfl) (Nat.le_of_ble_eq_true rfl) rfl rfl (m_By_byteAt B (by decide)) (fun o u2 q => mm_thenI q ?_)
    rw [if_pos ⟨nI_pos' (by omega), nI_lt (by omega) (by omega)⟩, nI_clamp (by omega)]
    refine mm_goto 26 dX10_sign_22 (by decide) ?_
    refine mm_iret rfl rfl dX10_sign_26 ?_
    exact ⟨by rw [sgOf, if_pos (by omega)], rfl⟩
theorem m_Sc_lineEnds {g : mm_G} {d en p lim : Nat} {nu fa pl : Int32} {nm : Int64} {h : mm_Hp} {sz mk k cap : Nat} {b : Nat → Nat} (hd : 2 ≤ d) (a110 : ScAt h (en, p, lim, nu, nm, fa, pl)) (B : ByAt h 65 3000 sz mk k cap b) (hen : en ≤ sz) (hsz : sz ≤ 3000) (hp : p < 2 ^ 20) : mm_P g d MX10_lineEnds 0 [some (.ref 110)] [] h (mm_pureI (if en ≤ p ∨ sgOf b en p = 10 then 1 else 0) h) := by
  refine mm_aload_n dX10_lineEnds_0 rfl ?_
  refine mm_get lk_X10_39_X10 dX10_lineEnds_1 a110 rfl ?_
  refine mm_aload_n dX10_lineEnds_4 rfl ?_
  refine mm_get lk_X10_43_X10 dX10_lineEnds_5 a110 rfl ?_
  refine mm_icmp_ge 20 dX10_lineEnds_8 (by decide) (fun c1 => ?_) (fun c1 => ?_)
  · have c1 : en ≤ p := (nI_leI (a := en) (b := p) (by omega) (by omega)).mp c1
    refine mm_iconst (v := 1) dX10_lineEnds_20 (by decide +kernel) ?_
    refine mm_goto 25 dX10_lineEnds_21 (by decide) ?_
    refine mm_iret rfl rfl dX10_lineEnds_25 ?_
    exact ⟨by simp [c1], rfl⟩
  · have c1 : ¬ en ≤ p := fun z => c1 ((nI_leI (a := en) (b := p) (by omega) (by omega)).mpr z)
    refine mm_aload_n dX10_lineEnds_11 rfl ?_
    refine mm_callV (d' := d - 1) (as := []) (st := []) (by omega) cm_X10_sign (mm_t3 171 rfl rfl) (mm_t3 173 rfl rfl) (mm_s1 9 rfl rfl) (T := TX10) (N := 13) rfl dX10_lineEnds_12 a110 rfl (Nat.le_of_ble_eq_true rfl) (Nat.le_of_ble_eq_true rfl) rfl rfl (m_Sc_sign (by omega) a110 B hen hsz hp) (fun o u2 q => mm_thenI q ?_)
    refine mm_bipush (v := 10) dX10_lineEnds_15 (by decide +kernel) ?_
    refine mm_icmp_ne 24 dX10_lineEnds_17 (by decide) (fun c3 => ?_) (fun c3 => ?_)
    · refine mm_iconst (v := 0) dX10_lineEnds_24 (by decide +kernel) ?_
      refine mm_iret rfl rfl dX10_lineEnds_25 ?_
      exact ⟨by simp [c1, c3], rfl⟩
    · refine mm_iconst (v := 1) dX10_lineEnds_20 (by decide +kernel) ?_
      refine mm_goto 25 dX10_lineEnds_21 (by decide) ?_
      refine mm_iret rfl rfl dX10_lineEnds_25 ?_
      exact ⟨by simp [c1, c3], rfl⟩
theorem m_Sc_step {g : mm_G} {d en p lim : Nat} {nu fa pl : Int32} {nm : Int64} {h : mm_Hp} (hd : 1 ≤ d) (a110 : ScAt h (en, p, lim, nu, nm, fa, pl)) (hp : p < 2 ^ 20) (hl : lim < 2 ^ 20) : mm_P g d MX10_step 0 [some (.ref 110)] [] h (fun o h' => o = .inl (some (.int (scStep (en, p, lim, nu, nm, fa, pl)).1)) ∧ ScAt h' (scStep (en, p, lim, nu, nm, fa, pl)).2 ∧ mm_fr 110 110 h h') := by
  refine mm_aload_n dX10_step_0 rfl ?_
  refine mm_get lk_X10_39_X10 dX10_step_1 a110 rfl ?_
  refine mm_aload_n dX10_step_4 rfl ?_
  refine mm_get lk_X10_54_X10 dX10_step_5 a110 rfl ?_
  refine mm_isub dX10_step_8 ?_
  refine mm_bipush (v := 60) dX10_step_9 (by decide +kernel) ?_
  refine mm_icmp_lt 24 dX10_step_11 (by decide) (fun c1 => ?_) (fun c1 => ?_)
  · refine mm_aload_n dX10_step_24 rfl ?_
    refine mm_dup rfl dX10_step_25 ?_
    refine mm_get lk_X10_39_X10 dX10_step_26 a110 rfl ?_
    refine mm_iconst (v := 1) dX10_step_29 (by decide +kernel) ?_
    refine mm_iadd dX10_step_30 ?_
    rw [nI_1]
    refine mm_put1 (fs' := [.ref 65, .ref 69, .ref 76, .ref 84, .ref 91, .ref 94, .int (nI en), .int (nI (p + 1)), .int (nI lim - 60), .int nu, .long nm, .int fa, .int pl]) lk_X10_39_X10 rfl dX10_step_31 a110 (fun _ e => by rw [e]; rfl) (fun _ e => by rw [e]; rfl) (Nat.le_of_ble_eq_true rfl) rfl (fun h2 eh2 => ?_)
    have a110 := mm_at.up1 a110 eh2
    refine mm_iconst (v := 1) dX10_step_34 (by decide +kernel) ?_
    refine mm_iret rfl rfl dX10_step_35 ?_
    have c := (st_lt hp hl).mp c1
    have e : scStep (en, p, lim, nu, nm, fa, pl) = (1, (en, p + 1, lim, nu, nm, fa, pl)) := if_pos c
    exact ⟨by rw [e], by rw [e]; exact a110, (mm_fr.up mm_fr.rfl eh2 (by decide) (by decide))⟩
  · refine mm_aload_n dX10_step_14 rfl ?_
    refine mm_iconst (v := 2) dX10_step_15 (by decide +kernel) ?_
    refine mm_aload_n dX10_step_16 rfl ?_
    refine mm_get lk_X10_39_X10 dX10_step_17 a110 rfl ?_
    refine mm_callV (d' := d - 1) (as := [.int 2, .int (nI p)]) (st := []) (by omega) cm_X10_refuse (mm_t4 28 rfl rfl) (mm_t4 30 rfl rfl) (mm_s1 11 rfl rfl) (T := TX10) (N := 13) rfl dX10_step_20 a110 rfl (Nat.le_of_ble_eq_true rfl) (Nat.le_of_ble_eq_true rfl) rfl rfl (m_Sc_refuse a110) (fun o u3 q => ?_)
    obtain ⟨rfl, a110, f1⟩ := q
    show mm_P g d MX10_step (20 + 3) _ [.int 0] u3 _
    refine mm_iret rfl rfl dX10_step_23 ?_
    have c : ¬ p < lim := fun z => c1 ((st_lt hp hl).mpr z)
    have e : scStep (en, p, lim, nu, nm, fa, pl) = scRefuse 2 (nI p) (en, p, lim, nu, nm, fa, pl) := if_neg c
    exact ⟨by rw [e]; rfl, by rw [e]; exact a110, f1⟩
def plOf (x : Int32) : Bool := !decide (x < 32) && !decide (126 < x) && !decide (x = 62) && !decide (x = 125)
def nsOf (x : Int32) : Bool := (!decide (x < 65) && decide (x ≤ 90)) || (!decide (x < 48) && !decide (57 < x))
theorem m_Sc_isPlain {g : mm_G} {d : Nat} {h : mm_Hp} {x : Int32} : mm_P g d MX10_isPlain 0 [some (.int x)] [] h (mm_pureI (if plOf x = true then 1 else 0) h) := by
  refine mm_iload_n dX10_isPlain_0 rfl ?_
  refine mm_bipush (v := 32) dX10_isPlain_1 (by decide +kernel) ?_
  refine mm_icmp_lt 28 dX10_isPlain_3 (by decide) (fun c1 => ?_) (fun c1 => ?_)
  · refine mm_iconst (v := 0) dX10_isPlain_28 (by decide +kernel) ?_
    refine mm_iret rfl rfl dX10_isPlain_29 ?_
    exact ⟨by simp [plOf, c1], rfl⟩
  · refine mm_iload_n dX10_isPlain_6 rfl ?_
    refine mm_bipush (v := 126) dX10_isPlain_7 (by decide +kernel) ?_
    refine mm_icmp_gt 28 dX10_isPlain_9 (by decide) (fun c2 => ?_) (fun c2 => ?_)
    · refine mm_iconst (v := 0) dX10_isPlain_28 (by decide +kernel) ?_
      refine mm_iret rfl rfl dX10_isPlain_29 ?_
      exact ⟨by simp [plOf, c1, c2], rfl⟩
    · refine mm_iload_n dX10_isPlain_12 rfl ?_
      refine mm_bipush (v := 62) dX10_isPlain_13 (by decide +kernel) ?_
      refine mm_icmp_eq 28 dX10_isPlain_15 (by decide) (fun c3 => ?_) (fun c3 => ?_)
      · refine mm_iconst (v := 0) dX10_isPlain_28 (by decide +kernel) ?_
        refine mm_iret rfl rfl dX10_isPlain_29 ?_
        exact ⟨by simp [plOf, c1, c2, c3], rfl⟩
      · refine mm_iload_n dX10_isPlain_18 rfl ?_
        refine mm_bipush (v := 125) dX10_isPlain_19 (by decide +kernel) ?_
        refine mm_icmp_eq 28 dX10_isPlain_21 (by decide) (fun c4 => ?_) (fun c4 => ?_)
        · refine mm_iconst (v := 0) dX10_isPlain_28 (by decide +kernel) ?_
          refine mm_iret rfl rfl dX10_isPlain_29 ?_
          exact ⟨by simp [plOf, c1, c2, c3, c4], rfl⟩
        · refine mm_iconst (v := 1) dX10_isPlain_24 (by decide +kernel) ?_
          refine mm_goto 29 dX10_isPlain_25 (by decide) ?_
          refine mm_iret rfl rfl dX10_isPlain_29 ?_
          exact ⟨by simp [plOf, c1, c2, c3, c4], rfl⟩
theorem m_Sc_isOfName {g : mm_G} {d : Nat} {h : mm_Hp} {x : Int32} : mm_P g d MX10_isOfName 0 [some (.int x)] [] h (mm_pureI (if nsOf x = true then 1 else 0) h) := by
  refine mm_iload_n dX10_isOfName_0 rfl ?_
  refine mm_bipush (v := 65) dX10_isOfName_1 (by decide +kernel) ?_
  refine mm_icmp_lt 12 dX10_isOfName_3 (by decide) (fun c1 => ?_) (fun c1 => ?_)
  · refine mm_iload_n dX10_isOfName_12 rfl ?_
    refine mm_bipush (v := 48) dX10_isOfName_13 (by decide +kernel) ?_
    refine mm_icmp_lt 28 dX10_isOfName_15 (by decide) (fun c2 => ?_) (fun c2 => ?_)
    · refine mm_iconst (v := 0) dX10_isOfName_28 (by decide +kernel) ?_
      refine mm_iret rfl rfl dX10_isOfName_29 ?_
      exact ⟨by simp [nsOf, c1, c2], rfl⟩
    · refine mm_iload_n dX10_isOfName_18 rfl ?_
      refine mm_bipush (v := 57) dX10_isOfName_19 (by decide +kernel) ?_
      refine mm_icmp_gt 28 dX10_isOfName_21 (by decide) (fun c3 => ?_) (fun c3 => ?_)
      · refine mm_iconst (v := 0) dX10_isOfName_28 (by decide +kernel) ?_
        refine mm_iret rfl rfl dX10_isOfName_29 ?_
        exact ⟨by simp [nsOf, c1, c2, c3], rfl⟩
      · refine mm_iconst (v := 1) dX10_isOfName_24 (by decide +kernel) ?_
        refine mm_goto 29 dX10_isOfName_25 (by decide) ?_
        refine mm_iret rfl rfl dX10_isOfName_29 ?_
        exact ⟨by simp [nsOf, c1, c2, c3], rfl⟩
  · refine mm_iload_n dX10_isOfName_6 rfl ?_
    refine mm_bipush (v := 90) dX10_isOfName_7 (by decide +kernel) ?_
    refine mm_icmp_le 24 dX10_isOfName_9 (by decide) (fun c4 => ?_) (fun c4 => ?_)
    · refine mm_iconst (v := 1) dX10_isOfName_24 (by decide +kernel) ?_
      refine mm_goto 29 dX10_isOfName_25 (by decide) ?_
      refine mm_iret rfl rfl dX10_isOfName_29 ?_
      exact ⟨by simp [nsOf, c1, c4], rfl⟩
    · refine mm_iload_n dX10_isOfName_12 rfl ?_
      refine mm_bipush (v := 48) dX10_isOfName_13 (by decide +kernel) ?_
      refine mm_icmp_lt 28 dX10_isOfName_15 (by decide) (fun c5 => ?_) (fun c5 => ?_)
      · refine mm_iconst (v := 0) dX10_isOfName_28 (by decide +kernel) ?_
        refine mm_iret rfl rfl dX10_isOfName_29 ?_
        exact ⟨by simp [nsOf, c1, c4, c5], rfl⟩
      · refine mm_iload_n dX10_isOfName_18 rfl ?_
        refine mm_bipush (v := 57) dX10_isOfName_19 (by decide +kernel) ?_
        refine mm_icmp_gt 28 dX10_isOfName_21 (by decide) (fun c6 => ?_) (fun c6 => ?_)
        · refine mm_iconst (v := 0) dX10_isOfName_28 (by decide +kernel) ?_
          refine mm_iret rfl rfl dX10_isOfName_29 ?_
          exact ⟨by simp [nsOf, c1, c4, c5, c6], rfl⟩
        · refine mm_iconst (v := 1) dX10_isOfName_24 (by decide +kernel) ?_
          refine mm_goto 29 dX10_isOfName_25 (by decide) ?_
          refine mm_iret rfl rfl dX10_isOfName_29 ?_
          exact ⟨by simp [nsOf, c1, c4, c5, c6], rfl⟩
theorem scStep_nar (s : Sc) : narrow .boolean (.int (scStep s).1) = .int (scStep s).1 := by
  unfold scStep
  split
  · exact (rfl : narrow .boolean (.int (1 : Int32)) = .int 1)
  · exact (rfl : narrow .boolean (.int (0 : Int32)) = .int 0)
theorem m_Sc_expect {g : mm_G} {d en p lim : Nat} {nu fa pl : Int32} {nm : Int64} {h : mm_Hp} {sz mk k cap : Nat} {b : Nat → Nat} {c : Int32} (hd : 2 ≤ d) (a110 : ScAt h (en, p, lim, nu, nm, fa, pl)) (B : ByAt h 65 3000 sz mk k cap b) (hen : en ≤ sz) (hsz : sz ≤ 3000) (hp : p < 2 ^ 20) (hl : lim < 2 ^ 20) : mm_P g d MX10_expect 0 [some (.ref 110), some (.int c)] [] h (fun o h' => o = .inl (some (.int (scExpect b c (en, p, lim, nu, nm, fa, pl)).1)) ∧ ScAt h' (scExpect b c (en, p, lim, nu, nm, fa, pl)).2 ∧ mm_fr 110 110 h h') := by
  refine mm_aload_n dX10_expect_0 rfl ?_
  refine mm_callV (d' := d - 1) (as := []) (st := []) (by omega) cm_X10_sign (mm_t3 171 rfl rfl) (mm_t3 173 rfl rfl) (mm_s1 9 rfl rfl) (T := TX10) (N := 13) rfl dX10_expect_1 a110 rfl (Nat.le_of_ble_eq_true rfl) (Nat.le_of_ble_eq_true rfl) rfl rfl (m_Sc_sign (by omega) a110 B hen hsz hp) (fun o u1 q => mm_thenI q ?_)
  refine mm_iload_n dX10_expect_4 rfl ?_
  refine mm_icmp_ne 15 dX10_expect_5 (by decide) (fun c2 => ?_) (fun c2 => ?_)
  · refine mm_aload_n dX10_expect_15 rfl ?_
    refine mm_iconst (v := 1) dX10_expect_16 (by decide +kernel) ?_
    refine mm_aload_n dX10_expect_17 rfl ?_
    refine mm_get lk_X10_39_X10 dX10_expect_18 a110 rfl ?_
    refine mm_callV (d' := d - 1) (as := [.int 1, .int (nI p)]) (st := []) (by omega) cm_X10_refuse (mm_t4 28 rfl rfl) (mm_t4 30 rfl rfl) (mm_s1 11 rfl rfl) (T := TX10) (N := 13) rfl dX10_expect_21 a110 rfl (Nat.le_of_ble_eq_true rfl) (Nat.le_of_ble_eq_true rfl) rfl rfl (m_Sc_refuse a110) (fun o u3 q => ?_)
    obtain ⟨rfl, a110, f1⟩ := q
    show mm_P g d MX10_expect (21 + 3) _ [.int 0] u3 _
    refine mm_iret rfl rfl dX10_expect_24 ?_
    have e : scExpect b c (en, p, lim, nu, nm, fa, pl) = scRefuse 1 (nI p) (en, p, lim, nu, nm, fa, pl) := if_neg c2
    exact ⟨by rw [e]; rfl, by rw [e]; exact a110, f1⟩
  · refine mm_aload_n dX10_expect_8 rfl ?_
    refine mm_callV (d' := d - 1) (as := []) (st := []) (by omega) cm_X10_step (mm_t4 43 rfl rfl) (mm_t4 45 rfl rfl) (mm_s1 13 rfl rfl) (T := TX10) (N := 13) rfl dX10_expect_9 a110 rfl (Nat.le_of_ble_eq_true rfl) (Nat.le_of_ble_eq_true rfl) rfl rfl (m_Sc_step (by omega) a110 hp hl) (fun o u4 q => ?_)
    obtain ⟨rfl, a110, f1⟩ := q
    show mm_P g d MX10_expect (9 + 3) _ [.int (scStep (en, p, lim, nu, nm, fa, pl)).1] u4 _
    refine mm_goto 24 dX10_expect_12 (by decide) ?_
    refine mm_iret rfl (scStep_nar _) dX10_expect_24 ?_
    have e : scExpect b c (en, p, lim, nu, nm, fa, pl) = scStep (en, p, lim, nu, nm, fa, pl) := if_pos c2
    exact ⟨by rw [e], by rw [e]; exact a110, f1⟩
