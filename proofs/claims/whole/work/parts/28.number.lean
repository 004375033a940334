theorem m_Sc_step1 {g : mm_G} {d en p lim : Nat} {nu fa pl : Int32} {nm : Int64} {h : mm_Hp} (hd : 1 ≤ d) (a110 : ScAt h (en, p, lim, nu, nm, fa, pl)) (hp : p < 2 ^ 20) (hl : lim < 2 ^ 20) (hc : p < lim) : mm_P g d MX10_step 0 [some (.ref 110)] [] h (fun o h' => o = .inl (some (.int 1)) ∧ ScAt h' (en, p + 1, lim, nu, nm, fa, pl) ∧ mm_fr 110 110 h h') := by
  have e : scStep (en, p, lim, nu, nm, fa, pl) = (1, (en, p + 1, lim, nu, nm, fa, pl)) := if_pos hc
  have k := m_Sc_step (g := g) hd a110 hp hl
  rw [e] at k
  exact k
theorem m_Sc_step0 {g : mm_G} {d en p lim : Nat} {nu fa pl : Int32} {nm : Int64} {h : mm_Hp} (hd : 1 ≤ d) (a110 : ScAt h (en, p, lim, nu, nm, fa, pl)) (hp : p < 2 ^ 20) (hl : lim < 2 ^ 20) (hc : ¬ p < lim) : mm_P g d MX10_step 0 [some (.ref 110)] [] h (fun o h' => o = .inl (some (.int 0)) ∧ ScAt h' (en, p, lim, nu, nm, 2, nI p) ∧ mm_fr 110 110 h h') := by
  have e : scStep (en, p, lim, nu, nm, fa, pl) = (0, (en, p, lim, nu, nm, 2, nI p)) := if_neg hc
  have k := m_Sc_step (g := g) hd a110 hp hl
  rw [e] at k
  exact k
theorem ByAt.frS {h h1 : mm_Hp} {most s mk k cap a b : Nat} {bs : Nat → Nat} (B : ByAt h 65 most s mk k cap bs) (f : mm_fr a b h h1) (h65 : ¬ (a ≤ 65 ∧ 65 ≤ b)) (hk : ¬ (a ≤ k ∧ k ≤ b)) : ByAt h1 65 most s mk k cap bs := by
  obtain ⟨f0, b1, b2, b3⟩ := B
  exact ⟨f0, b1.fr f h65, b2.fr f hk, b3⟩
/-- no digit -/
def ndOf (x : Int32) : Prop := x < 48 ∨ ¬ x ≤ 57
/-- a number's digits: r more may come; from a place on, with what has been read -/
def scNumL (b : Nat → Nat) (en lim : Nat) (nm : Int64) (fa pl : Int32) : Nat → Nat → Int32 → Int32 × Sc
  | 0, p, nu => if sgOf b en p < 48 ∨ ¬ sgOf b en p ≤ 57 then (1, (en, p, lim, nu, nm, fa, pl)) else (0, (en, p, lim, nu, nm, 2, nI p))
  | r + 1, p, nu => if sgOf b en p < 48 ∨ ¬ sgOf b en p ≤ 57 then (if r = 3 then (0, (en, p, lim, nu, nm, 1, nI p)) else (1, (en, p, lim, nu, nm, fa, pl)))
    else if p < lim then scNumL b en lim nm fa pl r (p + 1) (10 * nu + sgOf b en p - 48) else (0, (en, p, lim, nu, nm, 2, nI p))
section MTN
variable {g : mm_G} {d en lim sz mk k cap : Nat} {fa pl : Int32} {nm : Int64} {b : Nat → Nat}
theorem scNum_nd {r p : Nat} {nu : Int32} (hn : sgOf b en p < 48 ∨ ¬ sgOf b en p ≤ 57) : scNumL b en lim nm fa pl r p nu = if r = 4 then (0, (en, p, lim, nu, nm, 1, nI p)) else (1, (en, p, lim, nu, nm, fa, pl)) := by
  cases r with
  | zero => rw [scNumL, if_pos hn, if_neg (by omega)]
  | succ r =>
    rw [scNumL, if_pos hn]
    by_cases e : r = 3
    · rw [if_pos e, if_pos (by omega)]
    · rw [if_neg e, if_neg (by omega)]
set_option maxHeartbeats 4000000 in
theorem m_Sc_num_loop (hd : 3 ≤ d) (hen : en ≤ sz) (hsz : sz ≤ 3000) (hk : ¬ (110 ≤ k ∧ k ≤ 110)) (hl : lim < 2 ^ 20) : ∀ (r c p : Nat) (nu : Int32) (y : Option Value) (h : mm_Hp), r + c = 4 → p + r < 2 ^ 20 → ScAt h (en, p, lim, nu, nm, fa, pl) → ByAt h 65 3000 sz mk k cap b →
    mm_P g d MX10_takeNumber 7 [some (.ref 110), some (.int (nI c)), y] [] h (fun o h' => o = .inl (some (.int (scNumL b en lim nm fa pl r p nu).1)) ∧ ScAt h' (scNumL b en lim nm fa pl r p nu).2 ∧ mm_fr 110 110 h h') := by
  intro r
  induction r with
  | zero =>
    intro c p nu y h hc hp a110 B
    refine mm_iload_n dX10_takeNumber_7 rfl ?_
    refine mm_iconst (v := 4) dX10_takeNumber_8 (by decide +kernel) ?_
    refine mm_icmp_gt 97 dX10_takeNumber_9 (by decide) (fun z => absurd ((nI_ltI (a := 4) (b := c) (by omega) (by omega)).mp z) (by omega)) (fun _ => ?_)
    refine mm_aload_n dX10_takeNumber_12 rfl ?_
    refine mm_callV (d' := d - 1) (as := []) (st := []) (by omega) cm_X10_sign (mm_t3 171 rfl rfl) (mm_t3 173 rfl rfl) (mm_s1 9 rfl rfl) (T := TX10) (N := 13) rfl dX10_takeNumber_13 a110 rfl (Nat.le_of_ble_eq_true rfl) (Nat.le_of_ble_eq_true rfl) rfl rfl (m_Sc_sign (by omega) a110 B hen hsz (by omega)) (fun o u q => mm_thenI q ?_)
    refine mm_istore_n (ls' := [some (.ref 110), some (.int (nI c)), some (.int (sgOf b en p))]) dX10_takeNumber_16 (Nat.le_of_ble_eq_true rfl) rfl ?_
    have t29 : (sgOf b en p < 48 ∨ ¬ sgOf b en p ≤ 57) → mm_P g d MX10_takeNumber 29 [some (.ref 110), some (.int (nI c)), some (.int (sgOf b en p))] [] h (fun o h' => o = .inl (some (.int (scNumL b en lim nm fa pl 0 p nu).1)) ∧ ScAt h' (scNumL b en lim nm fa pl 0 p nu).2 ∧ mm_fr 110 110 h h') := by
      intro hn
      have e : scNumL b en lim nm fa pl 0 p nu = (1, (en, p, lim, nu, nm, fa, pl)) := (scNum_nd hn).trans (if_neg (by omega))
      rw [e]
      refine mm_iload_n dX10_takeNumber_29 rfl ?_
      refine mm_if_gt 45 dX10_takeNumber_30 (by decide) (fun _ => ?_) (fun z => absurd (nI_lt (a := 0) (b := c) (by omega) (by omega)) z)
      refine mm_iconst (v := 1) dX10_takeNumber_45 (by decide +kernel) ?_
      refine mm_goto 50 dX10_takeNumber_46 (by decide) ?_
      refine mm_iret rfl rfl dX10_takeNumber_50 ?_
      exact ⟨rfl, a110, mm_fr.rfl⟩
    refine mm_iload_n dX10_takeNumber_17 rfl ?_
    refine mm_bipush (v := 48) dX10_takeNumber_18 (by decide +kernel) ?_
    refine mm_icmp_lt 29 dX10_takeNumber_20 (by decide) (fun z1 => t29 (Or.inl z1)) (fun z1 => ?_)
    refine mm_iload_n dX10_takeNumber_23 rfl ?_
    refine mm_bipush (v := 57) dX10_takeNumber_24 (by decide +kernel) ?_
    refine mm_icmp_le 51 dX10_takeNumber_26 (by decide) (fun z2 => ?_) (fun z2 => t29 (Or.inr z2))
    have e : scNumL b en lim nm fa pl 0 p nu = (0, (en, p, lim, nu, nm, 2, nI p)) := if_neg (fun w => w.elim z1 (fun v => v z2))
    rw [e]
    refine mm_iload_n dX10_takeNumber_51 rfl ?_
    refine mm_iconst (v := 4) dX10_takeNumber_52 (by decide +kernel) ?_
    refine mm_icmp_ne 66 dX10_takeNumber_53 (by decide) (fun z => absurd ((nI_eq (a := c) (b := 4) (by omega) (by omega)).mpr (by omega)) z) (fun _ => ?_)
    refine mm_aload_n dX10_takeNumber_56 rfl ?_
    refine mm_iconst (v := 2) dX10_takeNumber_57 (by decide +kernel) ?_
    refine mm_aload_n dX10_takeNumber_58 rfl ?_
    refine mm_get lk_X10_39_X10 dX10_takeNumber_59 a110 rfl ?_
    refine mm_callV (d' := d - 1) (as := [.int 2, .int (nI p)]) (st := []) (by omega) cm_X10_refuse (mm_t4 28 rfl rfl) (mm_t4 30 rfl rfl) (mm_s1 11 rfl rfl) (T := TX10) (N := 13) rfl dX10_takeNumber_62 a110 rfl (Nat.le_of_ble_eq_true rfl) (Nat.le_of_ble_eq_true rfl) rfl rfl (m_Sc_refuse a110) (fun o u q => ?_)
    obtain ⟨rfl, a110, f9⟩ := q
    show mm_P g d MX10_takeNumber (62 + 3) _ [.int 0] u _
    refine mm_iret rfl rfl dX10_takeNumber_65 ?_
    exact ⟨rfl, a110, f9⟩
  | succ r ih =>
    intro c p nu y h hc hp a110 B
    refine mm_iload_n dX10_takeNumber_7 rfl ?_
    refine mm_iconst (v := 4) dX10_takeNumber_8 (by decide +kernel) ?_
    refine mm_icmp_gt 97 dX10_takeNumber_9 (by decide) (fun z => absurd ((nI_ltI (a := 4) (b := c) (by omega) (by omega)).mp z) (by omega)) (fun _ => ?_)
    refine mm_aload_n dX10_takeNumber_12 rfl ?_
    refine mm_callV (d' := d - 1) (as := []) (st := []) (by omega) cm_X10_sign (mm_t3 171 rfl rfl) (mm_t3 173 rfl rfl) (mm_s1 9 rfl rfl) (T := TX10) (N := 13) rfl dX10_takeNumber_13 a110 rfl (Nat.le_of_ble_eq_true rfl) (Nat.le_of_ble_eq_true rfl) rfl rfl (m_Sc_sign (by omega) a110 B hen hsz (by omega)) (fun o u q => mm_thenI q ?_)
    refine mm_istore_n (ls' := [some (.ref 110), some (.int (nI c)), some (.int (sgOf b en p))]) dX10_takeNumber_16 (Nat.le_of_ble_eq_true rfl) rfl ?_
    have t29 : (sgOf b en p < 48 ∨ ¬ sgOf b en p ≤ 57) → mm_P g d MX10_takeNumber 29 [some (.ref 110), some (.int (nI c)), some (.int (sgOf b en p))] [] h (fun o h' => o = .inl (some (.int (scNumL b en lim nm fa pl (r + 1) p nu).1)) ∧ ScAt h' (scNumL b en lim nm fa pl (r + 1) p nu).2 ∧ mm_fr 110 110 h h') := by
      intro hn
      refine mm_iload_n dX10_takeNumber_29 rfl ?_
      refine mm_if_gt 45 dX10_takeNumber_30 (by decide) (fun z => ?_) (fun z => ?_)
      · have hc0 : 0 < c := (nI_ltI (a := 0) (b := c) (by omega) (by omega)).mp z
        have e : scNumL b en lim nm fa pl (r + 1) p nu = (1, (en, p, lim, nu, nm, fa, pl)) := (scNum_nd hn).trans (if_neg (by omega))
        rw [e]
        refine mm_iconst (v := 1) dX10_takeNumber_45 (by decide +kernel) ?_
        refine mm_goto 50 dX10_takeNumber_46 (by decide) ?_
        refine mm_iret rfl rfl dX10_takeNumber_50 ?_
        exact ⟨rfl, a110, mm_fr.rfl⟩
      · have hc0 : ¬ 0 < c := fun w => z ((nI_ltI (a := 0) (b := c) (by omega) (by omega)).mpr w)
        have e : scNumL b en lim nm fa pl (r + 1) p nu = (0, (en, p, lim, nu, nm, 1, nI p)) := (scNum_nd hn).trans (if_pos (by omega))
        rw [e]
        refine mm_aload_n dX10_takeNumber_33 rfl ?_
        refine mm_iconst (v := 1) dX10_takeNumber_34 (by decide +kernel) ?_
        refine mm_aload_n dX10_takeNumber_35 rfl ?_
        refine mm_get lk_X10_39_X10 dX10_takeNumber_36 a110 rfl ?_
        refine mm_callV (d' := d - 1) (as := [.int 1, .int (nI p)]) (st := []) (by omega) cm_X10_refuse (mm_t4 28 rfl rfl) (mm_t4 30 rfl rfl) (mm_s1 11 rfl rfl) (T := TX10) (N := 13) rfl dX10_takeNumber_39 a110 rfl (Nat.le_of_ble_eq_true rfl) (Nat.le_of_ble_eq_true rfl) rfl rfl (m_Sc_refuse a110) (fun o u q => ?_)
        obtain ⟨rfl, a110, f9⟩ := q
        show mm_P g d MX10_takeNumber (39 + 3) _ [.int 0] u _
        refine mm_if_eq 49 dX10_takeNumber_42 (by decide) (fun _ => ?_) (fun z => absurd rfl z)
        refine mm_iconst (v := 0) dX10_takeNumber_49 (by decide +kernel) ?_
        refine mm_iret rfl rfl dX10_takeNumber_50 ?_
        exact ⟨rfl, a110, f9⟩
    refine mm_iload_n dX10_takeNumber_17 rfl ?_
    refine mm_bipush (v := 48) dX10_takeNumber_18 (by decide +kernel) ?_
    refine mm_icmp_lt 29 dX10_takeNumber_20 (by decide) (fun z1 => t29 (Or.inl z1)) (fun z1 => ?_)
    refine mm_iload_n dX10_takeNumber_23 rfl ?_
    refine mm_bipush (v := 57) dX10_takeNumber_24 (by decide +kernel) ?_
    refine mm_icmp_le 51 dX10_takeNumber_26 (by decide) (fun z2 => ?_) (fun z2 => t29 (Or.inr z2))
    have hn : ¬ (sgOf b en p < 48 ∨ ¬ sgOf b en p ≤ 57) := fun w => w.elim z1 (fun v => v z2)
    rw [scNumL, if_neg hn]
    refine mm_iload_n dX10_takeNumber_51 rfl ?_
    refine mm_iconst (v := 4) dX10_takeNumber_52 (by decide +kernel) ?_
    refine mm_icmp_ne 66 dX10_takeNumber_53 (by decide) (fun _ => ?_) (fun z => absurd ((nI_eq (a := c) (b := 4) (by omega) (by omega)).mp z) (by omega))
    refine mm_aload_n dX10_takeNumber_66 rfl ?_
    by_cases hs : p < lim
    · rw [if_pos hs]
      refine mm_callV (d' := d - 1) (as := []) (st := []) (by omega) cm_X10_step (mm_t4 43 rfl rfl) (mm_t4 45 rfl rfl) (mm_s1 13 rfl rfl) (T := TX10) (N := 13) rfl dX10_takeNumber_67 a110 rfl (Nat.le_of_ble_eq_true rfl) (Nat.le_of_ble_eq_true rfl) rfl rfl (m_Sc_step1 (by omega) a110 (by omega) hl hs) (fun o u q => ?_)
      obtain ⟨rfl, a110, f1⟩ := q
      have B := B.frS f1 (by decide) hk
      show mm_P g d MX10_takeNumber (67 + 3) _ [.int 1] u _
      refine mm_if_ne 75 dX10_takeNumber_70 (by decide) (fun _ => ?_) (fun z => absurd z (by decide))
      refine mm_aload_n dX10_takeNumber_75 rfl ?_
      refine mm_bipush (v := 10) dX10_takeNumber_76 (by decide +kernel) ?_
      refine mm_aload_n dX10_takeNumber_78 rfl ?_
      refine mm_get lk_X10_178_X10 dX10_takeNumber_79 a110 rfl ?_
      refine mm_imul dX10_takeNumber_82 ?_
      refine mm_iload_n dX10_takeNumber_83 rfl ?_
      refine mm_iadd dX10_takeNumber_84 ?_
      refine mm_bipush (v := 48) dX10_takeNumber_85 (by decide +kernel) ?_
      refine mm_isub dX10_takeNumber_87 ?_
      refine mm_put1 (fs' := [.ref 65, .ref 69, .ref 76, .ref 84, .ref 91, .ref 94, .int (nI en), .int (nI (p + 1)), .int (nI lim - 60), .int (10 * nu + sgOf b en p - 48), .long nm, .int fa, .int pl]) lk_X10_178_X10 rfl dX10_takeNumber_88 a110 (fun _ e => by rw [e]; rfl) (fun _ e => by rw [e]; rfl) (Nat.le_of_ble_eq_true rfl) rfl (fun h2 e2 => ?_)
      have a110 := mm_at.up1 a110 e2
      have f2 := mm_fr.up f1 e2 (by decide) (by decide)
      have f3 : mm_fr 110 110 u h2 := mm_fr.up mm_fr.rfl e2 (by decide) (by decide)
      have B := B.frS f3 (by decide) hk
      refine mm_iinc (v := nI (c + 1)) (ls' := [some (.ref 110), some (.int (nI (c + 1))), some (.int (sgOf b en p))]) dX10_takeNumber_91 rfl (nI_1 _) rfl ?_
      refine mm_goto 7 dX10_takeNumber_94 (by decide) ?_
      refine mm_cons (ih (c + 1) (p + 1) (10 * nu + sgOf b en p - 48) _ h2 (by omega) (by omega) a110 B) (fun o h' w => ⟨w.1, w.2.1, mm_fr.trans f2 w.2.2 (by decide) (by decide) (by decide) (by decide)⟩)
    · rw [if_neg hs]
      refine mm_callV (d' := d - 1) (as := []) (st := []) (by omega) cm_X10_step (mm_t4 43 rfl rfl) (mm_t4 45 rfl rfl) (mm_s1 13 rfl rfl) (T := TX10) (N := 13) rfl dX10_takeNumber_67 a110 rfl (Nat.le_of_ble_eq_true rfl) (Nat.le_of_ble_eq_true rfl) rfl rfl (m_Sc_step0 (by omega) a110 (by omega) hl hs) (fun o u q => ?_)
      obtain ⟨rfl, a110, f1⟩ := q
      show mm_P g d MX10_takeNumber (67 + 3) _ [.int 0] u _
      refine mm_if_ne 75 dX10_takeNumber_70 (by decide) (fun z => absurd rfl z) (fun _ => ?_)
      refine mm_iconst (v := 0) dX10_takeNumber_73 (by decide +kernel) ?_
      refine mm_iret rfl rfl dX10_takeNumber_74 ?_
      exact ⟨rfl, a110, f1⟩
end MTN
