theorem m_Sc_takeNumber {g : mm_G} {d en p lim sz mk k cap : Nat} {nu fa pl : Int32} {nm : Int64} {b : Nat → Nat} {h : mm_Hp} (hd : 3 ≤ d) (a110 : ScAt h (en, p, lim, nu, nm, fa, pl)) (B : ByAt h 65 3000 sz mk k cap b) (hen : en ≤ sz) (hsz : sz ≤ 3000) (hk : ¬ (110 ≤ k ∧ k ≤ 110)) (hl : lim < 2 ^ 20) (hp : p + 4 < 2 ^ 20) :
    mm_P g d MX10_takeNumber 0 [some (.ref 110), none, none] [] h (fun o h' => o = .inl (some (.int (scNumL b en lim nm fa pl 4 p 0).1)) ∧ ScAt h' (scNumL b en lim nm fa pl 4 p 0).2 ∧ mm_fr 110 110 h h') := by
  refine mm_aload_n dX10_takeNumber_0 rfl ?_
  refine mm_iconst (v := 0) dX10_takeNumber_1 (by decide +kernel) ?_
  refine mm_put1 (fs' := [.ref 65, .ref 69, .ref 76, .ref 84, .ref 91, .ref 94, .int (nI en), .int (nI p), .int (nI lim - 60), .int 0, .long nm, .int fa, .int pl]) lk_X10_178_X10 rfl dX10_takeNumber_2 a110 (fun _ e => by rw [e]; rfl) (fun _ e => by rw [e]; rfl) (Nat.le_of_ble_eq_true rfl) rfl (fun h2 e2 => ?_)
  have a110 := mm_at.up1 a110 e2
  have f2 : mm_fr 110 110 h h2 := mm_fr.up mm_fr.rfl e2 (by decide) (by decide)
  have B := B.frS f2 (by decide) hk
  refine mm_iconst (v := 0) dX10_takeNumber_5 (by decide +kernel) ?_
  refine mm_istore_n (ls' := [some (.ref 110), some (.int (nI 0)), none]) dX10_takeNumber_6 (Nat.le_of_ble_eq_true rfl) rfl ?_
  exact mm_cons (m_Sc_num_loop hd hen hsz hk hl 4 0 p 0 none h2 rfl hp a110 B) (fun o h' w => ⟨w.1, w.2.1, mm_fr.trans f2 w.2.2 (by decide) (by decide) (by decide) (by decide)⟩)
/-- a name's letters: r more may come -/
def scNamL (b : Nat → Nat) (en lim : Nat) (nu fa pl : Int32) : Nat → Nat → Int64 → Int32 × Sc
  | 0, p, nm => if nsOf (sgOf b en p) = true then (0, (en, p, lim, nu, nm, 2, nI p)) else (1, (en, p, lim, nu, nm, fa, pl))
  | r + 1, p, nm => if nsOf (sgOf b en p) = true then (if p < lim then scNamL b en lim nu fa pl r (p + 1) (nm <<< (Int32.toInt64 8 &&& 63) ||| Int32.toInt64 (sgOf b en p)) else (0, (en, p, lim, nu, nm, 2, nI p)))
    else (if r = 5 then (0, (en, p, lim, nu, nm, 1, nI p)) else (1, (en, p, lim, nu, nm, fa, pl)))
section MTM
variable {g : mm_G} {d en lim sz mk k cap : Nat} {nu fa pl : Int32} {b : Nat → Nat}
set_option maxHeartbeats 4000000 in
theorem m_Sc_nam_loop (hd : 3 ≤ d) (hen : en ≤ sz) (hsz : sz ≤ 3000) (hk : ¬ (110 ≤ k ∧ k ≤ 110)) (hl : lim < 2 ^ 20) : ∀ (r c p : Nat) (nm : Int64) (y : Option Value) (h : mm_Hp), r + c = 6 → p + r < 2 ^ 20 → ScAt h (en, p, lim, nu, nm, fa, pl) → ByAt h 65 3000 sz mk k cap b →
    mm_P g d MX10_takeName 7 [some (.ref 110), some (.int (nI c)), y] [] h (fun o h' => o = .inl (some (.int (scNamL b en lim nu fa pl r p nm).1)) ∧ ScAt h' (scNamL b en lim nu fa pl r p nm).2 ∧ mm_fr 110 110 h h') := by
  intro r
  induction r with
  | zero =>
    intro c p nm y h hc hp a110 B
    refine mm_iload_n dX10_takeName_7 rfl ?_
    refine mm_bipush (v := 6) dX10_takeName_8 (by decide +kernel) ?_
    refine mm_icmp_gt 92 dX10_takeName_10 (by decide) (fun z => absurd ((nI_ltI (a := 6) (b := c) (by omega) (by omega)).mp z) (by omega)) (fun _ => ?_)
    refine mm_aload_n dX10_takeName_13 rfl ?_
    refine mm_callV (d' := d - 1) (as := []) (st := []) (by omega) cm_X10_sign (mm_t3 171 rfl rfl) (mm_t3 173 rfl rfl) (mm_s1 9 rfl rfl) (T := TX10) (N := 13) rfl dX10_takeName_14 a110 rfl (Nat.le_of_ble_eq_true rfl) (Nat.le_of_ble_eq_true rfl) rfl rfl (m_Sc_sign (by omega) a110 B hen hsz (by omega)) (fun o u q => mm_thenI q ?_)
    refine mm_istore_n (ls' := [some (.ref 110), some (.int (nI c)), some (.int (sgOf b en p))]) dX10_takeName_17 (Nat.le_of_ble_eq_true rfl) rfl ?_
    refine mm_iload_n dX10_takeName_18 rfl ?_
    refine mm_callS (d' := d - 1) (as := [.int (sgOf b en p)]) (st := []) (by omega) cm_X10_isOfName (mm_t4 71 rfl rfl) (mm_t4 72 rfl rfl) dX10_takeName_19 rfl (Nat.le_of_ble_eq_true rfl) (Nat.le_of_ble_eq_true rfl) rfl rfl m_Sc_isOfName (fun o u q => mm_thenI q ?_)
    by_cases hn : nsOf (sgOf b en p) = true
    · rw [if_pos hn, scNamL, if_pos hn]
      refine mm_if_ne 47 dX10_takeName_22 (by decide) (fun _ => ?_) (fun z => absurd z (by decide))
      refine mm_iload_n dX10_takeName_47 rfl ?_
      refine mm_bipush (v := 6) dX10_takeName_48 (by decide +kernel) ?_
      refine mm_icmp_ne 63 dX10_takeName_50 (by decide) (fun z => absurd ((nI_eq (a := c) (b := 6) (by omega) (by omega)).mpr (by omega)) z) (fun _ => ?_)
      refine mm_aload_n dX10_takeName_53 rfl ?_
      refine mm_iconst (v := 2) dX10_takeName_54 (by decide +kernel) ?_
      refine mm_aload_n dX10_takeName_55 rfl ?_
      refine mm_get lk_X10_39_X10 dX10_takeName_56 a110 rfl ?_
      refine mm_callV (d' := d - 1) (as := [.int 2, .int (nI p)]) (st := []) (by omega) cm_X10_refuse (mm_t4 28 rfl rfl) (mm_t4 30 rfl rfl) (mm_s1 11 rfl rfl) (T := TX10) (N := 13) rfl dX10_takeName_59 a110 rfl (Nat.le_of_ble_eq_true rfl) (Nat.le_of_ble_eq_true rfl) rfl rfl (m_Sc_refuse a110) (fun o u q => ?_)
      obtain ⟨rfl, a110, f9⟩ := q
      show mm_P g d MX10_takeName (59 + 3) _ [.int 0] u _
      refine mm_iret rfl rfl dX10_takeName_62 ?_
      exact ⟨rfl, a110, f9⟩
    · rw [if_neg hn, scNamL, if_neg hn]
      refine mm_if_ne 47 dX10_takeName_22 (by decide) (fun z => absurd rfl z) (fun _ => ?_)
      refine mm_iload_n dX10_takeName_25 rfl ?_
      refine mm_if_gt 41 dX10_takeName_26 (by decide) (fun _ => ?_) (fun z => absurd (nI_lt (a := 0) (b := c) (by omega) (by omega)) z)
      refine mm_iconst (v := 1) dX10_takeName_41 (by decide +kernel) ?_
      refine mm_goto 46 dX10_takeName_42 (by decide) ?_
      refine mm_iret rfl rfl dX10_takeName_46 ?_
      exact ⟨rfl, a110, mm_fr.rfl⟩
  | succ r ih =>
    intro c p nm y h hc hp a110 B
    refine mm_iload_n dX10_takeName_7 rfl ?_
    refine mm_bipush (v := 6) dX10_takeName_8 (by decide +kernel) ?_
    refine mm_icmp_gt 92 dX10_takeName_10 (by decide) (fun z => absurd ((nI_ltI (a := 6) (b := c) (by omega) (by omega)).mp z) (by omega)) (fun _ => ?_)
    refine mm_aload_n dX10_takeName_13 rfl ?_
    refine mm_callV (d' := d - 1) (as := []) (st := []) (by omega) cm_X10_sign (mm_t3 171 rfl rfl) (mm_t3 173 rfl rfl) (mm_s1 9 rfl rfl) (T := TX10) (N := 13) rfl dX10_takeName_14 a110 rfl (Nat.le_of_ble_eq_true rfl) (Nat.le_of_ble_eq_true rfl) rfl rfl (m_Sc_sign (by omega) a110 B hen hsz (by omega)) (fun o u q => mm_thenI q ?_)
    refine mm_istore_n (ls' := [some (.ref 110), some (.int (nI c)), some (.int (sgOf b en p))]) dX10_takeName_17 (Nat.le_of_ble_eq_true rfl) rfl ?_
    refine mm_iload_n dX10_takeName_18 rfl ?_
    refine mm_callS (d' := d - 1) (as := [.int (sgOf b en p)]) (st := []) (by omega) cm_X10_isOfName (mm_t4 71 rfl rfl) (mm_t4 72 rfl rfl) dX10_takeName_19 rfl (Nat.le_of_ble_eq_true rfl) (Nat.le_of_ble_eq_true rfl) rfl rfl m_Sc_isOfName (fun o u q => mm_thenI q ?_)
    by_cases hn : nsOf (sgOf b en p) = true
    · rw [if_pos hn, scNamL, if_pos hn]
      refine mm_if_ne 47 dX10_takeName_22 (by decide) (fun _ => ?_) (fun z => absurd z (by decide))
      refine mm_iload_n dX10_takeName_47 rfl ?_
      refine mm_bipush (v := 6) dX10_takeName_48 (by decide +kernel) ?_
      refine mm_icmp_ne 63 dX10_takeName_50 (by decide) (fun _ => ?_) (fun z => absurd ((nI_eq (a := c) (b := 6) (by omega) (by omega)).mp z) (by omega))
      refine mm_aload_n dX10_takeName_63 rfl ?_
      by_cases hs : p < lim
      · rw [if_pos hs]
        refine mm_callV (d' := d - 1) (as := []) (st := []) (by omega) cm_X10_step (mm_t4 43 rfl rfl) (mm_t4 45 rfl rfl) (mm_s1 13 rfl rfl) (T := TX10) (N := 13) rfl dX10_takeName_64 a110 rfl (Nat.le_of_ble_eq_true rfl) (Nat.le_of_ble_eq_true rfl) rfl rfl (m_Sc_step1 (by omega) a110 (by omega) hl hs) (fun o u q => ?_)
        obtain ⟨rfl, a110, f1⟩ := q
        have B := B.frS f1 (by decide) hk
        show mm_P g d MX10_takeName (64 + 3) _ [.int 1] u _
        refine mm_if_ne 72 dX10_takeName_67 (by decide) (fun _ => ?_) (fun z => absurd z (by decide))
        refine mm_aload_n dX10_takeName_72 rfl ?_
        refine mm_aload_n dX10_takeName_73 rfl ?_
        refine mm_get lk_X10_188_X10 dX10_takeName_74 a110 rfl ?_
        refine mm_bipush (v := 8) dX10_takeName_77 (by decide +kernel) ?_
        refine mm_lshl dX10_takeName_79 ?_
        refine mm_iload_n dX10_takeName_80 rfl ?_
        refine mm_i2l dX10_takeName_81 ?_
        refine mm_lor dX10_takeName_82 ?_
        refine mm_put1 (fs' := [.ref 65, .ref 69, .ref 76, .ref 84, .ref 91, .ref 94, .int (nI en), .int (nI (p + 1)), .int (nI lim - 60), .int nu, .long (nm <<< (Int32.toInt64 8 &&& 63) ||| Int32.toInt64 (sgOf b en p)), .int fa, .int pl]) lk_X10_188_X10 rfl dX10_takeName_83 a110 (fun _ e => by rw [e]; rfl) (fun _ e => by rw [e]; rfl) (Nat.le_of_ble_eq_true rfl) rfl (fun h2 e2 => ?_)
        have a110 := mm_at.up1 a110 e2
        have f2 := mm_fr.up f1 e2 (by decide) (by decide)
        have f3 : mm_fr 110 110 u h2 := mm_fr.up mm_fr.rfl e2 (by decide) (by decide)
        have B := B.frS f3 (by decide) hk
        refine mm_iinc (v := nI (c + 1)) (ls' := [some (.ref 110), some (.int (nI (c + 1))), some (.int (sgOf b en p))]) dX10_takeName_86 rfl (nI_1 _) rfl ?_
        refine mm_goto 7 dX10_takeName_89 (by decide) ?_
        exact mm_cons (ih (c + 1) (p + 1) _ _ h2 (by omega) (by omega) a110 B) (fun o h' w => ⟨w.1, w.2.1, mm_fr.trans f2 w.2.2 (by decide) (by decide) (by decide) (by decide)⟩)
      · rw [if_neg hs]
        refine mm_callV (d' := d - 1) (as := []) (st := []) (by omega) cm_X10_step (mm_t4 43 rfl rfl) (mm_t4 45 rfl rfl) (mm_s1 13 rfl rfl) (T := TX10) (N := 13) rfl dX10_takeName_64 a110 rfl (Nat.le_of_ble_eq_true rfl) (Nat.le_of_ble_eq_true rfl) rfl rfl (m_Sc_step0 (by omega) a110 (by omega) hl hs) (fun o u q => ?_)
        obtain ⟨rfl, a110, f1⟩ := q
        show mm_P g d MX10_takeName (64 + 3) _ [.int 0] u _
        refine mm_if_ne 72 dX10_takeName_67 (by decide) (fun z => absurd rfl z) (fun _ => ?_)
        refine mm_iconst (v := 0) dX10_takeName_70 (by decide +kernel) ?_
        refine mm_iret rfl rfl dX10_takeName_71 ?_
        exact ⟨rfl, a110, f1⟩
    · rw [if_neg hn, scNamL, if_neg hn]
      refine mm_if_ne 47 dX10_takeName_22 (by decide) (fun z => absurd rfl z) (fun _ => ?_)
      refine mm_iload_n dX10_takeName_25 rfl ?_
      refine mm_if_gt 41 dX10_takeName_26 (by decide) (fun z => ?_) (fun z => ?_)
      · have hc0 : 0 < c := (nI_ltI (a := 0) (b := c) (by omega) (by omega)).mp z
        rw [if_neg (show ¬ r = 5 by omega)]
        refine mm_iconst (v := 1) dX10_takeName_41 (by decide +kernel) ?_
        refine mm_goto 46 dX10_takeName_42 (by decide) ?_
        refine mm_iret rfl rfl dX10_takeName_46 ?_
        exact ⟨rfl, a110, mm_fr.rfl⟩
      · have hc0 : ¬ 0 < c := fun w => z ((nI_ltI (a := 0) (b := c) (by omega) (by omega)).mpr w)
        rw [if_pos (show r = 5 by omega)]
        refine mm_aload_n dX10_takeName_29 rfl ?_
        refine mm_iconst (v := 1) dX10_takeName_30 (by decide +kernel) ?_
        refine mm_aload_n dX10_takeName_31 rfl ?_
        refine mm_get lk_X10_39_X10 dX10_takeName_32 a110 rfl ?_
        refine mm_callV (d' := d - 1) (as := [.int 1, .int (nI p)]) (st := []) (by omega) cm_X10_refuse (mm_t4 28 rfl rfl) (mm_t4 30 rfl rfl) (mm_s1 11 rfl rfl) (T := TX10) (N := 13) rfl dX10_takeName_35 a110 rfl (Nat.le_of_ble_eq_true rfl) (Nat.le_of_ble_eq_true rfl) rfl rfl (m_Sc_refuse a110) (fun o u q => ?_)
        obtain ⟨rfl, a110, f9⟩ := q
        show mm_P g d MX10_takeName (35 + 3) _ [.int 0] u _
        refine mm_if_eq 45 dX10_takeName_38 (by decide) (fun _ => ?_) (fun z => absurd rfl z)
        refine mm_iconst (v := 0) dX10_takeName_45 (by decide +kernel) ?_
        refine mm_iret rfl rfl dX10_takeName_46 ?_
        exact ⟨rfl, a110, f9⟩
end MTM
theorem m_Sc_takeName {g : mm_G} {d en p lim sz mk k cap : Nat} {nu fa pl : Int32} {nm : Int64} {b : Nat → Nat} {h : mm_Hp} (hd : 3 ≤ d) (a110 : ScAt h (en, p, lim, nu, nm, fa, pl)) (B : ByAt h 65 3000 sz mk k cap b) (hen : en ≤ sz) (hsz : sz ≤ 3000) (hk : ¬ (110 ≤ k ∧ k ≤ 110)) (hl : lim < 2 ^ 20) (hp : p + 6 < 2 ^ 20) :
    mm_P g d MX10_takeName 0 [some (.ref 110), none, none] [] h (fun o h' => o = .inl (some (.int (scNamL b en lim nu fa pl 6 p 0).1)) ∧ ScAt h' (scNamL b en lim nu fa pl 6 p 0).2 ∧ mm_fr 110 110 h h') := by
  refine mm_aload_n dX10_takeName_0 rfl ?_
  refine mm_lconst (v := 0) dX10_takeName_1 (by decide +kernel) ?_
  refine mm_put1 (fs' := [.ref 65, .ref 69, .ref 76, .ref 84, .ref 91, .ref 94, .int (nI en), .int (nI p), .int (nI lim - 60), .int nu, .long 0, .int fa, .int pl]) lk_X10_188_X10 rfl dX10_takeName_2 a110 (fun _ e => by rw [e]; rfl) (fun _ e => by rw [e]; rfl) (Nat.le_of_ble_eq_true rfl) rfl (fun h2 e2 => ?_)
  have a110 := mm_at.up1 a110 e2
  have f2 : mm_fr 110 110 h h2 := mm_fr.up mm_fr.rfl e2 (by decide) (by decide)
  have B := B.frS f2 (by decide) hk
  refine mm_iconst (v := 0) dX10_takeName_5 (by decide +kernel) ?_
  refine mm_istore_n (ls' := [some (.ref 110), some (.int (nI 0)), none]) dX10_takeName_6 (Nat.le_of_ble_eq_true rfl) rfl ?_
  exact mm_cons (m_Sc_nam_loop hd hen hsz hk hl 6 0 p 0 none h2 rfl hp a110 B) (fun o h' w => ⟨w.1, w.2.1, mm_fr.trans f2 w.2.2 (by decide) (by decide) (by decide) (by decide)⟩)
