theorem m_full0 {g : mm_G} {d ci N r n m : Nat} {C : String} {T : u_T} {ty : Nat → FieldType} {h : mm_Hp} {fs : List Value} (l : mm_lk RX9 13 ci 1 C T N ty) (l2 : mm_lk RX9 7 ci 0 C T N ty) (a : mm_at h r (.inr (ci, fs))) (hf : fs[1]? = some (.int (nI n))) (hf0 : fs[0]? = some (.int (nI m))) (hn : n < m) (hm : m < 2 ^ 31) : mm_P g d MX9_isFull 0 [some (.ref r)] [] h (mm_pureI 0 h) := by
  have z := m_isFull (g := g) (d := d) l l2 a hf hf0
  rw [if_pos (nI_lt hn hm)] at z
  exact z
theorem m_full1 {g : mm_G} {d ci N r n m : Nat} {C : String} {T : u_T} {ty : Nat → FieldType} {h : mm_Hp} {fs : List Value} (l : mm_lk RX9 13 ci 1 C T N ty) (l2 : mm_lk RX9 7 ci 0 C T N ty) (a : mm_at h r (.inr (ci, fs))) (hf : fs[1]? = some (.int (nI n))) (hf0 : fs[0]? = some (.int (nI m))) (hn : ¬ n < m) (hn2 : n < 2 ^ 31) (hm : m < 2 ^ 31) : mm_P g d MX9_isFull 0 [some (.ref r)] [] h (mm_pureI 1 h) := by
  have z := m_isFull (g := g) (d := d) l l2 a hf hf0
  rw [if_neg (fun w => hn ((nI_ltI hn2 hm).mp w))] at z
  exact z
theorem ScN.fs {L : List (Nat × Nat)} {h h1 : mm_Hp} {en lim k q : Nat} (A : ScN h en lim k q) (f : Fs L h h1) (o : offL L 110 110 = true) : ScN h1 en lim k q := by
  obtain ⟨p, nu, nm, A⟩ := A
  exact ⟨p, nu, nm, A.fs f o⟩
theorem lg_cmp0 {a b : Int64} : lg_cmp a b = 0 ↔ a = b := by
  unfold lg_cmp
  constructor
  · intro h
    by_cases c : a = b
    · exact c
    · exfalso
      revert h
      by_cases c1 : a > b
      · rw [if_pos c1]; decide
      · rw [if_neg c1, if_neg c]; decide
  · intro h
    subst h
    simp
/-! what the reader writes: facts (rest, place, subject, day, value), mentions (line, exhibit), namings (line, exhibit, name) -/
abbrev FT : Type := Nat → Nat × Int32 × Int32 × Int32 × Int32
abbrev GT : Type := Nat → Nat × Nat
abbrev NT : Type := Nat → Nat × Nat × Int64
def fu {α : Type} (F : Nat → α) (n : Nat) (x : α) : Nat → α := fun i => if i = n then x else F i
theorem fu_at {α : Type} {F : Nat → α} {n : Nat} {x : α} : fu F n x n = x := if_pos rfl
theorem fu_ne {α : Type} {F : Nat → α} {n i : Nat} {x : α} (e : i ≠ n) : fu F n x i = F i := if_neg e
theorem upd_at {f : Nat → Int32} {n : Nat} {x : Int32} : upd f n x n = x := by simp [upd]
theorem upd_ne {f : Nat → Int32} {n i : Nat} {x : Int32} (e : i ≠ n) : upd f n x i = f i := by simp [upd, e]
def faEq (lo cx : Nat → Nat) (li re pl su da va : Nat → Int32) (F : FT) (i : Nat) : Prop := li i = nI (lo (F i).1) ∧ re i = nI (cx (F i).1) ∧ pl i = (F i).2.1 ∧ su i = (F i).2.2.1 ∧ da i = (F i).2.2.2.1 ∧ va i = (F i).2.2.2.2
def FaR (h : mm_Hp) (n mk : Nat) (lo cx : Nat → Nat) (F : FT) : Prop := n ≤ 150 ∧ ∃ li re pl su da va, FaAt h n mk li re pl su da va ∧ ∀ i, i < n → faEq lo cx li re pl su da va F i
/-- the first mk facts still stand -/
def FaW (h : mm_Hp) (mk : Nat) (lo cx : Nat → Nat) (F : FT) : Prop := ∃ n li re pl su da va, n ≤ 150 ∧ FaAt h n mk li re pl su da va ∧ ∀ i, i < mk → faEq lo cx li re pl su da va F i
theorem FaR.fs {L : List (Nat × Nat)} {h h1 : mm_Hp} {n mk : Nat} {lo cx : Nat → Nat} {F : FT} (A : FaR h n mk lo cx F) (f : Fs L h h1) (o : offL L 84 90 = true) : FaR h1 n mk lo cx F := by
  obtain ⟨h0, li, re, pl, su, da, va, A, q⟩ := A
  exact ⟨h0, li, re, pl, su, da, va, A.fs f o, q⟩
theorem FaW.fs {L : List (Nat × Nat)} {h h1 : mm_Hp} {mk : Nat} {lo cx : Nat → Nat} {F : FT} (A : FaW h mk lo cx F) (f : Fs L h h1) (o : offL L 84 90 = true) : FaW h1 mk lo cx F := by
  obtain ⟨n, li, re, pl, su, da, va, h0, A, q⟩ := A
  exact ⟨n, li, re, pl, su, da, va, h0, A.fs f o, q⟩
theorem FaR.w {h : mm_Hp} {n mk : Nat} {lo cx : Nat → Nat} {F : FT} (A : FaR h n mk lo cx F) (hm : mk ≤ n) : FaW h mk lo cx F := by
  obtain ⟨h0, li, re, pl, su, da, va, A, q⟩ := A
  exact ⟨n, li, re, pl, su, da, va, h0, A, fun i hi => q i (by omega)⟩
theorem FaW.cg {h : mm_Hp} {mk : Nat} {lo cx : Nat → Nat} {F F' : FT} (A : FaW h mk lo cx F) (e : ∀ i, i < mk → F i = F' i) : FaW h mk lo cx F' := by
  obtain ⟨n, li, re, pl, su, da, va, h0, A, q⟩ := A
  exact ⟨n, li, re, pl, su, da, va, h0, A, fun i hi => by have := q i hi; unfold faEq at this ⊢; rw [← e i hi]; exact this⟩
theorem faEq.up {lo cx : Nat → Nat} {li re pl su da va : Nat → Int32} {F : FT} {n i : Nat} {a b c s d v a' b' c' s' d' v' : Int32} {x : Nat × Int32 × Int32 × Int32 × Int32} (q : ∀ i, i < n → faEq lo cx li re pl su da va F i) (hi : i < n) : faEq lo cx (upd li n a) (upd re n b) (upd pl n c) (upd su n s) (upd da n d) (upd va n v) (fu F n x) i := by
  have e : i ≠ n := by omega
  unfold faEq
  rw [upd_ne e, upd_ne e, upd_ne e, upd_ne e, upd_ne e, upd_ne e, fu_ne e]
  exact q i hi
def meEq (li ex : Nat → Int32) (G : GT) (i : Nat) : Prop := li i = nI (G i).1 ∧ ex i = nI (G i).2
def MeR (h : mm_Hp) (n mk : Nat) (G : GT) : Prop := n ≤ 100 ∧ ∃ li ex, MeAt h n mk li ex ∧ ∀ i, i < n → meEq li ex G i
def MeW (h : mm_Hp) (mk : Nat) (G : GT) : Prop := ∃ n li ex, n ≤ 100 ∧ MeAt h n mk li ex ∧ ∀ i, i < mk → meEq li ex G i
theorem MeR.fs {L : List (Nat × Nat)} {h h1 : mm_Hp} {n mk : Nat} {G : GT} (A : MeR h n mk G) (f : Fs L h h1) (o : offL L 91 93 = true) : MeR h1 n mk G := by
  obtain ⟨h0, li, ex, A, q⟩ := A
  exact ⟨h0, li, ex, A.fs f o, q⟩
theorem MeW.fs {L : List (Nat × Nat)} {h h1 : mm_Hp} {mk : Nat} {G : GT} (A : MeW h mk G) (f : Fs L h h1) (o : offL L 91 93 = true) : MeW h1 mk G := by
  obtain ⟨n, li, ex, h0, A, q⟩ := A
  exact ⟨n, li, ex, h0, A.fs f o, q⟩
theorem MeR.w {h : mm_Hp} {n mk : Nat} {G : GT} (A : MeR h n mk G) (hm : mk ≤ n) : MeW h mk G := by
  obtain ⟨h0, li, ex, A, q⟩ := A
  exact ⟨n, li, ex, h0, A, fun i hi => q i (by omega)⟩
theorem MeW.cg {h : mm_Hp} {mk : Nat} {F F' : GT} (A : MeW h mk F) (e : ∀ i, i < mk → F i = F' i) : MeW h mk F' := by
  obtain ⟨n, li, ex, h0, A, q⟩ := A
  exact ⟨n, li, ex, h0, A, fun i hi => by have := q i hi; unfold meEq at this ⊢; rw [← e i hi]; exact this⟩
theorem meEq.up {li ex : Nat → Int32} {F : GT} {n i : Nat} {a b : Int32} {x : Nat × Nat} (q : ∀ i, i < n → meEq li ex F i) (hi : i < n) : meEq (upd li n a) (upd ex n b) (fu F n x) i := by
  have e : i ≠ n := by omega
  unfold meEq
  rw [upd_ne e, upd_ne e, fu_ne e]
  exact q i hi
def naEq (li ex : Nat → Int32) (na : Nat → Int64) (N : NT) (i : Nat) : Prop := li i = nI (N i).1 ∧ ex i = nI (N i).2.1 ∧ na i = (N i).2.2
def naOk (N : NT) (i : Nat) : Prop := (N i).1 < 200 ∧ (N i).2.1 < 20
def NaR (h : mm_Hp) (n mk : Nat) (N : NT) : Prop := n ≤ 200 ∧ (∀ i, i < n → naOk N i) ∧ ∃ li ex na, NaAt h n mk li ex na ∧ ∀ i, i < n → naEq li ex na N i
def NaW (h : mm_Hp) (mk : Nat) (N : NT) : Prop := ∃ n li ex na, n ≤ 200 ∧ NaAt h n mk li ex na ∧ ∀ i, i < mk → naEq li ex na N i
theorem NaR.fs {L : List (Nat × Nat)} {h h1 : mm_Hp} {n mk : Nat} {N : NT} (A : NaR h n mk N) (f : Fs L h h1) (o : offL L 94 97 = true) : NaR h1 n mk N := by
  obtain ⟨h0, h2, li, ex, na, A, q⟩ := A
  exact ⟨h0, h2, li, ex, na, A.fs f o, q⟩
theorem NaW.fs {L : List (Nat × Nat)} {h h1 : mm_Hp} {mk : Nat} {N : NT} (A : NaW h mk N) (f : Fs L h h1) (o : offL L 94 97 = true) : NaW h1 mk N := by
  obtain ⟨n, li, ex, na, h0, A, q⟩ := A
  exact ⟨n, li, ex, na, h0, A.fs f o, q⟩
theorem NaR.w {h : mm_Hp} {n mk : Nat} {N : NT} (A : NaR h n mk N) (hm : mk ≤ n) : NaW h mk N := by
  obtain ⟨h0, -, li, ex, na, A, q⟩ := A
  exact ⟨n, li, ex, na, h0, A, fun i hi => q i (by omega)⟩
theorem NaW.cg {h : mm_Hp} {mk : Nat} {F F' : NT} (A : NaW h mk F) (e : ∀ i, i < mk → F i = F' i) : NaW h mk F' := by
  obtain ⟨n, li, ex, na, h0, A, q⟩ := A
  exact ⟨n, li, ex, na, h0, A, fun i hi => by have := q i hi; unfold naEq at this ⊢; rw [← e i hi]; exact this⟩
/-- the exhibit that has a name behind a line -/
def hold (N : NT) (w : Int64) (l : Nat) : Nat → Nat → Option Nat → Option Nat
  | 0, _, f => f
  | m + 1, i, f => if l < (N i).1 then f else hold N w l m (i + 1) (if (N i).2.2 = w then some (N i).2.1 else if f = some (N i).2.1 then none else f)
def oI (x : Option Nat) : Int32 := match x with
  | none => -1
  | some x => nI x
theorem oI_no {x : Option Nat} (h : ∀ y, x = some y → y < 2 ^ 31) : oI x = -1 ↔ x = none := by
  cases x with
  | none => exact ⟨fun _ => rfl, fun _ => rfl⟩
  | some y => exact ⟨fun z => absurd (show (nI y).toInt = -1 by rw [show nI y = -1 from z]; decide) (by rw [nI_toInt (h y rfl)]; omega), fun z => by cases z⟩
theorem oI_eq {x : Option Nat} {y : Nat} (h : ∀ y, x = some y → y < 2 ^ 31) (hy : y < 2 ^ 31) : nI y = oI x ↔ x = some y := by
  cases x with
  | none => exact ⟨fun z => absurd (show (nI y).toInt = -1 by rw [show nI y = -1 from z]; decide) (by rw [nI_toInt hy]; omega), fun z => by cases z⟩
  | some z => exact ⟨fun w => congrArg some (((nI_eq hy (h z rfl)).mp w).symm), fun w => by cases w; rfl⟩
theorem hold_in {N : NT} {w : Int64} {l n : Nat} (hN : ∀ i, i < n → naOk N i) : ∀ {m i : Nat} {f : Option Nat}, i + m = n → (∀ y, f = some y → y < 20) → ∀ y, hold N w l m i f = some y → y < 20 := by
  intro m
  induction m with
  | zero => intro i f _ hf; exact hf
  | succ m ih =>
    intro i f hi hf
    rw [hold]
    by_cases c : l < (N i).1
    · rw [if_pos c]; exact hf
    · rw [if_neg c]
      refine ih (by omega) (fun y hy => ?_)
      by_cases c1 : (N i).2.2 = w
      · rw [if_pos c1] at hy; cases hy; exact (hN i (by omega)).2
      · rw [if_neg c1] at hy
        by_cases c2 : f = some (N i).2.1
        · rw [if_pos c2] at hy; cases hy
        · rw [if_neg c2] at hy; exact hf y hy
theorem hold_eq {N : NT} {w : Int64} {l n : Nat} {li ex : Nat → Int32} {na : Nat → Int64} (hl : l < 2 ^ 31) (hN : ∀ i, i < n → naOk N i) (q : ∀ i, i < n → naEq li ex na N i) : ∀ {m i : Nat} {f : Option Nat}, i + m = n → (∀ y, f = some y → y < 20) → hdOf li ex na w (nI l) m i (oI f) = oI (hold N w l m i f) := by
  intro m
  induction m with
  | zero => intro i f _ _; rfl
  | succ m ih =>
    intro i f hi hf
    have hq := q i (by omega)
    have ho := hN i (by omega)
    rw [hold, hdOf, hq.1, hq.2.1, hq.2.2]
    by_cases c : l < (N i).1
    · rw [if_pos c, if_pos ((nI_ltI hl (by have := ho.1; omega)).mpr c)]
    · rw [if_neg c, if_neg (fun z => c ((nI_ltI hl (by have := ho.1; omega)).mp z))]
      by_cases c1 : (N i).2.2 = w
      · rw [if_pos c1, if_pos (lg_cmp0.mpr c1)]
        exact ih (f := some (N i).2.1) (by omega) (fun y hy => by cases hy; exact ho.2)
      · rw [if_neg c1, if_neg (fun z => c1 (lg_cmp0.mp z))]
        by_cases c2 : f = some (N i).2.1
        · rw [if_pos c2, if_pos ((oI_eq (fun y hy => by have := hf y hy; omega) (by have := ho.2; omega)).mpr c2)]
          exact ih (f := none) (by omega) (fun y hy => by cases hy)
        · rw [if_neg c2, if_neg (fun z => c2 ((oI_eq (fun y hy => by have := hf y hy; omega) (by have := ho.2; omega)).mp z))]
          exact ih (by omega) hf
def holdN (n : Nat) (N : NT) (l : Nat) (w : Int64) : Option Nat := hold N w l n 0 none
theorem m_holder {g : mm_G} {d n mk l : Nat} {h : mm_Hp} {N : NT} {s : Int64} (A : NaR h n mk N) (hl : l < 2 ^ 31) : mm_P g d MX6_holder 0 [some (.ref 94), some (.long s), none, some (.int (nI l)), none, none] [] h (mm_pureI (oI (holdN n N l s)) h) := by
  obtain ⟨h0, h2, li, ex, na, A, q⟩ := A
  have z := m_Na_holder (g := g) (d := d) (s := s) (b := nI l) A h0
  have e := hold_eq (w := s) hl h2 q (m := n) (i := 0) (f := none) (by omega) (fun y hy => by cases hy)
  rw [show hdOf li ex na s (nI l) n 0 (-1) = oI (holdN n N l s) from e] at z
  exact z
theorem holdN_in {n l y : Nat} {N : NT} {s : Int64} {h : mm_Hp} {mk : Nat} (A : NaR h n mk N) (e : holdN n N l s = some y) : y < 20 := hold_in A.2.1 (m := n) (i := 0) (f := none) (by omega) (fun y hy => by cases hy) y e
def pFact (b : Nat → Nat) (en lim p fn : Nat) : Flt ⊕ (Nat × Int32 × Int32 × Int32) :=
  pb (pStep lim p) fun p1 => if fn = 150 then .inl (5, p) else
  pb (pNum b en lim 4 p1 0) fun a => pb (pExp b en lim 64 a.1) fun p2 => pb (pNum b en lim 4 p2 0) fun c => pb (pExp b en lim 61 c.1) fun p3 => pb (pNum b en lim 4 p3 0) fun e => pb (pExp b en lim 125 e.1) fun p4 => .inr (p4, a.2, c.2, e.2)
def pMen (b : Nat → Nat) (en lim p mn : Nat) (hf : Int64 → Option Nat) : Flt ⊕ (Nat × Nat) :=
  pb (pStep lim p) fun p1 => if mn = 100 then .inl (5, p) else
  pb (pNam b en lim 6 p1 0) fun a => match hf a.2 with
    | none => .inl (4, p + 1)
    | some x => pb (pExp b en lim 62 a.1) fun p2 => .inr (p2, x)
def FactPost (h : mm_Hp) (en p lim n mk : Nat) (lo cx : Nat → Nat) (F : FT) (id : Nat) (res : Flt ⊕ (Nat × Int32 × Int32 × Int32)) : mm_Ou → mm_Hp → Prop := fun o h' => match res with
  | .inl (k, q) => o = .inl (some (.int 0)) ∧ ScN h' en lim k q ∧ FaW h' mk lo cx F ∧ Fs [(84, 90), (110, 110)] h h'
  | .inr (p', s, d, v) => o = .inl (some (.int 1)) ∧ (∃ nu nm, ScAt h' (en, p', lim, nu, nm, 0, -1)) ∧ FaR h' (n + 1) mk lo cx (fu F n (id, nI (p + 60 - lim), s, d, v)) ∧ Fs [(84, 90), (110, 110)] h h'
theorem st_pl {p lim : Nat} (h1 : p < 2 ^ 20) (h2 : lim < 2 ^ 20) (h3 : lim ≤ p + 60) : nI p - (nI lim - 60) = nI (p + 60 - lim) := by
  have e : nI p - (nI lim - 60) = nI (p + 60) - nI lim := by
    rw [← nI_add]
    show nI p - (nI lim - nI 60) = nI p + nI 60 - nI lim
    generalize nI p = x
    generalize nI lim = y
    generalize nI 60 = z
    grind
  rw [e, pk_sub (by omega)]
theorem m_takeFact {g : mm_G} {d en p lim k n mk rn rmk id : Nat} {nu : Int32} {nm : Int64} {b : Nat → Nat} {h : mm_Hp} {lo cx : Nat → Nat} {F0 : FT} {res : Flt ⊕ (Nat × Int32 × Int32 × Int32)} (hd : 4 ≤ d) (a110 : ScAt h (en, p, lim, nu, nm, 0, -1)) (T : TxAt h k b en lim) (A : FaR h n mk lo cx F0) (hm : mk ≤ n) (a76 : mm_at h 76 (.inr (8, [.int 300, .int (nI rn), .int (nI rmk), .ref 77, .ref 79, .ref 80, .ref 81, .ref 82, .ref 83]))) (hcx : cx id = rn) (hp : p ≤ lim) (hp2 : lim ≤ p + 60) (er : pFact b en lim p n = res) :
    mm_P g d MX10_takeFact 0 [some (.ref 110), some (.int (nI (lo id))), none, none, none] [] h (FactPost h en p lim n mk lo cx F0 id res) := by
  subst er
  obtain ⟨h0, li, re, pl, su, da, va, FA, q0⟩ := A
  have F : Fs [(84, 90), (110, 110)] h h := Fs.rfl
  refine mm_aload_n dX10_takeFact_0 rfl ?_
  refine mm_get lk_X10_39_X10 dX10_takeFact_1 a110 rfl ?_
  refine mm_istore_n (ls' := [some (.ref 110), some (.int (nI (lo id))), some (.int (nI p)), none, none]) dX10_takeFact_4 (Nat.le_of_ble_eq_true rfl) rfl ?_
  refine mm_aload_n dX10_takeFact_5 rfl ?_
  by_cases hs : p < lim
  · refine mm_callV (d' := d - 1) (as := []) (st := []) (by omega) cm_X10_step (mm_t4 43 rfl rfl) (mm_t4 45 rfl rfl) (mm_s1 13 rfl rfl) (T := TX10) (N := 13) rfl dX10_takeFact_6 a110 rfl (Nat.le_of_ble_eq_true rfl) (Nat.le_of_ble_eq_true rfl) rfl rfl (m_step_ok (by omega) a110 T hs) (fun o u1 q => ?_)
    obtain ⟨rfl, a110, f1⟩ := q
    show mm_P g d MX10_takeFact (6 + 3) _ [.int 1] u1 _
    have f2 := f1.fs
    have FA := FA.fs f2 rfl
    have T := T.fs f2 rfl
    have a76 := a76.fs f2 rfl
    have F := F.then f2 rfl
    refine mm_if_ne 14 dX10_takeFact_9 (by decide) (fun _ => ?_) (fun c => absurd c (by decide))
    refine mm_aload_n dX10_takeFact_14 rfl ?_
    refine mm_get lk_X10_23_X10 dX10_takeFact_15 a110 rfl ?_
    by_cases hn : n < 150
    · have hn1 : ¬ n = 150 := by omega
      refine mm_callU (d' := d - 1) (x := ⟨"TestimonyBook$Facts", "isFull", "()Z"⟩) (owner := "TestimonyBook$Rows") (as := []) (st := []) (by omega) cm_X9_isFull rfl (mm_t4 103 rfl rfl) (mm_t4 104 rfl rfl) (mm_t3 41 rfl rfl) (mm_t4 105 rfl rfl) (T := TX3) (N := 9) rfl dX10_takeFact_18 FA.1 rfl (Nat.le_of_ble_eq_true rfl) (Nat.le_of_ble_eq_true rfl) rfl rfl (m_full0 lk_X9_13_X3 lk_X9_7_X3 FA.1 rfl rfl hn (by decide)) (fun E u3 q => by cases q.1) (fun v u3 q => ?_)
      obtain ⟨q1, q2⟩ := q
      cases q1
      subst q2
      show mm_P g d MX10_takeFact (18 + 3) _ [.int 0] _ _
      refine mm_if_eq 31 dX10_takeFact_21 (by decide) (fun _ => ?_) (fun c => absurd (by decide) c)
      refine mm_aload_n dX10_takeFact_31 rfl ?_
      refine mm_get lk_X10_23_X10 dX10_takeFact_32 a110 rfl ?_
      refine mm_iload_n dX10_takeFact_35 rfl ?_
      refine mm_aload_n dX10_takeFact_36 rfl ?_
      refine mm_get lk_X10_19_X10 dX10_takeFact_37 a110 rfl ?_
      refine mm_get lk_X10_171_X8 dX10_takeFact_40 a76 rfl ?_
      refine mm_iload_n dX10_takeFact_43 rfl ?_
      refine mm_aload_n dX10_takeFact_44 rfl ?_
      refine mm_get lk_X10_54_X10 dX10_takeFact_45 a110 rfl ?_
      refine mm_isub dX10_takeFact_48 ?_
      rw [st_pl (T.p20 hp).1 (T.p20 hp).2.2.2 hp2]
      refine mm_callV (d' := d - 1) (as := [.int (nI (lo id)), .int (nI rn), .int (nI (p + 60 - lim))]) (st := []) (by omega) cm_X3_add (mm_t4 106 rfl rfl) (mm_t4 107 rfl rfl) (mm_t4 108 rfl rfl) (T := TX3) (N := 9) rfl dX10_takeFact_49 FA.1 rfl (Nat.le_of_ble_eq_true rfl) (Nat.le_of_ble_eq_true rfl) rfl rfl (m_Fa_add FA hn) (fun o u4 q => ?_)
      obtain ⟨rfl, FA, f1⟩ := q
      show mm_P g d MX10_takeFact (49 + 3) _ [] u4 _
      have f5 := f1.fs
      have a110 := mm_at.fs a110 f5 rfl
      have T := T.fs f5 rfl
      have a76 := a76.fs f5 rfl
      have F := F.then f5 rfl
      have FR2 : ∀ {hh : mm_Hp}, FaAt hh (n + 1) mk (upd li n (nI (lo id))) (upd re n (nI rn)) (upd pl n (nI (p + 60 - lim))) su da va → FaR hh (n + 1) mk lo cx (fu F0 n (id, nI (p + 60 - lim), su n, da n, va n)) := by
        intro hh A
        refine ⟨by omega, _, _, _, _, _, _, A, fun i hi => ?_⟩
        rcases Nat.lt_or_eq_of_le (Nat.le_of_lt_succ hi) with hi | hi
        · have e : i ≠ n := by omega
          unfold faEq
          rw [upd_ne e, upd_ne e, upd_ne e, fu_ne e]
          exact q0 i hi
        · subst hi
          unfold faEq
          rw [upd_at, upd_at, upd_at, fu_at]
          exact ⟨rfl, by rw [hcx], rfl, rfl, rfl, rfl⟩
      refine mm_aload_n dX10_takeFact_52 rfl ?_
      rcases e1 : pNum b en lim 4 (p + 1) 0 with ⟨k1, q1⟩ | ⟨r1, v1⟩
      · refine mm_callV (d' := d - 1) (as := []) (st := []) (by omega) cm_X10_takeNumber (mm_t4 110 rfl rfl) (mm_t4 112 rfl rfl) (mm_s2 7 rfl rfl) (T := TX10) (N := 13) rfl dX10_takeFact_53 a110 rfl (Nat.le_of_ble_eq_true rfl) (Nat.le_of_ble_eq_true rfl) rfl rfl (m_num_no (by omega) a110 T (by omega) e1) (fun o u6 q => ?_)
        obtain ⟨rfl, aN, f1⟩ := q
        show mm_P g d MX10_takeFact (53 + 3) _ [.int 0] u6 _
        have f7 := f1.fs
        have FA := FA.fs f7 rfl
        have T := T.fs f7 rfl
        have a76 := a76.fs f7 rfl
        have F := F.then f7 rfl
        refine mm_if_ne 61 dX10_takeFact_56 (by decide) (fun c => absurd rfl c) (fun _ => ?_)
        refine mm_iconst (v := 0) dX10_takeFact_59 (by decide +kernel) ?_
        refine mm_iret rfl rfl dX10_takeFact_60 ?_
        have z : pFact b en lim p n = .inl (k1, q1) := by simp [pFact, pStep, pb, hs, hn1, e1]
        rw [z]
        exact ⟨rfl, aN, (FaW.cg (FaR.w (FR2 FA) (Nat.le_succ_of_le hm)) (fun i hi => fu_ne (by omega))), F⟩
      · refine mm_callV (d' := d - 1) (as := []) (st := []) (by omega) cm_X10_takeNumber (mm_t4 110 rfl rfl) (mm_t4 112 rfl rfl) (mm_s2 7 rfl rfl) (T := TX10) (N := 13) rfl dX10_takeFact_53 a110 rfl (Nat.le_of_ble_eq_true rfl) (Nat.le_of_ble_eq_true rfl) rfl rfl (m_num_ok (by omega) a110 T (by omega) e1) (fun o u8 q => ?_)
        obtain ⟨rfl, a110, f1⟩ := q
        show mm_P g d MX10_takeFact (53 + 3) _ [.int 1] u8 _
        have f9 := f1.fs
        have FA := FA.fs f9 rfl
        have T := T.fs f9 rfl
        have a76 := a76.fs f9 rfl
        have F := F.then f9 rfl
        have hr1 := pNum_in (b := b) (en := en) (lim := lim) (r := 4) (p := (p + 1)) (v := 0) (by omega)
        rw [e1] at hr1
        have hr1 : r1 ≤ lim := hr1.2.1
        refine mm_if_ne 61 dX10_takeFact_56 (by decide) (fun _ => ?_) (fun c => absurd c (by decide))
        refine mm_aload_n dX10_takeFact_61 rfl ?_
        refine mm_get lk_X10_178_X10 dX10_takeFact_62 a110 rfl ?_
        refine mm_istore_n (ls' := [some (.ref 110), some (.int (nI (lo id))), some (.int (nI p)), some (.int v1), none]) dX10_takeFact_65 (Nat.le_of_ble_eq_true rfl) rfl ?_
        refine mm_aload_n dX10_takeFact_66 rfl ?_
        refine mm_bipush (v := 64) dX10_takeFact_67 (by decide +kernel) ?_
        rcases x1 : pExp b en lim 64 r1 with ⟨k1, q1⟩ | p2
        · refine mm_callV (d' := d - 1) (as := [.int 64]) (st := []) (by omega) cm_X10_expect (mm_t4 39 rfl rfl) (mm_t4 41 rfl rfl) (mm_s1 12 rfl rfl) (T := TX10) (N := 13) rfl dX10_takeFact_69 a110 rfl (Nat.le_of_ble_eq_true rfl) (Nat.le_of_ble_eq_true rfl) rfl rfl (m_exp_no (by omega) a110 T (by omega) x1) (fun o u10 q => ?_)
          obtain ⟨rfl, aN, f1⟩ := q
          show mm_P g d MX10_takeFact (69 + 3) _ [.int 0] u10 _
          have f11 := f1.fs
          have FA := FA.fs f11 rfl
          have T := T.fs f11 rfl
          have a76 := a76.fs f11 rfl
          have F := F.then f11 rfl
          refine mm_if_eq 82 dX10_takeFact_72 (by decide) (fun _ => ?_) (fun c => absurd (by decide) c)
          refine mm_iconst (v := 0) dX10_takeFact_82 (by decide +kernel) ?_
          refine mm_iret rfl rfl dX10_takeFact_83 ?_
          have z : pFact b en lim p n = .inl (k1, q1) := by simp [pFact, pStep, pb, hs, hn1, e1, x1]
          rw [z]
          exact ⟨rfl, aN, (FaW.cg (FaR.w (FR2 FA) (Nat.le_succ_of_le hm)) (fun i hi => fu_ne (by omega))), F⟩
        · refine mm_callV (d' := d - 1) (as := [.int 64]) (st := []) (by omega) cm_X10_expect (mm_t4 39 rfl rfl) (mm_t4 41 rfl rfl) (mm_s1 12 rfl rfl) (T := TX10) (N := 13) rfl dX10_takeFact_69 a110 rfl (Nat.le_of_ble_eq_true rfl) (Nat.le_of_ble_eq_true rfl) rfl rfl (m_exp_ok (by omega) a110 T (by omega) x1) (fun o u12 q => ?_)
          obtain ⟨rfl, a110, f1⟩ := q
          show mm_P g d MX10_takeFact (69 + 3) _ [.int 1] u12 _
          have f13 := f1.fs
          have FA := FA.fs f13 rfl
          have T := T.fs f13 rfl
          have a76 := a76.fs f13 rfl
          have F := F.then f13 rfl
          have hx1 := pExp_in (b := b) (en := en) (lim := lim) (c := 64) (p := r1) (by omega)
          rw [x1] at hx1
          have hx1 : p2 ≤ lim := hx1.2
          refine mm_if_eq 82 dX10_takeFact_72 (by decide) (fun c => absurd c (by decide)) (fun _ => ?_)
          refine mm_aload_n dX10_takeFact_75 rfl ?_
          rcases e2 : pNum b en lim 4 p2 0 with ⟨k1, q1⟩ | ⟨r2, v2⟩
          · refine mm_callV (d' := d - 1) (as := []) (st := []) (by omega) cm_X10_takeNumber (mm_t4 110 rfl rfl) (mm_t4 112 rfl rfl) (mm_s2 7 rfl rfl) (T := TX10) (N := 13) rfl dX10_takeFact_76 a110 rfl (Nat.le_of_ble_eq_true rfl) (Nat.le_of_ble_eq_true rfl) rfl rfl (m_num_no (by omega) a110 T (by omega) e2) (fun o u14 q => ?_)
            obtain ⟨rfl, aN, f1⟩ := q
            show mm_P g d MX10_takeFact (76 + 3) _ [.int 0] u14 _
            have f15 := f1.fs
            have FA := FA.fs f15 rfl
            have T := T.fs f15 rfl
            have a76 := a76.fs f15 rfl
            have F := F.then f15 rfl
            refine mm_if_ne 84 dX10_takeFact_79 (by decide) (fun c => absurd rfl c) (fun _ => ?_)
            refine mm_iconst (v := 0) dX10_takeFact_82 (by decide +kernel) ?_
            refine mm_iret rfl rfl dX10_takeFact_83 ?_
            have z : pFact b en lim p n = .inl (k1, q1) := by simp [pFact, pStep, pb, hs, hn1, e1, x1, e2]
            rw [z]
            exact ⟨rfl, aN, (FaW.cg (FaR.w (FR2 FA) (Nat.le_succ_of_le hm)) (fun i hi => fu_ne (by omega))), F⟩
          · refine mm_callV (d' := d - 1) (as := []) (st := []) (by omega) cm_X10_takeNumber (mm_t4 110 rfl rfl) (mm_t4 112 rfl rfl) (mm_s2 7 rfl rfl) (T := TX10) (N := 13) rfl dX10_takeFact_76 a110 rfl (Nat.le_of_ble_eq_true rfl) (Nat.le_of_ble_eq_true rfl) rfl rfl (m_num_ok (by omega) a110 T (by omega) e2) (fun o u16 q => ?_)
            obtain ⟨rfl, a110, f1⟩ := q
            show mm_P g d MX10_takeFact (76 + 3) _ [.int 1] u16 _
            have f17 := f1.fs
            have FA := FA.fs f17 rfl
            have T := T.fs f17 rfl
            have a76 := a76.fs f17 rfl
            have F := F.then f17 rfl
            have hr2 := pNum_in (b := b) (en := en) (lim := lim) (r := 4) (p := p2) (v := 0) (by omega)
            rw [e2] at hr2
            have hr2 : r2 ≤ lim := hr2.2.1
            refine mm_if_ne 84 dX10_takeFact_79 (by decide) (fun _ => ?_) (fun c => absurd c (by decide))
            refine mm_aload_n dX10_takeFact_84 rfl ?_
            refine mm_get lk_X10_178_X10 dX10_takeFact_85 a110 rfl ?_
            refine mm_istore (ls' := [some (.ref 110), some (.int (nI (lo id))), some (.int (nI p)), some (.int v1), some (.int v2)]) dX10_takeFact_88 (Nat.le_of_ble_eq_true rfl) rfl ?_
            refine mm_aload_n dX10_takeFact_90 rfl ?_
            refine mm_bipush (v := 61) dX10_takeFact_91 (by decide +kernel) ?_
            rcases x2 : pExp b en lim 61 r2 with ⟨k1, q1⟩ | p3
            · refine mm_callV (d' := d - 1) (as := [.int 61]) (st := []) (by omega) cm_X10_expect (mm_t4 39 rfl rfl) (mm_t4 41 rfl rfl) (mm_s1 12 rfl rfl) (T := TX10) (N := 13) rfl dX10_takeFact_93 a110 rfl (Nat.le_of_ble_eq_true rfl) (Nat.le_of_ble_eq_true rfl) rfl rfl (m_exp_no (by omega) a110 T (by omega) x2) (fun o u18 q => ?_)
              obtain ⟨rfl, aN, f1⟩ := q
              show mm_P g d MX10_takeFact (93 + 3) _ [.int 0] u18 _
              have f19 := f1.fs
              have FA := FA.fs f19 rfl
              have T := T.fs f19 rfl
              have a76 := a76.fs f19 rfl
              have F := F.then f19 rfl
              refine mm_if_eq 106 dX10_takeFact_96 (by decide) (fun _ => ?_) (fun c => absurd (by decide) c)
              refine mm_iconst (v := 0) dX10_takeFact_106 (by decide +kernel) ?_
              refine mm_iret rfl rfl dX10_takeFact_107 ?_
              have z : pFact b en lim p n = .inl (k1, q1) := by simp [pFact, pStep, pb, hs, hn1, e1, x1, e2, x2]
              rw [z]
              exact ⟨rfl, aN, (FaW.cg (FaR.w (FR2 FA) (Nat.le_succ_of_le hm)) (fun i hi => fu_ne (by omega))), F⟩
            · refine mm_callV (d' := d - 1) (as := [.int 61]) (st := []) (by omega) cm_X10_expect (mm_t4 39 rfl rfl) (mm_t4 41 rfl rfl) (mm_s1 12 rfl rfl) (T := TX10) (N := 13) rfl dX10_takeFact_93 a110 rfl (Nat.le_of_ble_eq_true rfl) (Nat.le_of_ble_eq_true rfl) rfl rfl (m_exp_ok (by omega) a110 T (by omega) x2) (fun o u20 q => ?_)
              obtain ⟨rfl, a110, f1⟩ := q
              show mm_P g d MX10_takeFact (93 + 3) _ [.int 1] u20 _
              have f21 := f1.fs
              have FA := FA.fs f21 rfl
              have T := T.fs f21 rfl
              have a76 := a76.fs f21 rfl
              have F := F.then f21 rfl
              have hx2 := pExp_in (b := b) (en := en) (lim := lim) (c := 61) (p := r2) (by omega)
              rw [x2] at hx2
              have hx2 : p3 ≤ lim := hx2.2
              refine mm_if_eq 106 dX10_takeFact_96 (by decide) (fun c => absurd c (by decide)) (fun _ => ?_)
              refine mm_aload_n dX10_takeFact_99 rfl ?_
              rcases e3 : pNum b en lim 4 p3 0 with ⟨k1, q1⟩ | ⟨r3, v3⟩
              · refine mm_callV (d' := d - 1) (as := []) (st := []) (by omega) cm_X10_takeNumber (mm_t4 110 rfl rfl) (mm_t4 112 rfl rfl) (mm_s2 7 rfl rfl) (T := TX10) (N := 13) rfl dX10_takeFact_100 a110 rfl (Nat.le_of_ble_eq_true rfl) (Nat.le_of_ble_eq_true rfl) rfl rfl (m_num_no (by omega) a110 T (by omega) e3) (fun o u22 q => ?_)
                obtain ⟨rfl, aN, f1⟩ := q
                show mm_P g d MX10_takeFact (100 + 3) _ [.int 0] u22 _
                have f23 := f1.fs
                have FA := FA.fs f23 rfl
                have T := T.fs f23 rfl
                have a76 := a76.fs f23 rfl
                have F := F.then f23 rfl
                refine mm_if_ne 108 dX10_takeFact_103 (by decide) (fun c => absurd rfl c) (fun _ => ?_)
                refine mm_iconst (v := 0) dX10_takeFact_106 (by decide +kernel) ?_
                refine mm_iret rfl rfl dX10_takeFact_107 ?_
                have z : pFact b en lim p n = .inl (k1, q1) := by simp [pFact, pStep, pb, hs, hn1, e1, x1, e2, x2, e3]
                rw [z]
                exact ⟨rfl, aN, (FaW.cg (FaR.w (FR2 FA) (Nat.le_succ_of_le hm)) (fun i hi => fu_ne (by omega))), F⟩
              · refine mm_callV (d' := d - 1) (as := []) (st := []) (by omega) cm_X10_takeNumber (mm_t4 110 rfl rfl) (mm_t4 112 rfl rfl) (mm_s2 7 rfl rfl) (T := TX10) (N := 13) rfl dX10_takeFact_100 a110 rfl (Nat.le_of_ble_eq_true rfl) (Nat.le_of_ble_eq_true rfl) rfl rfl (m_num_ok (by omega) a110 T (by omega) e3) (fun o u24 q => ?_)
                obtain ⟨rfl, a110, f1⟩ := q
                show mm_P g d MX10_takeFact (100 + 3) _ [.int 1] u24 _
                have f25 := f1.fs
                have FA := FA.fs f25 rfl
                have T := T.fs f25 rfl
                have a76 := a76.fs f25 rfl
                have F := F.then f25 rfl
                have hr3 := pNum_in (b := b) (en := en) (lim := lim) (r := 4) (p := p3) (v := 0) (by omega)
                rw [e3] at hr3
                have hr3 : r3 ≤ lim := hr3.2.1
                refine mm_if_ne 108 dX10_takeFact_103 (by decide) (fun _ => ?_) (fun c => absurd c (by decide))
                refine mm_aload_n dX10_takeFact_108 rfl ?_
                refine mm_get lk_X10_23_X10 dX10_takeFact_109 a110 rfl ?_
                refine mm_iload_n dX10_takeFact_112 rfl ?_
                refine mm_iload dX10_takeFact_113 rfl ?_
                refine mm_aload_n dX10_takeFact_115 rfl ?_
                refine mm_get lk_X10_178_X10 dX10_takeFact_116 a110 rfl ?_
                refine mm_callV (d' := d - 1) (as := [.int v1, .int v2, .int v3]) (st := []) (by omega) cm_X3_setNumbers (mm_t4 114 rfl rfl) (mm_t4 115 rfl rfl) (mm_t4 116 rfl rfl) (T := TX3) (N := 9) rfl dX10_takeFact_119 FA.1 rfl (Nat.le_of_ble_eq_true rfl) (Nat.le_of_ble_eq_true rfl) rfl rfl (m_Fa_set FA (by omega) (by omega)) (fun o u26 q => ?_)
                obtain ⟨rfl, FA, f1⟩ := q
                show mm_P g d MX10_takeFact (119 + 3) _ [] u26 _
                have f27 := f1.fs
                have a110 := mm_at.fs a110 f27 rfl
                have T := T.fs f27 rfl
                have a76 := a76.fs f27 rfl
                have F := F.then f27 rfl
                have FR3 : ∀ {hh : mm_Hp}, FaAt hh (n + 1) mk (upd li n (nI (lo id))) (upd re n (nI rn)) (upd pl n (nI (p + 60 - lim))) (upd su n v1) (upd da n v2) (upd va n v3) → FaR hh (n + 1) mk lo cx (fu F0 n (id, nI (p + 60 - lim), v1, v2, v3)) := by
                  intro hh A
                  refine ⟨by omega, _, _, _, _, _, _, A, fun i hi => ?_⟩
                  rcases Nat.lt_or_eq_of_le (Nat.le_of_lt_succ hi) with hi | hi
                  · have e : i ≠ n := by omega
                    unfold faEq
                    rw [upd_ne e, upd_ne e, upd_ne e, upd_ne e, upd_ne e, upd_ne e, fu_ne e]
                    exact q0 i hi
                  · subst hi
                    unfold faEq
                    rw [upd_at, upd_at, upd_at, upd_at, upd_at, upd_at, fu_at]
                    exact ⟨rfl, by rw [hcx], rfl, rfl, rfl, rfl⟩
                rw [Nat.add_sub_cancel] at FA
                refine mm_aload_n dX10_takeFact_122 rfl ?_
                refine mm_bipush (v := 125) dX10_takeFact_123 (by decide +kernel) ?_
                rcases x3 : pExp b en lim 125 r3 with ⟨k1, q1⟩ | p4
                · refine mm_callV (d' := d - 1) (as := [.int 125]) (st := []) (by omega) cm_X10_expect (mm_t4 39 rfl rfl) (mm_t4 41 rfl rfl) (mm_s1 12 rfl rfl) (T := TX10) (N := 13) rfl dX10_takeFact_125 a110 rfl (Nat.le_of_ble_eq_true rfl) (Nat.le_of_ble_eq_true rfl) rfl rfl (m_exp_no (by omega) a110 T (by omega) x3) (fun o u28 q => ?_)
                  obtain ⟨rfl, aN, f1⟩ := q
                  show mm_P g d MX10_takeFact (125 + 3) _ [.int 0] u28 _
                  have f29 := f1.fs
                  have FA := FA.fs f29 rfl
                  have T := T.fs f29 rfl
                  have a76 := a76.fs f29 rfl
                  have F := F.then f29 rfl
                  refine mm_iret rfl rfl dX10_takeFact_128 ?_
                  have z : pFact b en lim p n = .inl (k1, q1) := by simp [pFact, pStep, pb, hs, hn1, e1, x1, e2, x2, e3, x3]
                  rw [z]
                  exact ⟨rfl, aN, (FaW.cg (FaR.w (FR3 FA) (Nat.le_succ_of_le hm)) (fun i hi => fu_ne (by omega))), F⟩
                · refine mm_callV (d' := d - 1) (as := [.int 125]) (st := []) (by omega) cm_X10_expect (mm_t4 39 rfl rfl) (mm_t4 41 rfl rfl) (mm_s1 12 rfl rfl) (T := TX10) (N := 13) rfl dX10_takeFact_125 a110 rfl (Nat.le_of_ble_eq_true rfl) (Nat.le_of_ble_eq_true rfl) rfl rfl (m_exp_ok (by omega) a110 T (by omega) x3) (fun o u30 q => ?_)
                  obtain ⟨rfl, a110, f1⟩ := q
                  show mm_P g d MX10_takeFact (125 + 3) _ [.int 1] u30 _
                  have f31 := f1.fs
                  have FA := FA.fs f31 rfl
                  have T := T.fs f31 rfl
                  have a76 := a76.fs f31 rfl
                  have F := F.then f31 rfl
                  have hx3 := pExp_in (b := b) (en := en) (lim := lim) (c := 125) (p := r3) (by omega)
                  rw [x3] at hx3
                  have hx3 : p4 ≤ lim := hx3.2
                  refine mm_iret rfl rfl dX10_takeFact_128 ?_
                  have z : pFact b en lim p n = .inr (p4, v1, v2, v3) := by simp [pFact, pStep, pb, hs, hn1, e1, x1, e2, x2, e3, x3]
                  rw [z]
                  exact ⟨rfl, ⟨_, _, a110⟩, FR3 FA, F⟩
    · have hn1 : n = 150 := by omega
      refine mm_callU (d' := d - 1) (x := ⟨"TestimonyBook$Facts", "isFull", "()Z"⟩) (owner := "TestimonyBook$Rows") (as := []) (st := []) (by omega) cm_X9_isFull rfl (mm_t4 103 rfl rfl) (mm_t4 104 rfl rfl) (mm_t3 41 rfl rfl) (mm_t4 105 rfl rfl) (T := TX3) (N := 9) rfl dX10_takeFact_18 FA.1 rfl (Nat.le_of_ble_eq_true rfl) (Nat.le_of_ble_eq_true rfl) rfl rfl (m_full1 (m := 150) lk_X9_13_X3 lk_X9_7_X3 FA.1 rfl rfl hn (by omega) (by decide)) (fun E u32 q => by cases q.1) (fun v u32 q => ?_)
      obtain ⟨q1, q2⟩ := q
      cases q1
      subst q2
      show mm_P g d MX10_takeFact (18 + 3) _ [.int 1] _ _
      refine mm_if_eq 31 dX10_takeFact_21 (by decide) (fun c => absurd c (by decide)) (fun _ => ?_)
      refine mm_aload_n dX10_takeFact_24 rfl ?_
      refine mm_iconst (v := 5) dX10_takeFact_25 (by decide +kernel) ?_
      refine mm_iload_n dX10_takeFact_26 rfl ?_
      refine mm_callV (d' := d - 1) (as := [.int 5, .int (nI p)]) (st := []) (by omega) cm_X10_refuse (mm_t4 28 rfl rfl) (mm_t4 30 rfl rfl) (mm_s1 11 rfl rfl) (T := TX10) (N := 13) rfl dX10_takeFact_27 a110 rfl (Nat.le_of_ble_eq_true rfl) (Nat.le_of_ble_eq_true rfl) rfl rfl (m_refuse (k1 := 5) (q1 := p) a110) (fun o u33 q => ?_)
      obtain ⟨rfl, aN, f1⟩ := q
      show mm_P g d MX10_takeFact (27 + 3) _ [.int 0] u33 _
      have f34 := f1.fs
      have FA := FA.fs f34 rfl
      have T := T.fs f34 rfl
      have a76 := a76.fs f34 rfl
      have F := F.then f34 rfl
      refine mm_iret rfl rfl dX10_takeFact_30 ?_
      have z : pFact b en lim p n = .inl (5, p) := by simp [pFact, pStep, pb, hs, hn1]
      rw [z]
      exact ⟨rfl, aN, (FaR.w ⟨h0, _, _, _, _, _, _, FA, q0⟩ hm), F⟩
  · refine mm_callV (d' := d - 1) (as := []) (st := []) (by omega) cm_X10_step (mm_t4 43 rfl rfl) (mm_t4 45 rfl rfl) (mm_s1 13 rfl rfl) (T := TX10) (N := 13) rfl dX10_takeFact_6 a110 rfl (Nat.le_of_ble_eq_true rfl) (Nat.le_of_ble_eq_true rfl) rfl rfl (m_step_no (by omega) a110 T hp hs) (fun o u35 q => ?_)
    obtain ⟨rfl, aN, f1⟩ := q
    show mm_P g d MX10_takeFact (6 + 3) _ [.int 0] u35 _
    have f36 := f1.fs
    have FA := FA.fs f36 rfl
    have T := T.fs f36 rfl
    have a76 := a76.fs f36 rfl
    have F := F.then f36 rfl
    refine mm_if_ne 14 dX10_takeFact_9 (by decide) (fun c => absurd rfl c) (fun _ => ?_)
    refine mm_iconst (v := 0) dX10_takeFact_12 (by decide +kernel) ?_
    refine mm_iret rfl rfl dX10_takeFact_13 ?_
    have z : pFact b en lim p n = .inl (2, p) := by simp [pFact, pStep, pb, hs]
    rw [z]
    exact ⟨rfl, aN, (FaR.w ⟨h0, _, _, _, _, _, _, FA, q0⟩ hm), F⟩
