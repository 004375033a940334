/-! The world of the law as one state: int and long fields by 100 * reference + place, rows by reference, how many things were thrown -/
abbrev CS : Type := (Nat → Int32) × (Nat → Int64) × (Nat → Nat → Int32) × (Nat → Nat → Int64) × Nat
def gI (C : CS) (k : Nat) : Int32 := C.1 k
def gJ (C : CS) (k : Nat) : Int64 := C.2.1 k
def gA (C : CS) (r : Nat) : Nat → Int32 := C.2.2.1 r
def gB (C : CS) (r : Nat) : Nat → Int64 := C.2.2.2.1 r
def gE (C : CS) : Nat := C.2.2.2.2
def sI (C : CS) (k : Nat) (v : Int32) : CS := (fun j => if j = k then v else C.1 j, C.2)
def sJ (C : CS) (k : Nat) (v : Int64) : CS := (C.1, fun j => if j = k then v else C.2.1 j, C.2.2)
def sA (C : CS) (r i : Nat) (v : Int32) : CS := (C.1, C.2.1, fun q => if q = r then upd (C.2.2.1 r) i v else C.2.2.1 q, C.2.2.2)
def sB (C : CS) (r i : Nat) (v : Int64) : CS := (C.1, C.2.1, C.2.2.1, fun q => if q = r then vp_updL (C.2.2.2.1 r) i v else C.2.2.2.1 q, C.2.2.2.2)
def sE (C : CS) : CS := (C.1, C.2.1, C.2.2.1, C.2.2.2.1, C.2.2.2.2 + 1)
theorem gI_sI {C : CS} {k j : Nat} {v : Int32} : gI (sI C k v) j = if j = k then v else gI C j := rfl
theorem gJ_sI {C : CS} {k j : Nat} {v : Int32} : gJ (sI C k v) j = gJ C j := rfl
theorem gA_sI {C : CS} {k j : Nat} {v : Int32} : gA (sI C k v) j = gA C j := rfl
theorem gB_sI {C : CS} {k j : Nat} {v : Int32} : gB (sI C k v) j = gB C j := rfl
theorem gE_sI {C : CS} {k : Nat} {v : Int32} : gE (sI C k v) = gE C := rfl
theorem gI_sJ {C : CS} {k j : Nat} {v : Int64} : gI (sJ C k v) j = gI C j := rfl
theorem gJ_sJ {C : CS} {k j : Nat} {v : Int64} : gJ (sJ C k v) j = if j = k then v else gJ C j := rfl
theorem gA_sJ {C : CS} {k j : Nat} {v : Int64} : gA (sJ C k v) j = gA C j := rfl
theorem gB_sJ {C : CS} {k j : Nat} {v : Int64} : gB (sJ C k v) j = gB C j := rfl
theorem gE_sJ {C : CS} {k : Nat} {v : Int64} : gE (sJ C k v) = gE C := rfl
theorem gI_sA {C : CS} {r i j : Nat} {v : Int32} : gI (sA C r i v) j = gI C j := rfl
theorem gJ_sA {C : CS} {r i j : Nat} {v : Int32} : gJ (sA C r i v) j = gJ C j := rfl
theorem gA_sA {C : CS} {r i j : Nat} {v : Int32} : gA (sA C r i v) j = if j = r then upd (gA C r) i v else gA C j := rfl
theorem gB_sA {C : CS} {r i j : Nat} {v : Int32} : gB (sA C r i v) j = gB C j := rfl
theorem gE_sA {C : CS} {r i : Nat} {v : Int32} : gE (sA C r i v) = gE C := rfl
theorem gI_sB {C : CS} {r i j : Nat} {v : Int64} : gI (sB C r i v) j = gI C j := rfl
theorem gJ_sB {C : CS} {r i j : Nat} {v : Int64} : gJ (sB C r i v) j = gJ C j := rfl
theorem gA_sB {C : CS} {r i j : Nat} {v : Int64} : gA (sB C r i v) j = gA C j := rfl
theorem gB_sB {C : CS} {r i j : Nat} {v : Int64} : gB (sB C r i v) j = if j = r then vp_updL (gB C r) i v else gB C j := rfl
theorem gE_sB {C : CS} {r i : Nat} {v : Int64} : gE (sB C r i v) = gE C := rfl
theorem gI_sE {C : CS} {j : Nat} : gI (sE C) j = gI C j := rfl
theorem gJ_sE {C : CS} {j : Nat} : gJ (sE C) j = gJ C j := rfl
theorem gA_sE {C : CS} {j : Nat} : gA (sE C) j = gA C j := rfl
theorem gB_sE {C : CS} {j : Nat} : gB (sE C) j = gB C j := rfl
theorem gE_sE {C : CS} : gE (sE C) = gE C + 1 := rfl
/-- where things lie: an object's class number and its fields (0 int, 1 long, else a reference), or a row's kind and length -/
def layT : List ((Nat × List Nat) ⊕ (Nat × Nat)) := [.inl (10, [65, 67, 69, 76, 84, 91, 94, 98, 104, 110, 111, 0, 0, 0]), .inl (1, [0, 0, 0, 66]), .inr (0, 0), .inl (1, [0, 0, 0, 68]), .inr (0, 0), .inl (4, [0, 0, 0, 70, 71, 72, 73, 74, 75]), .inr (0, 200), .inr (0, 200), .inr (0, 200), .inr (0, 200), .inr (0, 200), .inr (0, 200), .inl (8, [0, 0, 0, 77, 79, 80, 81, 82, 83]), .inl (1, [0, 0, 0, 78]), .inr (0, 0), .inr (0, 200), .inr (0, 300), .inr (0, 300), .inr (0, 300), .inr (0, 300), .inl (3, [0, 0, 0, 85, 86, 87, 88, 89, 90]), .inr (0, 150), .inr (0, 150), .inr (0, 150), .inr (0, 150), .inr (0, 150), .inr (0, 150), .inl (5, [0, 0, 0, 92, 93]), .inr (0, 100), .inr (0, 100), .inl (6, [0, 0, 0, 95, 96, 97]), .inr (0, 200), .inr (0, 200), .inr (2, 200), .inl (7, [0, 0, 0, 99, 100, 101, 102, 103]), .inr (0, 60), .inr (0, 60), .inr (0, 60), .inr (0, 60), .inr (0, 60), .inl (2, [0, 0, 0, 105, 106, 107, 108, 109]), .inr (0, 40), .inr (0, 40), .inr (0, 40), .inr (0, 40), .inr (0, 320), .inl (9, [65, 69, 76, 84, 91, 94, 0, 0, 0, 0, 1, 0, 0]), .inl (0, [69, 76, 84, 98, 104, 112, 0, 0]), .inr (0, 150), .inl (11, [0, 114, 115, 0, 0, 0, 0, 0, 0, 116, 117, 118, 119, 120, 121, 122, 123, 124, 125, 0, 0, 0, 0, 0, 126, 127, 128, 129, 130, 131, 132, 133, 134, 135, 0, 0, 136, 137, 138, 139, 140, 141, 142, 143, 144, 145, 0, 0, 0, 0, 0, 0, 0, 1]), .inr (0, 3000), .inr (0, 3000), .inr (0, 200), .inr (0, 200), .inr (0, 200), .inr (0, 200), .inr (0, 200), .inr (0, 200), .inr (0, 300), .inr (0, 300), .inr (0, 300), .inr (0, 18000), .inr (0, 150), .inr (0, 150), .inr (0, 150), .inr (0, 150), .inr (0, 150), .inr (0, 100), .inr (0, 100), .inr (0, 220), .inr (0, 220), .inr (2, 220), .inr (0, 60), .inr (0, 60), .inr (0, 60), .inr (0, 60), .inr (0, 60), .inr (0, 40), .inr (0, 40), .inr (0, 40), .inr (0, 40), .inr (0, 320), .inr (2, 1)]
def lay (q : Nat) : (Nat × List Nat) ⊕ (Nat × Nat) := layT.getD (q - 64) (.inr (0, 0))
theorem lay_64 : lay 64 = .inl (10, [65, 67, 69, 76, 84, 91, 94, 98, 104, 110, 111, 0, 0, 0]) := rfl
theorem lay_65 : lay 65 = .inl (1, [0, 0, 0, 66]) := rfl
theorem lay_66 : lay 66 = .inr (0, 0) := rfl
theorem lay_67 : lay 67 = .inl (1, [0, 0, 0, 68]) := rfl
theorem lay_68 : lay 68 = .inr (0, 0) := rfl
theorem lay_69 : lay 69 = .inl (4, [0, 0, 0, 70, 71, 72, 73, 74, 75]) := rfl
theorem lay_70 : lay 70 = .inr (0, 200) := rfl
theorem lay_71 : lay 71 = .inr (0, 200) := rfl
theorem lay_72 : lay 72 = .inr (0, 200) := rfl
theorem lay_73 : lay 73 = .inr (0, 200) := rfl
theorem lay_74 : lay 74 = .inr (0, 200) := rfl
theorem lay_75 : lay 75 = .inr (0, 200) := rfl
theorem lay_76 : lay 76 = .inl (8, [0, 0, 0, 77, 79, 80, 81, 82, 83]) := rfl
theorem lay_77 : lay 77 = .inl (1, [0, 0, 0, 78]) := rfl
theorem lay_78 : lay 78 = .inr (0, 0) := rfl
theorem lay_79 : lay 79 = .inr (0, 200) := rfl
theorem lay_80 : lay 80 = .inr (0, 300) := rfl
theorem lay_81 : lay 81 = .inr (0, 300) := rfl
theorem lay_82 : lay 82 = .inr (0, 300) := rfl
theorem lay_83 : lay 83 = .inr (0, 300) := rfl
theorem lay_84 : lay 84 = .inl (3, [0, 0, 0, 85, 86, 87, 88, 89, 90]) := rfl
theorem lay_85 : lay 85 = .inr (0, 150) := rfl
theorem lay_86 : lay 86 = .inr (0, 150) := rfl
theorem lay_87 : lay 87 = .inr (0, 150) := rfl
theorem lay_88 : lay 88 = .inr (0, 150) := rfl
theorem lay_89 : lay 89 = .inr (0, 150) := rfl
theorem lay_90 : lay 90 = .inr (0, 150) := rfl
theorem lay_91 : lay 91 = .inl (5, [0, 0, 0, 92, 93]) := rfl
theorem lay_92 : lay 92 = .inr (0, 100) := rfl
theorem lay_93 : lay 93 = .inr (0, 100) := rfl
theorem lay_94 : lay 94 = .inl (6, [0, 0, 0, 95, 96, 97]) := rfl
theorem lay_95 : lay 95 = .inr (0, 200) := rfl
theorem lay_96 : lay 96 = .inr (0, 200) := rfl
theorem lay_97 : lay 97 = .inr (2, 200) := rfl
theorem lay_98 : lay 98 = .inl (7, [0, 0, 0, 99, 100, 101, 102, 103]) := rfl
theorem lay_99 : lay 99 = .inr (0, 60) := rfl
theorem lay_100 : lay 100 = .inr (0, 60) := rfl
theorem lay_101 : lay 101 = .inr (0, 60) := rfl
theorem lay_102 : lay 102 = .inr (0, 60) := rfl
theorem lay_103 : lay 103 = .inr (0, 60) := rfl
theorem lay_104 : lay 104 = .inl (2, [0, 0, 0, 105, 106, 107, 108, 109]) := rfl
theorem lay_105 : lay 105 = .inr (0, 40) := rfl
theorem lay_106 : lay 106 = .inr (0, 40) := rfl
theorem lay_107 : lay 107 = .inr (0, 40) := rfl
theorem lay_108 : lay 108 = .inr (0, 40) := rfl
theorem lay_109 : lay 109 = .inr (0, 320) := rfl
theorem lay_110 : lay 110 = .inl (9, [65, 69, 76, 84, 91, 94, 0, 0, 0, 0, 1, 0, 0]) := rfl
theorem lay_111 : lay 111 = .inl (0, [69, 76, 84, 98, 104, 112, 0, 0]) := rfl
theorem lay_112 : lay 112 = .inr (0, 150) := rfl
theorem lay_113 : lay 113 = .inl (11, [0, 114, 115, 0, 0, 0, 0, 0, 0, 116, 117, 118, 119, 120, 121, 122, 123, 124, 125, 0, 0, 0, 0, 0, 126, 127, 128, 129, 130, 131, 132, 133, 134, 135, 0, 0, 136, 137, 138, 139, 140, 141, 142, 143, 144, 145, 0, 0, 0, 0, 0, 0, 0, 1]) := rfl
theorem lay_114 : lay 114 = .inr (0, 3000) := rfl
theorem lay_115 : lay 115 = .inr (0, 3000) := rfl
theorem lay_116 : lay 116 = .inr (0, 200) := rfl
theorem lay_117 : lay 117 = .inr (0, 200) := rfl
theorem lay_118 : lay 118 = .inr (0, 200) := rfl
theorem lay_119 : lay 119 = .inr (0, 200) := rfl
theorem lay_120 : lay 120 = .inr (0, 200) := rfl
theorem lay_121 : lay 121 = .inr (0, 200) := rfl
theorem lay_122 : lay 122 = .inr (0, 300) := rfl
theorem lay_123 : lay 123 = .inr (0, 300) := rfl
theorem lay_124 : lay 124 = .inr (0, 300) := rfl
theorem lay_125 : lay 125 = .inr (0, 18000) := rfl
theorem lay_126 : lay 126 = .inr (0, 150) := rfl
theorem lay_127 : lay 127 = .inr (0, 150) := rfl
theorem lay_128 : lay 128 = .inr (0, 150) := rfl
theorem lay_129 : lay 129 = .inr (0, 150) := rfl
theorem lay_130 : lay 130 = .inr (0, 150) := rfl
theorem lay_131 : lay 131 = .inr (0, 100) := rfl
theorem lay_132 : lay 132 = .inr (0, 100) := rfl
theorem lay_133 : lay 133 = .inr (0, 220) := rfl
theorem lay_134 : lay 134 = .inr (0, 220) := rfl
theorem lay_135 : lay 135 = .inr (2, 220) := rfl
theorem lay_136 : lay 136 = .inr (0, 60) := rfl
theorem lay_137 : lay 137 = .inr (0, 60) := rfl
theorem lay_138 : lay 138 = .inr (0, 60) := rfl
theorem lay_139 : lay 139 = .inr (0, 60) := rfl
theorem lay_140 : lay 140 = .inr (0, 60) := rfl
theorem lay_141 : lay 141 = .inr (0, 40) := rfl
theorem lay_142 : lay 142 = .inr (0, 40) := rfl
theorem lay_143 : lay 143 = .inr (0, 40) := rfl
theorem lay_144 : lay 144 = .inr (0, 40) := rfl
theorem lay_145 : lay 145 = .inr (0, 320) := rfl
theorem lay_146 : lay 146 = .inr (2, 1) := rfl

def fv1 (C : CS) (k c : Nat) : Value := match c with
  | 0 => .int (gI C k)
  | 1 => .long (gJ C k)
  | c + 2 => .ref (c + 2)
def fvs (C : CS) : Nat → List Nat → List Value
  | _, [] => []
  | k, c :: cs => fv1 C k c :: fvs C (k + 1) cs
def celW (C : CS) (q : Nat) (x : (Nat × List Nat) ⊕ (Nat × Nat)) : va_E := match x with
  | .inl (c, fs) => .inr (c, fvs C (100 * q) fs)
  | .inr (0, n) => .inl (0, n, .inl (gA C q))
  | .inr (_ + 1, n) => .inl (2, n, .inr (.inl (gB C q)))
def cel (C : CS) (q : Nat) : va_E := celW C q (lay q)
theorem cel_of {C : CS} {q : Nat} {x : (Nat × List Nat) ⊕ (Nat × Nat)} (h : lay q = x) : cel C q = celW C q x := congrArg (celW C q) h
def low (q : Nat) : Bool := !(Nat.beq q 65 || Nat.beq q 66 || Nat.beq q 67 || Nat.beq q 68 || Nat.beq q 77 || Nat.beq q 78)
def okC (q : Nat) : Bool := Nat.ble 64 q && Nat.blt q 113 && low q
def okD (q : Nat) : Bool := Nat.ble 113 q && Nat.blt q 147 && low q
theorem okC_in {q : Nat} (h : okC q = true) : 64 ≤ q ∧ q < 113 ∧ low q = true := by
  simp only [okC, Bool.and_eq_true] at h
  exact ⟨Nat.le_of_ble_eq_true h.1.1, Nat.le_of_ble_eq_true h.1.2, h.2⟩
theorem okD_in {q : Nat} (h : okD q = true) : 113 ≤ q ∧ q < 147 ∧ low q = true := by
  simp only [okD, Bool.and_eq_true] at h
  exact ⟨Nat.le_of_ble_eq_true h.1.1, Nat.le_of_ble_eq_true h.1.2, h.2⟩
def bys (q : Nat) : Prop := q = 65 ∨ q = 67 ∨ q = 77
theorem bys_low {q : Nat} (h : bys q) : low q = false ∧ low (q + 1) = false := by
  rcases h with rfl | rfl | rfl <;> exact ⟨rfl, rfl⟩
def inb (i : Int32) (n : Nat) : Bool := decide (0 ≤ i) && Nat.blt i.toNatClampNeg n
theorem inb_vp {i : Int32} {n : Nat} (h : inb i n = true) : vp_in i n := by
  simp only [inb, Bool.and_eq_true, decide_eq_true_eq] at h
  intro z
  rcases z with z | z
  · exact Int32.not_le.mpr z h.1
  · have := Nat.le_of_ble_eq_true h.2
    omega
theorem inb_nI {i n : Nat} (h : i < n) (hn : n < 2 ^ 31) : inb (nI i) n = true := by
  simp only [inb, Bool.and_eq_true, decide_eq_true_eq]
  refine ⟨nI_pos' (by omega), ?_⟩
  rw [nI_clamp (by omega)]
  exact Nat.ble_eq_true_of_le h
theorem inb_ex {i : Int32} {n : Nat} (h : inb i n = true) (hn : n < 2 ^ 31) : ∃ j, j < n ∧ i = nI j := vp_in_of (inb_vp h) hn
theorem fvs_len {C : CS} {fs : List Nat} : ∀ {b : Nat}, (fvs C b fs).length = fs.length := by
  induction fs with
  | nil => intro b; rfl
  | cons c cs ih => intro b; show (fvs C (b + 1) cs).length + 1 = cs.length + 1; rw [ih]
theorem fvs_get {C : CS} {fs : List Nat} : ∀ {b k c : Nat}, fs[k]? = some c → (fvs C b fs)[k]? = some (fv1 C (b + k) c) := by
  induction fs with
  | nil => intro b k c h; simp at h
  | cons c cs ih =>
    intro b k c' h
    cases k with
    | zero =>
      simp at h
      subst h
      rfl
    | succ k =>
      simp at h
      have := @ih (b + 1) k c' h
      show (fvs C (b + 1) cs)[k]? = _
      rw [this]
      congr 2
      omega
theorem fvs_cg {C C1 : CS} {fs : List Nat} : ∀ {b : Nat}, (∀ j, b ≤ j → j < b + fs.length → gI C j = gI C1 j ∧ gJ C j = gJ C1 j) → fvs C b fs = fvs C1 b fs := by
  induction fs with
  | nil => intro b h; rfl
  | cons c cs ih =>
    intro b h
    have h0 := h b (Nat.le_refl _) (by simp)
    have e1 : fv1 C b c = fv1 C1 b c := by
      unfold fv1
      rw [h0.1, h0.2]
    have e2 : fvs C (b + 1) cs = fvs C1 (b + 1) cs := ih (fun j h1 h2 => h j (by omega) (by simp; omega))
    show fv1 C b c :: fvs C (b + 1) cs = fv1 C1 b c :: fvs C1 (b + 1) cs
    rw [e1, e2]
theorem fvs_setI {C : CS} {v : Int32} {fs : List Nat} : ∀ {b k : Nat}, fs[k]? = some 0 → (fvs C b fs).set k (.int v) = fvs (sI C (b + k) v) b fs := by
  induction fs with
  | nil => intro b k h; simp at h
  | cons c cs ih =>
    intro b k h
    cases k with
    | zero =>
      simp at h
      subst h
      show Value.int v :: fvs C (b + 1) cs = fv1 (sI C (b + 0) v) b 0 :: fvs (sI C (b + 0) v) (b + 1) cs
      rw [fvs_cg (C := C) (C1 := sI C (b + 0) v) (b := b + 1) (fun j h1 h2 => ⟨by rw [gI_sI, if_neg (by omega)], rfl⟩)]
      unfold fv1
      simp only [gI_sI]
      rw [if_pos (by omega)]
    | succ k =>
      simp at h
      have := @ih (b + 1) k h
      show fv1 C b c :: (fvs C (b + 1) cs).set k (.int v) = fv1 (sI C (b + (k + 1)) v) b c :: fvs (sI C (b + (k + 1)) v) (b + 1) cs
      rw [this, show b + 1 + k = b + (k + 1) by omega]
      congr 1
      unfold fv1
      rw [gI_sI, if_neg (by omega), gJ_sI]
theorem fvs_setJ {C : CS} {v : Int64} {fs : List Nat} : ∀ {b k : Nat}, fs[k]? = some 1 → (fvs C b fs).set k (.long v) = fvs (sJ C (b + k) v) b fs := by
  induction fs with
  | nil => intro b k h; simp at h
  | cons c cs ih =>
    intro b k h
    cases k with
    | zero =>
      simp at h
      subst h
      show Value.long v :: fvs C (b + 1) cs = fv1 (sJ C (b + 0) v) b 1 :: fvs (sJ C (b + 0) v) (b + 1) cs
      rw [fvs_cg (C := C) (C1 := sJ C (b + 0) v) (b := b + 1) (fun j h1 h2 => ⟨rfl, by rw [gJ_sJ, if_neg (by omega)]⟩)]
      unfold fv1
      simp only [gJ_sJ]
      rw [if_pos (by omega)]
    | succ k =>
      simp at h
      have := @ih (b + 1) k h
      show fv1 C b c :: (fvs C (b + 1) cs).set k (.long v) = fv1 (sJ C (b + (k + 1)) v) b c :: fvs (sJ C (b + (k + 1)) v) (b + 1) cs
      rw [this, show b + 1 + k = b + (k + 1) by omega]
      congr 1
      unfold fv1
      rw [gJ_sJ, if_neg (by omega), gI_sJ]
def lenOk (x : (Nat × List Nat) ⊕ (Nat × Nat)) : Bool := match x with
  | .inl (_, fs) => Nat.ble fs.length 99
  | .inr _ => true
theorem layT_len : layT.all lenOk = true := rfl
theorem lay_len {q c : Nat} {fs : List Nat} (h : lay q = .inl (c, fs)) : fs.length ≤ 99 := by
  unfold lay at h
  rw [List.getD_eq_getElem?_getD] at h
  cases e : layT[q - 64]? with
  | none =>
    rw [e] at h
    simp at h
  | some x =>
    rw [e] at h
    have h2 := List.all_eq_true.mp layT_len x (List.mem_of_getElem? e)
    simp only [Option.getD_some] at h
    rw [h] at h2
    exact Nat.le_of_ble_eq_true h2
theorem cel_cg {C C1 : CS} {q : Nat} (h : ∀ j, 100 * q ≤ j → j < 100 * q + 99 → gI C j = gI C1 j ∧ gJ C j = gJ C1 j) (hA : gA C q = gA C1 q) (hB : gB C q = gB C1 q) : cel C q = cel C1 q := by
  rcases e : lay q with ⟨c, fs⟩ | ⟨t, n⟩
  · have h2 := lay_len e
    rw [cel_of e, cel_of e]
    show Sum.inr (c, fvs C (100 * q) fs) = Sum.inr (c, fvs C1 (100 * q) fs)
    rw [fvs_cg (C := C) (C1 := C1) (fun j h1 h2 => h j h1 (by omega))]
  · rw [cel_of e, cel_of e]
    cases t with
    | zero => show Sum.inl (0, n, Sum.inl (gA C q)) = Sum.inl (0, n, Sum.inl (gA C1 q)); rw [hA]
    | succ t => show Sum.inl (2, n, Sum.inr (Sum.inl (gB C q))) = Sum.inl (2, n, Sum.inr (Sum.inl (gB C1 q))); rw [hB]
theorem cel_I {C : CS} {r c k key q : Nat} {fs : List Nat} {v : Int32} {x : Nat} (hL : lay r = .inl (c, fs)) (hc : fs[k]? = some x) (hk : 100 * r + k = key) (hq : q ≠ r) : cel (sI C key v) q = cel C q := by
  have h1 := lay_len hL
  have h2 := (List.getElem?_eq_some_iff.mp hc).1
  refine cel_cg (fun j h3 h4 => ⟨?_, rfl⟩) rfl rfl
  rw [gI_sI, if_neg]
  intro z
  rcases Nat.lt_or_gt_of_ne hq with h | h <;> omega
theorem cel_J {C : CS} {r c k key q : Nat} {fs : List Nat} {v : Int64} {x : Nat} (hL : lay r = .inl (c, fs)) (hc : fs[k]? = some x) (hk : 100 * r + k = key) (hq : q ≠ r) : cel (sJ C key v) q = cel C q := by
  have h1 := lay_len hL
  have h2 := (List.getElem?_eq_some_iff.mp hc).1
  refine cel_cg (fun j h3 h4 => ⟨rfl, ?_⟩) rfl rfl
  rw [gJ_sJ, if_neg]
  intro z
  rcases Nat.lt_or_gt_of_ne hq with h | h <;> omega
theorem bys_key {q r c k key x : Nat} {fs : List Nat} (hq : bys q) (hr : okC r = true) (hk : 100 * r + k = key) (hc : fs[k]? = some x) (hL : lay r = .inl (c, fs)) : 100 * q + 1 ≠ key ∧ 100 * q + 2 ≠ key := by
  have h1 := lay_len hL
  have h2 := (List.getElem?_eq_some_iff.mp hc).1
  have h3 := okC_in hr
  have h4 := bys_low hq
  have h5 : q ≠ r := fun z => by rw [z] at h4; exact absurd (h4.1.symm.trans h3.2.2) (by decide)
  rcases Nat.lt_or_gt_of_ne h5 with h | h <;> constructor <;> omega
theorem bys_arr {q r : Nat} (hq : bys q) (hr : okC r = true) : ¬ q + 1 = r := by
  intro z
  have h3 := okC_in hr
  have h4 := bys_low hq
  rw [z] at h4
  exact absurd (h4.2.symm.trans h3.2.2) (by decide)
def mo (q : Nat) : Nat := if q = 77 then 17400 else 3000
/-- a row of bytes and its object -/
def Byt (h : mm_Hp) (C : CS) (q k j : Nat) : Prop := ∃ s mk b, ByAt h q (mo q) s mk k (64 * 2 ^ j) b ∧ gI C (100 * q + 1) = nI s ∧ gI C (100 * q + 2) = nI mk ∧ (∀ i, i < s → gA C (q + 1) i = nI (b i)) ∧ (k = q + 1 ∨ 147 ≤ k)
theorem ByAt.up {h : mm_Hp} {q most s mk k cap r : Nat} {b : Nat → Nat} {x : va_E} (B : ByAt h q most s mk k cap b) (h1 : r ≠ q) (h2 : r ≠ k) : ByAt (mm_up h r x) q most s mk k cap b := by
  obtain ⟨f, a, ak, B⟩ := B
  exact ⟨f, a.ne (Ne.symm h1), ak.ne (Ne.symm h2), B⟩
theorem Byt.up {h : mm_Hp} {C C1 : CS} {q k j r : Nat} {x : va_E} (B : Byt h C q k j) (h1 : r ≠ q) (h2 : r ≠ q + 1) (h3 : r < 147) (e1 : gI C1 (100 * q + 1) = gI C (100 * q + 1)) (e2 : gI C1 (100 * q + 2) = gI C (100 * q + 2)) (e3 : gA C1 (q + 1) = gA C (q + 1)) : Byt (mm_up h r x) C1 q k j := by
  obtain ⟨s, mk, b, B, b1, b2, b3, b4⟩ := B
  refine ⟨s, mk, b, B.up h1 (by intro z; rcases b4 with b4 | b4 <;> omega), e1.trans b1, e2.trans b2, fun i hi => by rw [e3]; exact b3 i hi, b4⟩
/-- the heap holds the class's state C and the model's state D -/
def Rep (h : mm_Hp) (C D : CS) : Prop :=
  (∀ q, 64 ≤ q → q < 147 → low q = true → mm_at h q (cel (if q < 113 then C else D) q)) ∧ ∃ k j : Nat → Nat, (∀ q, bys q → Byt h C q (k q) (j q)) ∧ (k 65 ≠ k 67 ∧ k 65 ≠ k 77 ∧ k 67 ≠ k 77) ∧ h.2.1 = 83 + (j 65 + j 67 + j 77) + gE C ∧ h.2.2 + 384 = 34068 + 128 * (2 ^ j 65 + 2 ^ j 67 + 2 ^ j 77) + 6 * gE C
theorem Rep.atC {h : mm_Hp} {C D : CS} {r : Nat} (R : Rep h C D) (hr : okC r = true) : mm_at h r (cel C r) := by
  have h0 := okC_in hr
  have h1 := R.1 r (by omega) (by omega) h0.2.2
  rwa [if_pos (by omega)] at h1
theorem Rep.oC {h : mm_Hp} {C D : CS} {r c : Nat} {fs : List Nat} (R : Rep h C D) (hr : okC r = true) (hL : lay r = .inl (c, fs)) : mm_at h r (.inr (c, fvs C (100 * r) fs)) := by
  have h1 := R.atC hr
  rw [cel_of hL] at h1
  exact h1
theorem Rep.aC {h : mm_Hp} {C D : CS} {r n : Nat} (R : Rep h C D) (hr : okC r = true) (hL : lay r = .inr (0, n)) : mm_at h r (.inl (0, n, .inl (gA C r))) := by
  have h1 := R.atC hr
  rw [cel_of hL] at h1
  exact h1
theorem Rep.lC {h : mm_Hp} {C D : CS} {r n : Nat} (R : Rep h C D) (hr : okC r = true) (hL : lay r = .inr (2, n)) : mm_at h r (.inl (2, n, .inr (.inl (gB C r)))) := by
  have h1 := R.atC hr
  rw [cel_of hL] at h1
  exact h1
theorem Rep.upC {h h1 : mm_Hp} {C C1 D : CS} {r : Nat} (R : Rep h C D) (hr : okC r = true) (e : h1 = mm_up h r (cel C1 r)) (ho : ∀ q, q ≠ r → cel C1 q = cel C q) (hb : ∀ q, bys q → gI C1 (100 * q + 1) = gI C (100 * q + 1) ∧ gI C1 (100 * q + 2) = gI C (100 * q + 2) ∧ gA C1 (q + 1) = gA C (q + 1)) (hE : gE C1 = gE C) : Rep h1 C1 D := by
  subst e
  have h0 := okC_in hr
  obtain ⟨R1, k, j, R2, R3, R4, R5⟩ := R
  refine ⟨fun q q1 q2 q3 => ?_, k, j, fun q hq => ?_, R3, by rw [hE]; exact R4, by rw [hE]; exact R5⟩
  · have h1 := R1 q q1 q2 q3
    by_cases e : q = r
    · subst e
      rw [if_pos (by omega)]
      exact h1.up
    · have h2 := h1.ne (q := r) (y := cel C1 r) e
      by_cases c : q < 113
      · rw [if_pos c] at h2 ⊢
        rw [ho q e]
        exact h2
      · rw [if_neg c] at h2 ⊢
        exact h2
  · obtain ⟨e1, e2, e3⟩ := hb q hq
    have := bys_low hq
    exact (R2 q hq).up (by intro z; rw [z] at h0; exact absurd (this.1.symm.trans h0.2.2) (by decide)) (by intro z; rw [z] at h0; exact absurd (this.2.symm.trans h0.2.2) (by decide)) (by omega) e1 e2 e3
section MRWC
variable {g : mm_G} {d : Nat} {M : mm_Me} {pc : Nat} {ls : List (Option Value)} {st : List Value} {h : mm_Hp} {Post : mm_Ou → mm_Hp → Prop} {C D : CS}
theorem rC_get {r index c k key N : Nat} {Cn : String} {T : u_T} {ty : Nat → FieldType} {fs : List Nat} (hl : mm_lk M.1.cls index c k Cn T N ty) (hL : lay r = .inl (c, fs)) (hr : okC r = true) (hc : fs[k]? = some 0) (hk : 100 * r + k = key) (hd : decode M.2.1 pc = .ok (.getfield index, 3)) (R : Rep h C D) (kk : mm_P g d M (pc + 3) ls (.int (gI C key) :: st) h Post) : mm_P g d M pc ls (.ref r :: st) h Post := by
  subst hk
  exact mm_get hl hd (R.oC hr hL) (fvs_get hc) kk
theorem rC_getJ {r index c k key N : Nat} {Cn : String} {T : u_T} {ty : Nat → FieldType} {fs : List Nat} (hl : mm_lk M.1.cls index c k Cn T N ty) (hL : lay r = .inl (c, fs)) (hr : okC r = true) (hc : fs[k]? = some 1) (hk : 100 * r + k = key) (hd : decode M.2.1 pc = .ok (.getfield index, 3)) (R : Rep h C D) (kk : mm_P g d M (pc + 3) ls (.long (gJ C key) :: st) h Post) : mm_P g d M pc ls (.ref r :: st) h Post := by
  subst hk
  exact mm_get hl hd (R.oC hr hL) (fvs_get hc) kk
theorem rC_getR {r index c k N t : Nat} {Cn : String} {T : u_T} {ty : Nat → FieldType} {fs : List Nat} (hl : mm_lk M.1.cls index c k Cn T N ty) (hL : lay r = .inl (c, fs)) (hr : okC r = true) (hc : fs[k]? = some (t + 2)) (hd : decode M.2.1 pc = .ok (.getfield index, 3)) (R : Rep h C D) (kk : mm_P g d M (pc + 3) ls (.ref (t + 2) :: st) h Post) : mm_P g d M pc ls (.ref r :: st) h Post :=
  mm_get hl hd (R.oC hr hL) (fvs_get hc) kk
theorem rC_put {r index c k key N : Nat} {Cn : String} {T : u_T} {ty : Nat → FieldType} {fs : List Nat} {v : Int32} {C1 : CS} (hl : mm_lk M.1.cls index c k Cn T N ty) (hL : lay r = .inl (c, fs)) (hr : okC r = true) (hc : fs[k]? = some 0) (hk : 100 * r + k = key) (hfin : (T k).2.2.2 = false) (ht : ty k = .int) (hd : decode M.2.1 pc = .ok (.putfield index, 3)) (R : Rep h C D) (e1 : C1 = sI C key v) (kk : ∀ h1, Rep h1 C1 D → mm_P g d M (pc + 3) ls st h1 Post) : mm_P g d M pc ls (.int v :: .ref r :: st) h Post := by
  refine mm_put hl hfin hd (R.oC hr hL) (fun _ e => by rw [e, ht]; rfl) (fun _ e => by rw [e, ht]; rfl) (by rw [fvs_len]; exact (List.getElem?_eq_some_iff.mp hc).1) (kk _ ?_)
  refine R.upC (r := r) hr (by rw [e1, ← hk, fvs_setI hc, cel_of hL]; rfl) (fun q hq => by rw [e1]; exact cel_I hL hc hk hq) (fun q hq => ⟨by rw [e1, gI_sI, if_neg (bys_key hq hr hk hc hL).1], by rw [e1, gI_sI, if_neg (bys_key hq hr hk hc hL).2], by rw [e1]; rfl⟩) (by rw [e1]; rfl)
theorem rC_putJ {r index c k key N : Nat} {Cn : String} {T : u_T} {ty : Nat → FieldType} {fs : List Nat} {v : Int64} {C1 : CS} (hl : mm_lk M.1.cls index c k Cn T N ty) (hL : lay r = .inl (c, fs)) (hr : okC r = true) (hc : fs[k]? = some 1) (hk : 100 * r + k = key) (hfin : (T k).2.2.2 = false) (ht : ty k = .long) (hd : decode M.2.1 pc = .ok (.putfield index, 3)) (R : Rep h C D) (e1 : C1 = sJ C key v) (kk : ∀ h1, Rep h1 C1 D → mm_P g d M (pc + 3) ls st h1 Post) : mm_P g d M pc ls (.long v :: .ref r :: st) h Post := by
  refine mm_put hl hfin hd (R.oC hr hL) (fun _ e => by rw [e, ht]; rfl) (fun _ e => by rw [e, ht]; rfl) (by rw [fvs_len]; exact (List.getElem?_eq_some_iff.mp hc).1) (kk _ ?_)
  refine R.upC (r := r) hr (by rw [e1, ← hk, fvs_setJ hc, cel_of hL]; rfl) (fun q hq => by rw [e1]; exact cel_J hL hc hk hq) (fun q hq => ⟨by rw [e1]; rfl, by rw [e1]; rfl, by rw [e1]; rfl⟩) (by rw [e1]; rfl)
theorem rC_iald {r n : Nat} {i : Int32} (hL : lay r = .inr (0, n)) (hr : okC r = true) (hd : decode M.2.1 pc = .ok (.iaload, 1)) (R : Rep h C D) (hi : inb i n = true) (kk : mm_P g d M (pc + 1) ls (.int (gA C r i.toNatClampNeg) :: st) h Post) : mm_P g d M pc ls (.int i :: .ref r :: st) h Post :=
  mm_iald hd (R.aC hr hL) (inb_vp hi) kk
theorem rC_lald {r n : Nat} {i : Int32} (hL : lay r = .inr (2, n)) (hr : okC r = true) (hd : decode M.2.1 pc = .ok (.laload, 1)) (R : Rep h C D) (hi : inb i n = true) (kk : mm_P g d M (pc + 1) ls (.long (gB C r i.toNatClampNeg) :: st) h Post) : mm_P g d M pc ls (.int i :: .ref r :: st) h Post :=
  mm_lald hd (R.lC hr hL) (inb_vp hi) kk
theorem rC_iast {r n : Nat} {i v : Int32} {C1 : CS} (hL : lay r = .inr (0, n)) (hr : okC r = true) (hd : decode M.2.1 pc = .ok (.iastore, 1)) (R : Rep h C D) (hi : inb i n = true) (e1 : C1 = sA C r i.toNatClampNeg v) (kk : ∀ h1, Rep h1 C1 D → mm_P g d M (pc + 1) ls st h1 Post) : mm_P g d M pc ls (.int v :: .int i :: .ref r :: st) h Post := by
  refine mm_iast hd (R.aC hr hL) (inb_vp hi) (kk _ ?_)
  refine R.upC (r := r) hr (by rw [e1, cel_of hL]; show _ = mm_up h r (.inl (0, n, .inl (gA (sA C r i.toNatClampNeg v) r))); rw [gA_sA, if_pos rfl]) (fun q hq => by rw [e1]; exact cel_cg (fun _ _ _ => ⟨rfl, rfl⟩) (by rw [gA_sA, if_neg hq]) rfl) (fun q hq => ⟨by rw [e1]; rfl, by rw [e1]; rfl, by rw [e1, gA_sA, if_neg (bys_arr hq hr)]⟩) (by rw [e1]; rfl)
theorem rC_last {r n : Nat} {i : Int32} {v : Int64} {C1 : CS} (hL : lay r = .inr (2, n)) (hr : okC r = true) (hd : decode M.2.1 pc = .ok (.lastore, 1)) (R : Rep h C D) (hi : inb i n = true) (e1 : C1 = sB C r i.toNatClampNeg v) (kk : ∀ h1, Rep h1 C1 D → mm_P g d M (pc + 1) ls st h1 Post) : mm_P g d M pc ls (.long v :: .int i :: .ref r :: st) h Post := by
  refine mm_last hd (R.lC hr hL) (inb_vp hi) (kk _ ?_)
  refine R.upC (r := r) hr (by rw [e1, cel_of hL]; show _ = mm_up h r (.inl (2, n, .inr (.inl (gB (sB C r i.toNatClampNeg v) r)))); rw [gB_sB, if_pos rfl]) (fun q hq => by rw [e1]; exact cel_cg (fun _ _ _ => ⟨rfl, rfl⟩) rfl (by rw [gB_sB, if_neg hq])) (fun q hq => ⟨by rw [e1]; rfl, by rw [e1]; rfl, by rw [e1]; rfl⟩) (by rw [e1]; rfl)
theorem rC_alen {r n : Nat} (hL : lay r = .inr (0, n)) (hr : okC r = true) (hd : decode M.2.1 pc = .ok (.arraylength, 1)) (R : Rep h C D) (kk : mm_P g d M (pc + 1) ls (.int (nI n) :: st) h Post) : mm_P g d M pc ls (.ref r :: st) h Post :=
  mm_alenN (by decide) hd (R.aC hr hL) kk
end MRWC
theorem Rep.atD {h : mm_Hp} {C D : CS} {r : Nat} (R : Rep h C D) (hr : okD r = true) : mm_at h r (cel D r) := by
  have h0 := okD_in hr
  have h1 := R.1 r (by omega) (by omega) h0.2.2
  rwa [if_neg (by omega)] at h1
theorem Rep.oD {h : mm_Hp} {C D : CS} {r c : Nat} {fs : List Nat} (R : Rep h C D) (hr : okD r = true) (hL : lay r = .inl (c, fs)) : mm_at h r (.inr (c, fvs D (100 * r) fs)) := by
  have h1 := R.atD hr
  rw [cel_of hL] at h1
  exact h1
theorem Rep.aD {h : mm_Hp} {C D : CS} {r n : Nat} (R : Rep h C D) (hr : okD r = true) (hL : lay r = .inr (0, n)) : mm_at h r (.inl (0, n, .inl (gA D r))) := by
  have h1 := R.atD hr
  rw [cel_of hL] at h1
  exact h1
theorem Rep.lD {h : mm_Hp} {C D : CS} {r n : Nat} (R : Rep h C D) (hr : okD r = true) (hL : lay r = .inr (2, n)) : mm_at h r (.inl (2, n, .inr (.inl (gB D r)))) := by
  have h1 := R.atD hr
  rw [cel_of hL] at h1
  exact h1
theorem Rep.upD {h h1 : mm_Hp} {C D D1 : CS} {r : Nat} (R : Rep h C D) (hr : okD r = true) (e : h1 = mm_up h r (cel D1 r)) (ho : ∀ q, q ≠ r → cel D1 q = cel D q) : Rep h1 C D1 := by
  subst e
  have h0 := okD_in hr
  obtain ⟨R1, k, j, R2, R3, R4, R5⟩ := R
  refine ⟨fun q q1 q2 q3 => ?_, k, j, fun q hq => ?_, R3, R4, R5⟩
  · have h1 := R1 q q1 q2 q3
    by_cases e : q = r
    · subst e
      rw [if_neg (by omega)]
      exact h1.up
    · have h2 := h1.ne (q := r) (y := cel D1 r) e
      by_cases c : q < 113
      · rw [if_pos c] at h2 ⊢
        exact h2
      · rw [if_neg c] at h2 ⊢
        rw [ho q e]
        exact h2
  · have := bys_low hq
    exact (R2 q hq).up (by intro z; rw [z] at h0; exact absurd (this.1.symm.trans h0.2.2) (by decide)) (by intro z; rw [z] at h0; exact absurd (this.2.symm.trans h0.2.2) (by decide)) (by omega) rfl rfl rfl
section MRWD
variable {g : mm_G} {d : Nat} {M : mm_Me} {pc : Nat} {ls : List (Option Value)} {st : List Value} {h : mm_Hp} {Post : mm_Ou → mm_Hp → Prop} {C D : CS}
theorem rD_get {r index c k key N : Nat} {Cn : String} {T : u_T} {ty : Nat → FieldType} {fs : List Nat} (hl : mm_lk M.1.cls index c k Cn T N ty) (hL : lay r = .inl (c, fs)) (hr : okD r = true) (hc : fs[k]? = some 0) (hk : 100 * r + k = key) (hd : decode M.2.1 pc = .ok (.getfield index, 3)) (R : Rep h C D) (kk : mm_P g d M (pc + 3) ls (.int (gI D key) :: st) h Post) : mm_P g d M pc ls (.ref r :: st) h Post := by
  subst hk
  exact mm_get hl hd (R.oD hr hL) (fvs_get hc) kk
theorem rD_getJ {r index c k key N : Nat} {Cn : String} {T : u_T} {ty : Nat → FieldType} {fs : List Nat} (hl : mm_lk M.1.cls index c k Cn T N ty) (hL : lay r = .inl (c, fs)) (hr : okD r = true) (hc : fs[k]? = some 1) (hk : 100 * r + k = key) (hd : decode M.2.1 pc = .ok (.getfield index, 3)) (R : Rep h C D) (kk : mm_P g d M (pc + 3) ls (.long (gJ D key) :: st) h Post) : mm_P g d M pc ls (.ref r :: st) h Post := by
  subst hk
  exact mm_get hl hd (R.oD hr hL) (fvs_get hc) kk
theorem rD_getR {r index c k N t : Nat} {Cn : String} {T : u_T} {ty : Nat → FieldType} {fs : List Nat} (hl : mm_lk M.1.cls index c k Cn T N ty) (hL : lay r = .inl (c, fs)) (hr : okD r = true) (hc : fs[k]? = some (t + 2)) (hd : decode M.2.1 pc = .ok (.getfield index, 3)) (R : Rep h C D) (kk : mm_P g d M (pc + 3) ls (.ref (t + 2) :: st) h Post) : mm_P g d M pc ls (.ref r :: st) h Post :=
  mm_get hl hd (R.oD hr hL) (fvs_get hc) kk
theorem rD_put {r index c k key N : Nat} {Cn : String} {T : u_T} {ty : Nat → FieldType} {fs : List Nat} {v : Int32} {D1 : CS} (hl : mm_lk M.1.cls index c k Cn T N ty) (hL : lay r = .inl (c, fs)) (hr : okD r = true) (hc : fs[k]? = some 0) (hk : 100 * r + k = key) (hfin : (T k).2.2.2 = false) (ht : ty k = .int) (hd : decode M.2.1 pc = .ok (.putfield index, 3)) (R : Rep h C D) (e1 : D1 = sI D key v) (kk : ∀ h1, Rep h1 C D1 → mm_P g d M (pc + 3) ls st h1 Post) : mm_P g d M pc ls (.int v :: .ref r :: st) h Post := by
  refine mm_put hl hfin hd (R.oD hr hL) (fun _ e => by rw [e, ht]; rfl) (fun _ e => by rw [e, ht]; rfl) (by rw [fvs_len]; exact (List.getElem?_eq_some_iff.mp hc).1) (kk _ ?_)
  refine R.upD (r := r) hr (by rw [e1, ← hk, fvs_setI hc, cel_of hL]; rfl) (fun q hq => by rw [e1]; exact cel_I hL hc hk hq) 
theorem rD_putJ {r index c k key N : Nat} {Cn : String} {T : u_T} {ty : Nat → FieldType} {fs : List Nat} {v : Int64} {D1 : CS} (hl : mm_lk M.1.cls index c k Cn T N ty) (hL : lay r = .inl (c, fs)) (hr : okD r = true) (hc : fs[k]? = some 1) (hk : 100 * r + k = key) (hfin : (T k).2.2.2 = false) (ht : ty k = .long) (hd : decode M.2.1 pc = .ok (.putfield index, 3)) (R : Rep h C D) (e1 : D1 = sJ D key v) (kk : ∀ h1, Rep h1 C D1 → mm_P g d M (pc + 3) ls st h1 Post) : mm_P g d M pc ls (.long v :: .ref r :: st) h Post := by
  refine mm_put hl hfin hd (R.oD hr hL) (fun _ e => by rw [e, ht]; rfl) (fun _ e => by rw [e, ht]; rfl) (by rw [fvs_len]; exact (List.getElem?_eq_some_iff.mp hc).1) (kk _ ?_)
  refine R.upD (r := r) hr (by rw [e1, ← hk, fvs_setJ hc, cel_of hL]; rfl) (fun q hq => by rw [e1]; exact cel_J hL hc hk hq) 
theorem rD_iald {r n : Nat} {i : Int32} (hL : lay r = .inr (0, n)) (hr : okD r = true) (hd : decode M.2.1 pc = .ok (.iaload, 1)) (R : Rep h C D) (hi : inb i n = true) (kk : mm_P g d M (pc + 1) ls (.int (gA D r i.toNatClampNeg) :: st) h Post) : mm_P g d M pc ls (.int i :: .ref r :: st) h Post :=
  mm_iald hd (R.aD hr hL) (inb_vp hi) kk
theorem rD_lald {r n : Nat} {i : Int32} (hL : lay r = .inr (2, n)) (hr : okD r = true) (hd : decode M.2.1 pc = .ok (.laload, 1)) (R : Rep h C D) (hi : inb i n = true) (kk : mm_P g d M (pc + 1) ls (.long (gB D r i.toNatClampNeg) :: st) h Post) : mm_P g d M pc ls (.int i :: .ref r :: st) h Post :=
  mm_lald hd (R.lD hr hL) (inb_vp hi) kk
theorem rD_iast {r n : Nat} {i v : Int32} {D1 : CS} (hL : lay r = .inr (0, n)) (hr : okD r = true) (hd : decode M.2.1 pc = .ok (.iastore, 1)) (R : Rep h C D) (hi : inb i n = true) (e1 : D1 = sA D r i.toNatClampNeg v) (kk : ∀ h1, Rep h1 C D1 → mm_P g d M (pc + 1) ls st h1 Post) : mm_P g d M pc ls (.int v :: .int i :: .ref r :: st) h Post := by
  refine mm_iast hd (R.aD hr hL) (inb_vp hi) (kk _ ?_)
  refine R.upD (r := r) hr (by rw [e1, cel_of hL]; show _ = mm_up h r (.inl (0, n, .inl (gA (sA D r i.toNatClampNeg v) r))); rw [gA_sA, if_pos rfl]) (fun q hq => by rw [e1]; exact cel_cg (fun _ _ _ => ⟨rfl, rfl⟩) (by rw [gA_sA, if_neg hq]) rfl) 
theorem rD_last {r n : Nat} {i : Int32} {v : Int64} {D1 : CS} (hL : lay r = .inr (2, n)) (hr : okD r = true) (hd : decode M.2.1 pc = .ok (.lastore, 1)) (R : Rep h C D) (hi : inb i n = true) (e1 : D1 = sB D r i.toNatClampNeg v) (kk : ∀ h1, Rep h1 C D1 → mm_P g d M (pc + 1) ls st h1 Post) : mm_P g d M pc ls (.long v :: .int i :: .ref r :: st) h Post := by
  refine mm_last hd (R.lD hr hL) (inb_vp hi) (kk _ ?_)
  refine R.upD (r := r) hr (by rw [e1, cel_of hL]; show _ = mm_up h r (.inl (2, n, .inr (.inl (gB (sB D r i.toNatClampNeg v) r)))); rw [gB_sB, if_pos rfl]) (fun q hq => by rw [e1]; exact cel_cg (fun _ _ _ => ⟨rfl, rfl⟩) rfl (by rw [gB_sB, if_neg hq])) 
theorem rD_alen {r n : Nat} (hL : lay r = .inr (0, n)) (hr : okD r = true) (hd : decode M.2.1 pc = .ok (.arraylength, 1)) (R : Rep h C D) (kk : mm_P g d M (pc + 1) ls (.int (nI n) :: st) h Post) : mm_P g d M pc ls (.ref r :: st) h Post :=
  mm_alenN (by decide) hd (R.aD hr hL) kk
end MRWD

/-! locals may be forgotten -/
def subl : List (Option Value) → List (Option Value) → Prop
  | [], [] => True
  | none :: a, _ :: b => subl a b
  | some v :: a, some w :: b => v = w ∧ subl a b
  | _, _ => False
theorem subl_len : ∀ {a b : List (Option Value)}, subl a b → a.length = b.length
  | [], [], _ => rfl
  | none :: a, _ :: b, h => congrArg (· + 1) (subl_len (a := a) (b := b) h)
  | some _ :: a, some _ :: b, h => congrArg (· + 1) (subl_len (a := a) (b := b) h.2)
theorem subl_at : ∀ {a b : List (Option Value)} {i : Nat} {v : Value}, subl a b → a[i]? = some (some v) → b[i]? = some (some v)
  | none :: a, _ :: b, 0, v, h, e => by simp at e
  | none :: a, _ :: b, i + 1, v, h, e => by
    simp at e ⊢
    exact subl_at (a := a) (b := b) h e
  | some w :: a, some u :: b, 0, v, h, e => by
    simp at e ⊢
    exact h.1.symm.trans e
  | some _ :: a, some _ :: b, i + 1, v, h, e => by
    simp at e ⊢
    exact subl_at (a := a) (b := b) h.2 e
theorem mm_fgt {g : mm_G} {d : Nat} {M : mm_Me} {pc : Nat} {ls ls' : List (Option Value)} {st : List Value} {h : mm_Hp} {Post : mm_Ou → mm_Hp → Prop} (hs : subl ls' ls) (k : mm_P g d M pc ls' st h Post) : mm_P g d M pc ls st h Post := by
  obtain ⟨o, h', h1, h2, h3, h4⟩ := k
  refine ⟨o, h', h1, h2, h3, fun p e R s m args below meth c H locs cells slots LS X => ?_⟩
  obtain ⟨X1, X2, X3, X4, X5, X6, X7⟩ := X
  exact h4 p e R s m args below meth c H locs cells slots LS ⟨X1, X2, X3, X4, X5, X6, X7.1.trans (subl_len hs).symm, X7.2.1, fun i v hi => X7.2.2 i v (subl_at hs hi)⟩
/-! pieces of the functions -/
def bd {α β : Type} (x : α) (k : α → Option β) : Option β := k x
def bnd {α β : Type} (x : Option α) (k : α → Option β) : Option β := match x with
  | none => none
  | some a => k a
def bns {α β γ : Type} (x : Option (α ⊕ β)) (k : α → Option γ) (l : β → Option γ) : Option γ := match x with
  | none => none
  | some (.inl a) => k a
  | some (.inr b) => l b
/-- a call that may throw -/
def bnx {α β : Type} (x : Option ((String ⊕ α) × CS)) (k : α → CS → Option ((String ⊕ β) × CS)) : Option ((String ⊕ β) × CS) := match x with
  | none => none
  | some (.inl E, C) => some (.inl E, C)
  | some (.inr a, C) => k a C
theorem hD {α β : Type} {x : α} {k : α → Option β} {r : β} (h : bd x k = some r) : ∃ y, y = x ∧ k y = some r := ⟨x, rfl, h⟩
theorem hC {α β : Type} {x : Option α} {k : α → Option β} {r : β} (h : bnd x k = some r) : ∃ q, x = some q ∧ k q = some r := by
  cases x with
  | none => cases h
  | some q => exact ⟨q, rfl, h⟩
theorem hS {α β γ : Type} {x : Option (α ⊕ β)} {k : α → Option γ} {l : β → Option γ} {r : γ} (h : bns x k l = some r) : (∃ q, x = some (.inl q) ∧ k q = some r) ∨ ∃ q, x = some (.inr q) ∧ l q = some r := by
  cases x with
  | none => cases h
  | some q =>
    cases q with
    | inl a => exact Or.inl ⟨a, rfl, h⟩
    | inr b => exact Or.inr ⟨b, rfl, h⟩
theorem hX {α β : Type} {x : Option ((String ⊕ α) × CS)} {k : α → CS → Option ((String ⊕ β) × CS)} {r : (String ⊕ β) × CS} (h : bnx x k = some r) : (∃ E C, x = some (.inl E, C) ∧ r = (.inl E, C)) ∨ ∃ a C, x = some (.inr a, C) ∧ k a C = some r := by
  cases x with
  | none => cases h
  | some q =>
    obtain ⟨q, C⟩ := q
    cases q with
    | inl E => exact Or.inl ⟨E, C, rfl, (Option.some.inj h).symm⟩
    | inr a => exact Or.inr ⟨a, C, rfl, h⟩
theorem hT {p : Prop} {i : Decidable p} {β : Type} {a b : Option β} {r : β} (c : p) (h : (@ite _ p i a b) = some r) : a = some r := by rwa [if_pos c] at h
theorem hF {p : Prop} {i : Decidable p} {β : Type} {a b : Option β} {r : β} (c : ¬ p) (h : (@ite _ p i a b) = some r) : b = some r := by rwa [if_neg c] at h
theorem hB {p : Prop} {i : Decidable p} {β : Type} {a : Option β} {r : β} (h : (@ite _ p i a none) = some r) : p ∧ a = some r := by
  by_cases c : p
  · rw [if_pos c] at h
    exact ⟨c, h⟩
  · rw [if_neg c] at h
    cases h
/-- what methods owe: of the class's side, of the model's -/
def oI (v : Int32) : mm_Ou := .inl (some (.int v))
def cI (D : CS) (r : Int32 × CS) : mm_Ou → mm_Hp → Prop := fun o h => o = .inl (some (.int r.1)) ∧ Rep h r.2 D
def cJ (D : CS) (r : Int64 × CS) : mm_Ou → mm_Hp → Prop := fun o h => o = .inl (some (.long r.1)) ∧ Rep h r.2 D
def cV (D : CS) (r : CS) : mm_Ou → mm_Hp → Prop := fun o h => o = .inl none ∧ Rep h r D
def dI (C : CS) (r : Int32 × CS) : mm_Ou → mm_Hp → Prop := fun o h => o = .inl (some (.int r.1)) ∧ Rep h C r.2
def dJ (C : CS) (r : Int64 × CS) : mm_Ou → mm_Hp → Prop := fun o h => o = .inl (some (.long r.1)) ∧ Rep h C r.2
def dV (C : CS) (r : CS) : mm_Ou → mm_Hp → Prop := fun o h => o = .inl none ∧ Rep h C r
def xI (v : String ⊕ Int32) : mm_Ou := match v with
  | .inl E => .inr E
  | .inr v => .inl (some (.int v))
def xV (v : String ⊕ Unit) : mm_Ou := match v with
  | .inl E => .inr E
  | .inr _ => .inl none
def cXI (D : CS) (r : (String ⊕ Int32) × CS) : mm_Ou → mm_Hp → Prop := fun o h => o = xI r.1 ∧ Rep h r.2 D
def cXV (D : CS) (r : (String ⊕ Unit) × CS) : mm_Ou → mm_Hp → Prop := fun o h => o = xV r.1 ∧ Rep h r.2 D
theorem Rep.thr {h : mm_Hp} {C D : CS} {x : va_E} (R : Rep h C D) : Rep (mm_add h x 6) (sE C) D := by
  obtain ⟨R1, k, j, R2, R3, R4, R5⟩ := R
  refine ⟨fun q q1 q2 q3 => ?_, k, j, fun q hq => ?_, R3, ?_, ?_⟩
  · have h1 := (R1 q q1 q2 q3).add (N := 6) (y := x)
    by_cases c : q < 113
    · rw [if_pos c] at h1 ⊢
      rw [cel_cg (C := sE C) (C1 := C) (fun _ _ _ => ⟨rfl, rfl⟩) rfl rfl]
      exact h1
    · rw [if_neg c] at h1 ⊢
      exact h1
  · obtain ⟨s, mk, b, ⟨f, a, ak, B⟩, b1⟩ := R2 q hq
    exact ⟨s, mk, b, ⟨f, a.add, ak.add, B⟩, b1⟩
  · show h.2.1 + 1 = _
    rw [gE_sE, R4]
    omega
  · show h.2.2 + 6 + 384 = _
    rw [gE_sE]
    omega
