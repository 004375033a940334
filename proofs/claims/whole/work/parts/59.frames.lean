/-! states that agree on some keys; frames -/
def Ag (li la lb : List Nat) (C C1 : CS) : Prop := (∀ k ∈ li, gI C1 k = gI C k) ∧ (∀ r ∈ la, gA C1 r = gA C r) ∧ ∀ r ∈ lb, gB C1 r = gB C r
theorem Ag.rfl {li la lb : List Nat} {C : CS} : Ag li la lb C C := ⟨fun _ _ => Eq.refl _, fun _ _ => Eq.refl _, fun _ _ => Eq.refl _⟩
/-- nothing changed but the keys that are named -/
def Fm (ei ea eb : List Nat) (C C1 : CS) : Prop := (∀ k, ei.contains k = false → gI C1 k = gI C k) ∧ (∀ r, ea.contains r = false → gA C1 r = gA C r) ∧ (∀ r, eb.contains r = false → gB C1 r = gB C r) ∧ gE C1 = gE C
theorem Fm.rfl {ei ea eb : List Nat} {C : CS} : Fm ei ea eb C C := ⟨fun _ _ => Eq.refl _, fun _ _ => Eq.refl _, fun _ _ => Eq.refl _, Eq.refl _⟩
theorem Fm.trans {ei ea eb : List Nat} {C C1 C2 : CS} (h : Fm ei ea eb C C1) (k : Fm ei ea eb C1 C2) : Fm ei ea eb C C2 := ⟨fun a b => (k.1 a b).trans (h.1 a b), fun a b => (k.2.1 a b).trans (h.2.1 a b), fun a b => (k.2.2.1 a b).trans (h.2.2.1 a b), k.2.2.2.trans h.2.2.2⟩
def sb (l m : List Nat) : Bool := l.all fun x => m.contains x
def dj (l m : List Nat) : Bool := l.all fun x => !m.contains x
theorem sb_no {l m : List Nat} (h : sb l m = true) {x : Nat} (hx : m.contains x = false) : l.contains x = false := by
  cases c : l.contains x
  · rfl
  · have h1 := List.all_eq_true.mp h x (by simpa using c)
    rw [hx] at h1
    cases h1
theorem Fm.sub {ei ea eb fi fa fb : List Nat} {C C1 : CS} (h : Fm ei ea eb C C1) (s : (sb ei fi && (sb ea fa && sb eb fb)) = true) : Fm fi fa fb C C1 := by
  simp only [Bool.and_eq_true] at s
  exact ⟨fun k hk => h.1 k (sb_no s.1 hk), fun k hk => h.2.1 k (sb_no s.2.1 hk), fun k hk => h.2.2.1 k (sb_no s.2.2 hk), h.2.2.2⟩
theorem Fm.ag {ei ea eb li la lb : List Nat} {C C1 : CS} (h : Fm ei ea eb C C1) (s : (dj li ei && (dj la ea && dj lb eb)) = true) : Ag li la lb C C1 := by
  simp only [Bool.and_eq_true] at s
  have t : ∀ {l m : List Nat}, dj l m = true → ∀ x ∈ l, m.contains x = false := fun {l m} hd x hx => by
    have := List.all_eq_true.mp hd x hx
    simpa using this
  exact ⟨fun k hk => h.1 k (t s.1 k hk), fun k hk => h.2.1 k (t s.2.1 k hk), fun k hk => h.2.2.1 k (t s.2.2 k hk)⟩
theorem Fm.I {ei ea eb : List Nat} {C : CS} {k : Nat} {v : Int32} (h : ei.contains k = true) : Fm ei ea eb C (sI C k v) := ⟨fun j hj => (by rw [gI_sI, if_neg]; intro e; rw [e, h] at hj; cases hj), fun _ _ => Eq.refl _, fun _ _ => Eq.refl _, Eq.refl _⟩
theorem Fm.J {ei ea eb : List Nat} {C : CS} {k : Nat} {v : Int64} : Fm ei ea eb C (sJ C k v) := ⟨fun _ _ => Eq.refl _, fun _ _ => Eq.refl _, fun _ _ => Eq.refl _, Eq.refl _⟩
theorem Fm.A {ei ea eb : List Nat} {C : CS} {r i : Nat} {v : Int32} (h : ea.contains r = true) : Fm ei ea eb C (sA C r i v) := ⟨fun _ _ => Eq.refl _, fun j hj => (by rw [gA_sA, if_neg]; intro e; rw [e, h] at hj; cases hj), fun _ _ => Eq.refl _, Eq.refl _⟩
theorem Fm.B {ei ea eb : List Nat} {C : CS} {r i : Nat} {v : Int64} (h : eb.contains r = true) : Fm ei ea eb C (sB C r i v) := ⟨fun _ _ => Eq.refl _, fun _ _ => Eq.refl _, fun j hj => (by rw [gB_sB, if_neg]; intro e; rw [e, h] at hj; cases hj), Eq.refl _⟩
theorem RO.ag {C C1 D D1 : CS} {n : Nat} (R : RO C D n) (h : Ag [9801, 9800] [99, 100, 101, 102, 103] [] C C1) (k : Ag [11334] [136, 137, 138, 139, 140] [] D D1) : RO C1 D1 n := by
  unfold RO at R ⊢
  rw [h.1 9801 (by decide), h.1 9800 (by decide), h.2.1 99 (by decide), h.2.1 100 (by decide), h.2.1 101 (by decide), h.2.1 102 (by decide), h.2.1 103 (by decide), k.1 11334 (by decide), k.2.1 136 (by decide), k.2.1 137 (by decide), k.2.1 138 (by decide), k.2.1 139 (by decide), k.2.1 140 (by decide)]
  exact R
theorem RO.fm {C C1 D D1 : CS} {ei ea eb fi fa fb : List Nat} {n : Nat} (R : RO C D n) (h : Fm ei ea eb C C1) (k : Fm fi fa fb D D1) (ss : (dj [9801, 9800] ei && (dj [99, 100, 101, 102, 103] ea && dj [] eb)) = true) (tt : (dj [11334] fi && (dj [136, 137, 138, 139, 140] fa && dj [] fb)) = true) : RO C1 D1 n := R.ag (h.ag ss) (k.ag tt)
theorem RN.ag {C C1 D D1 : CS} {n nX : Nat} (R : RN C D n nX) (h : Ag [9401, 9400] [95, 96] [97] C C1) (k : Ag [11323, 11322] [133, 134] [135] D D1) : RN C1 D1 n nX := by
  unfold RN at R ⊢
  rw [h.1 9401 (by decide), h.1 9400 (by decide), h.2.1 95 (by decide), h.2.1 96 (by decide), h.2.2 97 (by decide), k.1 11323 (by decide), k.1 11322 (by decide), k.2.1 133 (by decide), k.2.1 134 (by decide), k.2.2 135 (by decide)]
  exact R
theorem RN.fm {C C1 D D1 : CS} {ei ea eb fi fa fb : List Nat} {n nX : Nat} (R : RN C D n nX) (h : Fm ei ea eb C C1) (k : Fm fi fa fb D D1) (ss : (dj [9401, 9400] ei && (dj [95, 96] ea && dj [97] eb)) = true) (tt : (dj [11323, 11322] fi && (dj [133, 134] fa && dj [135] fb)) = true) : RN C1 D1 n nX := R.ag (h.ag ss) (k.ag tt)
theorem RLn.ag {C C1 D D1 : CS} {n : Nat} (R : RLn C D n) (h : Ag [6901, 6900] [70, 71, 72, 73, 74, 75] [] C C1) (k : Ag [11308] [116, 117, 118, 119, 120] [] D D1) : RLn C1 D1 n := by
  unfold RLn at R ⊢
  rw [h.1 6901 (by decide), h.1 6900 (by decide), h.2.1 70 (by decide), h.2.1 71 (by decide), h.2.1 72 (by decide), h.2.1 73 (by decide), h.2.1 74 (by decide), h.2.1 75 (by decide), k.1 11308 (by decide), k.2.1 116 (by decide), k.2.1 117 (by decide), k.2.1 118 (by decide), k.2.1 119 (by decide), k.2.1 120 (by decide)]
  exact R
theorem RLn.fm {C C1 D D1 : CS} {ei ea eb fi fa fb : List Nat} {n : Nat} (R : RLn C D n) (h : Fm ei ea eb C C1) (k : Fm fi fa fb D D1) (ss : (dj [6901, 6900] ei && (dj [70, 71, 72, 73, 74, 75] ea && dj [] eb)) = true) (tt : (dj [11308] fi && (dj [116, 117, 118, 119, 120] fa && dj [] fb)) = true) : RLn C1 D1 n := R.ag (h.ag ss) (k.ag tt)
theorem RR.ag {C C1 D D1 : CS} {nL nR : Nat} {cid : Nat → Nat} (R : RR C D nL nR cid) (h : Ag [7601, 7600] [79, 80, 81] [] C C1) (k : Ag [11319] [121, 122, 123] [] D D1) : RR C1 D1 nL nR cid := by
  unfold RR at R ⊢
  rw [h.1 7601 (by decide), h.1 7600 (by decide), h.2.1 79 (by decide), h.2.1 80 (by decide), h.2.1 81 (by decide), k.1 11319 (by decide), k.2.1 121 (by decide), k.2.1 122 (by decide), k.2.1 123 (by decide)]
  exact R
theorem RR.fm {C C1 D D1 : CS} {ei ea eb fi fa fb : List Nat} {nL nR : Nat} {cid : Nat → Nat} (R : RR C D nL nR cid) (h : Fm ei ea eb C C1) (k : Fm fi fa fb D D1) (ss : (dj [7601, 7600] ei && (dj [79, 80, 81] ea && dj [] eb)) = true) (tt : (dj [11319] fi && (dj [121, 122, 123] fa && dj [] fb)) = true) : RR C1 D1 nL nR cid := R.ag (h.ag ss) (k.ag tt)
theorem RF.ag {C C1 D D1 : CS} {nF nL nR : Nat} {cid : Nat → Nat} (R : RF C D nF nL nR cid) (h : Ag [8401, 8400] [85, 86, 87, 88, 89, 90] [] C C1) (k : Ag [11320] [116, 122, 126, 127, 128, 129, 130] [] D D1) : RF C1 D1 nF nL nR cid := by
  unfold RF at R ⊢
  rw [h.1 8401 (by decide), h.1 8400 (by decide), h.2.1 85 (by decide), h.2.1 86 (by decide), h.2.1 87 (by decide), h.2.1 88 (by decide), h.2.1 89 (by decide), h.2.1 90 (by decide), k.1 11320 (by decide), k.2.1 116 (by decide), k.2.1 122 (by decide), k.2.1 126 (by decide), k.2.1 127 (by decide), k.2.1 128 (by decide), k.2.1 129 (by decide), k.2.1 130 (by decide)]
  exact R
theorem RF.fm {C C1 D D1 : CS} {ei ea eb fi fa fb : List Nat} {nF nL nR : Nat} {cid : Nat → Nat} (R : RF C D nF nL nR cid) (h : Fm ei ea eb C C1) (k : Fm fi fa fb D D1) (ss : (dj [8401, 8400] ei && (dj [85, 86, 87, 88, 89, 90] ea && dj [] eb)) = true) (tt : (dj [11320] fi && (dj [116, 122, 126, 127, 128, 129, 130] fa && dj [] fb)) = true) : RF C1 D1 nF nL nR cid := R.ag (h.ag ss) (k.ag tt)
theorem RT.ag {C C1 D D1 : CS} {nL nR : Nat} {cid : Nat → Nat} (R : RT C D nL nR cid) (h : Ag [7701] [78, 82, 83] [] C C1) (k : Ag [] [116, 122, 124, 125] [] D D1) : RT C1 D1 nL nR cid := by
  unfold RT at R ⊢
  rw [h.1 7701 (by decide), h.2.1 78 (by decide), h.2.1 82 (by decide), h.2.1 83 (by decide), k.2.1 116 (by decide), k.2.1 122 (by decide), k.2.1 124 (by decide), k.2.1 125 (by decide)]
  exact R
theorem RT.fm {C C1 D D1 : CS} {ei ea eb fi fa fb : List Nat} {nL nR : Nat} {cid : Nat → Nat} (R : RT C D nL nR cid) (h : Fm ei ea eb C C1) (k : Fm fi fa fb D D1) (ss : (dj [7701] ei && (dj [78, 82, 83] ea && dj [] eb)) = true) (tt : (dj [] fi && (dj [116, 122, 124, 125] fa && dj [] fb)) = true) : RT C1 D1 nL nR cid := R.ag (h.ag ss) (k.ag tt)
theorem RM.ag {C C1 D D1 : CS} {n : Nat} (R : RM C D n) (h : Ag [9101, 9100] [92, 93] [] C C1) (k : Ag [11321] [131, 132] [] D D1) : RM C1 D1 n := by
  unfold RM at R ⊢
  rw [h.1 9101 (by decide), h.1 9100 (by decide), h.2.1 92 (by decide), h.2.1 93 (by decide), k.1 11321 (by decide), k.2.1 131 (by decide), k.2.1 132 (by decide)]
  exact R
theorem RM.fm {C C1 D D1 : CS} {ei ea eb fi fa fb : List Nat} {n : Nat} (R : RM C D n) (h : Fm ei ea eb C C1) (k : Fm fi fa fb D D1) (ss : (dj [9101, 9100] ei && (dj [92, 93] ea && dj [] eb)) = true) (tt : (dj [11321] fi && (dj [131, 132] fa && dj [] fb)) = true) : RM C1 D1 n := R.ag (h.ag ss) (k.ag tt)
theorem RD.ag {C C1 D D1 : CS} {nD nF : Nat} (R : RD C D nD nF) (h : Ag [10401, 10400] [105, 106, 107, 108, 109] [] C C1) (k : Ag [11335] [141, 142, 143, 144, 145] [] D D1) : RD C1 D1 nD nF := by
  unfold RD at R ⊢
  rw [h.1 10401 (by decide), h.1 10400 (by decide), h.2.1 105 (by decide), h.2.1 106 (by decide), h.2.1 107 (by decide), h.2.1 108 (by decide), h.2.1 109 (by decide), k.1 11335 (by decide), k.2.1 141 (by decide), k.2.1 142 (by decide), k.2.1 143 (by decide), k.2.1 144 (by decide), k.2.1 145 (by decide)]
  exact R
theorem RD.fm {C C1 D D1 : CS} {ei ea eb fi fa fb : List Nat} {nD nF : Nat} (R : RD C D nD nF) (h : Fm ei ea eb C C1) (k : Fm fi fa fb D D1) (ss : (dj [10401, 10400] ei && (dj [105, 106, 107, 108, 109] ea && dj [] eb)) = true) (tt : (dj [11335] fi && (dj [141, 142, 143, 144, 145] fa && dj [] fb)) = true) : RD C1 D1 nD nF := R.ag (h.ag ss) (k.ag tt)
theorem RTp.ag {C C1 D D1 : CS} {n : Nat} (R : RTp C D n) (h : Ag [6501] [66] [] C C1) (k : Ag [11303] [114] [] D D1) : RTp C1 D1 n := by
  unfold RTp at R ⊢
  rw [h.1 6501 (by decide), h.2.1 66 (by decide), k.1 11303 (by decide), k.2.1 114 (by decide)]
  exact R
theorem RTp.fm {C C1 D D1 : CS} {ei ea eb fi fa fb : List Nat} {n : Nat} (R : RTp C D n) (h : Fm ei ea eb C C1) (k : Fm fi fa fb D D1) (ss : (dj [6501] ei && (dj [66] ea && dj [] eb)) = true) (tt : (dj [11303] fi && (dj [114] fa && dj [] fb)) = true) : RTp C1 D1 n := R.ag (h.ag ss) (k.ag tt)
theorem ROt.ag {C C1 D D1 : CS} {n : Nat} (R : ROt C D n) (h : Ag [6701] [68] [] C C1) (k : Ag [11304] [115] [] D D1) : ROt C1 D1 n := by
  unfold ROt at R ⊢
  rw [h.1 6701 (by decide), h.2.1 68 (by decide), k.1 11304 (by decide), k.2.1 115 (by decide)]
  exact R
theorem ROt.fm {C C1 D D1 : CS} {ei ea eb fi fa fb : List Nat} {n : Nat} (R : ROt C D n) (h : Fm ei ea eb C C1) (k : Fm fi fa fb D D1) (ss : (dj [6701] ei && (dj [68] ea && dj [] eb)) = true) (tt : (dj [11304] fi && (dj [115] fa && dj [] fb)) = true) : ROt C1 D1 n := R.ag (h.ag ss) (k.ag tt)
theorem RMi.ag {C C1 D D1 : CS} {s w : Nat} {fp : Int32} (R : RMi C D s w fp) (h : Ag [6411, 6412, 6413] [] [] C C1) (k : Ag [11306, 11305, 11307] [] [] D D1) : RMi C1 D1 s w fp := by
  unfold RMi at R ⊢
  rw [h.1 6411 (by decide), h.1 6412 (by decide), h.1 6413 (by decide), k.1 11306 (by decide), k.1 11305 (by decide), k.1 11307 (by decide)]
  exact R
theorem RMi.fm {C C1 D D1 : CS} {ei ea eb fi fa fb : List Nat} {s w : Nat} {fp : Int32} (R : RMi C D s w fp) (h : Fm ei ea eb C C1) (k : Fm fi fa fb D D1) (ss : (dj [6411, 6412, 6413] ei && (dj [] ea && dj [] eb)) = true) (tt : (dj [11306, 11305, 11307] fi && (dj [] fa && dj [] fb)) = true) : RMi C1 D1 s w fp := R.ag (h.ag ss) (k.ag tt)
theorem RX.ag {D D1 : CS} {nL nN s : Nat} (R : RX D nL nN s) (k : Ag [] [117, 134] [135] D D1) : RX D1 nL nN s := by
  unfold RX at R ⊢
  rw [k.2.1 117 (by decide), k.2.1 134 (by decide), k.2.2 135 (by decide)]
  exact R
theorem RX.fm {D D1 : CS} {fi fa fb : List Nat} {nL nN s : Nat} (R : RX D nL nN s) (k : Fm fi fa fb D D1) (t : (dj [] fi && (dj [117, 134] fa && dj [135] fb)) = true) : RX D1 nL nN s := R.ag (k.ag t)
