/-! the beginning of a sitting -/
def cB (C : CS) (en : Nat) : CS := sI (sI (sI (sI (sI (sI (sI (sI (sI (sI (sI C 11006 (nI en)) 11007 0) 11008 0) 11011 0) 11012 (-1)) 6902 (gI C 6901)) 7602 (gI C 7601)) 7702 (gI C 7701)) 8402 (gI C 8401)) 9102 (gI C 9101)) 9402 (gI C 9401)
def dB (D : CS) (en : Nat) : CS := sI (sI (sI (sI (sI D 11303 0) 11307 (-1)) 11347 (nI en)) 11346 0) 11349 0
def pgv (D : CS) (n : Nat) : Int32 := if n = 0 then 1 else gA D 119 (n - 1) + 1
section PBG
variable {C D : CS} {en t nL nR nF nM nN nX s N ts : Nat} {cid : Nat → Nat}
theorem c_begin (h : gI C 6501 = nI t) (ht : t ≤ 3000) (he : en ≤ t) : f_X10_begin (nI en) C = some (cB C en) := by
  unfold f_X10_begin
  rw [h, if_neg (nI_nlt (by omega) (by omega))]
  rfl
theorem cB_fm : Fm [11006, 11007, 11008, 11011, 11012, 6902, 7602, 7702, 8402, 9102, 9402] [] [] C (cB C en) := ((((((((((Fm.I rfl).trans (Fm.I rfl)).trans (Fm.I rfl)).trans (Fm.I rfl)).trans (Fm.I rfl)).trans (Fm.I rfl)).trans (Fm.I rfl)).trans (Fm.I rfl)).trans (Fm.I rfl)).trans (Fm.I rfl)).trans (Fm.I rfl)
theorem dB_fm : Fm [11303, 11307, 11347, 11346, 11349] [] [] D (dB D en) := ((((Fm.I rfl).trans (Fm.I rfl)).trans (Fm.I rfl)).trans (Fm.I rfl)).trans (Fm.I rfl)
theorem sq_begin (R1 : RLn C D nL) (R2 : RR C D nL nR cid) (R3 : RF C D nF nL nR cid) (R5 : RTt C D nL nR cid ts) (R6 : RM C D nM) (R7 : RN C D nN nX) (R9 : RTp C D t) (hs : gI D 11306 = nI s) (h8 : s ≤ 8) (R12 : RX D nL nN s) (he : en ≤ t) : SQ (cB C en) (dB D en) en 0 nL nL nR nF nM nN nX ts cid s none (pgv D nL) := by
  have F := cB_fm (C := C) (en := en)
  have G := dB_fm (D := D) (en := en)
  obtain ⟨x1, x2, x3⟩ := R12
  obtain ⟨t1, t2, t3, t4⟩ := R9
  refine ⟨⟨⟨by omega, ⟨t, he, t1, t2⟩, fun i hi => t4 i (by omega)⟩, rfl, rfl, rfl, rfl, rfl, rfl, rfl, by omega⟩, (R1.fm F G rfl rfl).sl (fun i hi z => ?_) (fun h => ?_) (fun h => ?_), R2.fm F G rfl rfl, ?_, R3.fm F G rfl rfl, R6.fm F G rfl rfl, R7.fm F G rfl rfl, ⟨x1, x3⟩, hs⟩
  · obtain ⟨q, q1, q2⟩ := x2 i hi
    have := (nI_eq (by omega) (by omega)).mp (q2.symm.trans z)
    omega
  · unfold pgv; rw [if_pos h]
  · unfold pgv; rw [if_neg (by omega)]; rfl
  · have a := F.ag (li := [7701]) (la := [78, 82, 83]) (lb := []) rfl
    have b := G.ag (li := []) (la := [116, 122, 124, 125]) (lb := []) rfl
    unfold RTt at R5 ⊢
    rw [a.1 7701 (by decide), a.2.1 78 (by decide), a.2.1 82 (by decide), a.2.1 83 (by decide), b.2.1 116 (by decide), b.2.1 122 (by decide), b.2.1 124 (by decide), b.2.1 125 (by decide)]
    exact R5
end PBG
