/-! a line's head -/
theorem kd_of : ∀ b, b < 256 → (if nI b = 81 then (some 0 : Option Int32) else (if nI b = 65 then (some 1) else (if nI b = 89 then (some 2) else (if nI b = 78 then (some 3) else (if nI b = 32 then (some 4) else (if nI b = 33 then (some 5) else (some (-1)))))))) = some (kdOf b) := by decide +kernel
theorem kd_ch : ∀ b, b < 256 → inb ((((if 0 < nI b then nI b else 0)).toUInt32 % 65536).toInt32) 256 = true ∧ (((((if 0 < nI b then nI b else 0)).toUInt32 % 65536).toInt32)).toNatClampNeg = b := by decide +kernel
theorem kd_cs : ∀ b, b < 256 → kdOf b = -1 ∨ (kdOf b = nI 0 ∧ nI b = chOf 1 0) ∨ (kdOf b = nI 1 ∧ nI b = chOf 1 1) ∨ (kdOf b = nI 2 ∧ nI b = chOf 1 2) ∨ (kdOf b = nI 3 ∧ nI b = chOf 1 3) ∨ (kdOf b = nI 4 ∧ nI b = chOf 1 4) ∨ (kdOf b = nI 5 ∧ nI b = chOf 1 5) := by decide +kernel
theorem kd_k {b : Nat} (h : b < 256) : kdOf b = -1 ∨ ∃ k, k ≤ 5 ∧ kdOf b = nI k ∧ nI b = chOf 1 k := by
  rcases kd_cs b h with q | q | q | q | q | q | q
  · exact Or.inl q
  · exact Or.inr ⟨0, by omega, q⟩
  · exact Or.inr ⟨1, by omega, q⟩
  · exact Or.inr ⟨2, by omega, q⟩
  · exact Or.inr ⟨3, by omega, q⟩
  · exact Or.inr ⟨4, by omega, q⟩
  · exact Or.inr ⟨5, by omega, q⟩
section PG
variable {C D : CS} {en p N n f k b : Nat} {x2 : Int32}
theorem d_l175 {x : Int32} (h : gI D 11349 ≠ 0) : f_X12_readLine_J175 N x D = some D := by
  unfold f_X12_readLine_J175
  rw [if_neg h]
theorem d_l139 {x : Int32} (h : gI D 11349 ≠ 0) : f_X12_readLine_J139 N x D = some D := by
  unfold f_X12_readLine_J139
  rw [if_neg h]
/-- the head: both went on to the line's rest, or found the same fault -/
def Head (C D : CS) (en p n N k : Nat) (x : Option (Int32 × CS)) (y : Option CS) : Prop :=
  (x = some (1, sI C 11007 (nI (p + 2))) ∧ y = f_X12_readLine_J175 N (nI k) (sI D 11346 (nI (p + 1))) ∧ sgn D en (p + 1) = 32 ∧ n < 200) ∨
  ∃ C1 D1, x = some (0, C1) ∧ y = some D1 ∧ PF C1 D1 ∧ pC C C1 ∧ pD D D1
theorem head_f {x y : Int32} (P : PP C D en p (p + 60) 60) (hx : x ≠ 0) : Head C D en p n N k (bnd (f_X10_refuse x (gI C 11007) C) fun q => if q.1 &&& 1 = q.1 then some (q.1, q.2) else none) (bnd (f_X12_wrong x (gI D 11346) D) fun q => f_X12_readLine_J139 N y q) := by
  have h8 := P.2.2.2.2.2.2.2.2.1
  have e7 : gI C 11007 = nI p := P.2.2.2.1
  have e46 : gI D 11346 = nI p := P.2.2.2.2.1
  have b : gI (sI (sI D 11349 x) 11350 (nI p)) 11349 ≠ 0 := hx
  rw [c_ref, bnd_some, d_wr h8, bnd_some, e7, e46, d_l139 b]
  right
  exact ⟨_, _, if_pos (show (0 : Int32) &&& 1 = 0 by decide), rfl, pf_mk hx, pc_ref, pd_wr⟩
theorem head81 (P : PP C D en p (p + 60) 60) (h1 : gI C 6901 = nI n) (h0 : gI C 6900 = 200) (h8 : gI D 11308 = nI n) (hn : n ≤ 200) : Head C D en p n N k (f_X10_takeHead_J81 C) (f_X12_readLine_J120 N (nI k) D) := by
  have d8 := P.2.2.2.2.2.2.2.2.1
  have e7 : gI C 11007 = nI p := P.2.2.2.1
  have e46 : gI D 11346 = nI p := P.2.2.2.2.1
  unfold f_X10_takeHead_J81 f_X12_readLine_J120
  rw [h1, h0, h8, show (200 : Int32) = nI 200 from rfl, fullT_nI (by omega) (by decide)]
  by_cases c : n < 200
  · rw [if_pos c, if_pos rfl, if_neg (fun z => by have := (nI_eq (b := 200) (by omega) (by decide)).mp z; omega), bd_eq, e7, nI_1]
    obtain ⟨-, -, s3⟩ := P.stepY (show p < p + 60 by omega)
    have b8 : gI (sI D 11346 (nI (p + 1))) 11349 = 0 := d8
    have b46 : gI (sI D 11346 (nI (p + 1))) 11346 = nI (p + 1) := rfl
    have b7 : gI (sI C 11007 (nI (p + 1))) 11007 = nI (p + 1) := rfl
    have sg : sgn (sI D 11346 (nI (p + 1))) en (p + 1) = sgn D en (p + 1) := rfl
    obtain ⟨t1, -, -⟩ := s3.stepY (show p + 1 < p + 60 by omega)
    unfold f_X12_readLine_J139 f_X10_expect
    rw [d8, if_pos rfl, bd_eq, e46, nI_1, s3.now, bnd_some, c_sign s3, bnd_some, sg]
    by_cases c32 : sgn D en (p + 1) = 32
    · rw [if_pos c32, if_pos c32, t1, bnd_some]
      left
      refine ⟨?_, rfl, c32, c⟩
      rw [if_pos (show (1 : Int32) &&& 1 = 1 by decide), bnd_some, if_pos (show (1 : Int32) &&& 1 = 1 by decide)]
      have : sI (sI C 11007 (nI (p + 1))) 11007 (nI (p + 1 + 1)) = sI C 11007 (nI (p + 2)) := by
        unfold sI
        simp only [Prod.mk.injEq, and_true]
        funext j
        by_cases e : j = 11007
        · rw [if_pos e, if_pos e]
        · rw [if_neg e, if_neg e, if_neg e]
      rw [this]
    · have bb : gI (sI (sI (sI D 11346 (nI (p + 1))) 11349 1) 11350 (nI (p + 1))) 11349 ≠ 0 := show (1 : Int32) ≠ 0 by decide
      rw [if_neg c32, if_neg c32, c_ref, bnd_some, d_wr b8, bnd_some, b46, b7, d_l175 bb, if_pos (show (0 : Int32) &&& 1 = 0 by decide), bnd_some]
      right
      exact ⟨_, _, if_pos (show (0 : Int32) &&& 1 = 0 by decide), rfl, pf_mk (k := 1) (q := nI (p + 1)) (by decide), (Fm.I rfl).trans pc_ref, (Fm.I rfl).trans pd_wr⟩
  · have n2 : n = 200 := by omega
    subst n2
    rw [if_neg c, if_neg (show ¬ (1 : Int32) = 0 by decide), if_pos rfl]
    exact head_f P (by decide)
theorem c_go {s pv : Int32} {E : Option Nat} (S : SL C D f n s E pv) : f_X4_canGoOn s C = some (if f < n ∧ gA D 116 (n - 1) ≠ 5 then 1 else 0) := by
  obtain ⟨s1, s2, s3, s4, s5, sa, sb, sc', sd, se, -⟩ := S
  unfold f_X4_canGoOn
  rw [s3]
  by_cases c : n = 0
  · subst c
    rw [if_pos (show nI 0 ≤ 0 by decide), if_neg (by omega)]
  · obtain ⟨m, rfl⟩ : ∃ m, n = m + 1 := ⟨n - 1, by omega⟩
    obtain ⟨a1, a2, -⟩ := sa m (by omega)
    rw [if_neg (show ¬ nI (m + 1) ≤ 0 from nI_nle (by omega) (by omega)), nI_pred, inb_nI (by omega) (by decide), if_pos rfl, nI_clamp (by omega), if_pos rfl, Nat.add_sub_cancel, a1, a2]
    by_cases cf : f < m + 1
    · rw [if_pos (sd m (by omega) (by omega))]
      by_cases c5 : gA D 116 m = 5
      · rw [if_pos c5, if_neg (fun z => z.2 c5)]
      · rw [if_neg c5, if_pos ⟨cf, c5⟩]
    · rw [if_neg (se m (by omega)), if_neg (fun z => cf z.1)]
def d3 (D : CS) : CS := sI (sI D 11348 (gI D 11346)) 11351 (gI (sI D 11348 (gI D 11346)) 11308)
def HeadL (C D : CS) (en p n f N b : Nat) (x : Option (Int32 × CS)) (y : Option CS) : Prop :=
  (∃ k, k ≤ 5 ∧ kdOf b = nI k ∧ nI b = chOf 1 k ∧ (k = 4 → f < n ∧ gA D 116 (n - 1) ≠ 5) ∧ x = some (1, sI C 11007 (nI (p + 2))) ∧ y = f_X12_readLine_J175 N (nI k) (sI D 11346 (nI (p + 1))) ∧ sgn D en (p + 1) = 32 ∧ n < 200) ∨
  ∃ C1 D1, x = some (0, C1) ∧ y = some D1 ∧ PF C1 D1 ∧ pC C C1 ∧ pD D D1
theorem Head.up {x : Option (Int32 × CS)} {y : Option CS} (H : Head C D en p n N k x y) (h1 : k ≤ 5) (h2 : kdOf b = nI k) (h3 : nI b = chOf 1 k) (h4 : k = 4 → sgn D en (p + 1) = 32 → f < n ∧ gA D 116 (n - 1) ≠ 5) : HeadL C D en p n f N b x y := by
  rcases H with ⟨a1, a2, a3, a4⟩ | H
  · left; exact ⟨k, h1, h2, h3, fun z => h4 z a3, a1, a2, a3, a4⟩
  · right; exact H
theorem head {s pv : Int32} {E : Option Nat} (P : PP C (d3 D) en p (p + 60) 60) (S : SL C (d3 D) f n s E pv) (hb : b < 256) (hs : sgn (d3 D) en p = nI b) : HeadL C (d3 D) en p n f N b (f_X10_takeHead (kdOf b) s C) (f_X12_readLine N (nI f) D) := by
  have d8 := P.2.2.2.2.2.2.2.2.1
  have hl := P.lt
  have e7 : gI C 11007 = nI p := P.2.2.2.1
  have e46 : gI (d3 D) 11346 = nI p := P.2.2.2.2.1
  have e6 : gI C 11006 = nI en := P.2.1
  have e47 : gI (d3 D) 11347 = nI en := P.2.2.1
  have n8 : gI (d3 D) 11308 = nI n := S.2.2.2.1
  have s1 := S.1
  have s2 := S.2.1
  have kf : f_X12_kindOf (nI b) (d3 D) = some (kdOf b) := kd_of b hb
  have rl : f_X12_readLine N (nI f) D = (if kdOf b = 4 then (if (gI (d3 D) 11347) ≤ ((gI (d3 D) 11346) + 1) then (f_X12_readLine_J62 N (nI f) (kdOf b) (d3 D))
      else (if inb ((gI (d3 D) 11346) + 1) 3000 = true then (if (gA (d3 D) 114 (((gI (d3 D) 11346) + 1)).toNatClampNeg) = 32 then (if kdOf b = (-1) then (bnd (f_X12_wrong 1 (gI (d3 D) 11346) (d3 D)) fun q92 =>
          f_X12_readLine_J139 N (kdOf b) q92)
          else (if (gI (d3 D) 11308) = nI f then (f_X12_readLine_J108 N (kdOf b) (d3 D))
            else (if inb ((gI (d3 D) 11308) - 1) 200 = true then (if (gA (d3 D) 116 (((gI (d3 D) 11308) - 1)).toNatClampNeg) = 5 then (f_X12_readLine_J108 N (kdOf b) (d3 D))
              else (f_X12_readLine_J120 N (kdOf b) (d3 D))) else none)))
        else (f_X12_readLine_J62 N (nI f) (kdOf b) (d3 D))) else none))
    else (f_X12_readLine_J62 N (nI f) (kdOf b) (d3 D))) := by
    have : f_X12_readLine N (nI f) D = bnd (f_X12_now0 (d3 D)) fun q5 => bnd (f_X12_kindOf q5 (d3 D)) fun q7 => _ := rfl
    rw [this, P.now, bnd_some, hs, kf, bnd_some]
    rfl
  rw [rl]
  rcases kd_k hb with h | ⟨k, k1, k2, k3⟩
  · unfold f_X10_takeHead f_X12_readLine_J62
    rw [h, if_neg (by decide), if_neg (show ¬ (-1 : Int32) = 4 by decide), if_pos rfl]
    rcases head_f (n := n) (N := N) (k := 0) (y := -1) P (show (1 : Int32) ≠ 0 by decide) with ⟨q, -⟩ | q
    · rw [c_ref, bnd_some, if_pos (show (0 : Int32) &&& 1 = 0 by decide)] at q
      injection q with q
      injection q with q
      exact absurd (show (0 : Int32) = 1 from q) (by decide)
    · right; exact q
  · have km : ¬ nI k = -1 := nI_m1 (by omega)
    have H := head81 (N := N) (k := k) P S.2.2.1 S.2.2.2.2.1 n8 s1
    have J62 : f_X12_readLine_J62 N (nI f) (nI k) (d3 D) = f_X12_readLine_J120 N (nI k) (d3 D) := by
      unfold f_X12_readLine_J62
      rw [if_neg km]
    unfold f_X10_takeHead f_X10_takeHead_J54
    rw [k2, J62, if_pos (show (0 : Int32) ≤ nI k from nI_le (a := 0) (by omega) (by omega))]
    by_cases c4 : k = 4
    · subst c4
      rw [if_pos (show nI 4 = 4 from rfl), if_pos (show nI 4 = 4 from rfl), e6, e7, e47, e46, nI_1]
      by_cases ce : en ≤ p + 1
      · rw [if_pos (nI_le ce (by omega)), if_pos (nI_le ce (by omega))]
        refine H.up k1 k2 k3 (fun _ z => ?_)
        have := sgn_in z (by decide)
        omega
      · have he := P.1.1
        obtain ⟨sz, t2, t3, t4⟩ := P.1.2.1
        obtain ⟨b', b1, b2, b3⟩ := P.1.2.2 (p + 1) (by omega)
        have sg : sgn (d3 D) en (p + 1) = gA (d3 D) 114 (p + 1) := if_pos (by omega)
        rw [if_neg (nI_ge (by omega) (by omega)), if_neg (nI_ge (by omega) (by omega)), bat_in (q := 65) (s := sz) t4 (by omega) (by omega), show 65 + 1 = 66 from rfl, b2, inb_nI (by omega) (by decide), if_pos rfl, nI_clamp (by omega), b3]
        by_cases c32 : nI b' = 32
        · rw [if_pos c32, if_pos c32, if_neg km, c_go S, bnd_some, n8]
          by_cases g : f < n ∧ gA (d3 D) 116 (n - 1) ≠ 5
          · obtain ⟨m, rfl⟩ : ∃ m, n = m + 1 := ⟨n - 1, by omega⟩
            rw [if_pos g, if_neg (show ¬ (1 : Int32) = 0 by decide), if_neg (fun z => by have := (nI_eq (by omega) (by omega)).mp z; omega), nI_pred, inb_nI (by omega) (by decide), if_pos rfl, nI_clamp (by omega), if_neg (show ¬ gA (d3 D) 116 m = 5 from g.2)]
            exact H.up k1 k2 k3 (fun _ _ => g)
          · have mm : (if nI n = nI f then f_X12_readLine_J108 N (nI 4) (d3 D) else if inb (nI n - 1) 200 = true then (if gA (d3 D) 116 (nI n - 1).toNatClampNeg = 5 then f_X12_readLine_J108 N (nI 4) (d3 D) else f_X12_readLine_J120 N (nI 4) (d3 D)) else none) = f_X12_readLine_J108 N (nI 4) (d3 D) := by
              by_cases cf : n = f
              · rw [if_pos (by rw [cf])]
              · obtain ⟨m, rfl⟩ : ∃ m, n = m + 1 := ⟨n - 1, by omega⟩
                have g5 : gA (d3 D) 116 m = 5 := by
                  by_cases q : gA (d3 D) 116 m = 5
                  · exact q
                  · exact absurd ⟨by omega, q⟩ g
                rw [if_neg (fun z => cf ((nI_eq (by omega) (by omega)).mp z)), nI_pred, inb_nI (by omega) (by decide), if_pos rfl, nI_clamp (by omega), if_pos g5]
            rw [if_neg g, if_pos rfl, mm]
            unfold f_X12_readLine_J108
            rw [← e7]
            rcases head_f (n := n) (N := N) (k := 0) (y := nI 4) P (show (3 : Int32) ≠ 0 by decide) with ⟨q, -⟩ | q
            · rw [c_ref, bnd_some, if_pos (show (0 : Int32) &&& 1 = 0 by decide)] at q
              injection q with q
              injection q with q
              exact absurd (show (0 : Int32) = 1 from q) (by decide)
            · right; exact q
        · rw [if_neg c32, if_neg c32]
          refine H.up k1 k2 k3 (fun _ z => ?_)
          rw [sg, b3] at z
          exact absurd z c32
    · have n4 : ¬ nI k = 4 := fun z => c4 ((nI_eq (b := 4) (by omega) (by decide)).mp z)
      rw [if_neg n4, if_neg n4]
      exact H.up k1 k2 k3 (fun z => absurd z c4)
end PG
