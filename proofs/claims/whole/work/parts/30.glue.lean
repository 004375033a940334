/-! the law's walk over the small machine is the law's walk over the machine -/
def R_law : String := "TestimonyBookLaw"
def lw_P (b : Addr) (xs : List Int32) (args : Array Value) (s : State) : Prop := args = #[.ref b] ∧ s.IntsAt b xs ∧ xs.length ≤ 3072 ∧ (Jvm.Cond.and given_1 narrow_1).before args s = true
def lw_Q (_ : Array Value) (s : State) (o : Outcome) (t : State) : Prop := o = .returned (some (.int 1)) ∧ Framed s o t [] 601024 7293034
def lw_Z (below : List Frame) (a : Array Value) (s : State) : State → Prop := fun t => ∃ o, t.status = .running ∧ Ended t below o ∧ lw_Q a s o t
/-- what is owed of the law over the small machine -/
def mm_Law (g : mm_G) : Prop := mm_P g 12 ML_law 0 [some (.ref 0), none, none, none, none, none, none] [] (fun _ => .inr (0, []), 0, 0) (fun o h => o = .inl (some (.int 1)) ∧ h.2.1 ≤ 601024 ∧ h.2.2 ≤ 7293034)
set_option maxRecDepth 100000 in
theorem mm_toLaw {g : mm_G} {p : Program} {e : Env} {s : State} {m : MethodId} {below : List Frame} {meth : Method} {c : Code} {b : Nat} (hC : mm_C g ML_law p s m #[Value.ref b] meth c) (hB : mm_B g = s.heap.size) (hb : mm_fa g 0 = b) (k : mm_Law g) :
    W p (mm_l g) e room_1 s m #[Value.ref b] below meth c s.heap [] 0 0 (lw_Z below #[Value.ref b] s) (entryFrame m ([Value.ref b] : List Value).toArray 7) := by
  obtain ⟨o, h', ⟨rfl, hn, hs⟩, k1, k2, k⟩ := k
  rw [lg_entry_eq]
  have e0 : ([Value.ref 0].map (mm_v g)) = [.ref b] := by simp [mm_v, mm_ad, hb]
  have hL := mm_L.entry g [.ref 0] (ml := 7) (by decide)
  rw [e0] at hL
  have hH : mm_H g (fun _ => .inr (0, []), 0, 0) s.heap := ⟨by rw [hB]; rfl, fun k q hq => by simp [mm_ws] at hq⟩
  have hk := k p e room_1 s m #[.ref b] below meth c s.heap [] 0 0 _ ⟨hC, ⟨by decide, by decide⟩, ⟨by rw [hB]; exact Nat.le_refl _, by rw [hB]⟩, ⟨by show 0 + (h'.2.1 - 0) ≤ 601024; omega, by show 0 + (h'.2.2 - 0) ≤ 7293034; omega⟩, hH, va_S.rf, hL⟩
  intro T hT Y
  obtain ⟨t, st, oc, hr, he, hq⟩ := hk T hT Y
  refine ⟨t, st, oc, hr, he, ?_⟩
  rcases hq with ⟨⟨v, hv, hoc, hH2, hlow⟩, L, hFE, hL2⟩ | ⟨q, -, E, ce, L, hx, -⟩
  · cases hv
    refine ⟨hoc, hFE.1, hFE.2.1, ?_⟩
    refine hFE.2.2.weaken (fun y hy hlt => absurd hlt (Nat.not_lt.mpr ?_)) (by show 0 + (h'.2.1 - 0) ≤ 601024; omega) (by show 0 + (h'.2.2 - 0) ≤ 7293034; omega)
    have h9 : mm_B g ≤ y.base := hL2 y hy
    rw [hB] at h9
    exact h9
  · cases hx.1
