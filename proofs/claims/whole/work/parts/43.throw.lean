/-! what a throw rests on -/
theorem mq_1 {w : Cond} (h : w ∈ tables_1_1) (hk : mm_okw w = true) : w ∈ mm_tb := by
  obtain ⟨i, hi⟩ := List.getElem?_of_mem h
  exact mm_t1 i hi hk
theorem mq_3 {w : Cond} (h : w ∈ tables_1_3) (hk : mm_okw w = true) : w ∈ mm_tb := by
  obtain ⟨i, hi⟩ := List.getElem?_of_mem h
  exact mm_t3 i hi hk
theorem mq_4 {w : Cond} (h : w ∈ tables_1_4) (hk : mm_okw w = true) : w ∈ mm_tb := by
  obtain ⟨i, hi⟩ := List.getElem?_of_mem h
  exact mm_t4 i hi hk
theorem mq_7 {w : Cond} (h : w ∈ tables_1_7) (hk : mm_okw w = true) : w ∈ mm_tb := by
  obtain ⟨i, hi⟩ := List.getElem?_of_mem h
  exact mm_t7 i hi hk
def mq_l : List Cond := (tables_1_3.drop 52).take 75 ++ ((tables_1_4.drop 164).take 35 ++ (tables_1_1.take 50 ++ tables_1_7.drop 89))
theorem mq_in {w : Cond} (h : w ∈ mq_l) (hk : mm_okw w = true) : w ∈ mm_tb := by
  rcases List.mem_append.mp h with h | h
  · exact mq_3 (List.mem_of_mem_drop (List.mem_of_mem_take h)) hk
  rcases List.mem_append.mp h with h | h
  · exact mq_4 (List.mem_of_mem_drop (List.mem_of_mem_take h)) hk
  rcases List.mem_append.mp h with h | h
  · exact mq_1 (List.mem_of_mem_take h) hk
  · exact mq_7 (List.mem_of_mem_drop h) hk
def mq_ok (w : Cond) : Bool := mm_okw w && decide (w ∈ mq_l)
theorem mq_all {l : List Cond} (h : l.all mq_ok = true) : ∀ w ∈ l, w ∈ mm_tb := by
  intro w hw
  have h1 := List.all_eq_true.mp h w hw
  simp only [mq_ok, Bool.and_eq_true, decide_eq_true_eq] at h1
  exact mq_in h1.2 h1.1
abbrev nmE : List String := ["java/lang/RuntimeException", "java/lang/Exception"]
theorem at_IAE : ∀ w ∈ vx_atS RX11 140 "java/lang/IllegalArgumentException" nmE, w ∈ mm_tb := mq_all (by decide +kernel)
theorem go_IAE : ∀ w ∈ Cond.classLink RX11 136 "java/lang/IllegalArgumentException" :: Cond.initialized "java/lang/IllegalArgumentException" :: vx_atS RX11 140 "java/lang/IllegalArgumentException" nmE, vx_ot w = true := by
  have h : (Cond.classLink RX11 136 "java/lang/IllegalArgumentException" :: Cond.initialized "java/lang/IllegalArgumentException" :: vx_atS RX11 140 "java/lang/IllegalArgumentException" nmE).all vx_ot = true := by decide +kernel
  exact fun w hw => List.all_eq_true.mp h w hw
theorem fit_nmE : ∀ n ∈ nmE, Bundle.fit n = true := by
  have h : nmE.all Bundle.fit = true := by decide +kernel
  exact fun w hw => List.all_eq_true.mp h w hw
theorem at_NSE : ∀ w ∈ mx_at RX11 165 "java/util/NoSuchElementException" "java/lang/RuntimeException" ["java/lang/Exception"], w ∈ mm_tb := mq_all (by decide +kernel)
theorem go_NSE : ∀ w ∈ Cond.classLink RX11 161 "java/util/NoSuchElementException" :: Cond.initialized "java/util/NoSuchElementException" :: mx_at RX11 165 "java/util/NoSuchElementException" "java/lang/RuntimeException" ["java/lang/Exception"], vx_ot w = true := by
  have h : (Cond.classLink RX11 161 "java/util/NoSuchElementException" :: Cond.initialized "java/util/NoSuchElementException" :: mx_at RX11 165 "java/util/NoSuchElementException" "java/lang/RuntimeException" ["java/lang/Exception"]).all vx_ot = true := by decide +kernel
  exact fun w hw => List.all_eq_true.mp h w hw
theorem fit_NSE : Bundle.fit "java/util/NoSuchElementException" = true := by decide +kernel
theorem fit_RE : Bundle.fit "java/lang/RuntimeException" = true := by decide +kernel
theorem fit_Ex : ∀ n ∈ ["java/lang/Exception"], Bundle.fit n = true := by
  have h : ["java/lang/Exception"].all Bundle.fit = true := by decide +kernel
  exact fun w hw => List.all_eq_true.mp h w hw
theorem nse_tb : Cond.classLink RX11 161 "java/util/NoSuchElementException" ∈ mm_tb ∧ Cond.initialized "java/util/NoSuchElementException" ∈ mm_tb := by
  have h : ∀ w ∈ [Cond.classLink RX11 161 "java/util/NoSuchElementException", Cond.initialized "java/util/NoSuchElementException"], w ∈ mm_tb := mq_all (by decide +kernel)
  exact ⟨h _ List.mem_cons_self, h _ (List.mem_cons_of_mem _ List.mem_cons_self)⟩
theorem fit_IAE : Bundle.fit "java/lang/IllegalArgumentException" = true := by decide +kernel
section MRT
variable {g : mm_G} {d : Nat} {M : mm_Me} {pc : Nat} {ls : List (Option Value)} {st : List Value} {h : mm_Hp} {Post : mm_Ou → mm_Hp → Prop}
theorem rT_IAE {is no : Nat} {text : String} (hM : M.1.cls = RX11) (hs : (RX11, is, text, no) ∈ mm_sts) (hh : M.2.2.2.2 = []) (hlen : ls.length = M.2.2.1) (hd : 6 ≤ d) (h8 : (st.map fun v => v.category).sum ≤ 8)
    (d0 : decode M.2.1 pc = .ok (.new 136, 3)) (d3 : decode M.2.1 (pc + 3) = .ok (.dup, 1)) (d4 : decode M.2.1 (pc + 4) = .ok (.ldc is, 2)) (d6 : decode M.2.1 (pc + 6) = .ok (.invokespecial 140, 3)) (d9 : decode M.2.1 (pc + 9) = .ok (.athrow, 1))
    (hp : Post (.inr "java/lang/IllegalArgumentException") (mm_add h (.inr (13, [])) 6)) : mm_P g d M pc ls st h Post :=
  mm_thr (cls := "java/lang/IllegalArgumentException") (text := text) (names := nmE) (ciE := 13) (no := no) fit_IAE fit_nmE (hM ▸ (mm_t3 61 rfl rfl)) (mm_t1 20 rfl rfl) (hM ▸ at_IAE) (hM ▸ go_IAE) (hM ▸ hs) rfl hh hlen hd h8 d0 d3 d4 d6 d9 hp
theorem rT_IAEw {is no : Nat} {text : String} (hM : M.1.cls = RX11) (hs : (RX11, is, text, no) ∈ mm_sts) (hh : M.2.2.2.2 = []) (hlen : ls.length = M.2.2.1) (hd : 6 ≤ d) (h8 : (st.map fun v => v.category).sum ≤ 8)
    (d0 : decode M.2.1 pc = .ok (.new 136, 3)) (d3 : decode M.2.1 (pc + 3) = .ok (.dup, 1)) (d4 : decode M.2.1 (pc + 4) = .ok (.ldc_w is, 3)) (d6 : decode M.2.1 (pc + 7) = .ok (.invokespecial 140, 3)) (d9 : decode M.2.1 (pc + 10) = .ok (.athrow, 1))
    (hp : Post (.inr "java/lang/IllegalArgumentException") (mm_add h (.inr (13, [])) 6)) : mm_P g d M pc ls st h Post :=
  mm_thrw (cls := "java/lang/IllegalArgumentException") (text := text) (names := nmE) (ciE := 13) (no := no) fit_IAE fit_nmE (hM ▸ (mm_t3 61 rfl rfl)) (mm_t1 20 rfl rfl) (hM ▸ at_IAE) (hM ▸ go_IAE) (hM ▸ hs) rfl hh hlen hd h8 d0 d3 d4 d6 d9 hp
theorem rT_NSE {is no : Nat} {text : String} (hM : M.1.cls = RX11) (hs : (RX11, is, text, no) ∈ mm_sts) (hh : M.2.2.2.2 = []) (hlen : ls.length = M.2.2.1) (hd : 6 ≤ d) (h8 : (st.map fun v => v.category).sum ≤ 8)
    (d0 : decode M.2.1 pc = .ok (.new 161, 3)) (d3 : decode M.2.1 (pc + 3) = .ok (.dup, 1)) (d4 : decode M.2.1 (pc + 4) = .ok (.ldc is, 2)) (d6 : decode M.2.1 (pc + 6) = .ok (.invokespecial 165, 3)) (d9 : decode M.2.1 (pc + 9) = .ok (.athrow, 1))
    (hp : Post (.inr "java/util/NoSuchElementException") (mm_add h (.inr (12, [])) 6)) : mm_P g d M pc ls st h Post :=
  mx_thr (cls := "java/util/NoSuchElementException") (text := text) (Y := "java/lang/RuntimeException") (r := ["java/lang/Exception"]) (ciE := 12) (no := no) fit_NSE fit_RE fit_Ex (hM ▸ nse_tb.1) nse_tb.2 (hM ▸ at_NSE) (hM ▸ go_NSE) (hM ▸ hs) rfl hh hlen hd h8 d0 d3 d4 d6 d9 hp
theorem rT_NSEw {is no : Nat} {text : String} (hM : M.1.cls = RX11) (hs : (RX11, is, text, no) ∈ mm_sts) (hh : M.2.2.2.2 = []) (hlen : ls.length = M.2.2.1) (hd : 6 ≤ d) (h8 : (st.map fun v => v.category).sum ≤ 8)
    (d0 : decode M.2.1 pc = .ok (.new 161, 3)) (d3 : decode M.2.1 (pc + 3) = .ok (.dup, 1)) (d4 : decode M.2.1 (pc + 4) = .ok (.ldc_w is, 3)) (d6 : decode M.2.1 (pc + 7) = .ok (.invokespecial 165, 3)) (d9 : decode M.2.1 (pc + 10) = .ok (.athrow, 1))
    (hp : Post (.inr "java/util/NoSuchElementException") (mm_add h (.inr (12, [])) 6)) : mm_P g d M pc ls st h Post :=
  mx_thrw (cls := "java/util/NoSuchElementException") (text := text) (Y := "java/lang/RuntimeException") (r := ["java/lang/Exception"]) (ciE := 12) (no := no) fit_NSE fit_RE fit_Ex (hM ▸ nse_tb.1) nse_tb.2 (hM ▸ at_NSE) (hM ▸ go_NSE) (hM ▸ hs) rfl hh hlen hd h8 d0 d3 d4 d6 d9 hp
end MRT
