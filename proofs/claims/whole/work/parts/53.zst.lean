/-! The texts' cells at the law's entry. -/
def cs_f : List Cond := flatC (Jvm.Cond.and given_1 narrow_1)
def cs_v (own : String) (k : Nat) : Term := .field (.string own k) "java/lang/String" "value" "[B"
theorem cs_h0 : cs_f[24]? = some (.exactly (.string "TerminalHouse" 373) "java/lang/String") ∧ cs_f[25]? = some (.eq (.field (.string "TerminalHouse" 373) "java/lang/String" "coder" "B") (.int 0)) ∧ cs_f[26]? = some (.arrayOf (cs_v "TerminalHouse" 373) .byte) ∧ cs_f[27]? = some (.eq (.length (cs_v "TerminalHouse" 373)) (.int (Int32.ofNat (am_tx.getD 0 []).length))) := by decide +kernel
theorem cs_e0 : ∀ i : Nat, i < (am_tx.getD 0 []).length → cs_f[28 + i]? = some (.eq (.elem (cs_v "TerminalHouse" 373) (.int (Int32.ofNat i))) (.int ((am_tx.getD 0 []).getD i 0))) := by decide +kernel
theorem cs_h1 : cs_f[223]? = some (.exactly (.string "TerminalHouse$Keyboard" 80) "java/lang/String") ∧ cs_f[224]? = some (.eq (.field (.string "TerminalHouse$Keyboard" 80) "java/lang/String" "coder" "B") (.int 0)) ∧ cs_f[225]? = some (.arrayOf (cs_v "TerminalHouse$Keyboard" 80) .byte) ∧ cs_f[226]? = some (.eq (.length (cs_v "TerminalHouse$Keyboard" 80)) (.int (Int32.ofNat (am_tx.getD 1 []).length))) := by decide +kernel
theorem cs_e1 : ∀ i : Nat, i < (am_tx.getD 1 []).length → cs_f[227 + i]? = some (.eq (.elem (cs_v "TerminalHouse$Keyboard" 80) (.int (Int32.ofNat i))) (.int ((am_tx.getD 1 []).getD i 0))) := by decide +kernel
theorem cs_h2 : cs_f[241]? = some (.exactly (.string "TerminalHouse$Keyboard" 88) "java/lang/String") ∧ cs_f[242]? = some (.eq (.field (.string "TerminalHouse$Keyboard" 88) "java/lang/String" "coder" "B") (.int 0)) ∧ cs_f[243]? = some (.arrayOf (cs_v "TerminalHouse$Keyboard" 88) .byte) ∧ cs_f[244]? = some (.eq (.length (cs_v "TerminalHouse$Keyboard" 88)) (.int (Int32.ofNat (am_tx.getD 2 []).length))) := by decide +kernel
theorem cs_e2 : ∀ i : Nat, i < (am_tx.getD 2 []).length → cs_f[245 + i]? = some (.eq (.elem (cs_v "TerminalHouse$Keyboard" 88) (.int (Int32.ofNat i))) (.int ((am_tx.getD 2 []).getD i 0))) := by decide +kernel
theorem cs_h3 : cs_f[260]? = some (.exactly (.string "TerminalHouseModel" 63) "java/lang/String") ∧ cs_f[261]? = some (.eq (.field (.string "TerminalHouseModel" 63) "java/lang/String" "coder" "B") (.int 0)) ∧ cs_f[262]? = some (.arrayOf (cs_v "TerminalHouseModel" 63) .byte) ∧ cs_f[263]? = some (.eq (.length (cs_v "TerminalHouseModel" 63)) (.int (Int32.ofNat (am_tx.getD 3 []).length))) := by decide +kernel
theorem cs_e3 : ∀ i : Nat, i < (am_tx.getD 3 []).length → cs_f[264 + i]? = some (.eq (.elem (cs_v "TerminalHouseModel" 63) (.int (Int32.ofNat i))) (.int ((am_tx.getD 3 []).getD i 0))) := by decide +kernel
theorem cs_c : cs_f[4]? = some (.eq (.static "java/lang/String" "COMPACT_STRINGS" "Z") (.int 1)) ∧ cs_f[5]? = some (.isRef (.static "jdk/internal/util/Preconditions" "SIOOBE_FORMATTER" "Ljava/util/function/BiFunction;")) := by decide +kernel
theorem cs_one {args : Array Value} {s : State} {own : String} {k : Nat} {bs : List Int32} (hN : bs.length < 2 ^ 31) (hex : (Cond.exactly (.string own k) "java/lang/String").before args s = true) (hco : (Cond.eq (.field (.string own k) "java/lang/String" "coder" "B") (.int 0)).before args s = true) (har : (Cond.arrayOf (cs_v own k) .byte).before args s = true) (hle : (Cond.eq (.length (cs_v own k)) (.int (Int32.ofNat bs.length))).before args s = true) (hel : ∀ i : Nat, i < bs.length → (Cond.eq (.elem (cs_v own k) (.int (Int32.ofNat i))) (.int (bs.getD i 0))).before args s = true) :
    ∃ ad av : Nat, (Term.string own k).eval args s none [] s = some (.ref ad) ∧ ch_S s.heap.size ad av bs s s.heap := by
  have hA : ∀ a : Nat, a < s.heap.size → ¬ (s.heap.size ≤ a) := fun a h => by omega
  obtain ⟨a, c, cA, kA, q1, q2, q3, q4, q5, q6, -⟩ := Cond.exactly_spec (args := args) (first := s) (o := none) (s := s) (idx := []) (t := .string own k) (cls := "java/lang/String") hex
  obtain ⟨t, ht, hT⟩ := va_Tof (f := fun j => .int (bs.getD j 0)) (A := fun q => s.heap.size ≤ q) hN har (va_eqt hle) (fun j hj => va_eqt (hel j hj)) hA
  exact ⟨a, t, q1, ⟨cA, q3, q5, by rw [q6]; exact q2, hA a (Array.getElem?_eq_some_iff.mp q3).1⟩, vk_OFof q1 (va_eqt hco) hA, vk_OFof q1 ht hA, hT⟩
theorem cs_m {args : Array Value} {s : State} (hs : ∀ c ∈ cs_f, c.before args s = true) {i : Nat} {c : Cond} (h : cs_f[i]? = some c) : c.before args s = true := hs c (List.mem_of_getElem? h)
theorem ch_start {args : Array Value} {s : State} (hts : ∀ w ∈ lw_tbl, w.before args s = true) (hs : ∀ c ∈ cs_f, c.before args s = true) : ch_Fy s.heap.size s s.heap := by
  have hA : ∀ a : Nat, a < s.heap.size → ¬ (s.heap.size ≤ a) := fun a h => by omega
  refine ⟨⟨va_Zof (hts _ (am_inT am_tb_3 (j := 211) rfl)) (hts _ (am_inT am_tb_1 (j := 20) rfl)) (va_eqt (cs_m hs cs_c.1)) hA, va_Zqof (hts _ (am_inT am_tb_3 (j := 219) rfl)) (hts _ (am_inT am_tb_1 (j := 22) rfl)) (cs_m hs cs_c.2) hA⟩, fun j q hj => ?_⟩
  match j, hj with
  | 0, hj =>
    obtain ⟨ad, av, e, S⟩ := cs_one (args := args) (ch_len 0) (cs_m hs cs_h0.1) (cs_m hs cs_h0.2.1) (cs_m hs cs_h0.2.2.1) (cs_m hs cs_h0.2.2.2) (fun i hi => cs_m hs (cs_e0 i hi))
    have e1 : q.1 = "TerminalHouse" ∧ q.2.1 = 373 := by
      have := Option.some.inj (hj : some _ = some q)
      rw [← this]
      exact ⟨rfl, rfl⟩
    exact ⟨ad, av, vk_R.of (A := args) (hts _ (am_ss_w 0 q hj).1) (by rw [e1.1, e1.2]; exact e), S⟩
  | 1, hj =>
    obtain ⟨ad, av, e, S⟩ := cs_one (args := args) (ch_len 1) (cs_m hs cs_h1.1) (cs_m hs cs_h1.2.1) (cs_m hs cs_h1.2.2.1) (cs_m hs cs_h1.2.2.2) (fun i hi => cs_m hs (cs_e1 i hi))
    have e1 : q.1 = "TerminalHouse$Keyboard" ∧ q.2.1 = 80 := by
      have := Option.some.inj (hj : some _ = some q)
      rw [← this]
      exact ⟨rfl, rfl⟩
    exact ⟨ad, av, vk_R.of (A := args) (hts _ (am_ss_w 1 q hj).1) (by rw [e1.1, e1.2]; exact e), S⟩
  | 2, hj =>
    obtain ⟨ad, av, e, S⟩ := cs_one (args := args) (ch_len 2) (cs_m hs cs_h2.1) (cs_m hs cs_h2.2.1) (cs_m hs cs_h2.2.2.1) (cs_m hs cs_h2.2.2.2) (fun i hi => cs_m hs (cs_e2 i hi))
    have e1 : q.1 = "TerminalHouse$Keyboard" ∧ q.2.1 = 88 := by
      have := Option.some.inj (hj : some _ = some q)
      rw [← this]
      exact ⟨rfl, rfl⟩
    exact ⟨ad, av, vk_R.of (A := args) (hts _ (am_ss_w 2 q hj).1) (by rw [e1.1, e1.2]; exact e), S⟩
  | 3, hj =>
    obtain ⟨ad, av, e, S⟩ := cs_one (args := args) (ch_len 3) (cs_m hs cs_h3.1) (cs_m hs cs_h3.2.1) (cs_m hs cs_h3.2.2.1) (cs_m hs cs_h3.2.2.2) (fun i hi => cs_m hs (cs_e3 i hi))
    have e1 : q.1 = "TerminalHouseModel" ∧ q.2.1 = 63 := by
      have := Option.some.inj (hj : some _ = some q)
      rw [← this]
      exact ⟨rfl, rfl⟩
    exact ⟨ad, av, vk_R.of (A := args) (hts _ (am_ss_w 3 q hj).1) (by rw [e1.1, e1.2]; exact e), S⟩
  | j + 4, hj => exact absurd (List.getElem?_eq_some_iff.mp hj).1 (by show ¬ j + 4 < 4; omega)
