/-! The law's octet, walked. -/
def oc_Fy (N0 : Nat) : State → Heap → Prop := fun U H => vx_Zq Bundle.tN "UNASSIGNED_STACK" Bundle.steD (fun q => N0 ≤ q) U H ∧ vx_Zq Bundle.tN "SUPPRESSED_SENTINEL" Bundle.listD (fun q => N0 ≤ q) U H ∧ ∀ w ∈ oc_nw, va_Nw w U
theorem oc_nw_t : ∀ w ∈ oc_nw, w.onTables = true := by
  intro w hw
  simp only [oc_nw, List.mem_cons, List.not_mem_nil, or_false] at hw
  rcases hw with rfl | rfl | rfl | rfl <;> rfl
theorem oc_nw_m {w : Cond} (hw : w ∈ oc_nw) {s U : State} (hW : s.WarmedH U.vm) (h : va_Nw w s) : va_Nw w U := by
  simp only [oc_nw, List.mem_cons, List.not_mem_nil, or_false] at hw
  rcases hw with rfl | rfl | rfl | rfl
  · exact va_Nw.warmC hW h
  · exact va_Nw.warmD hW h
  · exact va_Nw.warmD hW h
  · exact va_Nw.warmD hW h
theorem oc_Fy_ok (N0 : Nat) : am_Fx N0 (oc_Fy N0) := by
  refine ⟨fun U H H1 h hq => ?_, fun u U H hW h => ?_, fun U g mk a H h => ?_⟩
  · have hk : ∀ a : Nat, a < H.size → ¬ N0 ≤ a → H1[a]? = H[a]? := fun a _ h2 => hq a (by omega)
    exact ⟨h.1.kept hk, h.2.1.kept hk, h.2.2⟩
  · exact ⟨h.1.moved hW.alike, h.2.1.moved hW.alike, fun w hw => oc_nw_m hw hW (h.2.2 w hw)⟩
  · exact ⟨h.1.moved (u := U) (U := U.calling g mk a) (Vm.Alike.refl _), h.2.1.moved (u := U) (U := U.calling g mk a) (Vm.Alike.refl _), fun w hw => va_Nw.same (u := U) (U := U.calling g mk a) (oc_nw_t w hw) rfl (h.2.2 w hw)⟩
def oc_M : am_M := (oc_z, method_3_code, 4, some .int)
section OCD
theorem oc_d0 : decode method_3_code 0 = .ok (.aload_n 2, 1) := by decide +kernel
theorem oc_d1 : decode method_3_code 1 = .ok (.iconst 0, 1) := by decide +kernel
theorem oc_d2 : decode method_3_code 2 = .ok (.aload_n 0, 1) := by decide +kernel
theorem oc_d3 : decode method_3_code 3 = .ok (.iload_n 1, 1) := by decide +kernel
theorem oc_d4 : decode method_3_code 4 = .ok (.invokevirtual 7, 3) := by decide +kernel
theorem oc_d7 : decode method_3_code 7 = .ok (.i2l, 1) := by decide +kernel
theorem oc_d8 : decode method_3_code 8 = .ok (.lastore, 1) := by decide +kernel
theorem oc_d9 : decode method_3_code 9 = .ok (.goto 6, 3) := by decide +kernel
theorem oc_d12 : decode method_3_code 12 = .ok (.astore_n 3, 1) := by decide +kernel
theorem oc_d13 : decode method_3_code 13 = .ok (.iconst 1, 1) := by decide +kernel
theorem oc_d14 : decode method_3_code 14 = .ok (.ireturn, 1) := by decide +kernel
theorem oc_d15 : decode method_3_code 15 = .ok (.iconst 0, 1) := by decide +kernel
theorem oc_d16 : decode method_3_code 16 = .ok (.ireturn, 1) := by decide +kernel
theorem oc_e12 : decode prog_1_method_5_code 12 = .ok (.new 95, 3) := by decide +kernel
theorem oc_e15 : decode prog_1_method_5_code 15 = .ok (.dup, 1) := by decide +kernel
theorem oc_e16 : decode prog_1_method_5_code 16 = .ok (.invokespecial 97, 3) := by decide +kernel
theorem oc_e19 : decode prog_1_method_5_code 19 = .ok (.athrow, 1) := by decide +kernel
theorem oc_e0 : decode prog_1_method_5_code 0 = .ok (.iload_n 1, 1) := by decide +kernel
theorem oc_e1 : decode prog_1_method_5_code 1 = .ok (.ifCond .lt 11, 3) := by decide +kernel
theorem oc_e4 : decode prog_1_method_5_code 4 = .ok (.iload_n 1, 1) := by decide +kernel
theorem oc_e5 : decode prog_1_method_5_code 5 = .ok (.aload_n 0, 1) := by decide +kernel
theorem oc_e6 : decode prog_1_method_5_code 6 = .ok (.getfield 92, 3) := by decide +kernel
theorem oc_e9 : decode prog_1_method_5_code 9 = .ok (.if_icmp .lt 11, 3) := by decide +kernel
theorem oc_e20 : decode prog_1_method_5_code 20 = .ok (.aload_n 0, 1) := by decide +kernel
theorem oc_e21 : decode prog_1_method_5_code 21 = .ok (.getfield 13, 3) := by decide +kernel
theorem oc_e24 : decode prog_1_method_5_code 24 = .ok (.iload_n 1, 1) := by decide +kernel
theorem oc_e25 : decode prog_1_method_5_code 25 = .ok (.iaload, 1) := by decide +kernel
theorem oc_e26 : decode prog_1_method_5_code 26 = .ok (.ireturn, 1) := by decide +kernel
end OCD
def oc_Y : am_M := (oc_y, prog_1_method_5_code, 2, some .int)
theorem oc_f6 : ∃ (C : String) (T : u_T) (N : Nat), am_clb[11]? = some (C, T, N) ∧ 3 < N ∧ (if false = true then Cond.fieldLinkNest oc_Y.1.cls 92 C (T 3).2.1 (T 3).2.2.1 "TerminalHouse" ∈ am_N else Cond.fieldLink oc_Y.1.cls 92 C (T 3).2.1 (T 3).2.2.1 ∈ am_B) := ⟨_, _, _, rfl, by decide, by rw [if_neg (by decide)]; exact am_inB am_tb_3 (j := 54) rfl rfl⟩
theorem oc_f21 : ∃ (C : String) (T : u_T) (N : Nat), am_clb[11]? = some (C, T, N) ∧ 2 < N ∧ (if false = true then Cond.fieldLinkNest oc_Y.1.cls 13 C (T 2).2.1 (T 2).2.2.1 "TerminalHouse" ∈ am_N else Cond.fieldLink oc_Y.1.cls 13 C (T 2).2.1 (T 2).2.2.1 ∈ am_B) := ⟨_, _, _, rfl, by decide, by rw [if_neg (by decide)]; exact am_inB am_tb_3 (j := 53) rfl rfl⟩
section OCX
variable {l : Launch} {D : va_G} {dI : FieldType → ClassId} {N0 : Nat} {fl : Nat → Nat} {Fo : State → Heap → Prop} {h : am_H}
theorem oc_met {M : am_M} {d q : Nat} {as : List Value} {A : am_A} (hpl : plainName M.1.cls = true) (has : am_sum as ≤ M.2.2.1)
    (hrun : ∀ (p : Program) (e : Env) (s : State) (m : MethodId) (args : Array Value) (below : List Frame) (meth : Method) (c : Code), am_Ev p s m args meth c am_B am_N D am_clx dI am_tl M → am_G p l e (am_rm d q A) s m args below meth c (MQ below (am_Qc D am_clx dI am_tl N0 fl A) args s A.2.2.1 A.2.2.2 (fun q => N0 ≤ q)) D am_clx dI am_tl N0 fl Fo s.heap M.2.2.1 0 (lv_args 0 as) [] h 0 0) :
    am_Mt l D am_clx dI am_tl N0 fl Fo am_B am_N M d q as h A := by
  refine Met.ofW hpl rfl ?_
  intro p e s m args below meth c s₁ Bd hml hv
  obtain ⟨rfl, hh, hFo, hK, hN⟩ := hv
  have hts := atoms_spec (ws := am_ws am_B M) Bd.pre
  have hE : am_Ev p s m (as.map (am_v N0 fl)).toArray meth c am_B am_N D am_clx dI am_tl M :=
    ⟨Bd.exec, Bd.bytes, hml, findClass_of_methodNamed Bd.named, fun w hw => hts w (List.mem_cons_of_mem _ hw), fun w hw => va_Nw.use (am_N_good w hw).1 (hN w hw), hK, Bd.returns, Bd.notSynchronized, fun hi => (name_of_methodNamed Bd.named Bd.method).1.trans hi⟩
  rw [lg_entry_eq]
  have hl := lv_entry (as.map (am_v N0 fl)) (n := M.2.2.1) (by rw [am_sl_len, am_sum_eq, am_sum_map]; exact has)
  rw [am_lv_args] at hl
  exact hrun p e s m _ below meth c hE s.heap [] _ ⟨hh.1, hh.2.1, hFo, hh.2.2⟩ va_S.rf hl (by have := hh.1; omega)
/-- the class's octet within what is written -/
theorem oc_ret {d q o oa m1 : Nat} {ix wr : Int32} {g : Nat → Int32} {vs : List Value} (hF : am_Fx N0 Fo) (ho : h[o]? = some (.inr (11, vs))) (h2 : vs[2]? = some (.ref oa)) (h3 : vs[3]? = some (.int wr)) (hoa : h[oa]? = some (.inl (.int, (m1, .inl g)))) (c1 : ¬ ix < 0) (c2 : ix < wr) (c3 : ¬ m1 ≤ ix.toNatClampNeg) :
    am_Mt l D am_clx dI am_tl N0 fl Fo am_B am_N oc_Y d q [.ref o, .int ix] h (some (.int (g ix.toNatClampNeg)), h, 0, 0) := by
  refine oc_met (by decide) (Nat.le_of_ble_eq_true rfl) ?_
  intro p e s m args below meth c hE
  have hx := hE.1
  have hb := hE.2.1
  show am_G p l e _ s m args below meth c _ D am_clx dI am_tl N0 fl Fo s.heap oc_Y.2.2.1 0 [(0, .ref o), (1, .int ix)] [] h 0 0
  refine (fun (kk : am_G p l e _ s m args below meth c _ D am_clx dI am_tl N0 fl Fo s.heap oc_Y.2.2.1 1 [(0, .ref o), (1, .int ix)] [.int ix] h 0 0) => fun H locs la a1 a2 a3 a4 => lv_iload_n hx hb oc_e0 rfl (am_ld_at (i := 1) (v := .int ix) a3 rfl) (kk H locs la a1 a2 a3 a4)) ?_
  refine am_k_if hx hb oc_e1 (a := 12) rfl ?_
  rw [show am_br .lt ix 0 12 (1 + 3) = 4 from if_neg c1]
  refine (fun (kk : am_G p l e _ s m args below meth c _ D am_clx dI am_tl N0 fl Fo s.heap oc_Y.2.2.1 5 [(0, .ref o), (1, .int ix)] [.int ix] h 0 0) => fun H locs la a1 a2 a3 a4 => lv_iload_n hx hb oc_e4 rfl (am_ld_at (i := 1) (v := .int ix) a3 rfl) (kk H locs la a1 a2 a3 a4)) ?_
  refine am_k_aload_n (v := .ref o) hx hb oc_e5 rfl rfl ?_
  refine am_k_get (host := "TerminalHouse") hE am_cls_ok hF.1 oc_e6 oc_f6 ho h3 ?_
  refine am_k_icmp hx hb oc_e9 (a := 20) rfl ?_
  rw [show am_br .lt ix wr 20 (5 + 1 + 3 + 3) = 20 from if_pos c2]
  refine am_k_aload_n (v := .ref o) hx hb oc_e20 rfl rfl ?_
  refine am_k_get (host := "TerminalHouse") hE am_cls_ok hF.1 oc_e21 oc_f21 ho h2 ?_
  refine (fun (kk : am_G p l e _ s m args below meth c _ D am_clx dI am_tl N0 fl Fo s.heap oc_Y.2.2.1 25 [(0, .ref o), (1, .int ix)] [.int ix, .ref oa] h 0 0) => fun H locs la a1 a2 a3 a4 => lv_iload_n hx hb oc_e24 rfl (am_ld_at (i := 1) (v := .int ix) a3 rfl) (kk H locs la a1 a2 a3 a4)) ?_
  refine am_k_iald hE oc_e25 hoa (fun z => z.elim c1 c3) ?_
  exact am_rets (A := (some (.int (g ix.toNatClampNeg)), h, 0, 0)) (I := (.ireturn, .null, 0, 0, false, [])) hE ⟨1, oc_e26, fun q hq => by cases hq; rfl⟩ (if_pos rfl)
/-- what a throw of the class's octet tells -/
def oc_XC (D : va_G) (dI : FieldType → ClassId) (N0 : Nat) (fl : Nat → Nat) (h : am_H) : String → State → State → Prop := fun E st t => E = oc_E ∧ am_hp D am_clx dI am_tl N0 fl (h ++ [.inr (13, [])]) t.heap ∧ va_F (fun q => N0 ≤ q) st t
/-- the class's octet beyond what is written -/
theorem oc_thr {o : Nat} {ix wr : Int32} {vs : List Value} (hls : l.stackTraces = false) (hF : am_Fx N0 Fo) (hFy : ∀ (U : State) (H : Heap), Fo U H → oc_Fy N0 U H) (ho : h[o]? = some (.inr (11, vs))) (h3 : vs[3]? = some (.int wr)) (cx : ix < 0 ∨ wr ≤ ix) :
    vx_Met l oc_y (am_ws am_B oc_Y) { frames := 6, cells := 1, slots := 6, locals := 100 } (am_Pc D am_clx dI am_tl N0 fl Fo am_N [.ref o, .int ix] h) (fun _ _ _ _ => False) (oc_XC D dI N0 fl h) 1 6 (fun q => N0 ≤ q) := by
  refine vx_ofW (cc := prog_1_method_5_code) (maxL := 2) (ret := some .int) (by decide) rfl ?_
  intro p e s m args below meth c s₁ Bd hml htab hv
  obtain ⟨rfl, hh, hFo, hK, hN⟩ := hv
  have hts := atoms_spec (ws := am_ws am_B oc_Y) Bd.pre
  have hE : am_Ev p s m ([Value.ref o, .int ix].map (am_v N0 fl)).toArray meth c am_B am_N D am_clx dI am_tl oc_Y :=
    ⟨Bd.exec, Bd.bytes, hml, findClass_of_methodNamed Bd.named, fun w hw => hts w (List.mem_cons_of_mem _ hw), fun w hw => va_Nw.use (am_N_good w hw).1 (hN w hw), hK, Bd.returns, Bd.notSynchronized, fun hi => (name_of_methodNamed Bd.named Bd.method).1.trans hi⟩
  have hx := hE.1
  have hb := hE.2.1
  have htb := hE.2.2.2.2.1
  rw [lg_entry_eq]
  have hl := lv_entry ([Value.ref o, .int ix].map (am_v N0 fl)) (n := 2) (by rw [am_sl_len, am_sum_eq, am_sum_map]; exact Nat.le_of_ble_eq_true rfl)
  rw [am_lv_args] at hl
  have hfy := hFy s s.heap hFo
  have hat : ∀ w ∈ vx_at0 "TerminalHouse" 97 oc_E oc_ns, w.before ([Value.ref o, .int ix].map (am_v N0 fl)).toArray s = true := by
    intro w hw
    obtain ⟨hw1, hw2⟩ := List.mem_filter.mp hw
    rw [oc_own_eq] at hw1
    rcases oc_own_ok w hw1 with q | q | q
    · exact htb w q
    · exact va_Nw.use (oc_nw_t w q) (hfy.2.2 w q)
    · rw [q] at hw2; cases hw2
  have hgd : ∀ w ∈ Cond.classLink "TerminalHouse" 95 oc_E :: Cond.initialized oc_E :: vx_at0 "TerminalHouse" 97 oc_E oc_ns, vx_ot w = true := by
    intro w hw
    rcases List.mem_cons.mp hw with rfl | hw
    · rfl
    rcases List.mem_cons.mp hw with rfl | hw
    · rfl
    obtain ⟨hw1, hw2⟩ := List.mem_filter.mp hw
    rw [oc_own_eq] at hw1
    rcases oc_own_ok w hw1 with q | q | q
    · unfold vx_ot
      rw [(List.mem_filter.mp q).2, Bool.or_true]
    · unfold vx_ot
      rw [oc_nw_t w q, Bool.true_or]
    · rw [q] at hw2; cases hw2
  have key : am_G p l e (headSpec (am_ws am_B oc_Y) { frames := 6, cells := 1, slots := 6, locals := 100 }).room s m ([Value.ref o, .int ix].map (am_v N0 fl)).toArray below meth c (vx_MQ below (fun _ _ _ _ => False) (oc_XC D dI N0 fl h) ([Value.ref o, .int ix].map (am_v N0 fl)).toArray s 1 6 (fun q => N0 ≤ q)) D am_clx dI am_tl N0 fl Fo s.heap oc_Y.2.2.1 12 [(0, .ref o), (1, .int ix)] [] h 0 0 := by
    intro H locs la a1 a2 a3 a4
    refine oc_throw0 (cc := prog_1_method_5_code) (own := "TerminalHouse") (cls := oc_E) (names := oc_ns) (ik := 95) (ic := 97) (A := fun q => N0 ≤ q) hx hb hls hE.2.2.2.1 (by decide) (by decide) (htb _ oc_w10) (htb _ oc_w11) hat hgd hfy.1 hfy.2.1 a2 (a3.1.trans hml.symm) oc_e12 oc_e15 oc_e16 oc_e19 (fun x hx => (htab x hx).elim) (Nat.le_of_ble_eq_true rfl) (Nat.le_of_ble_eq_true rfl) (Nat.le_of_ble_eq_true rfl) (Nat.le_of_ble_eq_true rfl) hE.2.2.2.2.2.2.2.2.1 ?_ a2.2.2 (Nat.le_of_ble_eq_true rfl) (Nat.le_of_ble_eq_true rfl)
    intro t hal hz hq ce hce hcv hcl
    have hsz := a1.1
    refine ⟨rfl, ⟨by rw [List.length_append, hz, hsz]; rfl, ?_, a1.2.2.2.push (fun t a e => by cases e)⟩, by rw [hz]; have := a2.1; omega, fun q q1 q2 => (hq q (Nat.lt_of_lt_of_le q1 a2.1)).trans (a2.2.1 q q1 q2)⟩
    rw [am_w_push]
    refine (a1.2.1.kept fun k x hx => hq x.1 ((a1.2.1 k x hx).lt)).app fun k x hx => ?_
    have hz1 : k < 1 := (List.getElem?_eq_some_iff.mp hx).1
    rw [show k = 0 by omega] at hx
    cases hx
    have hKn := (hK.1 13 _ rfl).2.1
    refine ⟨_, rfl, ce, ?_, ?_, hcv, fun k hk => absurd hk (Nat.not_lt_zero _)⟩
    · rw [← hsz]; exact hce
    · exact Option.some.inj (hcl.symm.trans hKn)
  have start : am_G p l e (headSpec (am_ws am_B oc_Y) { frames := 6, cells := 1, slots := 6, locals := 100 }).room s m ([Value.ref o, .int ix].map (am_v N0 fl)).toArray below meth c (vx_MQ below (fun _ _ _ _ => False) (oc_XC D dI N0 fl h) ([Value.ref o, .int ix].map (am_v N0 fl)).toArray s 1 6 (fun q => N0 ≤ q)) D am_clx dI am_tl N0 fl Fo s.heap oc_Y.2.2.1 0 [(0, .ref o), (1, .int ix)] [] h 0 0 := by
    refine (fun (kk : am_G p l e _ s m _ below meth c _ D am_clx dI am_tl N0 fl Fo s.heap oc_Y.2.2.1 1 [(0, .ref o), (1, .int ix)] [.int ix] h 0 0) => fun H locs la a1 a2 a3 a4 => lv_iload_n hx hb oc_e0 rfl (am_ld_at (i := 1) (v := .int ix) a3 rfl) (kk H locs la a1 a2 a3 a4)) ?_
    refine am_k_if hx hb oc_e1 (a := 12) rfl ?_
    by_cases c1 : ix < 0
    · rw [show am_br .lt ix 0 12 (1 + 3) = 12 from if_pos c1]
      exact key
    · rw [show am_br .lt ix 0 12 (1 + 3) = 4 from if_neg c1]
      refine (fun (kk : am_G p l e _ s m _ below meth c _ D am_clx dI am_tl N0 fl Fo s.heap oc_Y.2.2.1 5 [(0, .ref o), (1, .int ix)] [.int ix] h 0 0) => fun H locs la a1 a2 a3 a4 => lv_iload_n hx hb oc_e4 rfl (am_ld_at (i := 1) (v := .int ix) a3 rfl) (kk H locs la a1 a2 a3 a4)) ?_
      refine am_k_aload_n (v := .ref o) hx hb oc_e5 rfl rfl ?_
      refine am_k_get (host := "TerminalHouse") hE am_cls_ok hF.1 oc_e6 oc_f6 ho h3 ?_
      refine am_k_icmp hx hb oc_e9 (a := 20) rfl ?_
      rw [show am_br .lt ix wr 20 (5 + 1 + 3 + 3) = 12 from if_neg (Int32.not_lt.mpr (cx.resolve_left c1))]
      exact key
  exact start s.heap [] _ ⟨hh.1, hh.2.1, hFo, hh.2.2⟩ va_S.rf hl (by have := hh.1; omega)
theorem oc_ofWH {y : MethodName} {ws ws' : List Cond} {rm : Room} {Pc : Array Value → State → Prop} {Qc : Array Value → State → Outcome → State → Prop} {mc ms : Nat} {free : Addr → Prop} {cc : ByteArray} {maxL : Nat} {ret : Option FieldType} {hh : List (Nat × Nat × Nat × Nat)}
    (hy : plainName y.cls = true) (hw : ws = Cond.codeWith y cc maxL ret hh :: ws')
    (body : ∀ p e s m args below meth c s₁, BodyLoose p l y (headSpec ws rm) cc maxL ret e s m args below meth c s₁ → c.maxLocals = maxL → Pc args s →
      W p l e (headSpec ws rm).room s m args below meth c s.heap [] 0 0 (MQ below Qc args s mc ms free) (entryFrame m args maxL)) : Met l y ws rm Pc Qc mc ms free := by
  refine MetFree.of_bodyS (code := cc) (maxLocals := maxL) (ret := ret) hy ?_ ?_
  · intro args s m h hn
    obtain ⟨m9, meth, c, hn9, h1, h2, h3, h4, -, h5, h6, -⟩ := Cond.codeWith_spec (atoms_spec (ws := ws) h _ (by rw [hw]; exact List.mem_cons_self))
    cases hn.symm.trans hn9
    exact ⟨meth, c, h1, h2, h3, h4, h5, h6⟩
  · intro p e s m args below meth c s₁ B hml hP _
    have hh0 : s₁.heap = s.heap := by rw [B.state]; rfl
    obtain ⟨t, a1, o, b1, b2, b3⟩ := body p e s m args below meth c s₁ B hml hP s₁ hh0 (Stand.of_body B)
    exact ⟨t, o, a1, b1, b2, ⟨b3.1, b3.2⟩⟩
def oc_ws : List Cond := Cond.codeWith oc_z method_3_code 4 (some .int) oc_hh :: am_B
theorem oc_metW {d q : Nat} {as : List Value} {A : am_A} (has : am_sum as ≤ 4)
    (hrun : ∀ (p : Program) (e : Env) (s : State) (m : MethodId) (args : Array Value) (below : List Frame) (meth : Method) (c : Code), am_Ev p s m args meth c am_B am_N D am_clx dI am_tl oc_M → c.exceptionTable.toList = tableOf oc_hh → am_G p l e (am_rm d q A) s m args below meth c (MQ below (am_Qc D am_clx dI am_tl N0 fl A) args s A.2.2.1 A.2.2.2 (fun q => N0 ≤ q)) D am_clx dI am_tl N0 fl Fo s.heap oc_M.2.2.1 0 (lv_args 0 as) [] h 0 0) :
    Met l oc_z oc_ws (am_rm d q A) (am_Pc D am_clx dI am_tl N0 fl Fo am_N as h) (am_Qc D am_clx dI am_tl N0 fl A) A.2.2.1 A.2.2.2 (fun q => N0 ≤ q) := by
  refine oc_ofWH (cc := method_3_code) (maxL := 4) (ret := some .int) (hh := oc_hh) (by decide) rfl ?_
  intro p e s m args below meth c s₁ Bd hml hv
  obtain ⟨rfl, hh, hFo, hK, hN⟩ := hv
  have hts := atoms_spec (ws := oc_ws) Bd.pre
  have hE : am_Ev p s m (as.map (am_v N0 fl)).toArray meth c am_B am_N D am_clx dI am_tl oc_M :=
    ⟨Bd.exec, Bd.bytes, hml, findClass_of_methodNamed Bd.named, fun w hw => hts w (List.mem_cons_of_mem _ hw), fun w hw => va_Nw.use (am_N_good w hw).1 (hN w hw), hK, Bd.returns, Bd.notSynchronized, fun hi => (name_of_methodNamed Bd.named Bd.method).1.trans hi⟩
  have htab := vx_table (x := oc_z) Bd (hts _ List.mem_cons_self)
  rw [lg_entry_eq]
  have hl := lv_entry (as.map (am_v N0 fl)) (n := 4) (by rw [am_sl_len, am_sum_eq, am_sum_map]; exact has)
  rw [am_lv_args] at hl
  exact hrun p e s m _ below meth c hE htab s.heap [] _ ⟨hh.1, hh.2.1, hFo, hh.2.2⟩ va_S.rf hl (by have := hh.1; omega)
/-- the law's octet, where the class's returns -/
theorem oc_law_r {w o oa m0 m1 : Nat} {ix wr : Int32} {f : Nat → Int64} {g : Nat → Int32} {vs : List Value} (hF : am_Fx N0 Fo) (hm0 : 0 < m0) (ho : h[o]? = some (.inr (11, vs))) (hw : h[w]? = some (.inl (.long, (m0, .inr (.inl f))))) (h2 : vs[2]? = some (.ref oa)) (h3 : vs[3]? = some (.int wr)) (hoa : h[oa]? = some (.inl (.int, (m1, .inl g)))) (c1 : ¬ ix < 0) (c2 : ix < wr) (c3 : ¬ m1 ≤ ix.toNatClampNeg) :
    Met l oc_z oc_ws (am_rm 9 277 (some (.int 0), h.set w (.inl (.long, (m0, .inr (.inl (vp_updL f 0 (g ix.toNatClampNeg).toInt64))))), 0, 0)) (am_Pc D am_clx dI am_tl N0 fl Fo am_N [.ref o, .int ix, .ref w] h) (am_Qc D am_clx dI am_tl N0 fl (some (.int 0), h.set w (.inl (.long, (m0, .inr (.inl (vp_updL f 0 (g ix.toNatClampNeg).toInt64))))), 0, 0)) 0 0 (fun q => N0 ≤ q) := by
  refine oc_metW (A := (some (.int 0), h.set w (.inl (.long, (m0, .inr (.inl (vp_updL f 0 (g ix.toNatClampNeg).toInt64))))), 0, 0)) (as := [.ref o, .int ix, .ref w]) (Nat.le_of_ble_eq_true rfl) ?_
  intro p e s m args below meth c hE htab
  have hx := hE.1
  have hb := hE.2.1
  show am_G p l e _ s m args below meth c _ D am_clx dI am_tl N0 fl Fo s.heap oc_M.2.2.1 0 [(0, .ref o), (1, .int ix), (2, .ref w)] [] h 0 0
  refine am_k_aload_n (v := .ref w) hx hb oc_d0 rfl rfl ?_
  refine (fun (kk : am_G p l e _ s m args below meth c _ D am_clx dI am_tl N0 fl Fo s.heap oc_M.2.2.1 2 [(0, .ref o), (1, .int ix), (2, .ref w)] [.int 0, .ref w] h 0 0) => fun H locs la a1 a2 a3 a4 => lv_iconst hx hb oc_d1 rfl (kk H locs la a1 a2 a3 a4)) ?_
  refine am_k_aload_n (v := .ref o) hx hb oc_d2 rfl rfl ?_
  refine (fun (kk : am_G p l e _ s m args below meth c _ D am_clx dI am_tl N0 fl Fo s.heap oc_M.2.2.1 4 [(0, .ref o), (1, .int ix), (2, .ref w)] [.int ix, .ref o, .int 0, .ref w] h 0 0) => fun H locs la a1 a2 a3 a4 => lv_iload_n hx hb oc_d3 rfl (am_ld_at (i := 1) (v := .int ix) a3 rfl) (kk H locs la a1 a2 a3 a4)) ?_
  refine am_call (d := 9) (q := 277) (host := "TerminalHouse") (I := (.invokevirtual 7, .null, 259, 1, false, [])) (Y := oc_Y) (as := [.ref o, .int ix]) (rest := [.int 0, .ref w]) (A := (some (.int (g ix.toNatClampNeg)), h, 0, 0)) hE am_cls_ok hF am_N_good am_B_good ⟨rfl, rfl⟩ ⟨3, oc_d4, fun q hq => by cases hq; rfl⟩
    ⟨by decide, ⟨by decide, by decide, by decide +kernel⟩, oc_w9, oc_w12, oc_w7, oc_w8, by rw [if_neg (by decide)]; exact oc_w6⟩ (oc_ret hF ho h2 h3 hoa c1 c2 c3) ?_ (by decide) (by decide) ⟨Nat.le_of_ble_eq_true rfl, Nat.le_of_ble_eq_true rfl, Nat.le_of_ble_eq_true rfl, Nat.le_of_ble_eq_true rfl⟩ (Nat.le_refl _) (Nat.le_refl _) ?_
  · show am_pop am_ctb oc_Y.1.cls 3 1 [.int ix, .ref o, .int 0, .ref w] h = _
    unfold am_pop
    rw [if_neg (by simp), if_neg (by decide)]
    show (match h[o]? with
      | some (.inr (ci, _)) => if (am_ctb[ci]?).map (fun q : am_K => q.1) = some oc_Y.1.cls then some (Value.ref o :: [Value.int ix], [Value.int 0, .ref w]) else none
      | _ => none) = _
    rw [ho]
    rfl
  · show am_G p l e _ s m args below meth c _ D am_clx dI am_tl N0 fl Fo s.heap oc_M.2.2.1 7 [(0, .ref o), (1, .int ix), (2, .ref w)] [.int (g ix.toNatClampNeg), .int 0, .ref w] h 0 0
    refine (fun (kk : am_G p l e _ s m args below meth c _ D am_clx dI am_tl N0 fl Fo s.heap oc_M.2.2.1 8 [(0, .ref o), (1, .int ix), (2, .ref w)] [.long (g ix.toNatClampNeg).toInt64, .int 0, .ref w] h 0 0) => fun H locs la a1 a2 a3 a4 => lv_i2l hx hb oc_d7 rfl (kk H locs la a1 a2 a3 a4)) ?_
    refine am_k_last hE am_cls_ok hF.1 oc_d8 hw (fun z => z.elim (by decide) (fun y => absurd y (by show ¬ m0 ≤ 0; omega))) ?_
    refine (fun (kk : am_G p l e _ s m args below meth c _ D am_clx dI am_tl N0 fl Fo s.heap oc_M.2.2.1 15 [(0, .ref o), (1, .int ix), (2, .ref w)] [] (h.set w (.inl (.long, (m0, .inr (.inl (vp_updL f 0 (g ix.toNatClampNeg).toInt64)))))) 0 0) => fun H locs la a1 a2 a3 a4 => lv_goto hx hb oc_d9 rfl (kk H locs la a1 a2 a3 a4)) ?_
    refine (fun (kk : am_G p l e _ s m args below meth c _ D am_clx dI am_tl N0 fl Fo s.heap oc_M.2.2.1 16 [(0, .ref o), (1, .int ix), (2, .ref w)] [.int 0] (h.set w (.inl (.long, (m0, .inr (.inl (vp_updL f 0 (g ix.toNatClampNeg).toInt64)))))) 0 0) => fun H locs la a1 a2 a3 a4 => lv_iconst hx hb oc_d15 rfl (kk H locs la a1 a2 a3 a4)) ?_
    exact am_rets (A := (some (.int 0), h.set w (.inl (.long, (m0, .inr (.inl (vp_updL f 0 (g ix.toNatClampNeg).toInt64))))), 0, 0)) (I := (.ireturn, .null, 0, 0, false, [])) hE ⟨1, oc_d16, fun q hq => by cases hq; rfl⟩ (by with_unfolding_all rfl)
/-- the law's octet, where the class's throws -/
theorem oc_law_t {w o m0 : Nat} {ix wr : Int32} {f : Nat → Int64} {vs : List Value} (hls : l.stackTraces = false) (hF : am_Fx N0 Fo) (hFy : ∀ (U : State) (H : Heap), Fo U H → oc_Fy N0 U H) (ho : h[o]? = some (.inr (11, vs))) (hw : h[w]? = some (.inl (.long, (m0, .inr (.inl f))))) (h3 : vs[3]? = some (.int wr)) (cx : ix < 0 ∨ wr ≤ ix) :
    Met l oc_z oc_ws (am_rm 9 277 (some (.int 1), h ++ [.inr (13, [])], 1, 6)) (am_Pc D am_clx dI am_tl N0 fl Fo am_N [.ref o, .int ix, .ref w] h) (am_Qc D am_clx dI am_tl N0 fl (some (.int 1), h ++ [.inr (13, [])], 1, 6)) 1 6 (fun q => N0 ≤ q) := by
  refine oc_metW (A := (some (.int 1), h ++ [(.inr (13, []) : am_C)], 1, 6)) (as := [.ref o, .int ix, .ref w]) (Nat.le_of_ble_eq_true rfl) ?_
  intro p e s m args below meth c hE htab
  have hx := hE.1
  have hb := hE.2.1
  have hown := hE.2.2.2.1
  have hts := hE.2.2.2.2.1
  have hK := hE.2.2.2.2.2.2.1
  show am_G p l e _ s m args below meth c _ D am_clx dI am_tl N0 fl Fo s.heap oc_M.2.2.1 0 [(0, .ref o), (1, .int ix), (2, .ref w)] [] h 0 0
  refine am_k_aload_n (v := .ref w) hx hb oc_d0 rfl rfl ?_
  refine (fun (kk : am_G p l e _ s m args below meth c _ D am_clx dI am_tl N0 fl Fo s.heap oc_M.2.2.1 2 [(0, .ref o), (1, .int ix), (2, .ref w)] [.int 0, .ref w] h 0 0) => fun H locs la a1 a2 a3 a4 => lv_iconst hx hb oc_d1 rfl (kk H locs la a1 a2 a3 a4)) ?_
  refine am_k_aload_n (v := .ref o) hx hb oc_d2 rfl rfl ?_
  refine (fun (kk : am_G p l e _ s m args below meth c _ D am_clx dI am_tl N0 fl Fo s.heap oc_M.2.2.1 4 [(0, .ref o), (1, .int ix), (2, .ref w)] [.int ix, .ref o, .int 0, .ref w] h 0 0) => fun H locs la a1 a2 a3 a4 => lv_iload_n hx hb oc_d3 rfl (am_ld_at (i := 1) (v := .int ix) a3 rfl) (kk H locs la a1 a2 a3 a4)) ?_
  intro H locs la a1 a2 a3 a4
  have hGood : GoodIn am_B (am_ws am_B oc_Y) := by
    intro w hw
    rcases List.mem_cons.mp hw with rfl | hw
    · exact ⟨oc_w9, am_B_good _ oc_w9⟩
    · exact ⟨hw, am_B_good _ hw⟩
  have hrecv := va_recv hK a1.2.1 (ci := 11) rfl (am_w_at (dI := dI) (N0 := N0) (fl := fl) ho)
  have hr : vx_Run p l e (am_rm 9 277 (some (.int 1), h ++ [.inr (13, [])], 1, 6)) s m args below meth c H locs 0 0 1 6 (F0 m 4 la [.int ix, .ref (N0 + o), .int 0, .ref (N0 + w)]) [.int 0, .ref (N0 + w)] (fun _ _ _ => False) (oc_XC D dI N0 fl h) (fun q => N0 ≤ q) :=
    vx_runV (own := "TerminalHouseLaw") (C := "TerminalHouse") (Ts := am_B) (cc := method_3_code) (nL := 4) (As := [.int ix]) ⟨hx, hb, hE.2.2.1, hown, hts⟩ (oc_thr hls hF hFy ho h3 cx) ⟨callB_of 1 hts hGood rfl rfl rfl (hts _ oc_w12) (hts _ oc_w6) ⟨by decide, by decide, by decide +kernel⟩ ⟨Nat.le_of_ble_eq_true rfl, Nat.le_of_ble_eq_true rfl⟩, hts _ oc_w7, hts _ oc_w8⟩ ⟨am_blind hF am_N_good _, hrecv, am_pre (locs := locs) hE hF am_N_good a1 [.ref o, .int ix]⟩ rfl rfl a3.1 rfl (Nat.le_of_ble_eq_true rfl) oc_d4 ⟨Nat.le_refl _, Nat.le_refl _⟩
  intro T hT X
  rcases hr T hT X with ⟨v, st₀, t, T', L, h0, X', hL, e1, e2, hno, go⟩ | ⟨q, st₀, t, T', L, E, ce, h0, X', hL, e1, e2, ⟨hEq, hhp, hFF⟩, hce, hcv, hcl, go⟩
  · exact hno.elim
  · subst hEq
    rw [← e1] at hce hhp
    obtain ⟨f1, f2⟩ := hFF
    rw [h0, ← e1] at f1 f2
    have hS1 : va_S (fun q => N0 ≤ q) s.heap T'.heap (locs ++ L) := by
      refine ⟨Nat.le_trans a2.1 f1, fun x x1 x2 => (f2 x (Nat.lt_of_lt_of_le x1 a2.1) x2).trans (a2.2.1 x x1 x2), fun x hx => ?_⟩
      rcases List.mem_append.mp hx with hx | hx
      · exact a2.2.2 x hx
      · exact hL x hx
    have hHs := a1.1
    have hok1 : am_ok D am_clx dI am_tl N0 fl Fo s (h ++ [.inr (13, [])]) T'.heap := ⟨hhp.1, hhp.2.1, hF.1 s H T'.heap a1.2.2.1 fun x hx => f2 x (by omega) (by show ¬ N0 ≤ x; omega), hhp.2.2⟩
    have kk : W p l e (am_rm 9 277 (some (.int 1), h ++ [.inr (13, [])], 1, 6)) s m args below meth c T'.heap (locs ++ L) (0 + 1) (0 + 6) (MQ below (am_Qc D am_clx dI am_tl N0 fl (some (.int 1), h ++ [.inr (13, [])], 1, 6)) args s 1 6 (fun q => N0 ≤ q)) (F0 m 12 la [.ref q]) := by
      refine lv_astore_n hx hb oc_d12 rfl a3 (by decide) rfl (fun la' h3' => ?_)
      refine lv_iconst hx hb oc_d13 rfl ?_
      exact am_rets (A := (some (.int 1), h ++ [.inr (13, [])], 1, 6)) (I := (.ireturn, .null, 0, 0, false, [])) (pc := 14) (ls := []) (st := [.int 1]) hE ⟨1, oc_d14, fun q hq => by cases hq; rfl⟩ (by with_unfolding_all rfl) T'.heap (locs ++ L) la' hok1 hS1 (lv_sub h3' [] rfl) (by rw [List.length_append]; show s.heap.size + 1 = N0 + (h.length + 1); omega)
    have hc := oc_catch (ls := la) (rest := [.int 0, .ref (N0 + w)]) (pc := 4) (own := "TerminalHouseLaw") (name := oc_E) (E := oc_E) hown ⟨0, 9, 12, 13⟩ htab (by decide) (by decide) (hts _ oc_w5) (va_Nw.use rfl ((hFy s H a1.2.2.1).2.2 _ List.mem_cons_self)) hce hcv hcl kk
    obtain ⟨t2, z1, z2⟩ := hc T' rfl X'
    exact ⟨t2, go.trans z1, z2⟩
/-- the law's octet is as the abstract machine has it -/
theorem oc_oct (hls : l.stackTraces = false) (hF : am_Fx N0 Fo) (hFy : ∀ (U : State) (H : Heap), Fo U H → oc_Fy N0 U H) (p : Program) (e : Env) (R : Room) (s : State) (m : MethodId) (args : Array Value) (below : List Frame) (meth : Method) (c : Code) (Q : State → Prop) (H0 : Heap) (M : am_M) :
    am_Oct p l e R s m args below meth c Q D am_clx dI am_tl N0 fl Fo H0 am_B am_N M := by
  intro pc ls st h k n i w o oa m0 m1 ix wr f g vs hE hd ⟨hM1, hi⟩ hRf hRl hst hm0 ho hw h2 h3 hoa hc
  subst hi
  have hts := hE.2.2.2.2.1
  have hfix : CallFix p m c M.2.1 M.2.2.1 s args am_B M.1.cls := ⟨hE.1, hE.2.1, hE.2.2.1, hE.2.2.2.1, hts⟩
  intro H locs la a1 a2 a3 a4
  have hG : GoodIn am_B oc_ws := by
    intro w hw
    rcases List.mem_cons.mp hw with rfl | hw
    · exact ⟨oc_w1, am_B_good _ oc_w1⟩
    · exact ⟨hw, am_B_good _ hw⟩
  have hW : 2 * (F0 m pc la (([Value.ref w, .int ix, .ref o] ++ st).map (am_v N0 fl))).monitorRoom + ((st.map (am_v N0 fl)).map fun v => v.category).sum ≤ 8 := by
    rw [am_sum_map]
    show 2 * 0 + am_sum st ≤ 8
    omega
  have cw : ∀ A : am_A, vx_CSW R s args M.1.cls 37 oc_z method_3_code 4 (some .int) oc_hh oc_ws (am_rm 9 277 A) A.2.2.1 A.2.2.2 3 := by
    intro A
    refine ⟨⟨rfl, rfl, by show 9 + 1 ≤ R.frames; omega, by show 8 + (4 + 11) + 277 ≤ R.locals; omega, pay_in hts hG, List.mem_cons_self⟩, hts _ oc_w1, hts _ oc_w4, ⟨by decide, by decide⟩, fun sig hs => ?_, by rw [hM1]; exact hts _ oc_w2, hts _ oc_w3⟩
    have hp : (parseMethodDescriptor oc_z.desc).map (fun d => d.parameters.length) = some 3 := by decide +kernel
    rw [hs] at hp
    exact (Option.some.inj hp).symm
  split at hc
  · rename_i cx
    obtain ⟨hk, hn, kk⟩ := hc
    exact am_back (A := (some (.int 1), h ++ [(.inr (13, []) : am_C)], 1, 6)) (rest := st) hF a1 a2 a3 a4 (vx_runSW (As := [Value.ref o, .int ix, .ref w].map (am_v N0 fl)) hfix (oc_law_t hls hF hFy ho hw h3 cx) (cw (some (.int 1), h ++ [(.inr (13, []) : am_C)], 1, 6)) ⟨am_blind hF am_N_good _, am_pre (locs := locs) hE hF am_N_good a1 _⟩ rfl rfl a3.1 rfl hW hd ⟨hk, hn⟩) kk
  · rename_i cx
    obtain ⟨c3, hk, hn, kk⟩ := hc
    have c1 : ¬ ix < 0 := fun z => cx (Or.inl z)
    have c2 : ix < wr := Int32.not_le.mp (fun z => cx (Or.inr z))
    exact am_back (A := (some (.int 0), h.set w (.inl (.long, (m0, .inr (.inl (vp_updL f 0 (g ix.toNatClampNeg).toInt64))))), 0, 0)) (rest := st) hF a1 a2 a3 a4 (vx_runSW (As := [Value.ref o, .int ix, .ref w].map (am_v N0 fl)) hfix (oc_law_r hF hm0 ho hw h2 h3 hoa c1 c2 c3) (cw (some (.int 0), h.set w (.inl (.long, (m0, .inr (.inl (vp_updL f 0 (g ix.toNatClampNeg).toInt64))))), 0, 0)) ⟨am_blind hF am_N_good _, am_pre (locs := locs) hE hF am_N_good a1 _⟩ rfl rfl a3.1 rfl hW hd ⟨hk, hn⟩) kk
end OCX
