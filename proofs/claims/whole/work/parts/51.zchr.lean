/-! String.charAt on the four texts. -/
def ch_Z (N0 : Nat) (U : State) (H : Heap) : Prop := va_Z "java/lang/String" "COMPACT_STRINGS" "Z" (.int 1) (fun q => N0 ≤ q) U H ∧ va_Zq "jdk/internal/util/Preconditions" "SIOOBE_FORMATTER" "Ljava/util/function/BiFunction;" (fun q => N0 ≤ q) U H
def ch_S (N0 ad av : Nat) (bs : List Int32) (U : State) (H : Heap) : Prop := va_O "java/lang/String" ad (fun q => N0 ≤ q) U H ∧ va_OF "java/lang/String" "coder" "B" (.int 0) ad (fun q => N0 ≤ q) U H ∧ va_OF "java/lang/String" "value" "[B" (.ref av) ad (fun q => N0 ≤ q) U H ∧ va_T .byte av bs.length (fun j => .int (bs.getD j 0)) (fun q => N0 ≤ q) U H
def ch_Fy (N0 : Nat) : State → Heap → Prop := fun U H => ch_Z N0 U H ∧ ∀ (j : Nat) (q : String × Nat × String), am_ss[j]? = some q → ∃ ad av : Nat, vk_R q.1 q.2.1 q.2.2 ad U ∧ ch_S N0 ad av (am_tx.getD j []) U H
theorem ch_Z_ok (N0 : Nat) : am_Fx N0 (ch_Z N0) := by
  refine ⟨fun U H H1 h hq => ?_, fun u U H hW h => ?_, fun U g mk a H h => ?_⟩
  · have hk : ∀ a : Nat, a < H.size → ¬ N0 ≤ a → H1[a]? = H[a]? := fun a _ h2 => hq a (by omega)
    exact ⟨h.1.kept hk, h.2.kept hk⟩
  · exact ⟨h.1.moved hW.alike, h.2.moved hW.alike⟩
  · exact ⟨h.1.moved (u := U) (U := U.calling g mk a) (Vm.Alike.refl _), h.2.moved (u := U) (U := U.calling g mk a) (Vm.Alike.refl _)⟩
theorem ch_S_ok (N0 ad av : Nat) (bs : List Int32) : am_Fx N0 (ch_S N0 ad av bs) := by
  refine ⟨fun U H H1 h hq => ?_, fun u U H hW h => ?_, fun U g mk a H h => ?_⟩
  · have hk : ∀ a : Nat, a < H.size → ¬ N0 ≤ a → H1[a]? = H[a]? := fun a _ h2 => hq a (by omega)
    exact ⟨h.1.kept hk, h.2.1.kept hk, h.2.2.1.kept hk, h.2.2.2.kept hk⟩
  · exact ⟨h.1.moved hW.alike, h.2.1.moved hW.alike, h.2.2.1.moved hW.alike, h.2.2.2.moved hW.alike⟩
  · exact ⟨h.1.moved (u := U) (U := U.calling g mk a) (Vm.Alike.refl _), h.2.1.moved (u := U) (U := U.calling g mk a) (Vm.Alike.refl _), h.2.2.1.moved (u := U) (U := U.calling g mk a) (Vm.Alike.refl _), h.2.2.2.moved (u := U) (U := U.calling g mk a) (Vm.Alike.refl _)⟩
theorem ch_and {N0 : Nat} {F G : State → Heap → Prop} (hF : am_Fx N0 F) (hG : am_Fx N0 G) : am_Fx N0 (fun U H => F U H ∧ G U H) :=
  ⟨fun U H H1 h hq => ⟨hF.1 U H H1 h.1 hq, hG.1 U H H1 h.2 hq⟩, fun u U H hW h => ⟨hF.2.1 u U H hW h.1, hG.2.1 u U H hW h.2⟩, fun U g mk a H h => ⟨hF.2.2 U g mk a H h.1, hG.2.2 U g mk a H h.2⟩⟩
theorem ch_Fy_ok (N0 : Nat) : am_Fx N0 (ch_Fy N0) := by
  refine ⟨fun U H H1 h hq => ⟨(ch_Z_ok N0).1 U H H1 h.1 hq, fun j q hj => ?_⟩, fun u U H hW h => ⟨(ch_Z_ok N0).2.1 u U H hW h.1, fun j q hj => ?_⟩, fun U g mk a H h => ⟨(ch_Z_ok N0).2.2 U g mk a H h.1, fun j q hj => ?_⟩⟩
  · obtain ⟨ad, av, h1, h2⟩ := h.2 j q hj
    exact ⟨ad, av, h1, (ch_S_ok N0 ad av _).1 U H H1 h2 hq⟩
  · obtain ⟨ad, av, h1, h2⟩ := h.2 j q hj
    exact ⟨ad, av, h1.warm hW, (ch_S_ok N0 ad av _).2.1 u U H hW h2⟩
  · obtain ⟨ad, av, h1, h2⟩ := h.2 j q hj
    exact ⟨ad, av, h1.same rfl, (ch_S_ok N0 ad av _).2.2 U g mk a H h2⟩
def ch_Q (r : Option Value) : Array Value → State → Outcome → State → Prop := fun _ st o t => o = .returned r ∧ t.heap = st.heap
def ch_P (as : List Value) (F : State → Heap → Prop) : Array Value → State → Prop := fun v U => v = as.toArray ∧ F U U.heap
def ch_M (l : Launch) (N0 : Nat) (Y : am_M) (d q : Nat) (as : List Value) (F : State → Heap → Prop) (r : Option Value) : Prop := Met l Y.1 (am_ws am_B Y) { frames := d, cells := 0, slots := 0, locals := q } (ch_P as F) (ch_Q r) 0 0 (fun q => N0 ≤ q)
section CHR
variable {p : Program} {l : Launch} {e : Env} {R : Room} {s : State} {m : MethodId} {args : Array Value} {below : List Frame} {meth : Method} {c : Code} {Q : State → Prop} {H : Heap} {locs : List Loc} {k n : Nat} {N0 : Nat} {F : State → Heap → Prop}
theorem ch_go {r : Option Value} {rest st0 : List Value} {pc : Nat} {la : Array Slot} {a' : Array Value} (hr : va_Run p l e R s m args below meth c H locs k n 0 0 (F0 m pc la st0) rest (ch_Q r a') (fun q => N0 ≤ q)) (kk : ∀ L : List Loc, (∀ q ∈ L, N0 ≤ q.base) → W p l e R s m args below meth c H (locs ++ L) k n Q (F0 m (pc + 3) la (r.toList ++ rest))) : W p l e R s m args below meth c H locs k n Q (F0 m pc la st0) := by
  intro T hT X
  obtain ⟨v, st₀, t, T', L, hst, X', hL, e1, e2, ⟨q1, q2⟩, go⟩ := hr T hT X
  cases q1
  obtain ⟨t', a1, b1⟩ := kk L hL T' (by rw [e1, q2, hst]) X'
  exact ⟨t', go t' a1, b1⟩
theorem ch_blind (hF : am_Fx N0 F) (as : List Value) : FrameBlind (ch_P as F) := by
  intro a U g mk hp
  exact ⟨hp.1, hF.2.2 U g mk a _ hp.2⟩
theorem ch_good {Y : am_M} (hcode : Cond.code Y.1 Y.2.1 Y.2.2.1 Y.2.2.2 ∈ am_B) : GoodIn am_B (am_ws am_B Y) := by
  intro w hw
  rcases List.mem_cons.mp hw with rfl | hw
  · exact ⟨hcode, am_B_good _ hcode⟩
  · exact ⟨hw, am_B_good _ hw⟩
theorem ch_cs {Y : am_M} {own : String} {cc : ByteArray} {nL d q idx pc : Nat} {as rest : List Value} {r : Option Value} {la : Array Slot} (hfix : CallFix p m c cc nL s args am_B own) (hM : ch_M l N0 Y d q as F r) (hF : am_Fx N0 F) (h0 : F s H) (hcode : Cond.code Y.1 Y.2.1 Y.2.2.1 Y.2.2.2 ∈ am_B) (hini : Cond.initialized Y.1.cls ∈ am_B) (hlink : Cond.methodLink own idx Y.1 ∈ am_B) (hst : Cond.static Y.1 ∈ am_B)
    (hd : Y.1.cls ≠ "java/lang/invoke/MethodHandle" ∧ Y.1.cls ≠ "java/lang/invoke/VarHandle" ∧ (parseMethodDescriptor Y.1.desc).map (fun d => d.parameters.length) = some as.length) (hR : d + 1 ≤ R.frames ∧ 8 + (Y.2.2.1 + 11) + q ≤ R.locals) (hs : la.size = nL) (hW : am_sum rest ≤ 8) (hk : k ≤ R.cells ∧ n ≤ R.slots) (hdg : decode cc pc = .ok (.invokestatic idx, 3))
    (kk : ∀ L : List Loc, (∀ q ∈ L, N0 ≤ q.base) → W p l e R s m args below meth c H (locs ++ L) k n Q (F0 m (pc + 3) la (r.toList ++ rest))) : W p l e R s m args below meth c H locs k n Q (F0 m pc la (as.reverse ++ rest)) :=
  ch_go (va_runS (As := as) (rest := rest) hfix hM ⟨callB_of as.length hfix.2.2.2.2 (ch_good hcode) rfl rfl rfl (hfix.2.2.2.2 _ hini) (hfix.2.2.2.2 _ hlink) hd hR, hfix.2.2.2.2 _ hst⟩ ⟨ch_blind hF as, fun U hU hW => ⟨rfl, by rw [hU]; exact hF.2.1 s U H hW h0⟩⟩ rfl rfl hs rfl (by rw [← am_sum_eq]; show 2 * 0 + am_sum rest ≤ 8; omega) hdg ⟨hk.1, hk.2⟩) kk
theorem ch_cv {Y : am_M} {own : String} {cc : ByteArray} {nL d q idx pc b : Nat} {as rest : List Value} {r : Option Value} {la : Array Slot} (hfix : CallFix p m c cc nL s args am_B own) (hM : ch_M l N0 Y d q (.ref b :: as) F r) (hF : am_Fx N0 F) (h0 : F s H) (hcode : Cond.code Y.1 Y.2.1 Y.2.2.1 Y.2.2.2 ∈ am_B) (hini : Cond.initialized Y.1.cls ∈ am_B) (hlink : Cond.methodLink own idx Y.1 ∈ am_B) (hin : Cond.instanceMethod Y.1 ∈ am_B) (hse : Cond.selects Y.1.cls Y.1 Y.1 ∈ am_B) (hrc : ∃ cellB : Cell, H[b]? = some cellB ∧ cellB.vm.isStatics = false ∧ s.vm.findClass Y.1.cls = some cellB.cls)
    (hd : Y.1.cls ≠ "java/lang/invoke/MethodHandle" ∧ Y.1.cls ≠ "java/lang/invoke/VarHandle" ∧ (parseMethodDescriptor Y.1.desc).map (fun d => d.parameters.length) = some as.length) (hR : d + 1 ≤ R.frames ∧ 8 + (Y.2.2.1 + 11) + q ≤ R.locals) (hs : la.size = nL) (hW : am_sum rest ≤ 8) (hk : k ≤ R.cells ∧ n ≤ R.slots) (hdg : decode cc pc = .ok (.invokevirtual idx, 3))
    (kk : ∀ L : List Loc, (∀ q ∈ L, N0 ≤ q.base) → W p l e R s m args below meth c H (locs ++ L) k n Q (F0 m (pc + 3) la (r.toList ++ rest))) : W p l e R s m args below meth c H locs k n Q (F0 m pc la (as.reverse ++ .ref b :: rest)) :=
  ch_go (va_runV (As := as) (rest := rest) (C := Y.1.cls) hfix hM ⟨callB_of as.length hfix.2.2.2.2 (ch_good hcode) rfl rfl rfl (hfix.2.2.2.2 _ hini) (hfix.2.2.2.2 _ hlink) hd hR, hfix.2.2.2.2 _ hin, hfix.2.2.2.2 _ hse⟩ ⟨ch_blind hF _, hrc, fun U hU hW => ⟨rfl, by rw [hU]; exact hF.2.1 s U H hW h0⟩⟩ rfl rfl hs rfl (by rw [← am_sum_eq]; show 2 * 0 + am_sum rest ≤ 8; omega) hdg ⟨hk.1, hk.2⟩) kk
end CHR
section CHM
variable {l : Launch} {N0 : Nat} {F : State → Heap → Prop}
theorem ch_met {M : am_M} {d q : Nat} {as : List Value} {r : Option Value} (hpl : plainName M.1.cls = true) (has : am_sum as ≤ M.2.2.1)
    (hrun : ∀ (p : Program) (e : Env) (s : State) (m : MethodId) (below : List Frame) (meth : Method) (c : Code) (la : Array Slot), CallFix p m c M.2.1 M.2.2.1 s as.toArray am_B M.1.cls → meth.sig.returnType = M.2.2.2 → meth.locks = false → F s s.heap → lv_has la M.2.2.1 (lv_args 0 as) → W p l e { frames := d, cells := 0, slots := 0, locals := q } s m as.toArray below meth c s.heap [] 0 0 (MQ below (ch_Q r) as.toArray s 0 0 (fun q => N0 ≤ q)) (F0 m 0 la [])) : ch_M l N0 M d q as F r := by
  refine Met.ofW hpl rfl ?_
  intro p e s m args below meth c s₁ Bd hml hv
  obtain ⟨rfl, hF⟩ := hv
  have hts := atoms_spec (ws := am_ws am_B M) Bd.pre
  rw [lg_entry_eq]
  exact hrun p e s m below meth c _ ⟨Bd.exec, Bd.bytes, hml, findClass_of_methodNamed Bd.named, fun w hw => hts w (List.mem_cons_of_mem _ hw)⟩ Bd.returns Bd.notSynchronized hF (lv_entry as (by rw [am_sl_len]; exact has))
end CHM
def ch_y_pc : MethodName := ⟨"jdk/internal/util/Preconditions", "checkIndex", "(IILjava/util/function/BiFunction;)I"⟩
def ch_Y_pc : am_M := (ch_y_pc, prog_25_method_11_code, 3, some .int)
theorem ch_w_pc : Cond.code ch_Y_pc.1 ch_Y_pc.2.1 ch_Y_pc.2.2.1 ch_Y_pc.2.2.2 ∈ am_B := am_inB am_tb_3 (j := 222) rfl rfl
theorem ch_i_pc : Cond.initialized ch_Y_pc.1.cls ∈ am_B := am_inB am_tb_1 (j := 22) rfl rfl
theorem ch_d_pc0 : decode prog_25_method_11_code 0 = .ok (.iload_n 0, 1) := by decide +kernel
theorem ch_d_pc1 : decode prog_25_method_11_code 1 = .ok (.ifCond .lt 8, 3) := by decide +kernel
theorem ch_d_pc4 : decode prog_25_method_11_code 4 = .ok (.iload_n 0, 1) := by decide +kernel
theorem ch_d_pc5 : decode prog_25_method_11_code 5 = .ok (.iload_n 1, 1) := by decide +kernel
theorem ch_d_pc6 : decode prog_25_method_11_code 6 = .ok (.if_icmp .lt 10, 3) := by decide +kernel
theorem ch_d_pc9 : decode prog_25_method_11_code 9 = .ok (.aload_n 2, 1) := by decide +kernel
theorem ch_d_pc10 : decode prog_25_method_11_code 10 = .ok (.iload_n 0, 1) := by decide +kernel
theorem ch_d_pc11 : decode prog_25_method_11_code 11 = .ok (.iload_n 1, 1) := by decide +kernel
theorem ch_d_pc12 : decode prog_25_method_11_code 12 = .ok (.invokestatic 95, 3) := by decide +kernel
theorem ch_d_pc15 : decode prog_25_method_11_code 15 = .ok (.athrow, 1) := by decide +kernel
theorem ch_d_pc16 : decode prog_25_method_11_code 16 = .ok (.iload_n 0, 1) := by decide +kernel
theorem ch_d_pc17 : decode prog_25_method_11_code 17 = .ok (.ireturn, 1) := by decide +kernel
def ch_y_sc : MethodName := ⟨"java/lang/String", "checkIndex", "(II)V"⟩
def ch_Y_sc : am_M := (ch_y_sc, prog_18_method_155_code, 2, none)
theorem ch_w_sc : Cond.code ch_Y_sc.1 ch_Y_sc.2.1 ch_Y_sc.2.2.1 ch_Y_sc.2.2.2 ∈ am_B := am_inB am_tb_3 (j := 217) rfl rfl
theorem ch_i_sc : Cond.initialized ch_Y_sc.1.cls ∈ am_B := am_inB am_tb_1 (j := 20) rfl rfl
theorem ch_d_sc0 : decode prog_18_method_155_code 0 = .ok (.iload_n 0, 1) := by decide +kernel
theorem ch_d_sc1 : decode prog_18_method_155_code 1 = .ok (.iload_n 1, 1) := by decide +kernel
theorem ch_d_sc2 : decode prog_18_method_155_code 2 = .ok (.getstatic 1053, 3) := by decide +kernel
theorem ch_d_sc5 : decode prog_18_method_155_code 5 = .ok (.invokestatic 1059, 3) := by decide +kernel
theorem ch_d_sc8 : decode prog_18_method_155_code 8 = .ok (.pop, 1) := by decide +kernel
theorem ch_d_sc9 : decode prog_18_method_155_code 9 = .ok (.return_, 1) := by decide +kernel
def ch_y_la : MethodName := ⟨"java/lang/StringLatin1", "charAt", "([BI)C"⟩
def ch_Y_la : am_M := (ch_y_la, prog_19_method_2_code, 2, some .char)
theorem ch_w_la : Cond.code ch_Y_la.1 ch_Y_la.2.1 ch_Y_la.2.2.1 ch_Y_la.2.2.2 ∈ am_B := am_inB am_tb_3 (j := 214) rfl rfl
theorem ch_i_la : Cond.initialized ch_Y_la.1.cls ∈ am_B := am_inB am_tb_1 (j := 21) rfl rfl
theorem ch_d_la0 : decode prog_19_method_2_code 0 = .ok (.iload_n 1, 1) := by decide +kernel
theorem ch_d_la1 : decode prog_19_method_2_code 1 = .ok (.aload_n 0, 1) := by decide +kernel
theorem ch_d_la2 : decode prog_19_method_2_code 2 = .ok (.arraylength, 1) := by decide +kernel
theorem ch_d_la3 : decode prog_19_method_2_code 3 = .ok (.invokestatic 9, 3) := by decide +kernel
theorem ch_d_la6 : decode prog_19_method_2_code 6 = .ok (.aload_n 0, 1) := by decide +kernel
theorem ch_d_la7 : decode prog_19_method_2_code 7 = .ok (.iload_n 1, 1) := by decide +kernel
theorem ch_d_la8 : decode prog_19_method_2_code 8 = .ok (.baload, 1) := by decide +kernel
theorem ch_d_la9 : decode prog_19_method_2_code 9 = .ok (.sipush 255, 3) := by decide +kernel
theorem ch_d_la12 : decode prog_19_method_2_code 12 = .ok (.iand, 1) := by decide +kernel
theorem ch_d_la13 : decode prog_19_method_2_code 13 = .ok (.i2c, 1) := by decide +kernel
theorem ch_d_la14 : decode prog_19_method_2_code 14 = .ok (.ireturn, 1) := by decide +kernel
def ch_y_is : MethodName := ⟨"java/lang/String", "isLatin1", "()Z"⟩
def ch_Y_is : am_M := (ch_y_is, prog_18_method_154_code, 1, some .boolean)
theorem ch_w_is : Cond.code ch_Y_is.1 ch_Y_is.2.1 ch_Y_is.2.2.1 ch_Y_is.2.2.2 ∈ am_B := am_inB am_tb_3 (j := 209) rfl rfl
theorem ch_i_is : Cond.initialized ch_Y_is.1.cls ∈ am_B := am_inB am_tb_1 (j := 20) rfl rfl
theorem ch_d_is0 : decode prog_18_method_154_code 0 = .ok (.getstatic 38, 3) := by decide +kernel
theorem ch_d_is3 : decode prog_18_method_154_code 3 = .ok (.ifCond .eq 14, 3) := by decide +kernel
theorem ch_d_is6 : decode prog_18_method_154_code 6 = .ok (.aload_n 0, 1) := by decide +kernel
theorem ch_d_is7 : decode prog_18_method_154_code 7 = .ok (.getfield 15, 3) := by decide +kernel
theorem ch_d_is10 : decode prog_18_method_154_code 10 = .ok (.ifCond .ne 7, 3) := by decide +kernel
theorem ch_d_is13 : decode prog_18_method_154_code 13 = .ok (.iconst 1, 1) := by decide +kernel
theorem ch_d_is14 : decode prog_18_method_154_code 14 = .ok (.goto 4, 3) := by decide +kernel
theorem ch_d_is17 : decode prog_18_method_154_code 17 = .ok (.iconst 0, 1) := by decide +kernel
theorem ch_d_is18 : decode prog_18_method_154_code 18 = .ok (.ireturn, 1) := by decide +kernel
def ch_y_ca : MethodName := ⟨"java/lang/String", "charAt", "(I)C"⟩
def ch_Y_ca : am_M := (ch_y_ca, prog_18_method_56_code, 2, some .char)
theorem ch_w_ca : Cond.code ch_Y_ca.1 ch_Y_ca.2.1 ch_Y_ca.2.2.1 ch_Y_ca.2.2.2 ∈ am_B := am_inB am_tb_3 (j := 205) rfl rfl
theorem ch_i_ca : Cond.initialized ch_Y_ca.1.cls ∈ am_B := am_inB am_tb_1 (j := 20) rfl rfl
theorem ch_d_ca0 : decode prog_18_method_56_code 0 = .ok (.aload_n 0, 1) := by decide +kernel
theorem ch_d_ca1 : decode prog_18_method_56_code 1 = .ok (.invokevirtual 492, 3) := by decide +kernel
theorem ch_d_ca4 : decode prog_18_method_56_code 4 = .ok (.ifCond .eq 12, 3) := by decide +kernel
theorem ch_d_ca7 : decode prog_18_method_56_code 7 = .ok (.aload_n 0, 1) := by decide +kernel
theorem ch_d_ca8 : decode prog_18_method_56_code 8 = .ok (.getfield 9, 3) := by decide +kernel
theorem ch_d_ca11 : decode prog_18_method_56_code 11 = .ok (.iload_n 1, 1) := by decide +kernel
theorem ch_d_ca12 : decode prog_18_method_56_code 12 = .ok (.invokestatic 495, 3) := by decide +kernel
theorem ch_d_ca15 : decode prog_18_method_56_code 15 = .ok (.ireturn, 1) := by decide +kernel
theorem ch_d_ca16 : decode prog_18_method_56_code 16 = .ok (.aload_n 0, 1) := by decide +kernel
theorem ch_d_ca17 : decode prog_18_method_56_code 17 = .ok (.getfield 9, 3) := by decide +kernel
theorem ch_d_ca20 : decode prog_18_method_56_code 20 = .ok (.iload_n 1, 1) := by decide +kernel
theorem ch_d_ca21 : decode prog_18_method_56_code 21 = .ok (.invokestatic 498, 3) := by decide +kernel
theorem ch_d_ca24 : decode prog_18_method_56_code 24 = .ok (.ireturn, 1) := by decide +kernel
section CHC
variable {l : Launch} {N0 : Nat}
/-- a local -/
theorem ch_l {la : Array Slot} {nL : Nat} {ls : List (Nat × Value)} (h : lv_has la nL ls) (k : Nat) {i : Nat} {v : Value} (hk : ls[k]? = some (i, v)) : la[i]? = some (.val v) := lv_at h k hk
theorem ch_pc {i n : Int32} {z : Value} (hz : z.category = 1) (h1 : ¬ i < 0) (h2 : i < n) : ch_M l N0 ch_Y_pc 0 0 [.int i, .int n, z] (fun _ _ => True) (some (.int i)) := by
  refine ch_met (by decide) (by show 1 + (1 + (z.category + 0)) ≤ 3; omega) ?_
  intro p e s m below meth c la hfix hrt hlk _ hla
  obtain ⟨hx, hb, hml, hown, hts⟩ := hfix
  have l0 : la[0]? = some (.val (.int i)) := ch_l hla 0 rfl
  have l1 : la[1]? = some (.val (.int n)) := ch_l hla 1 rfl
  refine lv_iload_n hx hb ch_d_pc0 rfl l0 ?_
  refine lv_if_lt (tgt := 9) hx hb ch_d_pc1 rfl (fun q => absurd q h1) (fun _ => ?_)
  refine lv_iload_n hx hb ch_d_pc4 rfl l0 ?_
  refine lv_iload_n hx hb ch_d_pc5 rfl l1 ?_
  refine lv_icmp_lt (tgt := 16) hx hb ch_d_pc6 rfl (fun _ => ?_) (fun q => absurd h2 q)
  refine lv_iload_n hx hb ch_d_pc16 rfl l0 ?_
  exact W.zret hx hb hrt rfl (fun t ht _ => ⟨rfl, ht⟩) (fun q hq => by cases hq) ch_d_pc17 hlk
theorem ch_SS {s : State} {L : List Loc} (hL : ∀ q ∈ L, N0 ≤ q.base) : va_S (fun q => N0 ≤ q) s.heap s.heap L := ⟨Nat.le_refl _, fun _ _ _ => rfl, hL⟩
theorem ch_true : am_Fx N0 (fun _ _ => True) := ⟨fun _ _ _ _ _ => trivial, fun _ _ _ _ _ => trivial, fun _ _ _ _ _ _ => trivial⟩
theorem ch_sc {i n : Int32} (h1 : ¬ i < 0) (h2 : i < n) : ch_M l N0 ch_Y_sc 1 22 [.int i, .int n] (ch_Z N0) none := by
  refine ch_met (by decide) (Nat.le_of_ble_eq_true rfl) ?_
  intro p e s m below meth c la hfix hrt hlk hF hla
  have hfix' := hfix
  obtain ⟨hx, hb, hml, hown, hts⟩ := hfix
  have l0 : la[0]? = some (.val (.int i)) := ch_l hla 0 rfl
  have l1 : la[1]? = some (.val (.int n)) := ch_l hla 1 rfl
  refine lv_iload_n hx hb ch_d_sc0 rfl l0 ?_
  refine lv_iload_n hx hb ch_d_sc1 rfl l1 ?_
  have fin : ∀ z : Value, z.category = 1 → va_Z "jdk/internal/util/Preconditions" "SIOOBE_FORMATTER" "Ljava/util/function/BiFunction;" z (fun q => N0 ≤ q) s s.heap → W p l e { frames := 1, cells := 0, slots := 0, locals := 22 } s m ([Value.int i, .int n] : List Value).toArray below meth c s.heap [] 0 0 (MQ below (ch_Q none) ([Value.int i, .int n] : List Value).toArray s 0 0 (fun q => N0 ≤ q)) (F0 m 2 la [.int n, .int i]) := by
    intro z hz hZ
    refine va_gets (own := "java/lang/String") (index := 1053) hx hb hZ va_S.rf hown (hts _ (am_inB am_tb_3 (j := 218) rfl rfl)) (fun _ q => q) ch_d_sc2 ?_
    refine ch_cs (N0 := N0) (Y := ch_Y_pc) (as := [.int i, .int n, z]) (rest := []) hfix' (ch_pc hz h1 h2) ch_true trivial ch_w_pc ch_i_pc (am_inB am_tb_3 (j := 220) rfl rfl) (am_inB am_tb_3 (j := 221) rfl rfl) ⟨by decide, by decide, by show (parseMethodDescriptor ch_y_pc.desc).map (fun d => d.parameters.length) = some 3; decide +kernel⟩ ⟨Nat.le_refl _, Nat.le_refl _⟩ hla.1 (Nat.zero_le _) ⟨Nat.le_refl _, Nat.le_refl _⟩ ch_d_sc5 (fun L hL => ?_)
    refine lv_pop (va := .int i) hx hb ch_d_sc8 rfl ?_
    exact W.vret hx hb hrt (fun t ht _ => ⟨rfl, ht⟩) hL ch_d_sc9 hlk
  rcases hF.2 with hZ | ⟨t, hZ⟩
  · exact fin .null rfl hZ
  · exact fin (.ref t) rfl hZ
theorem ch_la {ad av : Nat} {bs : List Int32} {i x : Int32} (hN : bs.length < 2 ^ 31) (h1 : ¬ i < 0) (h2 : bs[i.toNatClampNeg]? = some x) (h3 : x &&& 255 = x) (h4 : (x.toUInt32 % 65536).toInt32 = x) (h5 : narrow .char (.int x) = .int x) : ch_M l N0 ch_Y_la 2 43 [.ref av, .int i] (fun U H => ch_Z N0 U H ∧ ch_S N0 ad av bs U H) (some (.int x)) := by
  refine ch_met (by decide) (Nat.le_of_ble_eq_true rfl) ?_
  intro p e s m below meth c la hfix hrt hlk hF hla
  have hfix' := hfix
  obtain ⟨hx, hb, hml, hown, hts⟩ := hfix
  have hlt : i.toNatClampNeg < bs.length := (List.getElem?_eq_some_iff.mp h2).1
  have l0 : la[0]? = some (.val (.ref av)) := ch_l hla 0 rfl
  have l1 : la[1]? = some (.val (.int i)) := ch_l hla 1 rfl
  have hin : i < Int32.ofNat bs.length := by
    have e1 := x_ofn h1
    rw [← e1]
    exact (Int32.ofNat_lt_ofNat (by omega) hN).mpr hlt
  refine lv_iload_n hx hb ch_d_la0 rfl l1 ?_
  refine lv_aload_n hx hb ch_d_la1 rfl l0 ?_
  refine va_tlen hx hb hF.2.2.2.2 va_S.rf rfl ch_d_la2 ?_
  refine ch_cs (Y := ch_Y_sc) (as := [.int i, .int (Int32.ofNat bs.length)]) (rest := []) hfix' (ch_sc h1 hin) (ch_Z_ok N0) hF.1 ch_w_sc ch_i_sc (am_inB am_tb_3 (j := 215) rfl rfl) (am_inB am_tb_3 (j := 216) rfl rfl) ⟨by decide, by decide, by show (parseMethodDescriptor ch_y_sc.desc).map (fun d => d.parameters.length) = some 2; decide +kernel⟩ ⟨Nat.le_refl _, Nat.le_refl _⟩ hla.1 (Nat.zero_le _) ⟨Nat.le_refl _, Nat.le_refl _⟩ ch_d_la3 (fun L hL => ?_)
  refine lv_aload_n hx hb ch_d_la6 rfl l0 ?_
  refine lv_iload_n hx hb ch_d_la7 rfl l1 ?_
  refine va_tb (v := .int x) hx hb hF.2.2.2.2 (ch_SS hL) (fun q => q.elim h1 (fun z => absurd hlt (Nat.not_lt.mpr z))) (by show Value.int (bs.getD i.toNatClampNeg 0) = _; rw [List.getD_eq_getElem?_getD, h2]; rfl) ch_d_la8 ?_
  refine lv_sipush (v := 255) hx hb ch_d_la9 (by decide) ?_
  refine lv_iand hx hb ch_d_la12 ?_
  refine lv_i2c (v := x) hx hb ch_d_la13 (by rw [h3]; exact h4) ?_
  exact W.zret hx hb hrt h5 (fun t ht _ => ⟨rfl, ht⟩) hL ch_d_la14 hlk
theorem ch_is {ad av : Nat} {bs : List Int32} : ch_M l N0 ch_Y_is 0 0 [.ref ad] (fun U H => ch_Z N0 U H ∧ ch_S N0 ad av bs U H) (some (.int 1)) := by
  refine ch_met (by decide) (Nat.le_of_ble_eq_true rfl) ?_
  intro p e s m below meth c la hfix hrt hlk hF hla
  obtain ⟨hx, hb, hml, hown, hts⟩ := hfix
  have l0 : la[0]? = some (.val (.ref ad)) := ch_l hla 0 rfl
  refine va_gets (own := "java/lang/String") (index := 38) hx hb hF.1.1 va_S.rf hown (hts _ (am_inB am_tb_3 (j := 210) rfl rfl)) (fun _ q => q) ch_d_is0 ?_
  refine lv_if_eq (tgt := 17) hx hb ch_d_is3 rfl (fun q => absurd q (by decide)) (fun _ => ?_)
  refine lv_aload_n hx hb ch_d_is6 rfl l0 ?_
  refine vk_getf (own := "java/lang/String") (index := 15) hx hb hF.2.2.1 va_S.rf hown (hts _ (am_inB am_tb_12 (j := 76) rfl rfl)) (fun _ q => q) ch_d_is7 ?_
  refine lv_if_ne (tgt := 17) hx hb ch_d_is10 rfl (fun q => absurd rfl q) (fun _ => ?_)
  refine lv_iconst (v := 1) hx hb ch_d_is13 rfl ?_
  refine lv_goto (tgt := 18) hx hb ch_d_is14 rfl ?_
  exact W.zret hx hb hrt rfl (fun t ht _ => ⟨rfl, ht⟩) (fun q hq => by cases hq) ch_d_is18 hlk
theorem ch_ca {ad av : Nat} {bs : List Int32} {i x : Int32} (hN : bs.length < 2 ^ 31) (h1 : ¬ i < 0) (h2 : bs[i.toNatClampNeg]? = some x) (h3 : x &&& 255 = x) (h4 : (x.toUInt32 % 65536).toInt32 = x) (h5 : narrow .char (.int x) = .int x) : ch_M l N0 ch_Y_ca 3 64 [.ref ad, .int i] (fun U H => ch_Z N0 U H ∧ ch_S N0 ad av bs U H) (some (.int x)) := by
  refine ch_met (by decide) (Nat.le_of_ble_eq_true rfl) ?_
  intro p e s m below meth c la hfix hrt hlk hF hla
  have hfix' := hfix
  obtain ⟨hx, hb, hml, hown, hts⟩ := hfix
  have l0 : la[0]? = some (.val (.ref ad)) := ch_l hla 0 rfl
  have l1 : la[1]? = some (.val (.int i)) := ch_l hla 1 rfl
  have hrc : ∃ cellB : Cell, s.heap[ad]? = some cellB ∧ cellB.vm.isStatics = false ∧ s.vm.findClass "java/lang/String" = some cellB.cls := by
    obtain ⟨cell, c1, c2, c3, -⟩ := hF.2.1
    exact ⟨cell, c1, c2, c3⟩
  refine lv_aload_n hx hb ch_d_ca0 rfl l0 ?_
  refine ch_cv (Y := ch_Y_is) (as := []) (rest := []) hfix' (ch_is (av := av) (bs := bs)) (ch_and (ch_Z_ok N0) (ch_S_ok N0 ad av bs)) hF ch_w_is ch_i_is (am_inB am_tb_3 (j := 206) rfl rfl) (am_inB am_tb_3 (j := 207) rfl rfl) (am_inB am_tb_3 (j := 208) rfl rfl) hrc ⟨by decide, by decide, by show (parseMethodDescriptor ch_y_is.desc).map (fun d => d.parameters.length) = some 0; decide +kernel⟩ ⟨Nat.le_of_ble_eq_true rfl, Nat.le_of_ble_eq_true rfl⟩ hla.1 (Nat.zero_le _) ⟨Nat.le_refl _, Nat.le_refl _⟩ ch_d_ca1 (fun L hL => ?_)
  refine lv_if_eq (x := 1) (tgt := 16) hx hb ch_d_ca4 rfl (fun q => absurd q (by decide)) (fun _ => ?_)
  refine lv_aload_n hx hb ch_d_ca7 rfl l0 ?_
  refine vk_getf (own := "java/lang/String") (index := 9) hx hb hF.2.2.2.1 (ch_SS hL) hown (hts _ (am_inB am_tb_12 (j := 77) rfl rfl)) (fun _ q => q) ch_d_ca8 ?_
  refine lv_iload_n hx hb ch_d_ca11 rfl l1 ?_
  refine ch_cs (Y := ch_Y_la) (as := [.ref av, .int i]) (rest := []) hfix' (ch_la (ad := ad) hN h1 h2 h3 h4 h5) (ch_and (ch_Z_ok N0) (ch_S_ok N0 ad av bs)) hF ch_w_la ch_i_la (am_inB am_tb_3 (j := 212) rfl rfl) (am_inB am_tb_3 (j := 213) rfl rfl) ⟨by decide, by decide, by show (parseMethodDescriptor ch_y_la.desc).map (fun d => d.parameters.length) = some 2; decide +kernel⟩ ⟨Nat.le_of_ble_eq_true rfl, Nat.le_of_ble_eq_true rfl⟩ hla.1 (Nat.zero_le _) ⟨Nat.le_refl _, Nat.le_refl _⟩ ch_d_ca12 (fun L2 hL2 => ?_)
  exact W.zret hx hb hrt h5 (fun t ht _ => ⟨rfl, ht⟩) (fun q hq => (List.mem_append.mp hq).elim (hL q) (hL2 q)) ch_d_ca15 hlk
end CHC
theorem ch_all : ∀ (j i : Nat) (x : Int32), (am_tx.getD j [])[i]? = some x → (x &&& 255 = x) ∧ (x.toUInt32 % 65536).toInt32 = x ∧ narrow .char (.int x) = .int x := by
  have key : ∀ bs ∈ am_tx, ∀ x ∈ bs, (x &&& 255 = x) ∧ (x.toUInt32 % 65536).toInt32 = x := by decide +kernel
  intro j i x h
  have hx : x ∈ am_tx.getD j [] := List.mem_of_getElem? h
  have hj : am_tx.getD j [] ∈ am_tx := by
    rw [List.getD_eq_getElem?_getD] at hx ⊢
    cases hq : am_tx[j]? with
    | none => rw [hq] at hx; cases hx
    | some bs => exact List.mem_of_getElem? hq
  obtain ⟨k1, k2⟩ := key _ hj x hx
  exact ⟨k1, k2, by show Value.int _ = _; first | (rw [k2]; done) | (simp [narrow, k2])⟩
theorem ch_len (j : Nat) : (am_tx.getD j []).length < 2 ^ 31 := by
  match j with
  | 0 => decide +kernel
  | 1 => decide +kernel
  | 2 => decide +kernel
  | 3 => decide +kernel
  | j + 4 => rw [lw_gd _ _ _ (show am_tx.length ≤ j + 4 from Nat.le_add_left _ _)]; decide
theorem ch_uni {own tx tx2 : String} {k a b : Nat} {U : State} (h1 : vk_R own k tx a U) (h2 : vk_R own k tx2 b U) : a = b := by
  have := h1.2.symm.trans h2.2
  cases this
  rfl
/-- charAt is as the abstract machine has it -/
theorem ch_chr {l : Launch} {D : va_G} {dI : FieldType → ClassId} {N0 : Nat} {fl : Nat → Nat} {Fo : State → Heap → Prop} (hFy : ∀ (U : State) (H : Heap), Fo U H → ch_Fy N0 U H) (hfl : ∀ (U : State) (H : Heap), Fo U H → ∀ (j : Nat) (q : String × Nat × String), am_ss[j]? = some q → vk_R q.1 q.2.1 q.2.2 (fl (j + 1)) U) (hFx : am_Fx N0 Fo)
    (p : Program) (e : Env) (R : Room) (s : State) (m : MethodId) (args : Array Value) (below : List Frame) (meth : Method) (c : Code) (Q : State → Prop) (H0 : Heap) (M : am_M) :
    am_Chr p l e R s m args below meth c Q D am_clx dI am_tl N0 fl Fo H0 am_B am_N am_cs M := by
  intro pc ls st h k n i j ix x hE hd hml h1 hRf hRl hst hcs hk hn kk
  intro H locs la a1 a2 a3 a4
  have hts := hE.2.2.2.2.1
  have hfix : CallFix p m c M.2.1 M.2.2.1 s args am_B M.1.cls := ⟨hE.1, hE.2.1, hE.2.2.1, hE.2.2.2.1, hts⟩
  obtain ⟨j, rfl⟩ : ∃ j' : Nat, j = j' + 1 := by
    cases j with
    | zero => cases hcs
    | succ j => exact ⟨j, rfl⟩
  have hcs : (am_tx.getD j [])[ix.toNatClampNeg]? = some x := hcs
  have hj : j < 4 := Nat.lt_of_not_le fun q => by
    rw [lw_gd _ _ _ (show am_tx.length ≤ j from q)] at hcs
    cases hcs
  obtain ⟨q, hq⟩ : ∃ q, am_ss[j]? = some q := ⟨_, List.getElem?_eq_getElem (show j < am_ss.length from hj)⟩
  obtain ⟨ad, av, r1, r2⟩ := (hFy s H a1.2.2.1).2 j q hq
  have had : fl (j + 1) = ad := ch_uni (hfl s H a1.2.2.1 j q hq) r1
  obtain ⟨g1, g2, g3⟩ := ch_all j _ x hcs
  have hrc : ∃ cellB : Cell, H[ad]? = some cellB ∧ cellB.vm.isStatics = false ∧ s.vm.findClass "java/lang/String" = some cellB.cls := by
    obtain ⟨cell, c1, c2, c3, -⟩ := r2.1
    exact ⟨cell, c1, c2, c3⟩
  show W p l e R s m args below meth c H locs k n Q (F0 m pc la (.int ix :: .ref (fl (j + 1)) :: st.map (am_v N0 fl)))
  rw [had]
  refine ch_cv (N0 := N0) (Y := ch_Y_ca) (as := [.int ix]) (rest := st.map (am_v N0 fl)) hfix (ch_ca (ad := ad) (av := av) (ch_len j) h1 hcs g1 g2 g3) (ch_and (ch_Z_ok N0) (ch_S_ok N0 ad av _)) ⟨(hFy s H a1.2.2.1).1, r2⟩ ch_w_ca ch_i_ca hml (am_inB am_tb_3 (j := 203) rfl rfl) (am_inB am_tb_3 (j := 204) rfl rfl) hrc ⟨by decide, by decide, by show (parseMethodDescriptor ch_y_ca.desc).map (fun d => d.parameters.length) = some 1; decide +kernel⟩ ⟨hRf, by show 8 + (2 + 11) + 64 ≤ R.locals; omega⟩ a3.1 (by rw [am_sum_eq, am_sum_map]; exact hst) ⟨hk, hn⟩ hd (fun L hL => ?_)
  exact kk H (locs ++ L) la a1 ⟨a2.1, a2.2.1, fun q hq => (List.mem_append.mp hq).elim (a2.2.2 q) (hL q)⟩ a3 a4
