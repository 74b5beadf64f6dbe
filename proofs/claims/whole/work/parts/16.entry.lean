/-! From a free run of the law to its walk. -/
theorem am_over2 {args : Array Value} {s : State} (h : (Cond.arrayOver (.array .int)).before args s = true) :
    ∃ comp c k, s.vm.findClass (FieldType.array .int).toString = some comp ∧ (s.vm.classes.findIdx? fun x => match x.kind with | .array component _ => component == comp | _ => false) = some c ∧ s.vm.classes[c]? = some k ∧ k.kind = .array comp (.array .int) ∧ s.vm.findClass ("[" ++ (FieldType.array .int).toString) = some c := by
  simp only [Cond.before, Cond.holds, Cond.value, beq_iff_eq] at h
  cases hc : s.vm.findClass (FieldType.array .int).toString with
  | none => simp [hc] at h
  | some comp =>
    simp only [hc, Option.bind_some, Option.bind_eq_some_iff, Option.map_eq_some_iff] at h
    obtain ⟨c, hi, k, hk, hb⟩ := h
    have hi0 := hi
    obtain ⟨hlt, hp, -⟩ := Array.findIdx?_eq_some_iff_getElem.mp hi
    have hkk : s.vm.classes[c] = k := (Array.getElem?_eq_some_iff.mp hk).2
    rw [hkk] at hp
    cases hkind : k.kind with
    | array component ty =>
      rw [hkind] at hb hp
      simp at hb hp
      exact ⟨comp, c, k, rfl, hi0, hk, by rw [hkind, hp, hb.1], hb.2⟩
    | _ => rw [hkind] at hb; simp at hb
theorem am_AI_moved {u U : State} (hvm : u.vm.Alike U.vm) (h : (Cond.arrayOver (.array .int)).before #[] u = true) : (Cond.arrayOver (.array .int)).before #[] U = true := by
  obtain ⟨comp, c, k, h1, h2, h3, h4, h5⟩ := am_over2 h
  obtain ⟨k', hk', he⟩ := hvm.2.2 _ _ h3
  have hi : (U.vm.classes.findIdx? fun (x : Class) => match x.kind with | .array component _ => component == comp | _ => false) = some c := by
    have g1 := va_idx_bare (comp := comp) (vm := u.vm)
    have g2 := va_idx_bare (comp := comp) (vm := U.vm)
    have g3 := g1.trans h2
    first | rw [hvm.bare_eq] at g2 | rw [← hvm.bare_eq] at g2
    exact g2.symm.trans g3
  have hkind : k'.kind = .array comp (.array .int) := by rw [he]; exact h4
  have f1 : U.vm.findClass (FieldType.array .int).toString = some comp := by rw [hvm.findClass]; exact h1
  have f2 : U.vm.findClass ("[" ++ (FieldType.array .int).toString) = some c := by rw [hvm.findClass]; exact h5
  unfold Cond.before Cond.holds
  simp only [Cond.value]
  rw [f1, Option.bind_some]
  refine (congrArg (fun o : Option Nat => (o.bind (fun c => (U.vm.classes[c]?).map fun (k : Class) => match k.kind with | .array _ ty => decide (ty = FieldType.array .int) && decide (U.vm.findClass ("[" ++ (FieldType.array .int).toString) = some c) | _ => false) == some true)) hi).trans ?_
  simp [hk', hkind, f2]
/-- what is there before the law begins, and stays: the script, the texts, the arrays' classes; Fy: what else is wanted -/
def am_Fo (b L : Nat) (xs : Nat → Int32) (N0 : Nat) (fl : Nat → Nat) (Fy : State → Heap → Prop) : State → Heap → Prop := fun U H =>
  (va_X b L xs U H ∧ fl 0 = b ∧ b < N0) ∧ (∀ (j : Nat) (q : String × Nat × String), am_ss[j]? = some q → vk_R q.1 q.2.1 q.2.2 (fl (j + 1)) U) ∧ (va_AO "TerminalHouse$Window" U ∧ va_AO "TerminalHouse$Entry" U ∧ (Cond.arrayOver (.array .int)).before #[] U = true) ∧ Fy U H
theorem am_Fo_ok {b L : Nat} {xs : Nat → Int32} {N0 : Nat} {fl : Nat → Nat} {Fy : State → Heap → Prop} (hy : am_Fx N0 Fy) : am_Fx N0 (am_Fo b L xs N0 fl Fy) := by
  refine ⟨fun U H H1 h hq => ?_, fun u U H hW h => ?_, fun U g mk a H h => ?_⟩
  · obtain ⟨⟨h1, h2, h3⟩, h4, h5, h6⟩ := h
    exact ⟨⟨h1.kept (hq b h3), h2, h3⟩, h4, h5, hy.1 U H H1 h6 hq⟩
  · obtain ⟨⟨h1, h2, h3⟩, h4, h5, h6⟩ := h
    exact ⟨⟨h1.moved hW.alike, h2, h3⟩, fun j q hj => (h4 j q hj).warm hW, ⟨h5.1.moved hW.alike, h5.2.1.moved hW.alike, am_AI_moved hW.alike h5.2.2⟩, hy.2.1 u U H hW h6⟩
  · obtain ⟨⟨h1, h2, h3⟩, h4, h5, h6⟩ := h
    exact ⟨⟨h1.moved (u := U) (U := U.calling g mk a) (Vm.Alike.refl _), h2, h3⟩, fun j q hj => (h4 j q hj).same (u := U) (U := U.calling g mk a) rfl, ⟨h5.1.moved (u := U) (U := U.calling g mk a) (Vm.Alike.refl _), h5.2.1.moved (u := U) (U := U.calling g mk a) (Vm.Alike.refl _), am_AI_moved (u := U) (U := U.calling g mk a) (Vm.Alike.refl _) h5.2.2⟩, hy.2.2 U g mk a H h6⟩
theorem am_Fo_Fs {b L : Nat} {xs : Nat → Int32} {N0 : Nat} {fl : Nat → Nat} {Fy : State → Heap → Prop} : am_Fs fl (am_Fo b L xs N0 fl Fy) := ⟨fun U H h => h.2.1, fun U H h => h.2.2.1⟩
/-- a word of tables_1, by its place in a chunk -/
theorem am_inT {l : List Cond} (hl : l ∈ am_tb) {w : Cond} {j : Nat} (h : l[j]? = some w) : w ∈ lw_tbl := by
  rw [am_tb_eq]
  exact List.mem_flatten.mpr ⟨l, hl, List.mem_of_getElem? h⟩
theorem am_ss_w : ∀ (j : Nat) (q : String × Nat × String), am_ss[j]? = some q → Cond.stringRef q.1 q.2.1 q.2.2 ∈ lw_tbl ∧ Cond.initialized q.1 ∈ lw_tbl := fun j q h => by
  match j, h with
  | 0, h => cases h; exact ⟨am_inT am_tb_3 (j := 201) rfl, am_inT am_tb_1 (j := 1) rfl⟩
  | 1, h => cases h; exact ⟨am_inT am_tb_6 (j := 179) rfl, am_inT am_tb_1 (j := 10) rfl⟩
  | 2, h => cases h; exact ⟨am_inT am_tb_6 (j := 181) rfl, am_inT am_tb_1 (j := 10) rfl⟩
  | 3, h => cases h; exact ⟨am_inT am_tb_8 (j := 110) rfl, am_inT am_tb_1 (j := 15) rfl⟩
  | n + 4, h => cases h
theorem am_ao_w : Cond.arrayOver (.object "TerminalHouse$Window") ∈ lw_tbl ∧ Cond.arrayOver (.object "TerminalHouse$Entry") ∈ lw_tbl ∧ Cond.arrayOver (.array .int) ∈ lw_tbl ∧ Cond.instantiable "java/util/NoSuchElementException" 6 ∈ lw_tbl := ⟨am_inT am_tb_2 (j := 24) rfl, am_inT am_tb_1 (j := 40) rfl, am_inT am_tb_1 (j := 198) rfl, am_inT am_tb_7 (j := 206) rfl⟩
section ENTRY
variable {p : Program} {e : Env} {s : State} {m : MethodId} {below : List Frame} {meth : Method} {c : Code}
/-- the classes' numbers and slots, the arrays' classes, at the law's entry -/
theorem am_known {args : Array Value} (hts : ∀ w ∈ lw_tbl, w.before args s = true) : ∃ (D : va_G) (dI : FieldType → ClassId), va_K D am_clx (am_ty dI am_tl) s := by
  have htb : ∀ w ∈ am_B, w.before args s = true := fun w hw => hts w (List.mem_filter.mp hw).1
  have h1 : ∀ c : Nat, ∃ q : ClassId × (Nat → Nat), ∀ r : vw_C, am_clx[c]? = some r → u_Kn s r.1 r.2.1 r.2.2 q.1 q.2 := by
    intro c
    by_cases hc : c < 13
    · have hcb : ∃ r : vw_C, am_clb[c]? = some r := ⟨_, List.getElem?_eq_getElem (show c < am_clb.length from hc)⟩
      obtain ⟨⟨C, T, N⟩, hr⟩ := hcb
      obtain ⟨fs, -, -, -, -, -, f6, f7, -⟩ := am_cls_ok.2 c C T N hr
      obtain ⟨cC, iS, hK⟩ := u_known htb f6 (htb _ f7)
      refine ⟨(cC, iS), fun r hr2 => ?_⟩
      have := am_cls_ok.1.1 _ _ hr
      cases this.symm.trans hr2
      exact hK
    · by_cases h13 : c = 13
      · subst h13
        obtain ⟨cC, hC⟩ := classAt_of (hts _ am_ao_w.2.2.2)
        refine ⟨(cC, fun _ => 0), fun r hr2 => ?_⟩
        cases hr2
        exact ⟨fun k hk => absurd hk (Nat.not_lt_zero _), hC⟩
      · refine ⟨(0, fun _ => 0), fun r hr2 => ?_⟩
        rw [List.getElem?_eq_none (show am_clx.length ≤ c by show 14 ≤ c; omega)] at hr2
        cases hr2
  have h2 : ∀ t : FieldType, ∃ cA : ClassId, t ∈ am_tl → ArrOfT s cA t ∧ va_RA s cA t := by
    intro t
    have prim : ∀ t : FieldType, Cond.arrayClass t ∈ am_B → (∀ cA : ClassId, va_RA s cA t = (s.vm.findClass ("[" ++ t.toString) = some cA)) → ∃ cA : ClassId, ArrOfT s cA t ∧ va_RA s cA t := fun t ht hr => by
      obtain ⟨cA, kA, comp, q1, q2, q3⟩ := Cond.arrayClass_spec (htb _ ht)
      exact ⟨cA, fun n z => ⟨(fun k h => by cases h), kA, q2, comp, q3⟩, by rw [hr]; exact q1⟩
    have objs : ∀ C : String, Cond.arrayOver (.object C) ∈ lw_tbl → ∃ cA : ClassId, ArrOfT s cA (.object C) ∧ va_RA s cA (.object C) := fun C hC => by
      obtain ⟨comp, cA, kA, q1, -, q3, q4, q5⟩ := Cond.arrayOver_spec (hts _ hC)
      exact ⟨cA, fun n z => ⟨(fun k h => by cases h), kA, q3, comp, q4⟩, kA, comp, q3, q4, q1, q5⟩
    by_cases ht : t ∈ am_tl
    · have key : ∃ cA : ClassId, ArrOfT s cA t ∧ va_RA s cA t := by
        simp only [am_tl, List.mem_cons, List.not_mem_nil, or_false] at ht
        rcases ht with rfl | rfl | rfl | rfl | rfl | rfl | rfl
        · exact prim _ am_AR_w.1 fun _ => rfl
        · exact prim _ am_AR_w.2.1 fun _ => rfl
        · exact prim _ am_AR_w.2.2.1 fun _ => rfl
        · exact prim _ am_AR_w.2.2.2 fun _ => rfl
        · obtain ⟨comp, cA, kA, q1, -, q3, q4, q5⟩ := am_over2 (hts _ am_ao_w.2.2.1)
          exact ⟨cA, fun n z => ⟨(fun k h => by cases h), kA, q3, comp, q4⟩, q5⟩
        · exact objs _ am_ao_w.1
        · exact objs _ am_ao_w.2.1
      obtain ⟨cA, hcA⟩ := key
      exact ⟨cA, fun _ => hcA⟩
    · exact ⟨0, fun h => absurd h ht⟩
  refine ⟨(fun c => (Classical.choose (h1 c)).1, fun c => (Classical.choose (h1 c)).2), fun t => Classical.choose (h2 t), fun c q hq => Classical.choose_spec (h1 c) q hq, fun k q hq => ?_⟩
  unfold am_ty at hq
  rw [List.getElem?_map] at hq
  obtain ⟨t, ht, rfl⟩ := Option.map_eq_some_iff.mp hq
  exact Classical.choose_spec (h2 t) (List.mem_of_getElem? ht)
/-- the texts' cells -/
theorem am_texts {args : Array Value} (hts : ∀ w ∈ lw_tbl, w.before args s = true) (b : Nat) : ∃ fl : Nat → Nat, fl 0 = b ∧ ∀ (j : Nat) (q : String × Nat × String), am_ss[j]? = some q → vk_R q.1 q.2.1 q.2.2 (fl (j + 1)) s := by
  have h1 : ∀ j : Nat, ∃ a : Nat, ∀ q : String × Nat × String, am_ss[j]? = some q → vk_R q.1 q.2.1 q.2.2 a s := by
    intro j
    cases hj : am_ss[j]? with
    | none => exact ⟨0, fun q h => by cases h⟩
    | some q =>
      obtain ⟨w1, w2⟩ := am_ss_w j q hj
      obtain ⟨cC, hcC⟩ : ∃ cC, s.vm.findClass q.1 = some cC := by
        have := hts _ w2
        cases hf : s.vm.findClass q.1 with
        | some cC => exact ⟨cC, rfl⟩
        | none => simp [Cond.before, Cond.holds, Cond.value, hf] at this
      obtain ⟨k, cf, i, a, -, -, -, -, -, hev⟩ := Cond.stringRef_spec hcC (hts _ w1)
      refine ⟨a, fun q2 h => ?_⟩
      cases h
      exact vk_R.of (A := args) (hts _ w1) hev
  exact ⟨fun j => match j with
    | 0 => b
    | j + 1 => Classical.choose (h1 j), rfl, fun j q hj => Classical.choose_spec (h1 j) q hj⟩
/-- the law's walk out of its free run -/
theorem am_whole (l : Launch) {b L : Nat} {xs : Nat → Int32} {cs : Nat → Nat → Option Int32} {A : am_A} (C0 : lw_At p s m meth c b L xs) (hrun : aX L xs cs 417 0 [(0, .retAddr 0)] [] [] 0 0 = some A) (hA : A.1 = some (.int 1)) (hk : A.2.2.1 ≤ 601024) (hn : A.2.2.2 ≤ 7293000)
    {Fy : State → Heap → Prop} (hFy : am_Fx s.heap.size Fy) (hFy0 : Fy s s.heap)
    (hop : ∀ (D : va_G) (dI : FieldType → ClassId) (fl : Nat → Nat) (p : Program) (e : Env) (R : Room) (s' : State) (m : MethodId) (args : Array Value) (below : List Frame) (meth : Method) (c : Code) (Q : State → Prop) (H0 : Heap) (M : am_M),
      am_Chr p l e R s' m args below meth c Q D am_clx dI am_tl s.heap.size fl (am_Fo b L xs s.heap.size fl Fy) H0 am_B am_N cs M ∧ am_Oct p l e R s' m args below meth c Q D am_clx dI am_tl s.heap.size fl (am_Fo b L xs s.heap.size fl Fy) H0 am_B am_N M) :
    W p l e room_1 s m #[Value.ref b] below meth c s.heap [] 0 0 (lw_Z below #[Value.ref b] s) (entryFrame m ([Value.ref b] : List Value).toArray 7) := by
  obtain ⟨hx, hb, hr, hml, hown, hts, hX, hbl, hlk, hgv⟩ := C0
  obtain ⟨D, dI, hK⟩ := am_known hts
  obtain ⟨fl, hf0, hfs⟩ := am_texts hts b
  have hF : am_Fx s.heap.size (am_Fo b L xs s.heap.size fl Fy) := am_Fo_ok hFy
  have hFo : am_Fo b L xs s.heap.size fl Fy s s.heap := ⟨⟨hX, hf0, hbl⟩, hfs, ⟨va_AO.of (hts _ am_ao_w.1), va_AO.of (hts _ am_ao_w.2.1), hts _ am_ao_w.2.2.1⟩, hFy0⟩
  have hT : am_Tab l D am_clx dI am_tl s.heap.size fl (am_Fo b L xs s.heap.size fl Fy) am_B am_N am_clb am_ctb "TerminalHouse" am_co am_mt L xs cs := by
    refine ⟨am_cls_ok, hF, am_N_good, am_B_good, fun U H h => ⟨by rw [h.1.2.1]; exact h.1.1, by rw [h.1.2.1]; exact h.1.2.2⟩, am_co_ok am_Fo_Fs, fun p e R s' m args below meth c Q H0 M => ⟨am_mna_ok hF.1, (hop D dI fl p e R s' m args below meth c Q H0 M).1, (hop D dI fl p e R s' m args below meth c Q H0 M).2⟩⟩
  obtain ⟨f, hf⟩ := am_X_iff.mp hrun
  have hfx := am_free am_dq_ok f _ _ _ _ _ _ _ A 15 706 (by decide +kernel) (by decide +kernel) hf
  have hR := am_run hT f 15 706 417 0 _ _ _ _ _ A hfx
  have hE : am_Ev p s m #[Value.ref b] meth c am_B am_N D am_clx dI am_tl (am_mt 417) :=
    ⟨hx, hb, hml, hown, fun w hw => hts w (List.mem_filter.mp hw).1, fun w hw => hts w (List.mem_filter.mp hw).1, hK, hr, hlk, fun h => absurd h (by decide +kernel)⟩
  rw [lg_entry_eq]
  have hl := lv_entry ([Value.retAddr 0].map (am_v s.heap.size fl)) (n := 7) (Nat.le_of_ble_eq_true rfl)
  rw [am_lv_args] at hl
  have e0 : ([Value.retAddr 0] : List Value).map (am_v s.heap.size fl) = [Value.ref b] := by
    show [Value.ref (fl 0)] = _
    rw [hf0]
  rw [e0] at hl
  refine hR p e room_1 s m _ below meth c (lw_Z below #[Value.ref b] s) s.heap hE ⟨rfl, rfl⟩ hk hn ?_ s.heap [] _ ⟨by simp, (fun k q h => by cases h), hFo, (fun k t x h => by cases h)⟩ va_S.rf hl (by simp)
  intro pc ls st I hI hkd hret H locs la h1 h2 h3 h4
  obtain ⟨len, hd, hln⟩ := (am_co_ok (Fo := am_Fo b L xs s.heap.size fl Fy) am_Fo_Fs 417 pc I hI).1
  obtain ⟨i, v, a, b2, ne, tb⟩ := I
  have hret2 : am_ret i (some .boolean) st A.2.1 A.2.2.1 A.2.2.2 = some A := hret
  cases i
  case ireturn =>
    obtain rfl := hln _ rfl
    dsimp only [am_ret] at hret2
    split at hret2
    · rename_i ty x hm
      cases hm
      split at hret2
      · have hA1 : A.1 = some (.int x) := by
          have := congrArg (fun z => z.map (fun y => y.1)) hret2
          exact (Option.some.inj this).symm
        rw [hA] at hA1
        cases hA1
        exact va_forget h2.2.2 (W.widen hk hn (lw_ret hx hb hr hlk hd))
      · cases hret2
    · cases hret2
  case areturn =>
    dsimp only [am_ret] at hret2
    split at hret2
    · rename_i ty x hm
      cases hm
      split at hret2
      · rename_i hq
        exact absurd hq.1 (by decide)
      · cases hret2
    · cases hret2
  all_goals exact absurd hret2 (by simp [am_ret])
end ENTRY
