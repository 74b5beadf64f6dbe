/-! The rows of the simple instructions. -/
def am_lkc (pc : Nat) : List (Int × Int) → List (Int32 × Nat) → Bool
  | [], [] => true
  | q :: r, u :: w => decide (q.1 = u.1.toInt) && decide ((pc : Int) + q.2 = (u.2 : Int)) && am_lkc pc r w
  | _, _ => false
def am_tsc (pc : Nat) : Int → List Int → List (Int32 × Nat) → Bool
  | _, [], [] => true
  | lo, o :: r, u :: w => decide (u.1.toInt = lo) && decide ((pc : Int) + o = (u.2 : Int)) && am_tsc pc (lo + 1) r w
  | _, _, _ => false
theorem am_lk_ok {pc a : Nat} {d : Int} (hd : (pc : Int) + d = (a : Int)) (x : Int32) : ∀ {ps : List (Int × Int)} {tb : List (Int32 × Nat)}, am_lkc pc ps tb = true → (pc : Int) + Op.lookupswitch.offset ps d x.toInt = (am_sw tb a x : Int)
  | [], [], _ => hd
  | q :: r, u :: w, hc => by
    simp only [am_lkc, Bool.and_eq_true, decide_eq_true_eq] at hc
    obtain ⟨⟨h1, h2⟩, h3⟩ := hc
    obtain ⟨q1, q2⟩ := q
    show (pc : Int) + Op.lookupswitch.offset ((q1, q2) :: r) d x.toInt = ((if x = u.1 then u.2 else am_sw w a x : Nat) : Int)
    rw [Op.lookupswitch.offset_cons]
    have h1 : q1 = u.1.toInt := h1
    by_cases hx : x = u.1
    · rw [if_pos hx, if_pos (by rw [h1, hx])]
      exact h2
    · rw [if_neg hx, if_neg (fun q => hx (Int32.toInt_inj.mp (by rw [← q, h1])))]
      exact am_lk_ok hd x h3
  | [], _ :: _, hc => by cases hc
  | _ :: _, [], hc => by cases hc
theorem am_ts_out {pc a : Nat} (x : Int32) : ∀ {lo : Int} {L : List Int} {tb : List (Int32 × Nat)}, am_tsc pc lo L tb = true → (x.toInt < lo ∨ lo + L.length ≤ x.toInt) → am_sw tb a x = a
  | _, [], [], _, _ => rfl
  | lo, o :: r, u :: w, hc, ho => by
    simp only [am_tsc, Bool.and_eq_true, decide_eq_true_eq] at hc
    obtain ⟨⟨h1, h2⟩, h3⟩ := hc
    have ho : x.toInt < lo ∨ lo + ((r.length : Int) + 1) ≤ x.toInt := by simpa using ho
    have hx : ¬ x = u.1 := fun q => by rw [q, h1] at ho; omega
    show (if x = u.1 then u.2 else am_sw w a x) = a
    rw [if_neg hx]
    exact am_ts_out x h3 (by omega)
  | _, [], _ :: _, hc, _ => by cases hc
  | _, _ :: _, [], hc, _ => by cases hc
theorem am_ts_in {pc a : Nat} (x : Int32) : ∀ {lo : Int} {L : List Int} {tb : List (Int32 × Nat)}, am_tsc pc lo L tb = true → lo ≤ x.toInt → x.toInt < lo + L.length → ∃ o, L[(x.toInt - lo).toNat]? = some o ∧ (pc : Int) + o = (am_sw tb a x : Int)
  | lo, [], [], _, h1, h2 => by
    have h2 : x.toInt < lo + 0 := h2
    omega
  | lo, o :: r, u :: w, hc, h1, h2 => by
    simp only [am_tsc, Bool.and_eq_true, decide_eq_true_eq] at hc
    obtain ⟨⟨e1, e2⟩, e3⟩ := hc
    have h2 : x.toInt < lo + ((r.length : Int) + 1) := by simpa using h2
    show ∃ o', (o :: r)[(x.toInt - lo).toNat]? = some o' ∧ (pc : Int) + o' = ((if x = u.1 then u.2 else am_sw w a x : Nat) : Int)
    by_cases hx : x = u.1
    · rw [if_pos hx]
      have h0 : x.toInt = lo := by rw [hx, e1]
      refine ⟨o, ?_, e2⟩
      rw [h0, Int.sub_self]
      rfl
    · rw [if_neg hx]
      have hne : x.toInt ≠ lo := fun q => hx (Int32.toInt_inj.mp (by rw [q, e1]))
      obtain ⟨o', g1, g2⟩ := am_ts_in (a := a) x e3 (by omega) (by omega)
      refine ⟨o', ?_, g2⟩
      rw [show (x.toInt - lo).toNat = (x.toInt - (lo + 1)).toNat + 1 by omega, List.getElem?_cons_succ]
      exact g1
  | _, [], _ :: _, hc, _, _ => by cases hc
  | _, _ :: _, [], hc, _, _ => by cases hc
def am_ln (i : Instr) : Option Nat := match i with
  | .bipush _ => some 2
  | .ldc _ => some 2
  | .iload _ => some 2
  | .lload _ => some 2
  | .aload _ => some 2
  | .istore _ => some 2
  | .lstore _ => some 2
  | .astore _ => some 2
  | .newarray _ => some 2
  | .sipush _ => some 3
  | .ldc_w _ => some 3
  | .ldc2_w _ => some 3
  | .iinc _ _ => some 3
  | .goto _ => some 3
  | .ifCond _ _ => some 3
  | .if_icmp _ _ => some 3
  | .ifnull _ => some 3
  | .ifnonnull _ => some 3
  | .if_acmp _ _ => some 3
  | .getfield _ => some 3
  | .putfield _ => some 3
  | .new _ => some 3
  | .anewarray _ => some 3
  | .invokevirtual _ => some 3
  | .invokespecial _ => some 3
  | .invokestatic _ => some 3
  | .multianewarray _ _ => some 4
  | .tableswitch _ _ _ _ => none
  | .lookupswitch _ _ => none
  | _ => some 1
def am_dec (cc : ByteArray) (pc : Nat) (i : Instr) : Prop := ∃ len : Nat, decode cc pc = .ok (i, len) ∧ ∀ q : Nat, am_ln i = some q → len = q
/-- what the tables say of an instruction of a method M -/
def am_aux (B Bn : List Cond) (cb : List vw_C) (tl : List FieldType) (host : String) (Fo : State → Heap → Prop) (fl : Nat → Nat) (M : am_M) (pc : Nat) (I : am_I) : Prop :=
  let own := M.1.cls
  let v := I.2.1
  let a := I.2.2.1
  let b := I.2.2.2.1
  let ne := I.2.2.2.2.1
  let tb := I.2.2.2.2.2
  match I.1 with
  | .ldc i => (∃ x : Int32, v = .int x ∧ Cond.constant own i x ∈ B) ∨ ∃ (j : Nat) (tx : String), v = .retAddr j ∧ ∀ (U : State) (H : Heap), Fo U H → vk_R own i tx (fl j) U
  | .ldc_w i => (∃ x : Int32, v = .int x ∧ Cond.constant own i x ∈ B) ∨ ∃ (j : Nat) (tx : String), v = .retAddr j ∧ ∀ (U : State) (H : Heap), Fo U H → vk_R own i tx (fl j) U
  | .invokevirtual i => a = 1007 → Cond.methodLink own i ⟨"java/lang/String", "charAt", "(I)C"⟩ ∈ B
  | .ldc2_w i => ∃ x : Int64, v = .long x ∧ Cond.constantLong own i x ∈ B
  | .goto o => (pc : Int) + o = (a : Int)
  | .ifCond _ o => (pc : Int) + o = (a : Int)
  | .if_icmp _ o => (pc : Int) + o = (a : Int)
  | .ifnull o => (pc : Int) + o = (a : Int)
  | .ifnonnull o => (pc : Int) + o = (a : Int)
  | .if_acmp _ o => (pc : Int) + o = (a : Int)
  | .tableswitch d lo hi offs => (pc : Int) + d = (a : Int) ∧ hi = lo + offs.toList.length - 1 ∧ am_tsc pc lo offs.toList tb = true
  | .lookupswitch d ps => (pc : Int) + d = (a : Int) ∧ (ps.toList.zip (ps.toList.drop 1)).all (fun (a, next) => a.1 < next.1) = true ∧ am_lkc pc ps.toList tb = true
  | .getfield i => ∃ (C : String) (T : u_T) (N : Nat), cb[a]? = some (C, T, N) ∧ b < N ∧ (if ne = true then Cond.fieldLinkNest own i C (T b).2.1 (T b).2.2.1 host ∈ Bn else Cond.fieldLink own i C (T b).2.1 (T b).2.2.1 ∈ B)
  | .putfield i => ∃ (C : String) (T : u_T) (N : Nat), cb[a]? = some (C, T, N) ∧ b < N ∧ (if ne = true then Cond.fieldLinkNest own i C (T b).2.1 (T b).2.2.1 host ∈ Bn else Cond.fieldLink own i C (T b).2.1 (T b).2.2.1 ∈ B) ∧ ((T b).2.2.2 = false ∨ ((T b).2.2.2 = true ∧ ne = false ∧ C = own ∧ M.1.name = "<init>"))
  | .new i => ∃ (C : String) (T : u_T) (N : Nat), cb[a]? = some (C, T, N) ∧ Cond.classLink own i C ∈ B
  | .anewarray i => ∃ (C : String) (T : u_T) (N : Nat), cb[a]? = some (C, T, N) ∧ Cond.classLink own i C ∈ B ∧ FieldType.object C ∈ tl ∧ ∀ (U : State) (H : Heap), Fo U H → va_AO C U
  | .newarray t => Cond.arrayClass (newarray.typeOf t) ∈ B ∧ newarray.typeOf t ∈ tl
  | .invokespecial i => a = 1000 → Cond.methodLink own i Lib.objectInit ∈ B ∧ Cond.instanceMethod Lib.objectInit ∈ B ∧ Cond.code Lib.objectInit ⟨#[0xb1]⟩ 1 none ∈ B
  | .invokestatic i =>
    (a = 1001 → Cond.methodLink own i arraycopyName ∈ B ∧ Cond.native arraycopyName ∈ B ∧ Cond.static arraycopyName ∈ B ∧ Cond.initialized "java/lang/System" ∈ B) ∧
    (a = 1002 → Cond.methodLink own i Lib.Math.max.name ∈ B ∧ Cond.static Lib.Math.max.name ∈ B ∧ Cond.initialized "java/lang/Math" ∈ B ∧ Cond.code Lib.Math.max.name Lib.Math.max.code 2 (some .int) ∈ B) ∧
    (a = 1003 → Cond.methodLink own i Lib.Math.min.name ∈ B ∧ Cond.static Lib.Math.min.name ∈ B ∧ Cond.initialized "java/lang/Math" ∈ B ∧ Cond.code Lib.Math.min.name Lib.Math.min.code 2 (some .int) ∈ B) ∧
    (a = 1004 → Cond.methodLink own i Lib.Math.abs.name ∈ B ∧ Cond.static Lib.Math.abs.name ∈ B ∧ Cond.initialized "java/lang/Math" ∈ B ∧ Cond.code Lib.Math.abs.name Lib.Math.abs.code 1 (some .int) ∈ B) ∧
    (a = 1005 → Cond.methodLink own i Lib.MathLoose.min_long.x ∈ B ∧ Cond.static Lib.MathLoose.min_long.x ∈ B ∧ Cond.initialized "java/lang/Math" ∈ B ∧ Cond.code Lib.MathLoose.min_long.x Lib.MathLoose.min_long.code 4 (some .long) ∈ B) ∧
    (a = 1006 → Cond.methodLink own i Lib.MathLoose.abs_long.x ∈ B ∧ Cond.static Lib.MathLoose.abs_long.x ∈ B ∧ Cond.initialized "java/lang/Math" ∈ B ∧ Cond.code Lib.MathLoose.abs_long.x Lib.MathLoose.abs_long.code 2 (some .long) ∈ B) ∧
    (a = 1008 → b = 2 ∧ M.1.cls = "TerminalHouseLaw" ∧ i = 37)
  | .multianewarray i r => r = 2 ∧ Cond.classLink own i "[[I" ∈ B ∧ Cond.arrayClass .int ∈ B ∧ FieldType.int ∈ tl ∧ FieldType.array .int ∈ tl ∧ ∀ (U : State) (H : Heap), Fo U H → (Cond.arrayOver (.array .int)).before #[] U = true
  | _ => True
/-- the class tables fit each other -/
def am_cls (B : List Cond) (cl cb : List vw_C) (ct : List am_K) : Prop := ((∀ (a : Nat) (q : vw_C), cb[a]? = some q → cl[a]? = some q) ∧ ct.length = cb.length) ∧ ∀ (ci : Nat) (C : String) (T : u_T) (N : Nat), cb[ci]? = some (C, T, N) → ∃ fs : List FieldType, ct[ci]? = some (C, fs) ∧ fs.length = N ∧
  (∀ k, k < N → parseFieldDescriptor (T k).2.2.1 = fs[k]?) ∧ (∀ k, k < N → (T k).1 = C) ∧ (∀ a, a < N → ∀ b, b < N → a ≠ b → (T a).2.1 ≠ (T b).2.1) ∧ (∀ w ∈ u_ws C T N, w ∈ B) ∧ Cond.instantiable C N ∈ B ∧ Cond.initialized C ∈ B
def am_Ev (p : Program) (s : State) (m : MethodId) (args : Array Value) (meth : Method) (c : Code) (B Bn : List Cond) (D : va_G) (cl : List vw_C) (dI : FieldType → ClassId) (tl : List FieldType) (M : am_M) : Prop :=
  p.tables.exec = Jvm.exec ∧ c.code = M.2.1 ∧ c.maxLocals = M.2.2.1 ∧ s.vm.findClass M.1.cls = some m.cls ∧ (∀ w ∈ B, w.before args s = true) ∧ (∀ w ∈ Bn, w.before args s = true) ∧ va_K D cl (am_ty dI tl) s ∧ meth.sig.returnType = M.2.2.2 ∧ meth.locks = false ∧ (M.1.name = "<init>" → meth.name = "<init>")
section AMK
variable {p : Program} {l : Launch} {e : Env} {R : Room} {s : State} {m : MethodId} {args : Array Value} {below : List Frame} {meth : Method} {c : Code} {Q : State → Prop}
variable {D : va_G} {cl : List vw_C} {dI : FieldType → ClassId} {tl : List FieldType} {N0 : Nat} {fl : Nat → Nat} {Fo : State → Heap → Prop} {H0 : Heap} {nL : Nat}
variable {cc : ByteArray} {pc : Nat} {ls : am_L} {st : List Value} {h : am_H} {k n : Nat}
theorem am_k_if {cnd : ClassFile.Cond} {off : Int} {a : Nat} {x : Int32} (hx : p.tables.exec = Jvm.exec) (hb : c.code = cc) (hd : decode cc pc = .ok (.ifCond cnd off, 3)) (ht : (pc : Int) + off = (a : Int)) (kk : am_G p l e R s m args below meth c Q D cl dI tl N0 fl Fo H0 nL (am_br cnd x 0 a (pc + 3)) ls st h k n) :
    am_G p l e R s m args below meth c Q D cl dI tl N0 fl Fo H0 nL pc ls (.int x :: st) h k n := by
  intro H locs la h1 h2 h3 h4
  have kk := kk H locs la h1 h2 h3 h4
  cases cnd <;> simp only [am_br] at kk
  · exact lv_if_eq hx hb hd ht (fun q => by rw [if_pos q] at kk; exact kk) (fun q => by rw [if_neg q] at kk; exact kk)
  · exact lv_if_ne hx hb hd ht (fun q => by rw [if_neg q] at kk; exact kk) (fun q => by rw [if_pos q] at kk; exact kk)
  · exact lv_if_lt hx hb hd ht (fun q => by rw [if_pos q] at kk; exact kk) (fun q => by rw [if_neg q] at kk; exact kk)
  · exact lv_if_ge hx hb hd ht (fun q => by rw [if_pos q] at kk; exact kk) (fun q => by rw [if_neg q] at kk; exact kk)
  · exact lv_if_gt hx hb hd ht (fun q => by rw [if_pos q] at kk; exact kk) (fun q => by rw [if_neg q] at kk; exact kk)
  · exact lv_if_le hx hb hd ht (fun q => by rw [if_pos q] at kk; exact kk) (fun q => by rw [if_neg q] at kk; exact kk)
theorem am_k_icmp {cnd : ClassFile.Cond} {off : Int} {a : Nat} {x y : Int32} (hx : p.tables.exec = Jvm.exec) (hb : c.code = cc) (hd : decode cc pc = .ok (.if_icmp cnd off, 3)) (ht : (pc : Int) + off = (a : Int)) (kk : am_G p l e R s m args below meth c Q D cl dI tl N0 fl Fo H0 nL (am_br cnd x y a (pc + 3)) ls st h k n) :
    am_G p l e R s m args below meth c Q D cl dI tl N0 fl Fo H0 nL pc ls (.int y :: .int x :: st) h k n := by
  intro H locs la h1 h2 h3 h4
  have kk := kk H locs la h1 h2 h3 h4
  cases cnd <;> simp only [am_br] at kk
  · exact lv_icmp_eq hx hb hd ht (fun q => by rw [if_pos q] at kk; exact kk) (fun q => by rw [if_neg q] at kk; exact kk)
  · exact lv_icmp_ne hx hb hd ht (fun q => by rw [if_neg q] at kk; exact kk) (fun q => by rw [if_pos q] at kk; exact kk)
  · exact lv_icmp_lt hx hb hd ht (fun q => by rw [if_pos q] at kk; exact kk) (fun q => by rw [if_neg q] at kk; exact kk)
  · exact lv_icmp_ge hx hb hd ht (fun q => by rw [if_pos q] at kk; exact kk) (fun q => by rw [if_neg q] at kk; exact kk)
  · exact lv_icmp_gt hx hb hd ht (fun q => by rw [if_pos q] at kk; exact kk) (fun q => by rw [if_neg q] at kk; exact kk)
  · exact lv_icmp_le hx hb hd ht (fun q => by rw [if_pos q] at kk; exact kk) (fun q => by rw [if_neg q] at kk; exact kk)
theorem am_k_table {d lo hi : Int} {offs : Array Int} {a len : Nat} {tb : List (Int32 × Nat)} {x : Int32} (hx : p.tables.exec = Jvm.exec) (hb : c.code = cc) (hd : decode cc pc = .ok (.tableswitch d lo hi offs, len)) (ha : (pc : Int) + d = (a : Int) ∧ hi = lo + offs.toList.length - 1 ∧ am_tsc pc lo offs.toList tb = true) (kk : am_G p l e R s m args below meth c Q D cl dI tl N0 fl Fo H0 nL (am_sw tb a x) ls st h k n) :
    am_G p l e R s m args below meth c Q D cl dI tl N0 fl Fo H0 nL pc ls (.int x :: st) h k n := by
  intro H locs la h1 h2 h3 h4
  have kk := kk H locs la h1 h2 h3 h4
  obtain ⟨a1, a2, a3⟩ := ha
  by_cases q : x.toInt < lo ∨ lo + offs.toList.length ≤ x.toInt
  · rw [am_ts_out x a3 q] at kk
    exact lv_tableOut hx hb hd (by omega) a1 kk
  · obtain ⟨o, g1, g2⟩ := am_ts_in (a := a) x a3 (by omega) (by omega)
    exact lv_tableIn hx hb hd (by omega) (by omega) (by rw [← Array.getElem?_toList]; exact g1) g2 kk
theorem am_k_look {d : Int} {ps : Array (Int × Int)} {a len : Nat} {tb : List (Int32 × Nat)} {x : Int32} (hx : p.tables.exec = Jvm.exec) (hb : c.code = cc) (hd : decode cc pc = .ok (.lookupswitch d ps, len)) (ha : (pc : Int) + d = (a : Int) ∧ (ps.toList.zip (ps.toList.drop 1)).all (fun (a, next) => a.1 < next.1) = true ∧ am_lkc pc ps.toList tb = true) (kk : am_G p l e R s m args below meth c Q D cl dI tl N0 fl Fo H0 nL (am_sw tb a x) ls st h k n) :
    am_G p l e R s m args below meth c Q D cl dI tl N0 fl Fo H0 nL pc ls (.int x :: st) h k n := by
  intro H locs la h1 h2 h3 h4
  have kk := kk H locs la h1 h2 h3 h4
  obtain ⟨a1, a2, a3⟩ := ha
  exact lv_lookup hx hb hd a2 rfl (am_lk_ok a1 x a3) kk
theorem am_k_aload {i : Nat} {v : Value} (hx : p.tables.exec = Jvm.exec) (hb : c.code = cc) (hd : decode cc pc = .ok (.aload i, 2)) (hl : am_ld ls i = some v) (hr : am_rfl v = true) (kk : am_G p l e R s m args below meth c Q D cl dI tl N0 fl Fo H0 nL (pc + 2) ls (v :: st) h k n) :
    am_G p l e R s m args below meth c Q D cl dI tl N0 fl Fo H0 nL pc ls st h k n := by
  intro H locs la h1 h2 h3 h4
  have kk : W p l e R s m args below meth c H locs k n Q (F0 m (pc + 2) la (am_v N0 fl v :: st.map (am_v N0 fl))) := kk H locs la h1 h2 h3 h4
  have hl := am_ld_at h3 hl
  rcases am_rfl_v N0 fl hr with q | ⟨a, q⟩ <;> rw [q] at hl kk
  · exact lv_aloadN hx hb hd hl kk
  · exact lv_aload hx hb hd hl kk
theorem am_k_aload_n {i : Fin 4} {v : Value} (hx : p.tables.exec = Jvm.exec) (hb : c.code = cc) (hd : decode cc pc = .ok (.aload_n i, 1)) (hl : am_ld ls i = some v) (hr : am_rfl v = true) (kk : am_G p l e R s m args below meth c Q D cl dI tl N0 fl Fo H0 nL (pc + 1) ls (v :: st) h k n) :
    am_G p l e R s m args below meth c Q D cl dI tl N0 fl Fo H0 nL pc ls st h k n := by
  intro H locs la h1 h2 h3 h4
  have kk : W p l e R s m args below meth c H locs k n Q (F0 m (pc + 1) la (am_v N0 fl v :: st.map (am_v N0 fl))) := kk H locs la h1 h2 h3 h4
  have hl := am_ld_at h3 hl
  rcases am_rfl_v N0 fl hr with q | ⟨a, q⟩ <;> rw [q] at hl kk
  · exact lv_aload_nN hx hb hd rfl hl kk
  · exact lv_aload_n hx hb hd rfl hl kk
theorem am_k_astore {i : Nat} {v : Value} (hx : p.tables.exec = Jvm.exec) (hb : c.code = cc) (hd : decode cc pc = .ok (.astore i, 2)) (hi : i < nL) (hr : am_rfl v = true) (kk : am_G p l e R s m args below meth c Q D cl dI tl N0 fl Fo H0 nL (pc + 2) (am_st1 ls i v) st h k n) :
    am_G p l e R s m args below meth c Q D cl dI tl N0 fl Fo H0 nL pc ls (v :: st) h k n := by
  intro H locs la h1 h2 h3 h4
  have e0 := am_lv_st1 N0 fl ls i v
  show W p l e R s m args below meth c H locs k n Q (F0 m pc la (am_v N0 fl v :: st.map (am_v N0 fl)))
  rcases am_rfl_v N0 fl hr with q | ⟨a, q⟩ <;> rw [q] at e0 ⊢
  · exact lv_astoreN hx hb hd h3 hi e0 (fun la' h3' => kk H locs la' h1 h2 h3' h4)
  · exact lv_astore hx hb hd h3 hi e0 (fun la' h3' => kk H locs la' h1 h2 h3' h4)
theorem am_k_astore_n {i : Fin 4} {v : Value} (hx : p.tables.exec = Jvm.exec) (hb : c.code = cc) (hd : decode cc pc = .ok (.astore_n i, 1)) (hi : (i : Nat) < nL) (hr : am_rfl v = true) (kk : am_G p l e R s m args below meth c Q D cl dI tl N0 fl Fo H0 nL (pc + 1) (am_st1 ls i v) st h k n) :
    am_G p l e R s m args below meth c Q D cl dI tl N0 fl Fo H0 nL pc ls (v :: st) h k n := by
  intro H locs la h1 h2 h3 h4
  have e0 := am_lv_st1 N0 fl ls i v
  show W p l e R s m args below meth c H locs k n Q (F0 m pc la (am_v N0 fl v :: st.map (am_v N0 fl)))
  rcases am_rfl_v N0 fl hr with q | ⟨a, q⟩ <;> rw [q] at e0 ⊢
  · exact lv_astore_nN hx hb hd rfl h3 hi e0 (fun la' h3' => kk H locs la' h1 h2 h3' h4)
  · exact lv_astore_n hx hb hd rfl h3 hi e0 (fun la' h3' => kk H locs la' h1 h2 h3' h4)
theorem am_k_iinc {i : Nat} {x : Int} {v : Int32} (hx : p.tables.exec = Jvm.exec) (hb : c.code = cc) (hd : decode cc pc = .ok (.iinc i x, 3)) (hl : am_ld ls i = some (.int v)) (hi : i < nL) (kk : am_G p l e R s m args below meth c Q D cl dI tl N0 fl Fo H0 nL (pc + 3) (am_st1 ls i (.int (v + Int32.ofInt x))) st h k n) :
    am_G p l e R s m args below meth c Q D cl dI tl N0 fl Fo H0 nL pc ls st h k n := by
  intro H locs la h1 h2 h3 h4
  obtain ⟨j, hj⟩ := List.getElem?_of_mem (List.mem_map.mpr ⟨(i, .int v), am_ld_mem hl, rfl⟩ : (i, am_v N0 fl (.int v)) ∈ am_lv N0 fl ls)
  exact lv_iinc hx hb hd h3 hj rfl hi (am_lv_st1 N0 fl ls i (.int (v + Int32.ofInt x))) (fun la' h3' => kk H locs la' h1 h2 h3' h4)
theorem am_k_acmp {cnd : ACond} {off : Int} {a : Nat} {v w : Value} {q : Bool} (hx : p.tables.exec = Jvm.exec) (hb : c.code = cc) (hd : decode cc pc = .ok (.if_acmp cnd off, 3)) (ht : (pc : Int) + off = (a : Int)) (hq : am_eqr v w = some q) (kk : am_G p l e R s m args below meth c Q D cl dI tl N0 fl Fo H0 nL (if (if cnd = .eq then q else !q) = true then a else pc + 3) ls st h k n) :
    am_G p l e R s m args below meth c Q D cl dI tl N0 fl Fo H0 nL pc ls (w :: v :: st) h k n := by
  intro H locs la h1 h2 h3 h4
  have kk := kk H locs la h1 h2 h3 h4
  have main : ∃ rx ry : Option Nat, am_v N0 fl v = va_rf rx ∧ am_v N0 fl w = va_rf ry ∧ (q = true ↔ rx = ry) := by
    unfold am_eqr at hq
    split at hq
    · rename_i x y
      cases hq
      exact ⟨some (N0 + x), some (N0 + y), rfl, rfl, by simp⟩
    · rename_i x
      cases hq
      exact ⟨some (N0 + x), none, rfl, rfl, by simp⟩
    · rename_i x
      cases hq
      exact ⟨none, some (N0 + x), rfl, rfl, by simp⟩
    · cases hq
      exact ⟨none, none, rfl, rfl, by simp⟩
    · cases hq
  obtain ⟨rx, ry, e1, e2, e3⟩ := main
  show W p l e R s m args below meth c H locs k n Q (F0 m pc la (am_v N0 fl w :: am_v N0 fl v :: st.map (am_v N0 fl)))
  rw [e1, e2]
  cases cnd
  · rw [if_pos rfl] at kk
    exact lv_acmp_eq hx hb hd ht (fun z => by rw [if_pos (e3.mpr z)] at kk; exact kk) (fun z => by rw [if_neg (fun y => z (e3.mp y))] at kk; exact kk)
  · rw [show (if ACond.ne = ACond.eq then q else !q) = !q from if_neg (by decide)] at kk
    exact lv_acmp_ne hx hb hd ht (fun z => by rw [if_pos (by cases q; rfl; exact absurd (e3.mp rfl) z)] at kk; exact kk) (fun z => by rw [if_neg (by rw [e3.mpr z]; decide)] at kk; exact kk)
variable {B Bn : List Cond} {cb : List vw_C} {ct : List am_K} {M : am_M} {host : String}
theorem am_k_get {i a b : Nat} {ne : Bool} {o : Nat} {vs : List Value} {v : Value} (hE : am_Ev p s m args meth c B Bn D cl dI tl M) (hC : am_cls B cl cb ct) (hF : am_Fk N0 Fo) (hd : decode M.2.1 pc = .ok (.getfield i, 3))
    (ha : ∃ (C : String) (T : u_T) (N : Nat), cb[a]? = some (C, T, N) ∧ b < N ∧ (if ne = true then Cond.fieldLinkNest M.1.cls i C (T b).2.1 (T b).2.2.1 host ∈ Bn else Cond.fieldLink M.1.cls i C (T b).2.1 (T b).2.2.1 ∈ B))
    (ho : h[o]? = some (.inr (a, vs))) (hv : vs[b]? = some v) (kk : am_G p l e R s m args below meth c Q D cl dI tl N0 fl Fo H0 M.2.2.1 (pc + 3) ls (v :: st) h k n) : am_G p l e R s m args below meth c Q D cl dI tl N0 fl Fo H0 M.2.2.1 pc ls (.ref o :: st) h k n := by
  intro H locs la h1 h2 h3 h4
  obtain ⟨hx, hb, hml, hown, hts, htn, hK, -, -, -⟩ := hE
  obtain ⟨C, T, N, c1, c2, c3⟩ := ha
  obtain ⟨fs, f1, f2, f3, f4, f5, f6, -, -⟩ := hC.2 a C T N c1
  have c1 := hC.1.1 _ _ c1
  have hw : (am_w dI N0 fl h)[o]? = some (N0 + o, .inr (a, vs.map (am_v N0 fl))) := am_w_at ho
  have hv' : (vs.map (am_v N0 fl))[b]? = some (am_v N0 fl v) := by rw [List.getElem?_map, hv]; rfl
  cases ne
  · exact va_get hx hb hts f6 hown hK h1.2.1 o hw c1 b c2 (hts _ c3) (fun x y => by rw [f4 b c2] at y; exact y) hv' hd (kk H locs la h1 h2 h3 h4)
  · exact va_getN hx hb hts f6 hown hK h1.2.1 o hw c1 b c2 (htn _ c3) (fun x y => by rw [f4 b c2] at y; exact y) hv' hd (kk H locs la h1 h2 h3 h4)
theorem am_k_put {i a b : Nat} {ne : Bool} {o : Nat} {vs : List Value} {v : Value} {ty : FieldType} (hE : am_Ev p s m args meth c B Bn D cl dI tl M) (hC : am_cls B cl cb ct) (hF : am_Fk N0 Fo) (hd : decode M.2.1 pc = .ok (.putfield i, 3))
    (ha : ∃ (C : String) (T : u_T) (N : Nat), cb[a]? = some (C, T, N) ∧ b < N ∧ (if ne = true then Cond.fieldLinkNest M.1.cls i C (T b).2.1 (T b).2.2.1 host ∈ Bn else Cond.fieldLink M.1.cls i C (T b).2.1 (T b).2.2.1 ∈ B) ∧ ((T b).2.2.2 = false ∨ ((T b).2.2.2 = true ∧ ne = false ∧ C = M.1.cls ∧ M.1.name = "<init>")))
    (ho : h[o]? = some (.inr (a, vs))) (hb0 : b < vs.length) (hty : (ct[a]?).bind (fun q => q.2[b]?) = some ty) (hfit : am_fit ty v = true) (kk : am_G p l e R s m args below meth c Q D cl dI tl N0 fl Fo H0 M.2.2.1 (pc + 3) ls st (h.set o (.inr (a, vs.set b v))) k n) : am_G p l e R s m args below meth c Q D cl dI tl N0 fl Fo H0 M.2.2.1 pc ls (v :: .ref o :: st) h k n := by
  intro H locs la h1 h2 h3 h4
  obtain ⟨hx, hb, hml, hown, hts, htn, hK, -, -, hnm⟩ := hE
  obtain ⟨C, T, N, c1, c2, c3, c4⟩ := ha
  obtain ⟨fs, f1, f2, f3, f4, f5, f6, -, -⟩ := hC.2 a C T N c1
  have c1 := hC.1.1 _ _ c1
  have hw : (am_w dI N0 fl h)[o]? = some (N0 + o, .inr (a, vs.map (am_v N0 fl))) := am_w_at ho
  have hlen : b < (vs.map (am_v N0 fl)).length := by rw [List.length_map]; exact hb0
  have hpd : parseFieldDescriptor (T b).2.2.1 = some ty := by
    rw [f3 b c2, ← hty, f1]; rfl
  obtain ⟨g1, g2⟩ := am_fit_ok N0 fl hfit
  have hpt : ∀ j, j < N → parseFieldDescriptor (T j).2.2.1 = some (fs.getD j .int) := fun j hj => by
    rw [f3 j hj, List.getD_eq_getElem?_getD, List.getElem?_eq_getElem (by rw [f2]; exact hj)]; rfl
  have hset : (am_w dI N0 fl h).set o (N0 + o, .inr (a, (vs.map (am_v N0 fl)).set b (am_v N0 fl v))) = am_w dI N0 fl (h.set o (.inr (a, vs.set b v))) := by
    rw [← am_w_set]
    show _ = (am_w dI N0 fl h).set o (N0 + o, .inr (a, (vs.set b v).map (am_v N0 fl)))
    rw [List.map_set]
  have ht1 : am_tk tl (h.set o (.inr (a, vs.set b v))) := h1.2.2.2.set (fun t x q => by cases q)
  have fin : ∀ (H1 : Heap) (locs1 : List Loc), va_P D cl ((am_w dI N0 fl h).set o (N0 + o, .inr (a, (vs.map (am_v N0 fl)).set b (am_v N0 fl v)))) H1 → va_D (fun q => N0 ≤ q) ((am_w dI N0 fl h).set o (N0 + o, .inr (a, (vs.map (am_v N0 fl)).set b (am_v N0 fl v)))) → va_S (fun q => N0 ≤ q) H H1 locs1 → W p l e R s m args below meth c H1 locs1 k n Q (F0 m (pc + 3) la (st.map (am_v N0 fl))) := fun H1 locs1 hP hD hS => by
    rw [hset] at hP
    exact am_kk hF h1 h2 h4 kk (List.length_set ..) ht1 hP hS h3
  have hs : ∀ x, s.fieldFound? (T b).1 (T b).2.1 (T b).2.2.1 = some x → s.fieldFound? C (T b).2.1 (T b).2.2.1 = some x := fun x y => by rw [f4 b c2] at y; exact y
  rcases c4 with c4 | ⟨c4, c5, c6, c7⟩
  · cases ne
    · exact va_put hx hb hts f6 _ hpt f5 hown hK h1.2.1 (am_w_D dI N0 fl h) (am_S0 h2) o hw c1 b c2 (hts _ c3) hs c4 hpd g1 g2 hlen hd fin
    · exact va_putN hx hb hts f6 _ hpt f5 hown hK h1.2.1 (am_w_D dI N0 fl h) (am_S0 h2) o hw c1 b c2 (htn _ c3) hs c4 hpd g1 g2 hlen hd fin
  · subst c5
    exact va_putF hx hb hts f6 _ hpt f5 hown hK h1.2.1 (am_w_D dI N0 fl h) (am_S0 h2) o hw c1 b c2 (hts _ c3) hs c4 (hnm c7) (by rw [f4 b c2]; exact c6) hpd g1 g2 hlen hd fin
theorem am_k_new {i a : Nat} {q : am_K} (hE : am_Ev p s m args meth c B Bn D cl dI tl M) (hC : am_cls B cl cb ct) (hF : am_Fk N0 Fo) (hd : decode M.2.1 pc = .ok (.new i, 3)) (ha : ∃ (C : String) (T : u_T) (N : Nat), cb[a]? = some (C, T, N) ∧ Cond.classLink M.1.cls i C ∈ B) (hq : ct[a]? = some q) (hk : k + 1 ≤ R.cells) (hn : n + q.2.length ≤ R.slots)
    (kk : am_G p l e R s m args below meth c Q D cl dI tl N0 fl Fo H0 M.2.2.1 (pc + 3) ls (.ref h.length :: st) (h ++ [.inr (a, q.2.map defaultValue)]) (k + 1) (n + q.2.length)) : am_G p l e R s m args below meth c Q D cl dI tl N0 fl Fo H0 M.2.2.1 pc ls st h k n := by
  intro H locs la h1 h2 h3 h4
  obtain ⟨hx, hb, hml, hown, hts, htn, hK, -, -, -⟩ := hE
  obtain ⟨C, T, N, c1, c2⟩ := ha
  obtain ⟨fs, f1, f2, f3, f4, f5, f6, f7, f8⟩ := hC.2 a C T N c1
  have c1 := hC.1.1 _ _ c1
  cases f1.symm.trans hq
  subst f2
  have hKn := hK.1 a _ c1
  have hpt : ∀ j, j < fs.length → parseFieldDescriptor (T j).2.2.1 = some (fs.getD j .int) := fun j hj => by
    rw [f3 j hj, List.getD_eq_getElem?_getD, List.getElem?_eq_getElem hj]; rfl
  refine W.newcK hx hb hown (hts _ c2) (hts _ f7) (hts _ f8) rfl hd hk hn hKn.2.1 rfl fun H1 kC hkC e1 z1 o1 => ?_
  have hsz := h1.1
  have e0 : (.ref H.size :: st.map (am_v N0 fl) : List Value) = (Value.ref h.length :: st).map (am_v N0 fl) := by rw [hsz]; rfl
  show W p l e R s m args below meth c H1 locs (k + 1) (n + fs.length) Q (F0 m (pc + 3) la (.ref H.size :: st.map (am_v N0 fl)))
  rw [e0]
  refine am_kn hF h1 h2 h4 kk z1 o1 ?_ (fun t x y => by cases y) h3
  refine ⟨_, c1, (u_born _ hts f6 hKn hkC (by rw [← hsz]; exact e1) hpt).to fun j hj => ?_⟩
  show defaultValue (fs.getD j .int) = vp_V ((fs.map defaultValue).map (am_v N0 fl)) j
  unfold vp_V
  have hj : j < fs.length := hj
  simp only [List.getD_eq_getElem?_getD, List.getElem?_map, List.getElem?_eq_getElem hj, Option.map_some, Option.getD_some]
  cases fs[j] <;> rfl
theorem am_k_newa {t : ArrayType} {x : Int32} (hE : am_Ev p s m args meth c B Bn D cl dI tl M) (hC : am_cls B cl cb ct) (hF : am_Fk N0 Fo) (hd : decode M.2.1 pc = .ok (.newarray t, 2)) (ha : Cond.arrayClass (newarray.typeOf t) ∈ B ∧ newarray.typeOf t ∈ tl) (hsm : am_small (newarray.typeOf t) = true) (hx0 : ¬ x < 0) (hx1 : x.toNatClampNeg * 8 ≤ 536870912) (hk : k + 1 ≤ R.cells) (hn : n + x.toNatClampNeg ≤ R.slots)
    (kk : am_G p l e R s m args below meth c Q D cl dI tl N0 fl Fo H0 M.2.2.1 (pc + 2) ls (.ref h.length :: st) (h ++ [.inl (newarray.typeOf t, am_z0 (newarray.typeOf t) x.toNatClampNeg)]) (k + 1) (n + x.toNatClampNeg)) : am_G p l e R s m args below meth c Q D cl dI tl N0 fl Fo H0 M.2.2.1 pc ls (.int x :: st) h k n := by
  intro H locs la h1 h2 h3 h4
  obtain ⟨hx, hb, hml, hown, hts, htn, hK, -, -, -⟩ := hE
  have hsz := h1.1
  obtain ⟨j, hj⟩ := am_ty_at (dI := dI) ha.2
  refine va_newaK hx hb (hts _ ha.1) rfl hd rfl hx0 rfl ?_ hk hn rfl fun H1 cA e1 z1 o1 hAr hNm => ?_
  · refine Nat.le_trans (Nat.mul_le_mul_left _ ?_) hx1
    revert hsm
    cases newarray.typeOf t <;> intro hsm <;> first | decide | cases hsm
  have e0 : (.ref H.size :: st.map (am_v N0 fl) : List Value) = (Value.ref h.length :: st).map (am_v N0 fl) := by rw [hsz]; rfl
  show W p l e R s m args below meth c H1 locs (k + 1) (n + x.toNatClampNeg) Q (F0 m (pc + 2) la (.ref H.size :: st.map (am_v N0 fl)))
  rw [e0]
  have hcA : dI (newarray.typeOf t) = cA := by
    have h5 := (hK.2 j _ hj).2
    have h6 : s.vm.findClass ("[" ++ (newarray.typeOf t).toString) = some (dI (newarray.typeOf t)) := by
      revert h5 hsm
      show am_small (newarray.typeOf t) = true → va_RA s (dI (newarray.typeOf t)) (newarray.typeOf t) → _
      cases newarray.typeOf t <;> intro h5 h6 <;> first | exact h6 | cases h5
    exact Option.some.inj (h6.symm.trans hNm)
  refine am_kn hF h1 h2 h4 kk z1 o1 ?_ (fun t x y => by cases y; exact ha.2) h3
  show H1[N0 + h.length]? = some (vp_cell (dI (newarray.typeOf t)) (am_a N0 (am_z0 (newarray.typeOf t) x.toNatClampNeg)))
  rw [hcA, ← hsz, e1]
  revert hsm
  cases newarray.typeOf t <;> intro hsm <;> first | rfl | cases hsm
theorem am_k_newq {i a : Nat} {q : am_K} {x : Int32} (hE : am_Ev p s m args meth c B Bn D cl dI tl M) (hC : am_cls B cl cb ct) (hF : am_Fk N0 Fo) (hd : decode M.2.1 pc = .ok (.anewarray i, 3)) (ha : ∃ (C : String) (T : u_T) (N : Nat), cb[a]? = some (C, T, N) ∧ Cond.classLink M.1.cls i C ∈ B ∧ FieldType.object C ∈ tl ∧ ∀ (U : State) (H : Heap), Fo U H → va_AO C U) (hq : ct[a]? = some q) (hx0 : ¬ x < 0) (hx1 : x.toNatClampNeg * 4 ≤ 536870912) (hk : k + 1 ≤ R.cells) (hn : n + x.toNatClampNeg ≤ R.slots)
    (kk : am_G p l e R s m args below meth c Q D cl dI tl N0 fl Fo H0 M.2.2.1 (pc + 3) ls (.ref h.length :: st) (h ++ [.inl (.object q.1, (x.toNatClampNeg, .inr (.inr (.inr (.inr fun _ => none)))))]) (k + 1) (n + x.toNatClampNeg)) : am_G p l e R s m args below meth c Q D cl dI tl N0 fl Fo H0 M.2.2.1 pc ls (.int x :: st) h k n := by
  intro H locs la h1 h2 h3 h4
  obtain ⟨hx, hb, hml, hown, hts, htn, hK, -, -, -⟩ := hE
  obtain ⟨C, T, N, c1, c2, c3, c4⟩ := ha
  obtain ⟨fs, f1, -⟩ := hC.2 a C T N c1
  cases f1.symm.trans hq
  have hsz := h1.1
  obtain ⟨j, hj⟩ := am_ty_at (dI := dI) c3
  refine W.anew hx hb hown (hts _ c2) (va_AO.use (c4 s H h1.2.2.1)) rfl hd rfl hx0 hx1 hk hn fun cA kA comp g1 g2 g3 g4 => ?_
  generalize hH1 : H.push ({ cls := cA, slots := Array.replicate x.toNatClampNeg .null, vm := .none } : Cell) = H1
  have z1 : H1.size = H.size + 1 := by rw [← hH1, Array.size_push]
  have e1 : H1[H.size]? = some (arrV cA x.toNatClampNeg (fun _ => .null)) := by rw [← hH1, Array.getElem?_push_size, ← arrV_new]
  have o1 : ∀ q : Nat, q < H.size → H1[q]? = H[q]? := fun q hq => by rw [← hH1, Array.getElem?_push, if_neg (Nat.ne_of_lt hq)]
  have e0 : (.ref H.size :: st.map (am_v N0 fl) : List Value) = (Value.ref h.length :: st).map (am_v N0 fl) := by rw [hsz]; rfl
  show W p l e R s m args below meth c H1 locs (k + 1) (n + x.toNatClampNeg) Q (F0 m (pc + 3) la (.ref H.size :: st.map (am_v N0 fl)))
  rw [e0]
  have hcA : dI (.object C) = cA := by
    obtain ⟨_, _, _, _, _, h6⟩ := (hK.2 j _ hj).2
    exact Option.some.inj (h6.symm.trans g1)
  refine am_kn hF h1 h2 h4 kk z1 o1 ?_ (fun t x y => by cases y; exact c3) h3
  show H1[N0 + h.length]? = some (vp_cell (dI (.object C)) (x.toNatClampNeg, .inr (.inr (.inr (.inr fun _ => none)))))
  rw [vp_cell_q, hcA, ← hsz, e1]
  rfl
theorem am_k_iast {i w : Int32} {o m1 : Nat} {f : Nat → Int32} (hE : am_Ev p s m args meth c B Bn D cl dI tl M) (hC : am_cls B cl cb ct) (hF : am_Fk N0 Fo) (hd : decode M.2.1 pc = .ok (.iastore, 1)) (ho : h[o]? = some (.inl (.int, (m1, .inl f)))) (hi : ¬ (i < 0 ∨ m1 ≤ i.toNatClampNeg))
    (kk : am_G p l e R s m args below meth c Q D cl dI tl N0 fl Fo H0 M.2.2.1 (pc + 1) ls st (h.set o (.inl (.int, (m1, .inl (upd f i.toNatClampNeg w))))) k n) : am_G p l e R s m args below meth c Q D cl dI tl N0 fl Fo H0 M.2.2.1 pc ls (.int w :: .int i :: .ref o :: st) h k n := by
  intro H locs la h1 h2 h3 h4
  obtain ⟨hx, hb, hml, hown, hts, htn, hK, -, -, -⟩ := hE
  have hT := h1.2.2.2 o _ _ ho
  obtain ⟨j, hj⟩ := am_ty_at (dI := dI) hT
  have hw : (am_w dI N0 fl h)[o]? = some (N0 + o, .inl (dI .int, (m1, .inl f))) := am_w_at ho
  refine va_iast hx hb hK h1.2.1 (am_w_D dI N0 fl h) (am_S0 h2) o j hw hj hi hd fun H1 locs1 hP hD hS => ?_
  have hset : (am_w dI N0 fl h).set o (N0 + o, .inl (dI .int, (m1, .inl (upd f i.toNatClampNeg w)))) = am_w dI N0 fl (h.set o (.inl (.int, (m1, .inl (upd f i.toNatClampNeg w))))) := am_w_set dI N0 fl h o (.inl (.int, (m1, .inl (upd f i.toNatClampNeg w))))
  rw [hset] at hP
  exact am_kk hF h1 h2 h4 kk (List.length_set ..) (h1.2.2.2.set fun t x q => by cases q; exact hT) hP hS h3
theorem am_k_zast {i w : Int32} {o m1 : Nat} {f : Nat → Int32} (hE : am_Ev p s m args meth c B Bn D cl dI tl M) (hC : am_cls B cl cb ct) (hF : am_Fk N0 Fo) (hd : decode M.2.1 pc = .ok (.bastore, 1)) (ho : h[o]? = some (.inl (.boolean, (m1, .inl f)))) (hi : ¬ (i < 0 ∨ m1 ≤ i.toNatClampNeg))
    (kk : am_G p l e R s m args below meth c Q D cl dI tl N0 fl Fo H0 M.2.2.1 (pc + 1) ls st (h.set o (.inl (.boolean, (m1, .inl (upd f i.toNatClampNeg (vp_nar .boolean w)))))) k n) : am_G p l e R s m args below meth c Q D cl dI tl N0 fl Fo H0 M.2.2.1 pc ls (.int w :: .int i :: .ref o :: st) h k n := by
  intro H locs la h1 h2 h3 h4
  obtain ⟨hx, hb, hml, hown, hts, htn, hK, -, -, -⟩ := hE
  have hT := h1.2.2.2 o _ _ ho
  obtain ⟨j, hj⟩ := am_ty_at (dI := dI) hT
  have hw : (am_w dI N0 fl h)[o]? = some (N0 + o, .inl (dI .boolean, (m1, .inl f))) := am_w_at ho
  refine va_zast hx hb hK h1.2.1 (am_w_D dI N0 fl h) (am_S0 h2) o j hw hj hi hd fun H1 locs1 hP hD hS => ?_
  have hset : (am_w dI N0 fl h).set o (N0 + o, .inl (dI .boolean, (m1, .inl (upd f i.toNatClampNeg (vp_nar .boolean w))))) = am_w dI N0 fl (h.set o (.inl (.boolean, (m1, .inl (upd f i.toNatClampNeg (vp_nar .boolean w)))))) := am_w_set dI N0 fl h o (.inl (.boolean, (m1, .inl (upd f i.toNatClampNeg (vp_nar .boolean w)))))
  rw [hset] at hP
  exact am_kk hF h1 h2 h4 kk (List.length_set ..) (h1.2.2.2.set fun t x q => by cases q; exact hT) hP hS h3
theorem am_k_bast {i w : Int32} {o m1 : Nat} {f : Nat → Int32} (hE : am_Ev p s m args meth c B Bn D cl dI tl M) (hC : am_cls B cl cb ct) (hF : am_Fk N0 Fo) (hd : decode M.2.1 pc = .ok (.bastore, 1)) (ho : h[o]? = some (.inl (.byte, (m1, .inl f)))) (hi : ¬ (i < 0 ∨ m1 ≤ i.toNatClampNeg))
    (kk : am_G p l e R s m args below meth c Q D cl dI tl N0 fl Fo H0 M.2.2.1 (pc + 1) ls st (h.set o (.inl (.byte, (m1, .inl (upd f i.toNatClampNeg (vp_nar .byte w)))))) k n) : am_G p l e R s m args below meth c Q D cl dI tl N0 fl Fo H0 M.2.2.1 pc ls (.int w :: .int i :: .ref o :: st) h k n := by
  intro H locs la h1 h2 h3 h4
  obtain ⟨hx, hb, hml, hown, hts, htn, hK, -, -, -⟩ := hE
  have hT := h1.2.2.2 o _ _ ho
  obtain ⟨j, hj⟩ := am_ty_at (dI := dI) hT
  have hw : (am_w dI N0 fl h)[o]? = some (N0 + o, .inl (dI .byte, (m1, .inl f))) := am_w_at ho
  refine va_bast hx hb hK h1.2.1 (am_w_D dI N0 fl h) (am_S0 h2) o j hw hj hi hd fun H1 locs1 hP hD hS => ?_
  have hset : (am_w dI N0 fl h).set o (N0 + o, .inl (dI .byte, (m1, .inl (upd f i.toNatClampNeg (vp_nar .byte w))))) = am_w dI N0 fl (h.set o (.inl (.byte, (m1, .inl (upd f i.toNatClampNeg (vp_nar .byte w)))))) := am_w_set dI N0 fl h o (.inl (.byte, (m1, .inl (upd f i.toNatClampNeg (vp_nar .byte w)))))
  rw [hset] at hP
  exact am_kk hF h1 h2 h4 kk (List.length_set ..) (h1.2.2.2.set fun t x q => by cases q; exact hT) hP hS h3
theorem am_k_iald {i : Int32} {o m1 : Nat} {f : Nat → Int32} (hE : am_Ev p s m args meth c B Bn D cl dI tl M) (hd : decode M.2.1 pc = .ok (.iaload, 1)) (ho : h[o]? = some (.inl (.int, (m1, .inl f)))) (hi : ¬ (i < 0 ∨ m1 ≤ i.toNatClampNeg))
    (kk : am_G p l e R s m args below meth c Q D cl dI tl N0 fl Fo H0 M.2.2.1 (pc + 1) ls (.int (f i.toNatClampNeg) :: st) h k n) : am_G p l e R s m args below meth c Q D cl dI tl N0 fl Fo H0 M.2.2.1 pc ls (.int i :: .ref o :: st) h k n := by
  intro H locs la h1 h2 h3 h4
  obtain ⟨hx, hb, hml, hown, hts, htn, hK, -, -, -⟩ := hE
  obtain ⟨j, hj⟩ := am_ty_at (dI := dI) (h1.2.2.2 o _ _ ho)
  have hw : (am_w dI N0 fl h)[o]? = some (N0 + o, .inl (dI .int, (m1, .inl f))) := am_w_at ho
  exact va_iald hx hb hK h1.2.1 o j hw hj hi hd (kk H locs la h1 h2 h3 h4)
theorem am_k_zald {i : Int32} {o m1 : Nat} {f : Nat → Int32} (hE : am_Ev p s m args meth c B Bn D cl dI tl M) (hd : decode M.2.1 pc = .ok (.baload, 1)) (ho : h[o]? = some (.inl (.boolean, (m1, .inl f)))) (hi : ¬ (i < 0 ∨ m1 ≤ i.toNatClampNeg))
    (kk : am_G p l e R s m args below meth c Q D cl dI tl N0 fl Fo H0 M.2.2.1 (pc + 1) ls (.int (f i.toNatClampNeg) :: st) h k n) : am_G p l e R s m args below meth c Q D cl dI tl N0 fl Fo H0 M.2.2.1 pc ls (.int i :: .ref o :: st) h k n := by
  intro H locs la h1 h2 h3 h4
  obtain ⟨hx, hb, hml, hown, hts, htn, hK, -, -, -⟩ := hE
  obtain ⟨j, hj⟩ := am_ty_at (dI := dI) (h1.2.2.2 o _ _ ho)
  have hw : (am_w dI N0 fl h)[o]? = some (N0 + o, .inl (dI .boolean, (m1, .inl f))) := am_w_at ho
  exact va_zald hx hb hK h1.2.1 o j hw hj hi hd (kk H locs la h1 h2 h3 h4)
theorem am_k_bald {i : Int32} {o m1 : Nat} {f : Nat → Int32} (hE : am_Ev p s m args meth c B Bn D cl dI tl M) (hd : decode M.2.1 pc = .ok (.baload, 1)) (ho : h[o]? = some (.inl (.byte, (m1, .inl f)))) (hi : ¬ (i < 0 ∨ m1 ≤ i.toNatClampNeg))
    (kk : am_G p l e R s m args below meth c Q D cl dI tl N0 fl Fo H0 M.2.2.1 (pc + 1) ls (.int (f i.toNatClampNeg) :: st) h k n) : am_G p l e R s m args below meth c Q D cl dI tl N0 fl Fo H0 M.2.2.1 pc ls (.int i :: .ref o :: st) h k n := by
  intro H locs la h1 h2 h3 h4
  obtain ⟨hx, hb, hml, hown, hts, htn, hK, -, -, -⟩ := hE
  obtain ⟨j, hj⟩ := am_ty_at (dI := dI) (h1.2.2.2 o _ _ ho)
  have hw : (am_w dI N0 fl h)[o]? = some (N0 + o, .inl (dI .byte, (m1, .inl f))) := am_w_at ho
  exact va_bald hx hb hK h1.2.1 o j hw hj hi hd (kk H locs la h1 h2 h3 h4)
theorem am_k_lald {i : Int32} {o m1 : Nat} {f : Nat → Int64} (hE : am_Ev p s m args meth c B Bn D cl dI tl M) (hd : decode M.2.1 pc = .ok (.laload, 1)) (ho : h[o]? = some (.inl (.long, (m1, .inr (.inl f))))) (hi : ¬ (i < 0 ∨ m1 ≤ i.toNatClampNeg))
    (kk : am_G p l e R s m args below meth c Q D cl dI tl N0 fl Fo H0 M.2.2.1 (pc + 1) ls (.long (f i.toNatClampNeg) :: st) h k n) : am_G p l e R s m args below meth c Q D cl dI tl N0 fl Fo H0 M.2.2.1 pc ls (.int i :: .ref o :: st) h k n := by
  intro H locs la h1 h2 h3 h4
  obtain ⟨hx, hb, hml, hown, hts, htn, hK, -, -, -⟩ := hE
  obtain ⟨j, hj⟩ := am_ty_at (dI := dI) (h1.2.2.2 o _ _ ho)
  have hw : (am_w dI N0 fl h)[o]? = some (N0 + o, .inl (dI .long, (m1, .inr (.inl f)))) := am_w_at ho
  exact va_lald hx hb hK h1.2.1 o j hw hj hi hd (kk H locs la h1 h2 h3 h4)
theorem am_k_last {i : Int32} {w : Int64} {o m1 : Nat} {f : Nat → Int64} (hE : am_Ev p s m args meth c B Bn D cl dI tl M) (hC : am_cls B cl cb ct) (hF : am_Fk N0 Fo) (hd : decode M.2.1 pc = .ok (.lastore, 1)) (ho : h[o]? = some (.inl (.long, (m1, .inr (.inl f))))) (hi : ¬ (i < 0 ∨ m1 ≤ i.toNatClampNeg))
    (kk : am_G p l e R s m args below meth c Q D cl dI tl N0 fl Fo H0 M.2.2.1 (pc + 1) ls st (h.set o (.inl (.long, (m1, .inr (.inl (vp_updL f i.toNatClampNeg w)))))) k n) : am_G p l e R s m args below meth c Q D cl dI tl N0 fl Fo H0 M.2.2.1 pc ls (.long w :: .int i :: .ref o :: st) h k n := by
  intro H locs la h1 h2 h3 h4
  obtain ⟨hx, hb, hml, hown, hts, htn, hK, -, -, -⟩ := hE
  have hT := h1.2.2.2 o _ _ ho
  obtain ⟨j, hj⟩ := am_ty_at (dI := dI) hT
  have hw : (am_w dI N0 fl h)[o]? = some (N0 + o, .inl (dI .long, (m1, .inr (.inl f)))) := am_w_at ho
  refine va_last hx hb hK h1.2.1 (am_w_D dI N0 fl h) (am_S0 h2) o j hw hj hi hd fun H1 locs1 hP hD hS => ?_
  have hset : (am_w dI N0 fl h).set o (N0 + o, .inl (dI .long, (m1, .inr (.inl (vp_updL f i.toNatClampNeg w))))) = am_w dI N0 fl (h.set o (.inl (.long, (m1, .inr (.inl (vp_updL f i.toNatClampNeg w)))))) := am_w_set dI N0 fl h o (.inl (.long, (m1, .inr (.inl (vp_updL f i.toNatClampNeg w)))))
  rw [hset] at hP
  exact am_kk hF h1 h2 h4 kk (List.length_set ..) (h1.2.2.2.set fun t x q => by cases q; exact hT) hP hS h3
theorem am_k_aald {i : Int32} {o m1 : Nat} {t : FieldType} {f : Nat → Option Nat} (hE : am_Ev p s m args meth c B Bn D cl dI tl M) (hd : decode M.2.1 pc = .ok (.aaload, 1)) (ho : h[o]? = some (.inl (t, (m1, .inr (.inr (.inr (.inr f))))))) (hi : ¬ (i < 0 ∨ m1 ≤ i.toNatClampNeg)) (ht : t.isReference = true)
    (kk : am_G p l e R s m args below meth c Q D cl dI tl N0 fl Fo H0 M.2.2.1 (pc + 1) ls (va_rf (f i.toNatClampNeg) :: st) h k n) : am_G p l e R s m args below meth c Q D cl dI tl N0 fl Fo H0 M.2.2.1 pc ls (.int i :: .ref o :: st) h k n := by
  intro H locs la h1 h2 h3 h4
  obtain ⟨hx, hb, hml, hown, hts, htn, hK, -, -, -⟩ := hE
  obtain ⟨j, hj⟩ := am_ty_at (dI := dI) (h1.2.2.2 o _ _ ho)
  have hw : (am_w dI N0 fl h)[o]? = some (N0 + o, .inl (dI t, (m1, .inr (.inr (.inr (.inr fun j => (f j).map fun k => N0 + k)))))) := am_w_at ho
  have kk : W p l e R s m args below meth c H locs k n Q (F0 m (pc + 1) la (am_v N0 fl (va_rf (f i.toNatClampNeg)) :: st.map (am_v N0 fl))) := kk H locs la h1 h2 h3 h4
  rw [am_rf] at kk
  have hc : H[N0 + o]? = some (arrV (dI t) m1 (fun j => va_rf ((f j).map fun k => N0 + k))) := h1.2.1 o _ hw
  have hlt : i.toNatClampNeg < m1 := Nat.not_le.mp fun q => hi (Or.inr q)
  exact W.aald hx hb hc ((hK.2 j _ hj).1 m1 _) ht (fun q => by cases q) (by rw [arrV_size]; exact hi) (arrV_read _ _ hlt) rfl rfl hd kk
theorem am_k_aastN {i : Int32} {o m1 : Nat} {C : String} {f : Nat → Option Nat} (hE : am_Ev p s m args meth c B Bn D cl dI tl M) (hC : am_cls B cl cb ct) (hF : am_Fk N0 Fo) (hd : decode M.2.1 pc = .ok (.aastore, 1)) (ho : h[o]? = some (.inl (.object C, (m1, .inr (.inr (.inr (.inr f))))))) (hi : ¬ (i < 0 ∨ m1 ≤ i.toNatClampNeg))
    (kk : am_G p l e R s m args below meth c Q D cl dI tl N0 fl Fo H0 M.2.2.1 (pc + 1) ls st (h.set o (.inl (.object C, (m1, .inr (.inr (.inr (.inr (va_up f i.toNatClampNeg none)))))))) k n) : am_G p l e R s m args below meth c Q D cl dI tl N0 fl Fo H0 M.2.2.1 pc ls (.null :: .int i :: .ref o :: st) h k n := by
  intro H locs la h1 h2 h3 h4
  obtain ⟨hx, hb, hml, hown, hts, htn, hK, -, -, -⟩ := hE
  have hT := h1.2.2.2 o _ _ ho
  obtain ⟨j, hj⟩ := am_ty_at (dI := dI) hT
  have hw : (am_w dI N0 fl h)[o]? = some (N0 + o, .inl (dI (.object C), (m1, .inr (.inr (.inr (.inr fun j => (f j).map fun k => N0 + k)))))) := am_w_at ho
  refine va_astqN hx hb hK h1.2.1 (am_w_D dI N0 fl h) (am_S0 h2) o j hw hj hi hd fun H1 locs1 hP hD hS => ?_
  have hset : (am_w dI N0 fl h).set o (N0 + o, .inl (dI (.object C), (m1, .inr (.inr (.inr (.inr (va_up (fun j => (f j).map fun k => N0 + k) i.toNatClampNeg none))))))) = am_w dI N0 fl (h.set o (.inl (.object C, (m1, .inr (.inr (.inr (.inr (va_up f i.toNatClampNeg none)))))))) := by
    rw [← am_w_set]
    show _ = (am_w dI N0 fl h).set o (N0 + o, .inl (dI (.object C), (m1, .inr (.inr (.inr (.inr fun j => (va_up f i.toNatClampNeg none j).map fun k => N0 + k))))))
    have e1 : va_up (fun j => (f j).map fun k => N0 + k) i.toNatClampNeg none = fun j => (va_up f i.toNatClampNeg none j).map fun k => N0 + k := by
      funext j
      by_cases q : j = i.toNatClampNeg <;> simp [va_up, q]
    rw [e1]
  rw [hset] at hP
  exact am_kk hF h1 h2 h4 kk (List.length_set ..) (h1.2.2.2.set fun t x q => by cases q; exact hT) hP hS h3
theorem am_k_aast {i : Int32} {o w m1 ci : Nat} {C : String} {f : Nat → Option Nat} {vs : List Value} (hE : am_Ev p s m args meth c B Bn D cl dI tl M) (hC : am_cls B cl cb ct) (hF : am_Fk N0 Fo) (hd : decode M.2.1 pc = .ok (.aastore, 1)) (ho : h[o]? = some (.inl (.object C, (m1, .inr (.inr (.inr (.inr f))))))) (hw0 : h[w]? = some (.inr (ci, vs))) (hi : ¬ (i < 0 ∨ m1 ≤ i.toNatClampNeg)) (hci : (ct[ci]?).map (fun q => q.1) = some C)
    (kk : am_G p l e R s m args below meth c Q D cl dI tl N0 fl Fo H0 M.2.2.1 (pc + 1) ls st (h.set o (.inl (.object C, (m1, .inr (.inr (.inr (.inr (va_up f i.toNatClampNeg (some w))))))))) k n) : am_G p l e R s m args below meth c Q D cl dI tl N0 fl Fo H0 M.2.2.1 pc ls (.ref w :: .int i :: .ref o :: st) h k n := by
  intro H locs la h1 h2 h3 h4
  obtain ⟨hx, hb, hml, hown, hts, htn, hK, -, -, -⟩ := hE
  have hT := h1.2.2.2 o _ _ ho
  obtain ⟨j, hj⟩ := am_ty_at (dI := dI) hT
  obtain ⟨qk, hq1, hq2⟩ := Option.map_eq_some_iff.mp hci
  obtain ⟨⟨C', T, N⟩, hr⟩ : ∃ r : vw_C, cb[ci]? = some r := by
    have : ci < cb.length := by rw [← hC.1.2]; exact (List.getElem?_eq_some_iff.mp hq1).1
    exact ⟨_, List.getElem?_eq_getElem this⟩
  obtain ⟨fs, f1, -⟩ := hC.2 ci C' T N hr
  have hr := hC.1.1 _ _ hr
  have hCC : C' = C := by
    rw [f1] at hq1
    cases hq1
    exact hq2
  subst hCC
  have hw : (am_w dI N0 fl h)[o]? = some (N0 + o, .inl (dI (.object C'), (m1, .inr (.inr (.inr (.inr fun j => (f j).map fun k => N0 + k)))))) := am_w_at ho
  have hv : (am_w dI N0 fl h)[w]? = some (N0 + w, .inr (ci, vs.map (am_v N0 fl))) := am_w_at hw0
  refine va_astq (r := (C', T, N)) hx hb hK h1.2.1 (am_w_D dI N0 fl h) (am_S0 h2) o j w ci hw hj hv hr hi hd fun H1 locs1 hP hD hS => ?_
  have hset : (am_w dI N0 fl h).set o (N0 + o, .inl (dI (.object C'), (m1, .inr (.inr (.inr (.inr (va_up (fun j => (f j).map fun k => N0 + k) i.toNatClampNeg (some (N0 + w))))))))) = am_w dI N0 fl (h.set o (.inl (.object C', (m1, .inr (.inr (.inr (.inr (va_up f i.toNatClampNeg (some w))))))))) := by
    rw [← am_w_set]
    show _ = (am_w dI N0 fl h).set o (N0 + o, .inl (dI (.object C'), (m1, .inr (.inr (.inr (.inr fun j => (va_up f i.toNatClampNeg (some w) j).map fun k => N0 + k))))))
    have e1 : va_up (fun j => (f j).map fun k => N0 + k) i.toNatClampNeg (some (N0 + w)) = fun j => (va_up f i.toNatClampNeg (some w) j).map fun k => N0 + k := by
      funext j
      by_cases q : j = i.toNatClampNeg <;> simp [va_up, q]
    rw [e1]
  rw [hset] at hP
  exact am_kk hF h1 h2 h4 kk (List.length_set ..) (h1.2.2.2.set fun t x q => by cases q; exact hT) hP hS h3
theorem am_k_alen {o : Nat} {t : FieldType} {x : vp_A} (hE : am_Ev p s m args meth c B Bn D cl dI tl M) (hd : decode M.2.1 pc = .ok (.arraylength, 1)) (ho : h[o]? = some (.inl (t, x)))
    (kk : am_G p l e R s m args below meth c Q D cl dI tl N0 fl Fo H0 M.2.2.1 (pc + 1) ls (.int (Int32.ofNat x.1) :: st) h k n) : am_G p l e R s m args below meth c Q D cl dI tl N0 fl Fo H0 M.2.2.1 pc ls (.ref o :: st) h k n := by
  intro H locs la h1 h2 h3 h4
  obtain ⟨hx, hb, hml, hown, hts, htn, hK, -, -, -⟩ := hE
  obtain ⟨j, hj⟩ := am_ty_at (dI := dI) (h1.2.2.2 o _ _ ho)
  have hw : (am_w dI N0 fl h)[o]? = some (N0 + o, .inl (dI t, am_a N0 x)) := am_w_at ho
  have e1 : (am_a N0 x).1 = x.1 := by
    unfold am_a
    split <;> rfl
  exact va_alen hx hb hK h1.2.1 o j hw hj (by rw [e1]) hd (kk H locs la h1 h2 h3 h4)
theorem am_k_slen {sL : Nat} {sx : Nat → Int32} (hE : am_Ev p s m args meth c B Bn D cl dI tl M) (hX : ∀ (U : State) (H : Heap), Fo U H → va_X (fl 0) sL sx U H ∧ fl 0 < N0) (hd : decode M.2.1 pc = .ok (.arraylength, 1))
    (kk : am_G p l e R s m args below meth c Q D cl dI tl N0 fl Fo H0 M.2.2.1 (pc + 1) ls (.int (Int32.ofNat sL) :: st) h k n) : am_G p l e R s m args below meth c Q D cl dI tl N0 fl Fo H0 M.2.2.1 pc ls (.retAddr 0 :: st) h k n := by
  intro H locs la h1 h2 h3 h4
  obtain ⟨hx, hb, hml, hown, hts, htn, hK, -, -, -⟩ := hE
  obtain ⟨g1, g2⟩ := hX s H h1.2.2.1
  exact va_slen (A := fun q => N0 ≤ q) hx hb g1 (by have := h1.1; omega) (by show ¬ N0 ≤ fl 0; omega) (am_S0 h2) hd (kk H locs la h1 h2 h3 h4)
theorem am_k_sld {sL : Nat} {sx : Nat → Int32} {i : Int32} (hE : am_Ev p s m args meth c B Bn D cl dI tl M) (hX : ∀ (U : State) (H : Heap), Fo U H → va_X (fl 0) sL sx U H ∧ fl 0 < N0) (hd : decode M.2.1 pc = .ok (.iaload, 1)) (hi : ¬ (i < 0 ∨ sL ≤ i.toNatClampNeg))
    (kk : am_G p l e R s m args below meth c Q D cl dI tl N0 fl Fo H0 M.2.2.1 (pc + 1) ls (.int (sx i.toNatClampNeg) :: st) h k n) : am_G p l e R s m args below meth c Q D cl dI tl N0 fl Fo H0 M.2.2.1 pc ls (.int i :: .retAddr 0 :: st) h k n := by
  intro H locs la h1 h2 h3 h4
  obtain ⟨hx, hb, hml, hown, hts, htn, hK, -, -, -⟩ := hE
  obtain ⟨g1, g2⟩ := hX s H h1.2.2.1
  exact va_sld (A := fun q => N0 ≤ q) hx hb g1 (by have := h1.1; omega) (by show ¬ N0 ≤ fl 0; omega) (am_S0 h2) hi hd (kk H locs la h1 h2 h3 h4)
theorem am_k_copy {i : Nat} {w dp sp : Int32} {o q m0 m1 : Nat} {f g : Nat → Int32} (hE : am_Ev p s m args meth c B Bn D cl dI tl M) (hC : am_cls B cl cb ct) (hF : am_Fk N0 Fo) (hRf : 0 < R.frames) (hRl : am_sum st + 18 ≤ R.locals) (hd : decode M.2.1 pc = .ok (.invokestatic i, 3)) (ha : Cond.methodLink M.1.cls i arraycopyName ∈ B ∧ Cond.native arraycopyName ∈ B ∧ Cond.static arraycopyName ∈ B ∧ Cond.initialized "java/lang/System" ∈ B)
    (ho : h[o]? = some (.inl (.int, (m0, .inl f)))) (hq : h[q]? = some (.inl (.int, (m1, .inl g)))) (s1 : ¬ sp < 0) (s2 : ¬ dp < 0) (s3 : ¬ w < 0) (s4 : sp.toNatClampNeg + w.toNatClampNeg ≤ m0) (s5 : dp.toNatClampNeg + w.toNatClampNeg ≤ m1) 
    (kk : am_G p l e R s m args below meth c Q D cl dI tl N0 fl Fo H0 M.2.2.1 (pc + 3) ls st (h.set q (.inl (.int, (m1, .inl (va_cpy f g sp.toNatClampNeg dp.toNatClampNeg w.toNatClampNeg))))) k n) : am_G p l e R s m args below meth c Q D cl dI tl N0 fl Fo H0 M.2.2.1 pc ls (.int w :: .int dp :: .ref q :: .int sp :: .ref o :: st) h k n := by
  intro H locs la h1 h2 h3 h4
  obtain ⟨hx, hb, hml, hown, hts, htn, hK, -, -, -⟩ := hE
  have hT := h1.2.2.2 o _ _ ho
  obtain ⟨j, hj⟩ := am_ty_at (dI := dI) hT
  have hw : (am_w dI N0 fl h)[o]? = some (N0 + o, .inl (dI .int, (m0, .inl f))) := am_w_at ho
  have hw1 : (am_w dI N0 fl h)[q]? = some (N0 + q, .inl (dI .int, (m1, .inl g))) := am_w_at hq
  refine va_copyi hx hb (by rw [hml, h3.1]) hown (hts _ ha.1) (hts _ ha.2.1) (hts _ ha.2.2.1) (hts _ ha.2.2.2) hK h1.2.1 (am_w_D dI N0 fl h) (am_S0 h2) o q j j hw hw1 hj hj rfl s1 s2 s3 s4 s5 (fun _ _ => rfl) hRf ?_ hd fun H1 locs1 hP hD hS => ?_
  · rw [am_sum_map]
    have : nativeFrameWords "java/lang/System" "arraycopy" 5 = 7 := by decide
    omega
  have hset : (am_w dI N0 fl h).set q (N0 + q, .inl (dI .int, (m1, .inl (va_cpy f g sp.toNatClampNeg dp.toNatClampNeg w.toNatClampNeg)))) = am_w dI N0 fl (h.set q (.inl (.int, (m1, .inl (va_cpy f g sp.toNatClampNeg dp.toNatClampNeg w.toNatClampNeg))))) := am_w_set dI N0 fl h q (.inl (.int, (m1, .inl (va_cpy f g sp.toNatClampNeg dp.toNatClampNeg w.toNatClampNeg))))
  rw [hset] at hP
  exact am_kk hF h1 h2 h4 kk (List.length_set ..) (h1.2.2.2.set fun t x y => by cases y; exact hT) hP hS h3
end AMK
