/-! One simple instruction. -/
section AMO
variable {p : Program} {l : Launch} {e : Env} {R : Room} {s : State} {m : MethodId} {args : Array Value} {below : List Frame} {meth : Method} {c : Code} {Q : State → Prop}
variable {D : va_G} {cl : List vw_C} {dI : FieldType → ClassId} {tl : List FieldType} {N0 : Nat} {fl : Nat → Nat} {Fo : State → Heap → Prop} {H0 : Heap}
variable {pc : Nat} {ls : am_L} {st : List Value} {h : am_H} {k n : Nat}
variable {B Bn : List Cond} {cb : List vw_C} {ct : List am_K} {M : am_M} {host : String}
theorem am_ldcwS {cc : ByteArray} {H : Heap} {locs : List Loc} {la : Array Slot} {rest : List Value} (hexec : p.tables.exec = Jvm.exec) (hb : c.code = cc) {own tx : String} {index q : Nat} (hown : s.vm.findClass own = some m.cls) (hZ : vk_R own index tx q s) (hdg : decode cc pc = .ok (.ldc_w index, 3))
    (kk : W p l e R s m args below meth c H locs k n Q (F0 m (pc + 3) la (.ref q :: rest))) : W p l e R s m args below meth c H locs k n Q (F0 m pc la rest) := by
  intro T hT X
  obtain ⟨t, a1, b1⟩ := kk T hT X
  exact ⟨t, X.ldcStringW hexec hown (text := tx) (a := q) hZ.1 hZ.2 (g := F0 m pc la rest) rfl (by rw [hb]; exact hdg) t a1, b1⟩
def am_Mna (p : Program) (l : Launch) (e : Env) (R : Room) (s : State) (m : MethodId) (args : Array Value) (below : List Frame) (meth : Method) (c : Code) (Q : State → Prop) (D : va_G) (cl : List vw_C) (dI : FieldType → ClassId) (tl : List FieldType) (N0 : Nat) (fl : Nat → Nat) (Fo : State → Heap → Prop) (H0 : Heap) (B Bn : List Cond) (M : am_M) : Prop :=
  ∀ (pc : Nat) (ls : am_L) (st : List Value) (h : am_H) (k n i : Nat) (x y : Int32), am_Ev p s m args meth c B Bn D cl dI tl M → decode M.2.1 pc = .ok (.multianewarray i 2, 4) →
    (Cond.classLink M.1.cls i "[[I" ∈ B ∧ Cond.arrayClass .int ∈ B ∧ FieldType.int ∈ tl ∧ FieldType.array .int ∈ tl ∧ ∀ (U : State) (H : Heap), Fo U H → (Cond.arrayOver (.array .int)).before #[] U = true) →
    ¬ y < 0 → ¬ x < 0 → y.toNatClampNeg * 4 ≤ 536870912 → x.toNatClampNeg * 4 ≤ 536870912 → k + 1 + y.toNatClampNeg ≤ R.cells → n + y.toNatClampNeg + y.toNatClampNeg * x.toNatClampNeg ≤ R.slots →
    am_G p l e R s m args below meth c Q D cl dI tl N0 fl Fo H0 M.2.2.1 (pc + 4) ls (.ref h.length :: st) (h ++ (.inl (.array .int, (y.toNatClampNeg, .inr (.inr (.inr (.inr fun i => if i < y.toNatClampNeg then some (h.length + 1 + i) else none))))) :: List.replicate y.toNatClampNeg (.inl (.int, (x.toNatClampNeg, .inl fun _ => 0))))) (k + 1 + y.toNatClampNeg) (n + y.toNatClampNeg + y.toNatClampNeg * x.toNatClampNeg) →
    am_G p l e R s m args below meth c Q D cl dI tl N0 fl Fo H0 M.2.2.1 pc ls (.int x :: .int y :: st) h k n
def am_Chr (p : Program) (l : Launch) (e : Env) (R : Room) (s : State) (m : MethodId) (args : Array Value) (below : List Frame) (meth : Method) (c : Code) (Q : State → Prop) (D : va_G) (cl : List vw_C) (dI : FieldType → ClassId) (tl : List FieldType) (N0 : Nat) (fl : Nat → Nat) (Fo : State → Heap → Prop) (H0 : Heap) (B Bn : List Cond) (cs : Nat → Nat → Option Int32) (M : am_M) : Prop :=
  ∀ (pc : Nat) (ls : am_L) (st : List Value) (h : am_H) (k n i j : Nat) (ix x : Int32), am_Ev p s m args meth c B Bn D cl dI tl M → decode M.2.1 pc = .ok (.invokevirtual i, 3) → Cond.methodLink M.1.cls i ⟨"java/lang/String", "charAt", "(I)C"⟩ ∈ B →
    ¬ ix < 0 → 4 ≤ R.frames → 120 ≤ R.locals → am_sum st ≤ 8 → cs j ix.toNatClampNeg = some x → k ≤ R.cells → n ≤ R.slots →
    am_G p l e R s m args below meth c Q D cl dI tl N0 fl Fo H0 M.2.2.1 (pc + 3) ls (.int x :: st) h k n → am_G p l e R s m args below meth c Q D cl dI tl N0 fl Fo H0 M.2.2.1 pc ls (.int ix :: .retAddr j :: st) h k n
def am_Oct (p : Program) (l : Launch) (e : Env) (R : Room) (s : State) (m : MethodId) (args : Array Value) (below : List Frame) (meth : Method) (c : Code) (Q : State → Prop) (D : va_G) (cl : List vw_C) (dI : FieldType → ClassId) (tl : List FieldType) (N0 : Nat) (fl : Nat → Nat) (Fo : State → Heap → Prop) (H0 : Heap) (B Bn : List Cond) (M : am_M) : Prop :=
  ∀ (pc : Nat) (ls : am_L) (st : List Value) (h : am_H) (k n i w o oa m0 m1 : Nat) (ix wr : Int32) (f : Nat → Int64) (g : Nat → Int32) (vs : List Value), am_Ev p s m args meth c B Bn D cl dI tl M → decode M.2.1 pc = .ok (.invokestatic i, 3) → M.1.cls = "TerminalHouseLaw" ∧ i = 37 →
    10 ≤ R.frames → 300 ≤ R.locals → am_sum st ≤ 8 → 0 < m0 → h[o]? = some (.inr (11, vs)) → h[w]? = some (.inl (.long, (m0, .inr (.inl f)))) → vs[2]? = some (.ref oa) → vs[3]? = some (.int wr) → h[oa]? = some (.inl (.int, (m1, .inl g))) →
    (if ix < 0 ∨ wr ≤ ix then k + 1 ≤ R.cells ∧ n + 6 ≤ R.slots ∧ am_G p l e R s m args below meth c Q D cl dI tl N0 fl Fo H0 M.2.2.1 (pc + 3) ls (.int 1 :: st) (h ++ [.inr (13, [])]) (k + 1) (n + 6) else ¬ m1 ≤ ix.toNatClampNeg ∧ k ≤ R.cells ∧ n ≤ R.slots ∧ am_G p l e R s m args below meth c Q D cl dI tl N0 fl Fo H0 M.2.2.1 (pc + 3) ls (.int 0 :: st) (h.set w (.inl (.long, (m0, .inr (.inl (vp_updL f 0 (g ix.toNatClampNeg).toInt64)))))) k n) →
    am_G p l e R s m args below meth c Q D cl dI tl N0 fl Fo H0 M.2.2.1 pc ls (.ref w :: .int ix :: .ref o :: st) h k n
set_option maxHeartbeats 4000000 in
set_option maxRecDepth 100000 in
theorem am_s_ok {d q sL : Nat} {sx : Nat → Int32} {cs : Nat → Nat → Option Int32} {I : am_I} {t : am_T} (hE : am_Ev p s m args meth c B Bn D cl dI tl M) (hC : am_cls B cl cb ct) (hF : am_Fk N0 Fo) (hX : ∀ (U : State) (H : Heap), Fo U H → va_X (fl 0) sL sx U H ∧ fl 0 < N0) (hM : am_Mna p l e R s m args below meth c Q D cl dI tl N0 fl Fo H0 B Bn M) (hCh : am_Chr p l e R s m args below meth c Q D cl dI tl N0 fl Fo H0 B Bn cs M) (hOc : am_Oct p l e R s m args below meth c Q D cl dI tl N0 fl Fo H0 B Bn M)
    (hR : R.frames = d ∧ R.locals = q) (hI : am_dec M.2.1 pc I.1) (ha : am_aux B Bn cb tl host Fo fl M pc I) (hs : am_s (d, q, M.2.2.1, ct, sL, sx, cs) I pc ls st h k n = some t) (hk : t.2.2.2.2.1 ≤ R.cells) (hn : t.2.2.2.2.2 ≤ R.slots)
    (kk : am_G p l e R s m args below meth c Q D cl dI tl N0 fl Fo H0 M.2.2.1 t.1 t.2.1 t.2.2.1 t.2.2.2.1 t.2.2.2.2.1 t.2.2.2.2.2) : am_G p l e R s m args below meth c Q D cl dI tl N0 fl Fo H0 M.2.2.1 pc ls st h k n := by
  obtain ⟨i, v, a, b, ne, tb⟩ := I
  obtain ⟨len, hd, hln⟩ := hI
  have hx := hE.1
  have hb := hE.2.1
  have hml := hE.2.2.1
  have hown := hE.2.2.2.1
  have hts := hE.2.2.2.2.1
  cases i
  case iconst x =>
    obtain rfl := hln _ rfl
    dsimp only [am_s] at hs
    cases hs
    exact fun H locs la h1 h2 h3 h4 => lv_iconst hx hb hd rfl (kk H locs la h1 h2 h3 h4)
  case bipush x =>
    obtain rfl := hln _ rfl
    dsimp only [am_s] at hs
    cases hs
    exact fun H locs la h1 h2 h3 h4 => lv_bipush hx hb hd rfl (kk H locs la h1 h2 h3 h4)
  case sipush x =>
    obtain rfl := hln _ rfl
    dsimp only [am_s] at hs
    cases hs
    exact fun H locs la h1 h2 h3 h4 => lv_sipush hx hb hd rfl (kk H locs la h1 h2 h3 h4)
  case lconst x =>
    obtain rfl := hln _ rfl
    dsimp only [am_s] at hs
    cases hs
    exact fun H locs la h1 h2 h3 h4 => lv_lconst hx hb hd rfl (kk H locs la h1 h2 h3 h4)
  case aconst_null  =>
    obtain rfl := hln _ rfl
    dsimp only [am_s] at hs
    cases hs
    exact fun H locs la h1 h2 h3 h4 => lv_null hx hb hd (kk H locs la h1 h2 h3 h4)
  case ldc j =>
    obtain rfl := hln _ rfl
    dsimp only [am_s] at hs
    cases hs
    dsimp only [am_aux] at ha
    rcases ha with ⟨x, rfl, ha⟩ | ⟨j, tx, rfl, ha⟩
    · exact fun H locs la h1 h2 h3 h4 => lv_ldc hx hb hown (hts _ ha) hd (kk H locs la h1 h2 h3 h4)
    · exact fun H locs la h1 h2 h3 h4 => va_ldcS hx hb hown (ha s H h1.2.2.1) hd (kk H locs la h1 h2 h3 h4)
  case ldc_w j =>
    obtain rfl := hln _ rfl
    dsimp only [am_s] at hs
    cases hs
    dsimp only [am_aux] at ha
    rcases ha with ⟨x, rfl, ha⟩ | ⟨j, tx, rfl, ha⟩
    · exact fun H locs la h1 h2 h3 h4 => lv_ldcw hx hb hown (hts _ ha) hd (kk H locs la h1 h2 h3 h4)
    · exact fun H locs la h1 h2 h3 h4 => am_ldcwS hx hb hown (ha s H h1.2.2.1) hd (kk H locs la h1 h2 h3 h4)
  case ldc2_w j =>
    obtain rfl := hln _ rfl
    dsimp only [am_s] at hs
    cases hs
    dsimp only [am_aux] at ha
    obtain ⟨x, rfl, ha⟩ := ha
    exact fun H locs la h1 h2 h3 h4 => lv_ldc2 hx hb hown (hts _ ha) hd (kk H locs la h1 h2 h3 h4)
  case iload j =>
    obtain rfl := hln _ rfl
    dsimp only [am_s] at hs
    split at hs
    · rename_i x hl
      cases hs
      exact fun H locs la h1 h2 h3 h4 => lv_iload hx hb hd (am_ld_at h3 hl) (kk H locs la h1 h2 h3 h4)
    · cases hs
  case iload_n j =>
    obtain rfl := hln _ rfl
    dsimp only [am_s] at hs
    split at hs
    · rename_i x hl
      cases hs
      exact fun H locs la h1 h2 h3 h4 => lv_iload_n hx hb hd rfl (am_ld_at h3 hl) (kk H locs la h1 h2 h3 h4)
    · cases hs
  case lload j =>
    obtain rfl := hln _ rfl
    dsimp only [am_s] at hs
    split at hs
    · rename_i x hl
      cases hs
      exact fun H locs la h1 h2 h3 h4 => lv_lload hx hb hd (am_ld_at h3 hl) (kk H locs la h1 h2 h3 h4)
    · cases hs
  case lload_n j =>
    obtain rfl := hln _ rfl
    dsimp only [am_s] at hs
    split at hs
    · rename_i x hl
      cases hs
      exact fun H locs la h1 h2 h3 h4 => lv_lload_n hx hb hd rfl (am_ld_at h3 hl) (kk H locs la h1 h2 h3 h4)
    · cases hs
  case aload j =>
    obtain rfl := hln _ rfl
    dsimp only [am_s] at hs
    split at hs
    · rename_i w hl
      split at hs
      · rename_i hr
        cases hs
        exact am_k_aload hx hb hd hl hr kk
      · cases hs
    · cases hs
  case aload_n j =>
    obtain rfl := hln _ rfl
    dsimp only [am_s] at hs
    split at hs
    · rename_i w hl
      split at hs
      · rename_i hr
        cases hs
        exact am_k_aload_n hx hb hd hl hr kk
      · cases hs
    · cases hs
  case istore j =>
    obtain rfl := hln _ rfl
    dsimp only [am_s] at hs
    split at hs
    · rename_i x st1
      split at hs
      · rename_i hi
        cases hs
        exact fun H locs la h1 h2 h3 h4 => lv_istore hx hb hd h3 hi (am_lv_st1 N0 fl ls _ (.int x)) (fun la' h3' => kk H locs la' h1 h2 h3' h4)
      · cases hs
    · cases hs
  case istore_n j =>
    obtain rfl := hln _ rfl
    dsimp only [am_s] at hs
    split at hs
    · rename_i x st1
      split at hs
      · rename_i hi
        cases hs
        exact fun H locs la h1 h2 h3 h4 => lv_istore_n hx hb hd rfl h3 hi (am_lv_st1 N0 fl ls _ (.int x)) (fun la' h3' => kk H locs la' h1 h2 h3' h4)
      · cases hs
    · cases hs
  case lstore j =>
    obtain rfl := hln _ rfl
    dsimp only [am_s] at hs
    split at hs
    · rename_i x st1
      split at hs
      · rename_i hi
        cases hs
        exact fun H locs la h1 h2 h3 h4 => lv_lstore hx hb hd h3 hi (am_lv_st2 N0 fl ls _ (.long x)) (fun la' h3' => kk H locs la' h1 h2 h3' h4)
      · cases hs
    · cases hs
  case lstore_n j =>
    obtain rfl := hln _ rfl
    dsimp only [am_s] at hs
    split at hs
    · rename_i x st1
      split at hs
      · rename_i hi
        cases hs
        exact fun H locs la h1 h2 h3 h4 => lv_lstore_n hx hb hd rfl h3 hi (am_lv_st2 N0 fl ls _ (.long x)) (fun la' h3' => kk H locs la' h1 h2 h3' h4)
      · cases hs
    · cases hs
  case astore j =>
    obtain rfl := hln _ rfl
    dsimp only [am_s] at hs
    split at hs
    · split at hs
      · rename_i hi
        cases hs
        exact am_k_astore hx hb hd hi.1 hi.2 kk
      · cases hs
    · cases hs
  case astore_n j =>
    obtain rfl := hln _ rfl
    dsimp only [am_s] at hs
    split at hs
    · split at hs
      · rename_i hi
        cases hs
        exact am_k_astore_n hx hb hd hi.1 hi.2 kk
      · cases hs
    · cases hs
  case iinc j x =>
    obtain rfl := hln _ rfl
    dsimp only [am_s] at hs
    split at hs
    · rename_i w hl
      split at hs
      · rename_i hi
        cases hs
        exact am_k_iinc hx hb hd hl hi kk
      · cases hs
    · cases hs
  case iadd  =>
    obtain rfl := hln _ rfl
    dsimp only [am_s] at hs
    split at hs
    · cases hs
      exact fun H locs la h1 h2 h3 h4 => lv_iadd hx hb hd (kk H locs la h1 h2 h3 h4)
    · cases hs
  case isub  =>
    obtain rfl := hln _ rfl
    dsimp only [am_s] at hs
    split at hs
    · cases hs
      exact fun H locs la h1 h2 h3 h4 => lv_isub hx hb hd (kk H locs la h1 h2 h3 h4)
    · cases hs
  case imul  =>
    obtain rfl := hln _ rfl
    dsimp only [am_s] at hs
    split at hs
    · cases hs
      exact fun H locs la h1 h2 h3 h4 => lv_imul hx hb hd (kk H locs la h1 h2 h3 h4)
    · cases hs
  case iand  =>
    obtain rfl := hln _ rfl
    dsimp only [am_s] at hs
    split at hs
    · cases hs
      exact fun H locs la h1 h2 h3 h4 => lv_iand hx hb hd (kk H locs la h1 h2 h3 h4)
    · cases hs
  case ior  =>
    obtain rfl := hln _ rfl
    dsimp only [am_s] at hs
    split at hs
    · cases hs
      exact fun H locs la h1 h2 h3 h4 => lv_ior hx hb hd (kk H locs la h1 h2 h3 h4)
    · cases hs
  case ixor  =>
    obtain rfl := hln _ rfl
    dsimp only [am_s] at hs
    split at hs
    · cases hs
      exact fun H locs la h1 h2 h3 h4 => lv_ixor hx hb hd (kk H locs la h1 h2 h3 h4)
    · cases hs
  case ishl  =>
    obtain rfl := hln _ rfl
    dsimp only [am_s] at hs
    split at hs
    · cases hs
      exact fun H locs la h1 h2 h3 h4 => lv_ishl hx hb hd (kk H locs la h1 h2 h3 h4)
    · cases hs
  case ishr  =>
    obtain rfl := hln _ rfl
    dsimp only [am_s] at hs
    split at hs
    · cases hs
      exact fun H locs la h1 h2 h3 h4 => lv_ishr hx hb hd (kk H locs la h1 h2 h3 h4)
    · cases hs
  case ladd  =>
    obtain rfl := hln _ rfl
    dsimp only [am_s] at hs
    split at hs
    · cases hs
      exact fun H locs la h1 h2 h3 h4 => lv_ladd hx hb hd (kk H locs la h1 h2 h3 h4)
    · cases hs
  case lsub  =>
    obtain rfl := hln _ rfl
    dsimp only [am_s] at hs
    split at hs
    · cases hs
      exact fun H locs la h1 h2 h3 h4 => lv_lsub hx hb hd (kk H locs la h1 h2 h3 h4)
    · cases hs
  case lmul  =>
    obtain rfl := hln _ rfl
    dsimp only [am_s] at hs
    split at hs
    · cases hs
      exact fun H locs la h1 h2 h3 h4 => lv_lmul hx hb hd (kk H locs la h1 h2 h3 h4)
    · cases hs
  case ineg  =>
    obtain rfl := hln _ rfl
    dsimp only [am_s] at hs
    split at hs
    · cases hs
      exact fun H locs la h1 h2 h3 h4 => lv_ineg hx hb hd (kk H locs la h1 h2 h3 h4)
    · cases hs
  case lneg  =>
    obtain rfl := hln _ rfl
    dsimp only [am_s] at hs
    split at hs
    · cases hs
      exact fun H locs la h1 h2 h3 h4 => lv_lneg hx hb hd (kk H locs la h1 h2 h3 h4)
    · cases hs
  case lcmp  =>
    obtain rfl := hln _ rfl
    dsimp only [am_s] at hs
    split at hs
    · cases hs
      exact fun H locs la h1 h2 h3 h4 => W.lcmp hx hb hd (kk H locs la h1 h2 h3 h4)
    · cases hs
  case iushr  =>
    obtain rfl := hln _ rfl
    dsimp only [am_s] at hs
    split at hs
    · cases hs
      exact fun H locs la h1 h2 h3 h4 => lv_iushr hx hb hd rfl (kk H locs la h1 h2 h3 h4)
    · cases hs
  case i2l  =>
    obtain rfl := hln _ rfl
    dsimp only [am_s] at hs
    split at hs
    · cases hs
      exact fun H locs la h1 h2 h3 h4 => lv_i2l hx hb hd rfl (kk H locs la h1 h2 h3 h4)
    · cases hs
  case l2i  =>
    obtain rfl := hln _ rfl
    dsimp only [am_s] at hs
    split at hs
    · cases hs
      exact fun H locs la h1 h2 h3 h4 => lv_l2i hx hb hd rfl (kk H locs la h1 h2 h3 h4)
    · cases hs
  case i2b  =>
    obtain rfl := hln _ rfl
    dsimp only [am_s] at hs
    split at hs
    · cases hs
      exact fun H locs la h1 h2 h3 h4 => lv_i2b hx hb hd rfl (kk H locs la h1 h2 h3 h4)
    · cases hs
  case i2c  =>
    obtain rfl := hln _ rfl
    dsimp only [am_s] at hs
    split at hs
    · cases hs
      exact fun H locs la h1 h2 h3 h4 => lv_i2c hx hb hd rfl (kk H locs la h1 h2 h3 h4)
    · cases hs
  case idiv  =>
    obtain rfl := hln _ rfl
    dsimp only [am_s] at hs
    split at hs
    · split at hs
      · cases hs
      · rename_i hy
        cases hs
        exact fun H locs la h1 h2 h3 h4 => lv_idiv hx hb hd hy (kk H locs la h1 h2 h3 h4)
    · cases hs
  case irem  =>
    obtain rfl := hln _ rfl
    dsimp only [am_s] at hs
    split at hs
    · split at hs
      · cases hs
      · rename_i hy
        cases hs
        exact fun H locs la h1 h2 h3 h4 => lv_irem hx hb hd hy (kk H locs la h1 h2 h3 h4)
    · cases hs
  case ldiv  =>
    obtain rfl := hln _ rfl
    dsimp only [am_s] at hs
    split at hs
    · split at hs
      · cases hs
      · rename_i hy
        cases hs
        exact fun H locs la h1 h2 h3 h4 => lv_ldiv hx hb hd hy (kk H locs la h1 h2 h3 h4)
    · cases hs
  case lrem  =>
    obtain rfl := hln _ rfl
    dsimp only [am_s] at hs
    split at hs
    · split at hs
      · cases hs
      · rename_i hy
        cases hs
        exact fun H locs la h1 h2 h3 h4 => lv_lrem hx hb hd hy (kk H locs la h1 h2 h3 h4)
    · cases hs
  case dup  =>
    obtain rfl := hln _ rfl
    dsimp only [am_s] at hs
    split at hs
    · split at hs
      · rename_i hq
        cases hs
        exact fun H locs la h1 h2 h3 h4 => lv_dup hx hb hd (by rw [am_cat]; exact hq) (kk H locs la h1 h2 h3 h4)
      · cases hs
    · cases hs
  case pop  =>
    obtain rfl := hln _ rfl
    dsimp only [am_s] at hs
    split at hs
    · split at hs
      · rename_i hq
        cases hs
        exact fun H locs la h1 h2 h3 h4 => lv_pop hx hb hd (by rw [am_cat]; exact hq) (kk H locs la h1 h2 h3 h4)
      · cases hs
    · cases hs
  case dup_x1  =>
    obtain rfl := hln _ rfl
    dsimp only [am_s] at hs
    split at hs
    · split at hs
      · rename_i hq
        cases hs
        exact fun H locs la h1 h2 h3 h4 => lv_dup_x1 hx hb hd (by rw [am_cat]; exact hq.1) (by rw [am_cat]; exact hq.2) (kk H locs la h1 h2 h3 h4)
      · cases hs
    · cases hs
  case dup_x2  =>
    obtain rfl := hln _ rfl
    dsimp only [am_s] at hs
    split at hs
    · split at hs
      · rename_i hq
        cases hs
        exact fun H locs la h1 h2 h3 h4 => lv_dup_x2 hx hb hd (by rw [am_cat]; exact hq.1) (by rw [am_cat]; exact hq.2.1) (by rw [am_cat]; exact hq.2.2) (kk H locs la h1 h2 h3 h4)
      · cases hs
    · cases hs
  case dup2  =>
    obtain rfl := hln _ rfl
    dsimp only [am_s] at hs
    split at hs
    · split at hs
      · rename_i hq
        cases hs
        exact fun H locs la h1 h2 h3 h4 => lv_dup2_11 hx hb hd (by rw [am_cat]; exact hq.1) (by rw [am_cat]; exact hq.2) (kk H locs la h1 h2 h3 h4)
      · cases hs
    · cases hs
  case goto o =>
    obtain rfl := hln _ rfl
    dsimp only [am_s] at hs
    cases hs
    exact fun H locs la h1 h2 h3 h4 => lv_goto hx hb hd ha (kk H locs la h1 h2 h3 h4)
  case ifCond cnd o =>
    obtain rfl := hln _ rfl
    dsimp only [am_s] at hs
    split at hs
    · cases hs
      exact am_k_if hx hb hd ha kk
    · cases hs
  case if_icmp cnd o =>
    obtain rfl := hln _ rfl
    dsimp only [am_s] at hs
    split at hs
    · cases hs
      exact am_k_icmp hx hb hd ha kk
    · cases hs
  case ifnull o =>
    obtain rfl := hln _ rfl
    dsimp only [am_s] at hs
    split at hs
    · cases hs
      exact fun H locs la h1 h2 h3 h4 => lv_ifnullN hx hb hd ha (kk H locs la h1 h2 h3 h4)
    · cases hs
      exact fun H locs la h1 h2 h3 h4 => lv_ifnull hx hb hd (kk H locs la h1 h2 h3 h4)
    · cases hs
  case ifnonnull o =>
    obtain rfl := hln _ rfl
    dsimp only [am_s] at hs
    split at hs
    · cases hs
      exact fun H locs la h1 h2 h3 h4 => lv_ifnonnullN hx hb hd (kk H locs la h1 h2 h3 h4)
    · cases hs
      exact fun H locs la h1 h2 h3 h4 => lv_ifnonnull hx hb hd ha (kk H locs la h1 h2 h3 h4)
    · cases hs
  case if_acmp cnd o =>
    obtain rfl := hln _ rfl
    dsimp only [am_s] at hs
    split at hs
    · split at hs
      · rename_i hq
        cases hs
        exact am_k_acmp hx hb hd ha hq kk
      · cases hs
    · cases hs
  case tableswitch d0 lo hi offs =>
    dsimp only [am_s] at hs
    split at hs
    · cases hs
      exact am_k_table hx hb hd ha kk
    · cases hs
  case lookupswitch d0 ps =>
    dsimp only [am_s] at hs
    split at hs
    · cases hs
      exact am_k_look hx hb hd ha kk
    · cases hs
  case getfield j =>
    obtain rfl := hln _ rfl
    dsimp only [am_s] at hs
    split at hs
    · split at hs
      · rename_i ho
        split at hs
        · rename_i hc
          split at hs
          · rename_i hv
            cases hs
            subst hc
            exact am_k_get (host := host) hE hC hF hd ha ho hv kk
          · cases hs
        · cases hs
      · cases hs
    · cases hs
  case putfield j =>
    obtain rfl := hln _ rfl
    dsimp only [am_s] at hs
    split at hs
    · split at hs
      · rename_i ho hty
        split at hs
        · rename_i hc
          cases hs
          obtain ⟨hc1, hc2, hc3⟩ := hc
          subst hc1
          exact am_k_put (host := host) hE hC hF hd ha ho hc2 hty hc3 kk
        · cases hs
      · cases hs
    · cases hs
  case new j =>
    obtain rfl := hln _ rfl
    dsimp only [am_s] at hs
    split at hs
    · rename_i hq
      cases hs
      exact am_k_new hE hC hF hd ha hq hk hn kk
    · cases hs
  case newarray j =>
    obtain rfl := hln _ rfl
    dsimp only [am_s] at hs
    split at hs
    · split at hs
      · rename_i hq
        cases hs
        exact am_k_newa hE hC hF hd ha hq.1 hq.2.1 hq.2.2 hk hn kk
      · cases hs
    · cases hs
  case anewarray j =>
    obtain rfl := hln _ rfl
    dsimp only [am_s] at hs
    split at hs
    · split at hs
      · rename_i hq
        split at hs
        · rename_i hy
          cases hs
          exact am_k_newq hE hC hF hd ha hq hy.1 hy.2 hk hn kk
        · cases hs
      · cases hs
    · cases hs
  case multianewarray j r =>
    obtain rfl := hln _ rfl
    dsimp only [am_s] at hs
    dsimp only [am_aux] at ha
    obtain ⟨hr2, ha⟩ := ha
    subst hr2
    split at hs
    · split at hs
      · rename_i hq
        cases hs
        exact hM _ _ _ _ _ _ _ _ _ hE hd ha hq.1.1 hq.1.2 hq.2.1 hq.2.2 hk hn kk
      · cases hs
    · cases hs
  case arraylength  =>
    obtain rfl := hln _ rfl
    dsimp only [am_s] at hs
    split at hs
    · split at hs
      · rename_i ho
        cases hs
        exact am_k_alen hE hd ho kk
      · cases hs
    · cases hs
      exact am_k_slen hE hX hd kk
    · cases hs
  case iaload  =>
    obtain rfl := hln _ rfl
    dsimp only [am_s] at hs
    split at hs
    · split at hs
      · rename_i ho
        split at hs
        · cases hs
        · rename_i hi
          cases hs
          exact am_k_iald hE hd ho hi kk
      · cases hs
    · split at hs
      · cases hs
      · rename_i hi
        cases hs
        exact am_k_sld hE hX hd hi kk
    · cases hs
  case baload  =>
    obtain rfl := hln _ rfl
    dsimp only [am_s] at hs
    split at hs
    · split at hs
      · rename_i ho
        split at hs
        · cases hs
        · rename_i hi
          cases hs
          exact am_k_zald hE hd ho hi kk
      · rename_i ho
        split at hs
        · cases hs
        · rename_i hi
          cases hs
          exact am_k_bald hE hd ho hi kk
      · cases hs
    · cases hs
  case laload  =>
    obtain rfl := hln _ rfl
    dsimp only [am_s] at hs
    split at hs
    · split at hs
      · rename_i ho
        split at hs
        · cases hs
        · rename_i hi
          cases hs
          exact am_k_lald hE hd ho hi kk
      · cases hs
    · cases hs
  case iastore  =>
    obtain rfl := hln _ rfl
    dsimp only [am_s] at hs
    split at hs
    · split at hs
      · rename_i ho
        split at hs
        · cases hs
        · rename_i hi
          cases hs
          exact am_k_iast hE hC hF hd ho hi kk
      · cases hs
    · cases hs
  case bastore  =>
    obtain rfl := hln _ rfl
    dsimp only [am_s] at hs
    split at hs
    · split at hs
      · rename_i ho
        split at hs
        · cases hs
        · rename_i hi
          cases hs
          exact am_k_zast hE hC hF hd ho hi kk
      · rename_i ho
        split at hs
        · cases hs
        · rename_i hi
          cases hs
          exact am_k_bast hE hC hF hd ho hi kk
      · cases hs
    · cases hs
  case lastore  =>
    obtain rfl := hln _ rfl
    dsimp only [am_s] at hs
    split at hs
    · split at hs
      · rename_i ho
        split at hs
        · cases hs
        · rename_i hi
          cases hs
          exact am_k_last hE hC hF hd ho hi kk
      · cases hs
    · cases hs
  case aaload  =>
    obtain rfl := hln _ rfl
    dsimp only [am_s] at hs
    split at hs
    · split at hs
      · rename_i ho
        split at hs
        · cases hs
        · rename_i hi
          cases hs
          exact am_k_aald hE hd ho (fun z => hi (Or.inl z)) (by cases hz : FieldType.isReference _ with | true => rfl | false => exact absurd (Or.inr hz) hi) kk
      · cases hs
    · cases hs
  case aastore  =>
    obtain rfl := hln _ rfl
    dsimp only [am_s] at hs
    split at hs
    · split at hs
      · rename_i ho
        split at hs
        · cases hs
        · rename_i hi
          cases hs
          exact am_k_aastN hE hC hF hd ho hi kk
      · cases hs
    · split at hs
      · rename_i ho hw
        split at hs
        · cases hs
        · rename_i hi
          cases hs
          exact am_k_aast hE hC hF hd ho hw (fun z => hi (Or.inl z)) (Decidable.byContradiction fun z => hi (Or.inr z)) kk
      · cases hs
    · cases hs
  case invokespecial j =>
    obtain rfl := hln _ rfl
    dsimp only [am_s] at hs
    split at hs
    · split at hs
      · rename_i hq
        cases hs
        obtain ⟨hq1, hq2, hq3, hq4⟩ := hq
        obtain ⟨g1, g2, g3⟩ := ha hq1
        exact fun H locs la h1 h2 h3 h4 => W.objInit hx hb hown (hts _ g1) (hts _ g2) (hts _ g3) rfl (by rw [hml]; exact h3.1) rfl hd (by rw [hR.1]; exact hq2) (by rw [am_sum_map, hR.2]; show 2 * 0 + _ + 12 ≤ q; omega) (kk H locs la h1 h2 h3 h4)
      · cases hs
    · cases hs
  case invokevirtual j =>
    obtain rfl := hln _ rfl
    dsimp only [am_s] at hs
    split at hs
    · rename_i ix jj st1
      split at hs
      · rename_i hq
        split at hs
        · rename_i hx1
          cases hs
          obtain ⟨q1, q2, q3, q4, q5⟩ := hq
          exact hCh _ _ _ _ _ _ _ _ _ _ hE hd (ha q1) q2 (by rw [hR.1]; exact q3) (by rw [hR.2]; exact q4) q5 hx1 hk hn kk
        · cases hs
      · cases hs
    · cases hs
  case invokestatic j =>
    obtain rfl := hln _ rfl
    dsimp only [am_s] at hs
    dsimp only [am_aux] at ha
    obtain ⟨ha1, ha2, ha3, ha4, ha5, ha6, ha7⟩ := ha
    split at hs
    · split at hs
      · split at hs
        · rename_i ho hq0
          split at hs
          · rename_i hq
            cases hs
            obtain ⟨⟨s1, s2, s3⟩, s4, s5, s6, s7, s8⟩ := hq
            exact am_k_copy hE hC hF (by rw [hR.1]; exact s6) (by rw [hR.2]; omega) hd (ha1 rfl) ho hq0 s1 s2 s3 s4 s5 kk
          · cases hs
        · cases hs
      · cases hs
    · split at hs
      · split at hs
        · rename_i hq
          cases hs
          obtain ⟨g1, g2, g3, g4⟩ := ha2 rfl
          exact fun H locs la h1 h2 h3 h4 => va_mmax hx hb (by rw [hml, h3.1]) hown (hts _ g1) (hts _ g2) (hts _ g3) (hts _ g4) (by rw [hR.1]; exact hq.1) (by rw [am_sum_map, hR.2]; have := hq.2.1; have := hq.2.2; omega) hk hn hd (kk H locs la h1 h2 h3 h4)
        · cases hs
      · cases hs
    · split at hs
      · split at hs
        · rename_i hq
          cases hs
          obtain ⟨g1, g2, g3, g4⟩ := ha3 rfl
          exact fun H locs la h1 h2 h3 h4 => va_mmin hx hb (by rw [hml, h3.1]) hown (hts _ g1) (hts _ g2) (hts _ g3) (hts _ g4) (by rw [hR.1]; exact hq.1) (by rw [am_sum_map, hR.2]; have := hq.2.1; have := hq.2.2; omega) hk hn hd (kk H locs la h1 h2 h3 h4)
        · cases hs
      · cases hs
    · split at hs
      · split at hs
        · rename_i hq
          cases hs
          obtain ⟨g1, g2, g3, g4⟩ := ha4 rfl
          exact fun H locs la h1 h2 h3 h4 => va_mabs hx hb (by rw [hml, h3.1]) hown (hts _ g1) (hts _ g2) (hts _ g3) (hts _ g4) (by rw [hR.1]; exact hq.1) (by rw [am_sum_map, hR.2]; have := hq.2.1; have := hq.2.2; omega) hk hn hd (kk H locs la h1 h2 h3 h4)
        · cases hs
      · cases hs
    · split at hs
      · split at hs
        · rename_i hq
          cases hs
          obtain ⟨g1, g2, g3, g4⟩ := ha5 rfl
          exact fun H locs la h1 h2 h3 h4 => va_mmin_long hx hb (by rw [hml, h3.1]) hown (hts _ g1) (hts _ g2) (hts _ g3) (hts _ g4) (by rw [hR.1]; exact hq.1) (by rw [am_sum_map, hR.2]; have := hq.2.1; have := hq.2.2; omega) hk hn hd (kk H locs la h1 h2 h3 h4)
        · cases hs
      · cases hs
    · split at hs
      · split at hs
        · rename_i ho hw
          split at hs
          · rename_i hoa hwr
            split at hs
            · rename_i hga
              split at hs
              · rename_i hq
                obtain ⟨q1, q2, q3, q4⟩ := hq
                obtain ⟨hb2, hcl⟩ := ha7 rfl
                subst hb2
                refine hOc _ _ _ _ _ _ _ _ _ _ _ _ _ _ _ _ _ hE hd hcl (by rw [hR.1]; exact q1) (by rw [hR.2]; exact q2) q3 q4 ho hw hoa hwr hga ?_
                split at hs
                · rename_i hc
                  cases hs
                  rw [if_pos hc]
                  exact ⟨hk, hn, kk⟩
                · rename_i hc
                  rw [if_neg hc]
                  split at hs
                  · cases hs
                  · rename_i hm
                    cases hs
                    exact ⟨hm, hk, hn, kk⟩
              · cases hs
            · cases hs
          · cases hs
        · cases hs
      · cases hs
    · split at hs
      · split at hs
        · rename_i hq
          cases hs
          obtain ⟨g1, g2, g3, g4⟩ := ha6 rfl
          exact fun H locs la h1 h2 h3 h4 => va_mabs_long hx hb (by rw [hml, h3.1]) hown (hts _ g1) (hts _ g2) (hts _ g3) (hts _ g4) (by rw [hR.1]; exact hq.1) (by rw [am_sum_map, hR.2]; have := hq.2.1; have := hq.2.2; omega) hk hn hd (kk H locs la h1 h2 h3 h4)
        · cases hs
      · cases hs
    · cases hs
  all_goals exact absurd hs (by simp [am_s])
end AMO
