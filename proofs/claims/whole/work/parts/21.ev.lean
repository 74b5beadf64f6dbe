/-! One instruction of a free run over a heap of which some cells are known. -/
section EV
variable {sL : Nat} {sx : Nat → Int32} {cs : Nat → Nat → Option Int32} {y pc : Nat} {ls : am_L} {st : List Value} {H : am_H} {k n : Nat}
theorem st_1 {I : am_I} {u : am_T} (hI : am_co y pc = some I) (h0 : am_kd I = 0) (hs : am_s (10, 300, (am_mt y).2.2.1, am_ctb, sL, sx, cs) I pc ls st H k n = some u) : aX sL sx cs y pc ls st H k n = aX sL sx cs y u.1 u.2.1 u.2.2.1 u.2.2.2.1 u.2.2.2.2.1 u.2.2.2.2.2 := by
  unfold aX
  rw [am_X_eq]
  unfold am_1
  rw [hI]
  dsimp only
  rw [if_pos h0, hs]
  rfl
theorem st_get {i a b o : Nat} {ne : Bool} {vs : List Value} {v : Value} (hI : am_co y pc = some (.getfield i, .null, a, b, ne, [])) (ho : H[o]? = some (.inr (a, vs))) (hv : vs[b]? = some v) : aX sL sx cs y pc ls (.ref o :: st) H k n = aX sL sx cs y (pc + 3) ls (v :: st) H k n :=
  st_1 (u := (pc + 3, ls, v :: st, H, k, n)) hI rfl (by dsimp only [am_s]; rw [ho]; dsimp only; rw [if_pos rfl, hv])
theorem st_put {i a b o : Nat} {ne : Bool} {vs : List Value} {v : Value} {ty : FieldType} (hI : am_co y pc = some (.putfield i, .null, a, b, ne, [])) (ho : H[o]? = some (.inr (a, vs))) (hb : Nat.ble (b + 1) vs.length = true) (hty : (am_ctb[a]?).bind (fun q => q.2[b]?) = some ty) (hf : am_fit ty v = true) : aX sL sx cs y pc ls (v :: .ref o :: st) H k n = aX sL sx cs y (pc + 3) ls st (H.set o (.inr (a, vs.set b v))) k n :=
  st_1 (u := (pc + 3, ls, st, H.set o (.inr (a, vs.set b v)), k, n)) hI rfl (by dsimp only [am_s]; rw [ho, hty]; dsimp only; rw [if_pos ⟨rfl, Nat.le_of_ble_eq_true hb, hf⟩])
theorem st_iald {o m : Nat} {f : Nat → Int32} {i : Int32} (hI : am_co y pc = some (.iaload, .null, 0, 0, false, [])) (ho : H[o]? = some (.inl (.int, (m, .inl f)))) (hi : ¬ (i < 0 ∨ m ≤ i.toNatClampNeg)) : aX sL sx cs y pc ls (.int i :: .ref o :: st) H k n = aX sL sx cs y (pc + 1) ls (.int (f i.toNatClampNeg) :: st) H k n :=
  st_1 (u := (pc + 1, ls, .int (f i.toNatClampNeg) :: st, H, k, n)) hI rfl (by dsimp only [am_s]; rw [ho]; dsimp only; rw [if_neg hi])
theorem st_iast {o m : Nat} {f : Nat → Int32} {i w : Int32} (hI : am_co y pc = some (.iastore, .null, 0, 0, false, [])) (ho : H[o]? = some (.inl (.int, (m, .inl f)))) (hi : ¬ (i < 0 ∨ m ≤ i.toNatClampNeg)) : aX sL sx cs y pc ls (.int w :: .int i :: .ref o :: st) H k n = aX sL sx cs y (pc + 1) ls st (H.set o (.inl (.int, (m, .inl (upd f i.toNatClampNeg w))))) k n :=
  st_1 (u := (pc + 1, ls, st, H.set o (.inl (.int, (m, .inl (upd f i.toNatClampNeg w)))), k, n)) hI rfl (by dsimp only [am_s]; rw [ho]; dsimp only; rw [if_neg hi])
theorem st_zald {o m : Nat} {f : Nat → Int32} {i : Int32} (hI : am_co y pc = some (.baload, .null, 0, 0, false, [])) (ho : H[o]? = some (.inl (.boolean, (m, .inl f)))) (hi : ¬ (i < 0 ∨ m ≤ i.toNatClampNeg)) : aX sL sx cs y pc ls (.int i :: .ref o :: st) H k n = aX sL sx cs y (pc + 1) ls (.int (f i.toNatClampNeg) :: st) H k n :=
  st_1 (u := (pc + 1, ls, .int (f i.toNatClampNeg) :: st, H, k, n)) hI rfl (by dsimp only [am_s]; rw [ho]; dsimp only; rw [if_neg hi])
theorem st_bald {o m : Nat} {f : Nat → Int32} {i : Int32} (hI : am_co y pc = some (.baload, .null, 0, 0, false, [])) (ho : H[o]? = some (.inl (.byte, (m, .inl f)))) (hi : ¬ (i < 0 ∨ m ≤ i.toNatClampNeg)) : aX sL sx cs y pc ls (.int i :: .ref o :: st) H k n = aX sL sx cs y (pc + 1) ls (.int (f i.toNatClampNeg) :: st) H k n :=
  st_1 (u := (pc + 1, ls, .int (f i.toNatClampNeg) :: st, H, k, n)) hI rfl (by dsimp only [am_s]; rw [ho]; dsimp only; rw [if_neg hi])
theorem st_zast {o m : Nat} {f : Nat → Int32} {i w : Int32} (hI : am_co y pc = some (.bastore, .null, 0, 0, false, [])) (ho : H[o]? = some (.inl (.boolean, (m, .inl f)))) (hi : ¬ (i < 0 ∨ m ≤ i.toNatClampNeg)) : aX sL sx cs y pc ls (.int w :: .int i :: .ref o :: st) H k n = aX sL sx cs y (pc + 1) ls st (H.set o (.inl (.boolean, (m, .inl (upd f i.toNatClampNeg (vp_nar .boolean w)))))) k n :=
  st_1 (u := (pc + 1, ls, st, H.set o (.inl (.boolean, (m, .inl (upd f i.toNatClampNeg (vp_nar .boolean w))))), k, n)) hI rfl (by dsimp only [am_s]; rw [ho]; dsimp only; rw [if_neg hi])
theorem st_bast {o m : Nat} {f : Nat → Int32} {i w : Int32} (hI : am_co y pc = some (.bastore, .null, 0, 0, false, [])) (ho : H[o]? = some (.inl (.byte, (m, .inl f)))) (hi : ¬ (i < 0 ∨ m ≤ i.toNatClampNeg)) : aX sL sx cs y pc ls (.int w :: .int i :: .ref o :: st) H k n = aX sL sx cs y (pc + 1) ls st (H.set o (.inl (.byte, (m, .inl (upd f i.toNatClampNeg (vp_nar .byte w)))))) k n :=
  st_1 (u := (pc + 1, ls, st, H.set o (.inl (.byte, (m, .inl (upd f i.toNatClampNeg (vp_nar .byte w))))), k, n)) hI rfl (by dsimp only [am_s]; rw [ho]; dsimp only; rw [if_neg hi])
theorem st_aald {o m : Nat} {t : FieldType} {f : Nat → Option Nat} {i : Int32} (hI : am_co y pc = some (.aaload, .null, 0, 0, false, [])) (ho : H[o]? = some (.inl (t, (m, .inr (.inr (.inr (.inr f))))))) (hi : ¬ (i < 0 ∨ m ≤ i.toNatClampNeg)) (ht : t.isReference = true) : aX sL sx cs y pc ls (.int i :: .ref o :: st) H k n = aX sL sx cs y (pc + 1) ls (va_rf (f i.toNatClampNeg) :: st) H k n :=
  st_1 (u := (pc + 1, ls, va_rf (f i.toNatClampNeg) :: st, H, k, n)) hI rfl (by dsimp only [am_s]; rw [ho]; dsimp only; rw [if_neg (fun q => q.elim hi (fun r => by rw [ht] at r; cases r))])
theorem st_alen {o : Nat} {t : FieldType} {x : vp_A} (hI : am_co y pc = some (.arraylength, .null, 0, 0, false, [])) (ho : H[o]? = some (.inl (t, x))) : aX sL sx cs y pc ls (.ref o :: st) H k n = aX sL sx cs y (pc + 1) ls (.int (Int32.ofNat x.1) :: st) H k n :=
  st_1 (u := (pc + 1, ls, .int (Int32.ofNat x.1) :: st, H, k, n)) hI rfl (by dsimp only [am_s]; rw [ho])
theorem st_newa {t : ArrayType} {x : Int32} (hI : am_co y pc = some (.newarray t, .null, 0, 0, false, [])) (h1 : am_small (newarray.typeOf t) = true) (h2 : ¬ x < 0) (h3 : x.toNatClampNeg * 8 ≤ 536870912) : aX sL sx cs y pc ls (.int x :: st) H k n = aX sL sx cs y (pc + 2) ls (.ref H.length :: st) (H ++ [.inl (newarray.typeOf t, am_z0 (newarray.typeOf t) x.toNatClampNeg)]) (k + 1) (n + x.toNatClampNeg) :=
  st_1 (u := (pc + 2, ls, .ref H.length :: st, H ++ [.inl (newarray.typeOf t, am_z0 (newarray.typeOf t) x.toNatClampNeg)], k + 1, n + x.toNatClampNeg)) hI rfl (by dsimp only [am_s]; rw [if_pos ⟨h1, h2, h3⟩])
theorem st_copy {i o q m0 m1 : Nat} {w dp sp : Int32} {f g : Nat → Int32} (hI : am_co y pc = some (.invokestatic i, .null, 1001, 0, false, [])) (ho : H[o]? = some (.inl (.int, (m0, .inl f)))) (hq : H[q]? = some (.inl (.int, (m1, .inl g)))) (h1 : ¬ sp < 0) (h2 : ¬ dp < 0) (h3 : ¬ w < 0) (h4 : sp.toNatClampNeg + w.toNatClampNeg ≤ m0) (h5 : dp.toNatClampNeg + w.toNatClampNeg ≤ m1) (h6 : am_sum st ≤ 8) :
    aX sL sx cs y pc ls (.int w :: .int dp :: .ref q :: .int sp :: .ref o :: st) H k n = aX sL sx cs y (pc + 3) ls st (H.set q (.inl (.int, (m1, .inl (va_cpy f g sp.toNatClampNeg dp.toNatClampNeg w.toNatClampNeg))))) k n :=
  st_1 (u := (pc + 3, ls, st, H.set q (.inl (.int, (m1, .inl (va_cpy f g sp.toNatClampNeg dp.toNatClampNeg w.toNatClampNeg)))), k, n)) hI rfl (by simp [am_s, ho, hq, h1, h2, h3, h4, h5, h6])
theorem st_if {c : ClassFile.Cond} {off : Int} {a : Nat} {x : Int32} (hI : am_co y pc = some (.ifCond c off, .null, a, 0, false, [])) : aX sL sx cs y pc ls (.int x :: st) H k n = aX sL sx cs y (am_br c x 0 a (pc + 3)) ls st H k n :=
  st_1 (u := (am_br c x 0 a (pc + 3), ls, st, H, k, n)) hI rfl rfl
theorem st_icmp {c : ClassFile.Cond} {off : Int} {a : Nat} {x x' : Int32} (hI : am_co y pc = some (.if_icmp c off, .null, a, 0, false, [])) : aX sL sx cs y pc ls (.int x' :: .int x :: st) H k n = aX sL sx cs y (am_br c x x' a (pc + 3)) ls st H k n :=
  st_1 (u := (am_br c x x' a (pc + 3), ls, st, H, k, n)) hI rfl rfl
theorem st_tsw {d lo hi : Int} {offs : Array Int} {a : Nat} {tb : List (Int32 × Nat)} {x : Int32} (hI : am_co y pc = some (.tableswitch d lo hi offs, .null, a, 0, false, tb)) : aX sL sx cs y pc ls (.int x :: st) H k n = aX sL sx cs y (am_sw tb a x) ls st H k n :=
  st_1 (u := (am_sw tb a x, ls, st, H, k, n)) hI rfl rfl
theorem st_lsw {d : Int} {ps : Array (Int × Int)} {a : Nat} {tb : List (Int32 × Nat)} {x : Int32} (hI : am_co y pc = some (.lookupswitch d ps, .null, a, 0, false, tb)) : aX sL sx cs y pc ls (.int x :: st) H k n = aX sL sx cs y (am_sw tb a x) ls st H k n :=
  st_1 (u := (am_sw tb a x, ls, st, H, k, n)) hI rfl rfl
theorem st_idiv {x x' : Int32} (hI : am_co y pc = some (.idiv, .null, 0, 0, false, [])) (h0 : ¬ x' = 0) : aX sL sx cs y pc ls (.int x' :: .int x :: st) H k n = aX sL sx cs y (pc + 1) ls (.int (x / x') :: st) H k n :=
  st_1 (u := (pc + 1, ls, .int (x / x') :: st, H, k, n)) hI rfl (by dsimp only [am_s]; rw [if_neg h0])
theorem st_irem {x x' : Int32} (hI : am_co y pc = some (.irem, .null, 0, 0, false, [])) (h0 : ¬ x' = 0) : aX sL sx cs y pc ls (.int x' :: .int x :: st) H k n = aX sL sx cs y (pc + 1) ls (.int (x - x / x' * x') :: st) H k n :=
  st_1 (u := (pc + 1, ls, .int (x - x / x' * x') :: st, H, k, n)) hI rfl (by dsimp only [am_s]; rw [if_neg h0])
/-- a call whose receiver is the object o -/
theorem st_cv {a b o : Nat} {ne : Bool} {as rest : List Value} {ci : Nat} {vs : List Value} {r : am_A} {Ia : Instr} (hI : am_co y pc = some (Ia, .null, a, b, ne, [])) (hkd : am_kd (Ia, .null, a, b, ne, []) = 3) (hst : st = as.reverse ++ .ref o :: rest) (hlen : as.length = b) (ho : H[o]? = some (.inr (ci, vs))) (hc : (am_ctb[ci]?).map (fun q => q.1) = some (am_mt a).1.cls)
    (hs1 : am_sum rest ≤ 8) (hs2 : am_sum (.ref o :: as) ≤ (am_mt a).2.2.1) (hr : aX sL sx cs a 0 (lv_args 0 (.ref o :: as)) [] H 0 0 = some r) : aX sL sx cs y pc ls st H k n = aX sL sx cs y (pc + 3) ls (r.1.toList ++ rest) r.2.1 (k + r.2.2.1) (n + r.2.2.2) := by
  subst hst
  refine am_cc (as := .ref o :: as) (rest := rest) hI (by rw [hkd]; decide) (by rw [hkd]; decide) ?_ ⟨hs1, hs2⟩ hr
  show am_pop am_ctb (am_mt a).1.cls (am_kd (Ia, .null, a, b, ne, [])) b (as.reverse ++ .ref o :: rest) H = _
  rw [hkd]
  unfold am_pop
  have e1 : (as.reverse ++ Value.ref o :: rest).drop b = .ref o :: rest := by
    rw [← hlen, ← List.length_reverse, List.drop_left']
    rfl
  have e2 : (as.reverse ++ Value.ref o :: rest).take b = as.reverse := by
    rw [← hlen, ← List.length_reverse, List.take_left']
    rfl
  rw [if_neg (by rw [List.length_append, List.length_reverse, hlen]; omega), if_neg (by decide), e1, e2]
  dsimp only
  rw [ho]
  dsimp only
  rw [if_pos hc, List.reverse_reverse]
/-- a static call -/
theorem st_cs {i a b : Nat} {ne : Bool} {as rest : List Value} {r : am_A} (hI : am_co y pc = some (.invokestatic i, .null, a, b, ne, [])) (ha : a < 1000) (hst : st = as.reverse ++ rest) (hlen : as.length = b) (hs1 : am_sum rest ≤ 8) (hs2 : am_sum as ≤ (am_mt a).2.2.1) (hr : aX sL sx cs a 0 (lv_args 0 as) [] H 0 0 = some r) :
    aX sL sx cs y pc ls st H k n = aX sL sx cs y (pc + 3) ls (r.1.toList ++ rest) r.2.1 (k + r.2.2.1) (n + r.2.2.2) := by
  subst hst
  have hkd : am_kd (.invokestatic i, .null, a, b, ne, []) = 2 := by
    unfold am_kd
    dsimp only
    rw [if_pos ha]
  refine am_cc (as := as) (rest := rest) hI (by rw [hkd]; decide) (by rw [hkd]; decide) ?_ ⟨hs1, hs2⟩ hr
  show am_pop am_ctb (am_mt a).1.cls (am_kd (.invokestatic i, .null, a, b, ne, [])) b (as.reverse ++ rest) H = _
  rw [hkd]
  unfold am_pop
  have e1 : (as.reverse ++ rest).drop b = rest := by
    rw [← hlen, ← List.length_reverse, List.drop_left']
    rfl
  have e2 : (as.reverse ++ rest).take b = as.reverse := by
    rw [← hlen, ← List.length_reverse, List.take_left']
    rfl
  rw [if_neg (by rw [List.length_append, List.length_reverse, hlen]; omega), if_pos rfl, e1, e2, List.reverse_reverse]
theorem st_cv1 {a b o : Nat} {ne : Bool} {as rest : List Value} {ci : Nat} {vs : List Value} {v : Value} {H1 : am_H} {mc ms : Nat} {Ia : Instr} (hI : am_co y pc = some (Ia, .null, a, b, ne, [])) (hkd : am_kd (Ia, .null, a, b, ne, []) = 3) (hst : st = as.reverse ++ .ref o :: rest) (hlen : as.length = b) (ho : H[o]? = some (.inr (ci, vs))) (hc : (am_ctb[ci]?).map (fun q => q.1) = some (am_mt a).1.cls)
    (hs1 : Nat.ble (am_sum rest) 8 = true) (hs2 : Nat.ble (am_sum (.ref o :: as)) (am_mt a).2.2.1 = true) (hr : aX sL sx cs a 0 (lv_args 0 (.ref o :: as)) [] H 0 0 = some (some v, H1, mc, ms)) : aX sL sx cs y pc ls st H k n = aX sL sx cs y (pc + 3) ls (v :: rest) H1 (k + mc) (n + ms) := st_cv hI hkd hst hlen ho hc (Nat.le_of_ble_eq_true hs1) (Nat.le_of_ble_eq_true hs2) hr
theorem st_cv0 {a b o : Nat} {ne : Bool} {as rest : List Value} {ci : Nat} {vs : List Value} {H1 : am_H} {mc ms : Nat} {Ia : Instr} (hI : am_co y pc = some (Ia, .null, a, b, ne, [])) (hkd : am_kd (Ia, .null, a, b, ne, []) = 3) (hst : st = as.reverse ++ .ref o :: rest) (hlen : as.length = b) (ho : H[o]? = some (.inr (ci, vs))) (hc : (am_ctb[ci]?).map (fun q => q.1) = some (am_mt a).1.cls)
    (hs1 : Nat.ble (am_sum rest) 8 = true) (hs2 : Nat.ble (am_sum (.ref o :: as)) (am_mt a).2.2.1 = true) (hr : aX sL sx cs a 0 (lv_args 0 (.ref o :: as)) [] H 0 0 = some (none, H1, mc, ms)) : aX sL sx cs y pc ls st H k n = aX sL sx cs y (pc + 3) ls rest H1 (k + mc) (n + ms) := st_cv hI hkd hst hlen ho hc (Nat.le_of_ble_eq_true hs1) (Nat.le_of_ble_eq_true hs2) hr
theorem st_cs1 {i a b : Nat} {ne : Bool} {as rest : List Value} {v : Value} {H1 : am_H} {mc ms : Nat} (hI : am_co y pc = some (.invokestatic i, .null, a, b, ne, [])) (ha : a < 1000) (hst : st = as.reverse ++ rest) (hlen : as.length = b) (hs1 : Nat.ble (am_sum rest) 8 = true) (hs2 : Nat.ble (am_sum as) (am_mt a).2.2.1 = true) (hr : aX sL sx cs a 0 (lv_args 0 as) [] H 0 0 = some (some v, H1, mc, ms)) :
    aX sL sx cs y pc ls st H k n = aX sL sx cs y (pc + 3) ls (v :: rest) H1 (k + mc) (n + ms) := st_cs hI ha hst hlen (Nat.le_of_ble_eq_true hs1) (Nat.le_of_ble_eq_true hs2) hr
theorem st_cs0 {i a b : Nat} {ne : Bool} {as rest : List Value} {H1 : am_H} {mc ms : Nat} (hI : am_co y pc = some (.invokestatic i, .null, a, b, ne, [])) (ha : a < 1000) (hst : st = as.reverse ++ rest) (hlen : as.length = b) (hs1 : Nat.ble (am_sum rest) 8 = true) (hs2 : Nat.ble (am_sum as) (am_mt a).2.2.1 = true) (hr : aX sL sx cs a 0 (lv_args 0 as) [] H 0 0 = some (none, H1, mc, ms)) :
    aX sL sx cs y pc ls st H k n = aX sL sx cs y (pc + 3) ls rest H1 (k + mc) (n + ms) := st_cs hI ha hst hlen (Nat.le_of_ble_eq_true hs1) (Nat.le_of_ble_eq_true hs2) hr
theorem am_nb {m pc1 : Nat} {ls1 : am_L} {st1 : List Value} {H1 : am_H} {k1 n1 : Nat} (hu : am_nn sL sx cs y m pc ls st H k n = some (pc1, ls1, st1, H1, k1, n1)) : aX sL sx cs y pc ls st H k n = aX sL sx cs y pc1 ls1 st1 H1 k1 n1 := am_nn_ok hu
theorem st_iret {x : Int32} {ty : FieldType} (hI : am_co y pc = some (.ireturn, .null, 0, 0, false, [])) (hr : (am_mt y).2.2.2 = some ty) (hn : narrow ty (.int x) = .int x) : aX sL sx cs y pc ls [.int x] H k n = some (some (.int x), H, k, n) := by
  rw [am_rr hI rfl, hr]
  dsimp only [am_ret]
  rw [if_pos hn]
theorem st_aret {v : Value} {ty : FieldType} (hI : am_co y pc = some (.areturn, .null, 0, 0, false, [])) (hr : (am_mt y).2.2.2 = some ty) (h1 : am_isr ty = true) (h2 : am_rfl v = true) : aX sL sx cs y pc ls [v] H k n = some (some v, H, k, n) := by
  rw [am_rr hI rfl, hr]
  dsimp only [am_ret]
  rw [if_pos ⟨h1, h2⟩]
theorem st_vret (hI : am_co y pc = some (.return_, .null, 0, 0, false, [])) (hr : (am_mt y).2.2.2 = none) : aX sL sx cs y pc ls [] H k n = some (none, H, k, n) := by
  rw [am_rr hI rfl, hr]
  rfl
end EV
/-! Cells of a heap that was written. -/
theorem am_gs {H : am_H} {o : Nat} {c c0 : am_C} (h : H[o]? = some c0) : (H.set o c)[o]? = some c := by
  rw [List.getElem?_set_self (List.getElem?_eq_some_iff.mp h).1]
theorem am_gn {H : am_H} {o j : Nat} {c : am_C} {x : Option am_C} (hne : o ≠ j) (h : H[j]? = x) : (H.set o c)[j]? = x := by
  rw [List.getElem?_set_ne hne]; exact h
theorem am_gp {H : am_H} {j : Nat} {c c0 : am_C} (h : H[j]? = some c0) : (H ++ [c])[j]? = some c0 := by
  rw [List.getElem?_append_left (List.getElem?_eq_some_iff.mp h).1]; exact h
theorem am_lt8 {x : Int32} (h1 : ¬ x < 0) (h2 : x < 8) : x = 0 ∨ x = 1 ∨ x = 2 ∨ x = 3 ∨ x = 4 ∨ x = 5 ∨ x = 6 ∨ x = 7 := by
  have a1 : ¬ x.toInt < 0 := fun q => h1 (Int32.lt_iff_toInt_lt.mpr (by simpa using q))
  have a2 : x.toInt < 8 := by have := Int32.lt_iff_toInt_lt.mp h2; simpa using this
  have key : ∀ c : Int32, x.toInt = c.toInt → x = c := fun c q => Int32.toInt_inj.mp q
  have : x.toInt = 0 ∨ x.toInt = 1 ∨ x.toInt = 2 ∨ x.toInt = 3 ∨ x.toInt = 4 ∨ x.toInt = 5 ∨ x.toInt = 6 ∨ x.toInt = 7 := by omega
  rcases this with h | h | h | h | h | h | h | h
  · exact Or.inl (key 0 h)
  · exact Or.inr (Or.inl (key 1 h))
  · exact Or.inr (Or.inr (Or.inl (key 2 h)))
  · exact Or.inr (Or.inr (Or.inr (Or.inl (key 3 h))))
  · exact Or.inr (Or.inr (Or.inr (Or.inr (Or.inl (key 4 h)))))
  · exact Or.inr (Or.inr (Or.inr (Or.inr (Or.inr (Or.inl (key 5 h))))))
  · exact Or.inr (Or.inr (Or.inr (Or.inr (Or.inr (Or.inr (Or.inl (key 6 h)))))))
  · exact Or.inr (Or.inr (Or.inr (Or.inr (Or.inr (Or.inr (Or.inr (key 7 h)))))))
