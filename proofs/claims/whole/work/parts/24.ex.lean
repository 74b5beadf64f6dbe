/-! Runs whose heap at the end is told by its cells. -/
def am_E (sL : Nat) (sx : Nat → Int32) (cs : Nat → Nat → Option Int32) (y pc : Nat) (ls : am_L) (st : List Value) (H : am_H) (R : Option Value) (F : am_H → Prop) : Prop := ∃ H1 : am_H, aX sL sx cs y pc ls st H 0 0 = some (R, H1, 0, 0) ∧ F H1
section EX
variable {sL : Nat} {sx : Nat → Int32} {cs : Nat → Nat → Option Int32} {y pc : Nat} {ls : am_L} {st : List Value} {H : am_H} {R : Option Value} {F : am_H → Prop}
theorem ex_s {y1 pc1 : Nat} {ls1 : am_L} {st1 : List Value} {H1 : am_H} (e : aX sL sx cs y pc ls st H 0 0 = aX sL sx cs y1 pc1 ls1 st1 H1 0 0) (k : am_E sL sx cs y1 pc1 ls1 st1 H1 R F) : am_E sL sx cs y pc ls st H R F := by
  obtain ⟨H2, h1, h2⟩ := k
  exact ⟨H2, e.trans h1, h2⟩
theorem ex_r (e : aX sL sx cs y pc ls st H 0 0 = some (R, H, 0, 0)) (k : F H) : am_E sL sx cs y pc ls st H R F := ⟨H, e, k⟩
theorem ex_pc {pc1 : Nat} (e : pc = pc1) (k : am_E sL sx cs y pc1 ls st H R F) : am_E sL sx cs y pc ls st H R F := by
  subst e
  exact k
theorem ex_cv1 {a b o : Nat} {ne : Bool} {as rest : List Value} {ci : Nat} {vs : List Value} {v : Value} {Ia : Instr} {G : am_H → Prop} (hI : am_co y pc = some (Ia, .null, a, b, ne, [])) (hkd : am_kd (Ia, .null, a, b, ne, []) = 3) (hst : st = as.reverse ++ .ref o :: rest) (hlen : as.length = b) (ho : H[o]? = some (.inr (ci, vs))) (hc : (am_ctb[ci]?).map (fun q => q.1) = some (am_mt a).1.cls)
    (hs1 : Nat.ble (am_sum rest) 8 = true) (hs2 : Nat.ble (am_sum (.ref o :: as)) (am_mt a).2.2.1 = true) (hr : am_E sL sx cs a 0 (lv_args 0 (.ref o :: as)) [] H (some v) G) (kk : ∀ H2 : am_H, G H2 → am_E sL sx cs y (pc + 3) ls (v :: rest) H2 R F) : am_E sL sx cs y pc ls st H R F := by
  obtain ⟨H2, h1, h2⟩ := hr
  exact ex_s (st_cv1 hI hkd hst hlen ho hc hs1 hs2 h1) (kk H2 h2)
theorem ex_cv0 {a b o : Nat} {ne : Bool} {as rest : List Value} {ci : Nat} {vs : List Value} {Ia : Instr} {G : am_H → Prop} (hI : am_co y pc = some (Ia, .null, a, b, ne, [])) (hkd : am_kd (Ia, .null, a, b, ne, []) = 3) (hst : st = as.reverse ++ .ref o :: rest) (hlen : as.length = b) (ho : H[o]? = some (.inr (ci, vs))) (hc : (am_ctb[ci]?).map (fun q => q.1) = some (am_mt a).1.cls)
    (hs1 : Nat.ble (am_sum rest) 8 = true) (hs2 : Nat.ble (am_sum (.ref o :: as)) (am_mt a).2.2.1 = true) (hr : am_E sL sx cs a 0 (lv_args 0 (.ref o :: as)) [] H none G) (kk : ∀ H2 : am_H, G H2 → am_E sL sx cs y (pc + 3) ls rest H2 R F) : am_E sL sx cs y pc ls st H R F := by
  obtain ⟨H2, h1, h2⟩ := hr
  exact ex_s (st_cv0 hI hkd hst hlen ho hc hs1 hs2 h1) (kk H2 h2)
theorem ex_cs1 {i a b : Nat} {ne : Bool} {as rest : List Value} {v : Value} {G : am_H → Prop} (hI : am_co y pc = some (.invokestatic i, .null, a, b, ne, [])) (ha : a < 1000) (hst : st = as.reverse ++ rest) (hlen : as.length = b) (hs1 : Nat.ble (am_sum rest) 8 = true) (hs2 : Nat.ble (am_sum as) (am_mt a).2.2.1 = true) (hr : am_E sL sx cs a 0 (lv_args 0 as) [] H (some v) G) (kk : ∀ H2 : am_H, G H2 → am_E sL sx cs y (pc + 3) ls (v :: rest) H2 R F) : am_E sL sx cs y pc ls st H R F := by
  obtain ⟨H2, h1, h2⟩ := hr
  exact ex_s (st_cs1 hI ha hst hlen hs1 hs2 h1) (kk H2 h2)
theorem ex_cs0 {i a b : Nat} {ne : Bool} {as rest : List Value} {G : am_H → Prop} (hI : am_co y pc = some (.invokestatic i, .null, a, b, ne, [])) (ha : a < 1000) (hst : st = as.reverse ++ rest) (hlen : as.length = b) (hs1 : Nat.ble (am_sum rest) 8 = true) (hs2 : Nat.ble (am_sum as) (am_mt a).2.2.1 = true) (hr : am_E sL sx cs a 0 (lv_args 0 as) [] H none G) (kk : ∀ H2 : am_H, G H2 → am_E sL sx cs y (pc + 3) ls rest H2 R F) : am_E sL sx cs y pc ls st H R F := by
  obtain ⟨H2, h1, h2⟩ := hr
  exact ex_s (st_cs0 hI ha hst hlen hs1 hs2 h1) (kk H2 h2)
theorem ex_put {i a b o : Nat} {ne : Bool} {vs : List Value} {v : Value} {ty : FieldType} (hI : am_co y pc = some (.putfield i, .null, a, b, ne, [])) (ho : H[o]? = some (.inr (a, vs))) (hb : Nat.ble (b + 1) vs.length = true) (hty : (am_ctb[a]?).bind (fun q => q.2[b]?) = some ty) (hf : am_fit ty v = true)
    (kk : ∀ H2 : am_H, H2[o]? = some (.inr (a, vs.set b v)) → (∀ j : Nat, j ≠ o → H2[j]? = H[j]?) → am_E sL sx cs y (pc + 3) ls st H2 R F) : am_E sL sx cs y pc ls (v :: .ref o :: st) H R F :=
  ex_s (st_put hI ho hb hty hf) (kk _ (am_gs ho) (fun j hj => List.getElem?_set_ne (Ne.symm hj)))
theorem ex_iast {o m : Nat} {f : Nat → Int32} {i w : Int32} (hI : am_co y pc = some (.iastore, .null, 0, 0, false, [])) (ho : H[o]? = some (.inl (.int, (m, .inl f)))) (hi : ¬ (i < 0 ∨ m ≤ i.toNatClampNeg))
    (kk : ∀ H2 : am_H, H2[o]? = some (.inl (.int, (m, .inl (upd f i.toNatClampNeg w)))) → (∀ j : Nat, j ≠ o → H2[j]? = H[j]?) → am_E sL sx cs y (pc + 1) ls st H2 R F) : am_E sL sx cs y pc ls (.int w :: .int i :: .ref o :: st) H R F :=
  ex_s (st_iast hI ho hi) (kk _ (am_gs ho) (fun j hj => List.getElem?_set_ne (Ne.symm hj)))
theorem ex_zast {o m : Nat} {f : Nat → Int32} {i w : Int32} (hI : am_co y pc = some (.bastore, .null, 0, 0, false, [])) (ho : H[o]? = some (.inl (.boolean, (m, .inl f)))) (hi : ¬ (i < 0 ∨ m ≤ i.toNatClampNeg))
    (kk : ∀ H2 : am_H, H2[o]? = some (.inl (.boolean, (m, .inl (upd f i.toNatClampNeg (vp_nar .boolean w))))) → (∀ j : Nat, j ≠ o → H2[j]? = H[j]?) → am_E sL sx cs y (pc + 1) ls st H2 R F) : am_E sL sx cs y pc ls (.int w :: .int i :: .ref o :: st) H R F :=
  ex_s (st_zast hI ho hi) (kk _ (am_gs ho) (fun j hj => List.getElem?_set_ne (Ne.symm hj)))
theorem ex_bast {o m : Nat} {f : Nat → Int32} {i w : Int32} (hI : am_co y pc = some (.bastore, .null, 0, 0, false, [])) (ho : H[o]? = some (.inl (.byte, (m, .inl f)))) (hi : ¬ (i < 0 ∨ m ≤ i.toNatClampNeg))
    (kk : ∀ H2 : am_H, H2[o]? = some (.inl (.byte, (m, .inl (upd f i.toNatClampNeg (vp_nar .byte w))))) → (∀ j : Nat, j ≠ o → H2[j]? = H[j]?) → am_E sL sx cs y (pc + 1) ls st H2 R F) : am_E sL sx cs y pc ls (.int w :: .int i :: .ref o :: st) H R F :=
  ex_s (st_bast hI ho hi) (kk _ (am_gs ho) (fun j hj => List.getElem?_set_ne (Ne.symm hj)))
end EX
theorem am_ks {H : am_H} {o j : Nat} {c : am_C} (h : j ≠ o) : (H.set o c)[j]? = H[j]? := List.getElem?_set_ne (Ne.symm h)
