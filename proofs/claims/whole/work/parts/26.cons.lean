/-! Runs that make cells: where the heap ends is known. -/
def am_NW (sL : Nat) (sx : Nat → Int32) (cs : Nat → Nat → Option Int32) (y pc : Nat) (ls : am_L) (st : List Value) (H : am_H) (k n : Nat) (R : Option Value) (k1 n1 : Nat) (F : am_H → Prop) : Prop := ∃ H1 : am_H, aX sL sx cs y pc ls st H k n = some (R, H1, k1, n1) ∧ F H1
section CONS
variable {sL : Nat} {sx : Nat → Int32} {cs : Nat → Nat → Option Int32} {y pc : Nat} {ls : am_L} {st : List Value} {H : am_H} {k n k1 n1 : Nat} {R : Option Value} {F : am_H → Prop}
theorem en_s {y2 pc2 : Nat} {ls2 : am_L} {st2 : List Value} {H2 : am_H} {k2 n2 : Nat} (e : aX sL sx cs y pc ls st H k n = aX sL sx cs y2 pc2 ls2 st2 H2 k2 n2) (q : am_NW sL sx cs y2 pc2 ls2 st2 H2 k2 n2 R k1 n1 F) : am_NW sL sx cs y pc ls st H k n R k1 n1 F := by
  obtain ⟨H3, h1, h2⟩ := q
  exact ⟨H3, e.trans h1, h2⟩
theorem en_r (e : aX sL sx cs y pc ls st H k n = some (R, H, k1, n1)) (q : F H) : am_NW sL sx cs y pc ls st H k n R k1 n1 F := ⟨H, e, q⟩
theorem en_pc {pc2 : Nat} (e : pc = pc2) (q : am_NW sL sx cs y pc2 ls st H k n R k1 n1 F) : am_NW sL sx cs y pc ls st H k n R k1 n1 F := by
  subst e
  exact q
theorem en_cv1 {a b o : Nat} {ne : Bool} {as rest : List Value} {ci : Nat} {vs : List Value} {v : Value} {Ia : Instr} {mc ms : Nat} {G : am_H → Prop} (hI : am_co y pc = some (Ia, .null, a, b, ne, [])) (hkd : am_kd (Ia, .null, a, b, ne, []) = 3) (hst : st = as.reverse ++ .ref o :: rest) (hlen : as.length = b) (ho : H[o]? = some (.inr (ci, vs))) (hc : (am_ctb[ci]?).map (fun q => q.1) = some (am_mt a).1.cls)
    (hs1 : Nat.ble (am_sum rest) 8 = true) (hs2 : Nat.ble (am_sum (.ref o :: as)) (am_mt a).2.2.1 = true) (hr : am_NW sL sx cs a 0 (lv_args 0 (.ref o :: as)) [] H 0 0 (some v) mc ms G) (kk : ∀ H2 : am_H, G H2 → am_NW sL sx cs y (pc + 3) ls (v :: rest) H2 (k + mc) (n + ms) R k1 n1 F) : am_NW sL sx cs y pc ls st H k n R k1 n1 F := by
  obtain ⟨H2, h1, h2⟩ := hr
  exact en_s (st_cv1 hI hkd hst hlen ho hc hs1 hs2 h1) (kk H2 h2)
theorem en_cv0 {a b o : Nat} {ne : Bool} {as rest : List Value} {ci : Nat} {vs : List Value} {Ia : Instr} {mc ms : Nat} {G : am_H → Prop} (hI : am_co y pc = some (Ia, .null, a, b, ne, [])) (hkd : am_kd (Ia, .null, a, b, ne, []) = 3) (hst : st = as.reverse ++ .ref o :: rest) (hlen : as.length = b) (ho : H[o]? = some (.inr (ci, vs))) (hc : (am_ctb[ci]?).map (fun q => q.1) = some (am_mt a).1.cls)
    (hs1 : Nat.ble (am_sum rest) 8 = true) (hs2 : Nat.ble (am_sum (.ref o :: as)) (am_mt a).2.2.1 = true) (hr : am_NW sL sx cs a 0 (lv_args 0 (.ref o :: as)) [] H 0 0 none mc ms G) (kk : ∀ H2 : am_H, G H2 → am_NW sL sx cs y (pc + 3) ls rest H2 (k + mc) (n + ms) R k1 n1 F) : am_NW sL sx cs y pc ls st H k n R k1 n1 F := by
  obtain ⟨H2, h1, h2⟩ := hr
  exact en_s (st_cv0 hI hkd hst hlen ho hc hs1 hs2 h1) (kk H2 h2)
theorem en_put {i a b o N : Nat} {ne : Bool} {vs : List Value} {v : Value} {ty : FieldType} (hI : am_co y pc = some (.putfield i, .null, a, b, ne, [])) (hl : H.length = N) (ho : H[o]? = some (.inr (a, vs))) (hb : Nat.ble (b + 1) vs.length = true) (hty : (am_ctb[a]?).bind (fun q => q.2[b]?) = some ty) (hf : am_fit ty v = true)
    (kk : ∀ H2 : am_H, H2.length = N → H2[o]? = some (.inr (a, vs.set b v)) → (∀ j : Nat, j ≠ o → H2[j]? = H[j]?) → am_NW sL sx cs y (pc + 3) ls st H2 k n R k1 n1 F) : am_NW sL sx cs y pc ls (v :: .ref o :: st) H k n R k1 n1 F :=
  en_s (st_put hI ho hb hty hf) (kk _ (by rw [List.length_set]; exact hl) (am_gs ho) (fun j hj => List.getElem?_set_ne (Ne.symm hj)))
/-- an array was written -/
theorem en_set {o N : Nat} {c c0 : am_C} {pc2 : Nat} {ls2 : am_L} {st2 : List Value} (e : aX sL sx cs y pc ls st H k n = aX sL sx cs y pc2 ls2 st2 (H.set o c) k n) (hl : H.length = N) (ho : H[o]? = some c0)
    (kk : ∀ H2 : am_H, H2.length = N → H2[o]? = some c → (∀ j : Nat, j ≠ o → H2[j]? = H[j]?) → am_NW sL sx cs y pc2 ls2 st2 H2 k n R k1 n1 F) : am_NW sL sx cs y pc ls st H k n R k1 n1 F :=
  en_s e (kk _ (by rw [List.length_set]; exact hl) (am_gs ho) (fun j hj => List.getElem?_set_ne (Ne.symm hj)))
theorem am_gl {H : am_H} {N : Nat} {c : am_C} (hl : H.length = N) : (H ++ [c])[N]? = some c := by
  rw [List.getElem?_append_right (by omega), hl, Nat.sub_self]
  rfl
theorem am_ga {H : am_H} {N : Nat} {t : List am_C} (hl : H.length = N) (j : Nat) (hj : j < N) : (H ++ t)[j]? = H[j]? := List.getElem?_append_left (by omega)
theorem en_new {i a N : Nat} {vs : List Value} {ms : Nat} (hI : am_co y pc = some (.new i, .null, a, 0, false, [])) (hl : H.length = N) (hq : (am_ctb[a]?).map (fun q => (q.2.map defaultValue, q.2.length)) = some (vs, ms))
    (kk : ∀ H2 : am_H, H2.length = N + 1 → H2[N]? = some (.inr (a, vs)) → (∀ j : Nat, j < N → H2[j]? = H[j]?) → am_NW sL sx cs y (pc + 3) ls (.ref N :: st) H2 (k + 1) (n + ms) R k1 n1 F) : am_NW sL sx cs y pc ls st H k n R k1 n1 F := by
  obtain ⟨q, hq1, hq2⟩ := Option.map_eq_some_iff.mp hq
  cases hq2
  subst hl
  exact en_s (st_1 (u := (pc + 3, ls, .ref H.length :: st, H ++ [.inr (a, q.2.map defaultValue)], k + 1, n + q.2.length)) hI rfl (by dsimp only [am_s]; rw [hq1])) (kk _ (by rw [List.length_append]; rfl) (am_gl rfl) (am_ga rfl))
theorem en_newa {t : ArrayType} {x : Int32} {N m : Nat} {ty : FieldType} (hI : am_co y pc = some (.newarray t, .null, 0, 0, false, [])) (hl : H.length = N) (h1 : am_small (newarray.typeOf t) = true) (h2 : ¬ x < 0) (h3 : x.toNatClampNeg = m) (h4 : Nat.ble (m * 8) 536870912 = true) (h5 : newarray.typeOf t = ty)
    (kk : ∀ H2 : am_H, H2.length = N + 1 → H2[N]? = some (.inl (ty, am_z0 ty m)) → (∀ j : Nat, j < N → H2[j]? = H[j]?) → am_NW sL sx cs y (pc + 2) ls (.ref N :: st) H2 (k + 1) (n + m) R k1 n1 F) : am_NW sL sx cs y pc ls (.int x :: st) H k n R k1 n1 F := by
  subst hl h3 h5
  exact en_s (st_newa hI h1 h2 (Nat.le_of_ble_eq_true h4)) (kk _ (by rw [List.length_append]; rfl) (am_gl rfl) (am_ga rfl))
theorem en_anew {i a N m : Nat} {x : Int32} {C : String} (hI : am_co y pc = some (.anewarray i, .null, a, 0, false, [])) (hl : H.length = N) (hq : (am_ctb[a]?).map (fun q => q.1) = some C) (h2 : ¬ x < 0) (h3 : x.toNatClampNeg = m) (h4 : Nat.ble (m * 4) 536870912 = true)
    (kk : ∀ H2 : am_H, H2.length = N + 1 → H2[N]? = some (.inl (.object C, (m, .inr (.inr (.inr (.inr fun _ => none)))))) → (∀ j : Nat, j < N → H2[j]? = H[j]?) → am_NW sL sx cs y (pc + 3) ls (.ref N :: st) H2 (k + 1) (n + m) R k1 n1 F) : am_NW sL sx cs y pc ls (.int x :: st) H k n R k1 n1 F := by
  obtain ⟨q, hq1, hq2⟩ := Option.map_eq_some_iff.mp hq
  subst hq2 hl h3
  exact en_s (st_1 (u := (pc + 3, ls, .ref H.length :: st, H ++ [.inl (.object q.1, (x.toNatClampNeg, .inr (.inr (.inr (.inr fun _ => none)))))], k + 1, n + x.toNatClampNeg)) hI rfl (by dsimp only [am_s]; rw [hq1]; dsimp only; rw [if_pos ⟨h2, Nat.le_of_ble_eq_true h4⟩])) (kk _ (by rw [List.length_append]; rfl) (am_gl rfl) (am_ga rfl))
theorem en_aast {o m N w ci : Nat} {x : Int32} {C : String} {f g : Nat → Option Nat} {vs : List Value} (hI : am_co y pc = some (.aastore, .null, 0, 0, false, [])) (hl : H.length = N) (ho : H[o]? = some (.inl (.object C, (m, .inr (.inr (.inr (.inr f))))))) (hw : H[w]? = some (.inr (ci, vs))) (hi : ¬ (x < 0 ∨ m ≤ x.toNatClampNeg)) (hc : (am_ctb[ci]?).map (fun q => q.1) = some C) (hg : va_up f x.toNatClampNeg (some w) = g)
    (kk : ∀ H2 : am_H, H2.length = N → H2[o]? = some (.inl (.object C, (m, .inr (.inr (.inr (.inr g)))))) → (∀ j : Nat, j ≠ o → H2[j]? = H[j]?) → am_NW sL sx cs y (pc + 1) ls st H2 k n R k1 n1 F) : am_NW sL sx cs y pc ls (.ref w :: .int x :: .ref o :: st) H k n R k1 n1 F := by
  subst hg
  exact en_set (st_1 (u := (pc + 1, ls, st, H.set o (.inl (.object C, (m, .inr (.inr (.inr (.inr (va_up f x.toNatClampNeg (some w)))))))), k, n)) hI rfl (by dsimp only [am_s]; rw [ho, hw]; dsimp only; rw [if_neg (fun q => q.elim hi (fun r => r hc))])) hl ho kk
theorem en_mna {i N p m : Nat} {x z : Int32} {a b : Nat} (hI : am_co y pc = some (.multianewarray i 2, .null, a, b, false, [])) (hl : H.length = N) (h1 : ¬ z < 0) (h2 : ¬ x < 0) (h3 : z.toNatClampNeg = p) (h4 : x.toNatClampNeg = m) (h5 : Nat.ble (p * 4) 536870912 = true) (h6 : Nat.ble (m * 4) 536870912 = true)
    (kk : ∀ H2 : am_H, H2.length = N + 1 + p → H2[N]? = some (.inl (.array .int, (p, .inr (.inr (.inr (.inr fun i => if i < p then some (N + 1 + i) else none)))))) → (∀ j : Nat, j < p → H2[N + 1 + j]? = some (.inl (.int, (m, .inl fun _ => 0)))) → (∀ j : Nat, j < N → H2[j]? = H[j]?) → am_NW sL sx cs y (pc + 4) ls (.ref N :: st) H2 (k + 1 + p) (n + p + p * m) R k1 n1 F) : am_NW sL sx cs y pc ls (.int x :: .int z :: st) H k n R k1 n1 F := by
  subst hl h3 h4
  refine en_s (st_1 (u := (pc + 4, ls, .ref H.length :: st, _, _, _)) hI rfl (by dsimp only [am_s]; rw [if_pos ⟨⟨h1, h2⟩, Nat.le_of_ble_eq_true h5, Nat.le_of_ble_eq_true h6⟩])) (kk _ ?_ ?_ ?_ ?_)
  · simp only [List.length_append, List.length_cons, List.length_replicate]; omega
  · rw [List.getElem?_append_right (Nat.le_refl _), Nat.sub_self]; rfl
  · intro j hj
    rw [List.getElem?_append_right (by omega), show H.length + 1 + j - H.length = j + 1 by omega, List.getElem?_cons_succ, List.getElem?_replicate, if_pos hj]
  · intro j hj
    exact List.getElem?_append_left hj
end CONS
/-! the nearest of a range -/
def am_near (v lo hi : Int32) : Int32 := if v < lo then lo else if hi < v then hi else v
section NEAR
variable {sL : Nat} {sx : Nat → Int32} {cs : Nat → Nat → Option Int32} {H : am_H}
theorem nr_ok {v lo hi w : Int32} (e : am_near v lo hi = w) : aX sL sx cs 10 0 [(0, .int v), (1, .int lo), (2, .int hi)] [] H 0 0 = some (some (.int w), H, 0, 0) := by
  subst e
  refine (am_nb (m := 2) (pc1 := 2) (ls1 := [(0, .int v), (1, .int lo), (2, .int hi)]) (st1 := [.int lo, .int v]) (H1 := H) (k1 := 0) (n1 := 0) (by with_unfolding_all rfl)).trans ?_
  refine (st_icmp rfl).trans ?_
  unfold am_near
  by_cases h1 : lo ≤ v
  · rw [if_neg (Int32.not_lt.mpr h1), show am_br ClassFile.Cond.ge v lo 7 5 = 7 from if_pos h1]
    refine (am_nb (m := 2) (pc1 := 9) (ls1 := [(0, .int v), (1, .int lo), (2, .int hi)]) (st1 := [.int hi, .int v]) (H1 := H) (k1 := 0) (n1 := 0) (by with_unfolding_all rfl)).trans ?_
    refine (st_icmp rfl).trans ?_
    by_cases h2 : v ≤ hi
    · rw [if_neg (Int32.not_lt.mpr h2), show am_br ClassFile.Cond.le v hi 16 12 = 16 from if_pos h2]
      refine (am_nb (m := 1) (pc1 := 17) (ls1 := [(0, .int v), (1, .int lo), (2, .int hi)]) (st1 := [.int v]) (H1 := H) (k1 := 0) (n1 := 0) (by with_unfolding_all rfl)).trans ?_
      exact st_iret rfl rfl rfl
    · rw [if_pos (Int32.not_le.mp h2), show am_br ClassFile.Cond.le v hi 16 12 = 12 from if_neg h2]
      refine (am_nb (m := 2) (pc1 := 17) (ls1 := [(0, .int v), (1, .int lo), (2, .int hi)]) (st1 := [.int hi]) (H1 := H) (k1 := 0) (n1 := 0) (by with_unfolding_all rfl)).trans ?_
      exact st_iret rfl rfl rfl
  · rw [if_pos (Int32.not_le.mp h1), show am_br ClassFile.Cond.ge v lo 7 5 = 5 from if_neg h1]
    refine (am_nb (m := 1) (pc1 := 6) (ls1 := [(0, .int v), (1, .int lo), (2, .int hi)]) (st1 := [.int lo]) (H1 := H) (k1 := 0) (n1 := 0) (by with_unfolding_all rfl)).trans ?_
    exact st_iret rfl rfl rfl
end NEAR
