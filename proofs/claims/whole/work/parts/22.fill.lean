/-! java.util.Arrays.fill of an array of int. -/
theorem am_fll_id (f : Nat → Int32) (A : Nat) (v : Int32) : am_fll f A A v = f := by
  funext k
  unfold am_fll
  rw [if_neg (by omega)]
theorem am_fll_up (f : Nat → Int32) {A j : Nat} (h : A ≤ j) (v : Int32) : upd (am_fll f A j v) j v = am_fll f A (j + 1) v := by
  funext k
  unfold upd am_fll
  by_cases h1 : k = j
  · rw [if_pos h1, if_pos (by omega)]
  · rw [if_neg h1]
    by_cases h2 : A ≤ k ∧ k < j
    · rw [if_pos h2, if_pos (by omega)]
    · rw [if_neg h2, if_neg (by omega)]
theorem am_set_id {H : am_H} {o : Nat} {c : am_C} (h : H[o]? = some c) : H.set o c = H := by
  apply List.ext_getElem?
  intro j
  by_cases hj : o = j
  · subst hj
    rw [List.getElem?_set_self (List.getElem?_eq_some_iff.mp h).1, h]
  · rw [List.getElem?_set_ne hj]
section FILL
variable {sL : Nat} {sx : Nat → Int32} {cs : Nat → Nat → Option Int32} {H : am_H}
theorem rc_ok {n f t : Int32} (h1 : f ≤ t) (h2 : 0 ≤ f) (h3 : t ≤ n) : aX sL sx cs 15 0 [(0, .int n), (1, .int f), (2, .int t)] [] H 0 0 = some (none, H, 0, 0) := by
  refine (am_nb (m := 2) (pc1 := 2) (ls1 := [(0, .int n), (1, .int f), (2, .int t)]) (st1 := [.int t, .int f]) (H1 := H) (k1 := 0) (n1 := 0) (by with_unfolding_all rfl)).trans ?_
  refine (st_icmp rfl).trans ?_
  rw [show am_br ClassFile.Cond.le f t 46 5 = 46 from if_pos h1]
  refine (am_nb (m := 1) (pc1 := 47) (ls1 := [(0, .int n), (1, .int f), (2, .int t)]) (st1 := [.int f]) (H1 := H) (k1 := 0) (n1 := 0) (by with_unfolding_all rfl)).trans ?_
  refine (st_if rfl).trans ?_
  rw [show am_br ClassFile.Cond.ge f 0 59 50 = 59 from if_pos h2]
  refine (am_nb (m := 2) (pc1 := 61) (ls1 := [(0, .int n), (1, .int f), (2, .int t)]) (st1 := [.int n, .int t]) (H1 := H) (k1 := 0) (n1 := 0) (by with_unfolding_all rfl)).trans ?_
  refine (st_icmp rfl).trans ?_
  rw [show am_br ClassFile.Cond.le t n 73 64 = 73 from if_pos h3]
  exact st_vret rfl rfl
theorem fl_loop {a m A T : Nat} {f : Nat → Int32} {v : Int32} (ha : H[a]? = some (.inl (.int, (m, .inl f)))) (h2 : T ≤ m) (h3 : m < 2 ^ 31) : ∀ (r j : Nat), j + r = T → A ≤ j →
    aX sL sx cs 14 10 [(4, .int (Int32.ofNat j)), (0, .ref a), (1, .int (Int32.ofNat A)), (2, .int (Int32.ofNat T)), (3, .int v)] [] (H.set a (.inl (.int, (m, .inl (am_fll f A j v))))) 0 0 = some (none, H.set a (.inl (.int, (m, .inl (am_fll f A T v)))), 0, 0)
  | 0, j, hj, hA => by
    have e : j = T := by omega
    subst e
    refine (am_nb (m := 2) (pc1 := 13) (ls1 := [(4, .int (Int32.ofNat j)), (0, .ref a), (1, .int (Int32.ofNat A)), (2, .int (Int32.ofNat j)), (3, .int v)]) (st1 := [.int (Int32.ofNat j), .int (Int32.ofNat j)]) (H1 := H.set a (.inl (.int, (m, .inl (am_fll f A j v))))) (k1 := 0) (n1 := 0) (by with_unfolding_all rfl)).trans ?_
    refine (st_icmp rfl).trans ?_
    rw [show am_br ClassFile.Cond.ge (Int32.ofNat j) (Int32.ofNat j) 27 16 = 27 from if_pos (Int32.le_refl _)]
    exact st_vret rfl rfl
  | r + 1, j, hj, hA => by
    have hlt : ¬ Int32.ofNat T ≤ Int32.ofNat j := fun h => by
      have := (Int32.ofNat_le_ofNat (by omega) (by omega)).mp h
      omega
    refine (am_nb (m := 2) (pc1 := 13) (ls1 := [(4, .int (Int32.ofNat j)), (0, .ref a), (1, .int (Int32.ofNat A)), (2, .int (Int32.ofNat T)), (3, .int v)]) (st1 := [.int (Int32.ofNat T), .int (Int32.ofNat j)]) (H1 := H.set a (.inl (.int, (m, .inl (am_fll f A j v))))) (k1 := 0) (n1 := 0) (by with_unfolding_all rfl)).trans ?_
    refine (st_icmp rfl).trans ?_
    rw [show am_br ClassFile.Cond.ge (Int32.ofNat j) (Int32.ofNat T) 27 16 = 16 from if_neg hlt]
    refine (am_nb (m := 3) (pc1 := 20) (ls1 := [(4, .int (Int32.ofNat j)), (0, .ref a), (1, .int (Int32.ofNat A)), (2, .int (Int32.ofNat T)), (3, .int v)]) (st1 := [.int v, .int (Int32.ofNat j), .ref a]) (H1 := H.set a (.inl (.int, (m, .inl (am_fll f A j v))))) (k1 := 0) (n1 := 0) (by with_unfolding_all rfl)).trans ?_
    refine (st_iast rfl (am_gs ha) (within rfl (by omega) h3)).trans ?_
    refine (am_nb (m := 2) (pc1 := 10) (ls1 := [(4, .int (Int32.ofNat j + 1)), (0, .ref a), (1, .int (Int32.ofNat A)), (2, .int (Int32.ofNat T)), (3, .int v)]) (st1 := []) (H1 := _) (k1 := 0) (n1 := 0) (by with_unfolding_all rfl)).trans ?_
    rw [List.set_set, clamp_of rfl (by omega : j < 2 ^ 31), am_fll_up f hA v, ← inc_ofNat]
    exact fl_loop ha h2 h3 r (j + 1) (by omega) (by omega)
theorem fl_ok {a m A T : Nat} {f : Nat → Int32} {v : Int32} (ha : H[a]? = some (.inl (.int, (m, .inl f)))) (h1 : A ≤ T) (h2 : T ≤ m) (h3 : m < 2 ^ 31) :
    aX sL sx cs 14 0 [(0, .ref a), (1, .int (Int32.ofNat A)), (2, .int (Int32.ofNat T)), (3, .int v)] [] H 0 0 = some (none, H.set a (.inl (.int, (m, .inl (am_fll f A T v)))), 0, 0) := by
  refine (am_nb (m := 1) (pc1 := 1) (ls1 := [(0, .ref a), (1, .int (Int32.ofNat A)), (2, .int (Int32.ofNat T)), (3, .int v)]) (st1 := [.ref a]) (H1 := H) (k1 := 0) (n1 := 0) (by with_unfolding_all rfl)).trans ?_
  refine (st_alen rfl ha).trans ?_
  refine (am_nb (m := 2) (pc1 := 4) (ls1 := [(0, .ref a), (1, .int (Int32.ofNat A)), (2, .int (Int32.ofNat T)), (3, .int v)]) (st1 := [.int (Int32.ofNat T), .int (Int32.ofNat A), .int (Int32.ofNat m)]) (H1 := H) (k1 := 0) (n1 := 0) (by with_unfolding_all rfl)).trans ?_
  refine (st_cs0 (as := [.int (Int32.ofNat m), .int (Int32.ofNat A), .int (Int32.ofNat T)]) (rest := []) (H1 := H) rfl (by decide) rfl rfl (by with_unfolding_all rfl) (by with_unfolding_all rfl) (rc_ok ((Int32.ofNat_le_ofNat (by omega) (by omega)).mpr h1) ((Int32.ofNat_le_ofNat (k := 0) (by omega) (by omega)).mpr (Nat.zero_le _)) ((Int32.ofNat_le_ofNat (by omega) (by omega)).mpr h2))).trans ?_
  refine (am_nb (m := 2) (pc1 := 10) (ls1 := [(4, .int (Int32.ofNat A)), (0, .ref a), (1, .int (Int32.ofNat A)), (2, .int (Int32.ofNat T)), (3, .int v)]) (st1 := []) (H1 := H) (k1 := 0) (n1 := 0) (by with_unfolding_all rfl)).trans ?_
  have h := fl_loop (sL := sL) (sx := sx) (cs := cs) (A := A) (v := v) ha h2 h3 (T - A) A (by omega) (Nat.le_refl _)
  rw [am_fll_id, am_set_id ha] at h
  exact h
end FILL
