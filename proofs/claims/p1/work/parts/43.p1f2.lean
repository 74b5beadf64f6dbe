/-! p1: leaves. -/
set_option maxRecDepth 100000 in
theorem fx_screen_2 {sL : Nat} {sx : Nat → Int32} {cs : Nat → Nat → Option Int32} {H : am_H} {v0_13 : Int32} {v136_0 : Int32} {v136_1 : Int32} {v136_9 : Int32} {m138 : Nat} {g138 : Nat → Int32} {x0 : Int32} {x1 : Int32} (h0 : am_is H 0 (.inr (11, [.ref 1, .int 0, .ref 2, .int 0, .ref 3, .ref 93, .ref 97, .ref 115, .ref 116, .ref 129, .ref 123, .ref 127, .ref 128, .int v0_13, .null, .int 0]))) (h129 : am_is H 129 (.inr (8, [.ref 136, .ref 130, .ref 132, .ref 134, .int 0, .int 0, .int 0, .int 0, .int 0, .int 0, .int 0, .ref 135, .int 0, .int 0, .int 0]))) (h136 : am_is H 136 (.inr (3, [.int v136_0, .int v136_1, .ref 138, .ref 139, .ref 140, .int 0, .int 0, .int 0, .int 0, .int v136_9, .int 96, .int 0, .int 0, .int 0, .int 0, .int 0, .int 0, .ref 137]))) (h138 : am_is H 138 (.inl (.int, (m138, .inl g138)))) (c1 : ¬ x0 < 0) (c2 : ¬ v136_0 ≤ x0) (c3 : x1 < 0)  :
    am_E sL sx cs 248 0 [(0, .ref 0), (1, .int x0), (2, .int x1)] [] H (some (.int (-1))) (fun H1 => (True) ∧ ∀ j : Nat, H1[j]? = H[j]?) := by
  refine ex_s (am_nb (m := 1) (pc1 := 1) (ls1 := [(0, .ref 0), (1, .int x0), (2, .int x1)]) (st1 := [.ref 0]) (H1 := H) (k1 := 0) (n1 := 0) (by with_unfolding_all rfl)) ?_
  refine ex_s (st_get rfl h0 rfl) ?_
  refine ex_s (st_get rfl h129 rfl) ?_
  refine ex_s (am_nb (m := 4) (pc1 := 11) (ls1 := [(3, .ref 136), (0, .ref 0), (1, .int x0), (2, .int x1)]) (st1 := [.int x1, .int x0, .ref 136]) (H1 := H) (k1 := 0) (n1 := 0) (by with_unfolding_all rfl)) ?_
  refine ex_cv1 (as := [.int x0, .int x1]) (rest := []) rfl rfl rfl rfl h136 rfl (by with_unfolding_all rfl) (by with_unfolding_all rfl) (fx_screen_1_2 h136 c1 c2 c3) ?_
  rintro H247 ⟨-, k247⟩
  refine ex_s (am_nb (m := 2) (pc1 := 34) (ls1 := [(3, .ref 136), (0, .ref 0), (1, .int x0), (2, .int x1)]) (st1 := [.int (-1)]) (H1 := H247) (k1 := 0) (n1 := 0) (by with_unfolding_all rfl)) ?_
  exact ex_r (st_iret rfl rfl rfl) ⟨trivial, fun j => (k247 j)⟩

set_option maxRecDepth 100000 in
theorem fx_screen_3 {sL : Nat} {sx : Nat → Int32} {cs : Nat → Nat → Option Int32} {H : am_H} {v0_13 : Int32} {v136_0 : Int32} {v136_1 : Int32} {v136_9 : Int32} {m138 : Nat} {g138 : Nat → Int32} {x0 : Int32} {x1 : Int32} (h0 : am_is H 0 (.inr (11, [.ref 1, .int 0, .ref 2, .int 0, .ref 3, .ref 93, .ref 97, .ref 115, .ref 116, .ref 129, .ref 123, .ref 127, .ref 128, .int v0_13, .null, .int 0]))) (h129 : am_is H 129 (.inr (8, [.ref 136, .ref 130, .ref 132, .ref 134, .int 0, .int 0, .int 0, .int 0, .int 0, .int 0, .int 0, .ref 135, .int 0, .int 0, .int 0]))) (h136 : am_is H 136 (.inr (3, [.int v136_0, .int v136_1, .ref 138, .ref 139, .ref 140, .int 0, .int 0, .int 0, .int 0, .int v136_9, .int 96, .int 0, .int 0, .int 0, .int 0, .int 0, .int 0, .ref 137]))) (h138 : am_is H 138 (.inl (.int, (m138, .inl g138)))) (c1 : ¬ x0 < 0) (c2 : ¬ v136_0 ≤ x0) (c3 : ¬ x1 < 0) (c4 : v136_1 ≤ x1)  :
    am_E sL sx cs 248 0 [(0, .ref 0), (1, .int x0), (2, .int x1)] [] H (some (.int (-1))) (fun H1 => (True) ∧ ∀ j : Nat, H1[j]? = H[j]?) := by
  refine ex_s (am_nb (m := 1) (pc1 := 1) (ls1 := [(0, .ref 0), (1, .int x0), (2, .int x1)]) (st1 := [.ref 0]) (H1 := H) (k1 := 0) (n1 := 0) (by with_unfolding_all rfl)) ?_
  refine ex_s (st_get rfl h0 rfl) ?_
  refine ex_s (st_get rfl h129 rfl) ?_
  refine ex_s (am_nb (m := 4) (pc1 := 11) (ls1 := [(3, .ref 136), (0, .ref 0), (1, .int x0), (2, .int x1)]) (st1 := [.int x1, .int x0, .ref 136]) (H1 := H) (k1 := 0) (n1 := 0) (by with_unfolding_all rfl)) ?_
  refine ex_cv1 (as := [.int x0, .int x1]) (rest := []) rfl rfl rfl rfl h136 rfl (by with_unfolding_all rfl) (by with_unfolding_all rfl) (fx_screen_1_3 h136 c1 c2 c3 c4) ?_
  rintro H248 ⟨-, k248⟩
  refine ex_s (am_nb (m := 2) (pc1 := 34) (ls1 := [(3, .ref 136), (0, .ref 0), (1, .int x0), (2, .int x1)]) (st1 := [.int (-1)]) (H1 := H248) (k1 := 0) (n1 := 0) (by with_unfolding_all rfl)) ?_
  exact ex_r (st_iret rfl rfl rfl) ⟨trivial, fun j => (k248 j)⟩

set_option maxRecDepth 100000 in
theorem fx_screen_4 {sL : Nat} {sx : Nat → Int32} {cs : Nat → Nat → Option Int32} {H : am_H} {v0_13 : Int32} {v136_0 : Int32} {v136_1 : Int32} {v136_9 : Int32} {m138 : Nat} {g138 : Nat → Int32} {x0 : Int32} {x1 : Int32} (h0 : am_is H 0 (.inr (11, [.ref 1, .int 0, .ref 2, .int 0, .ref 3, .ref 93, .ref 97, .ref 115, .ref 116, .ref 129, .ref 123, .ref 127, .ref 128, .int v0_13, .null, .int 0]))) (h129 : am_is H 129 (.inr (8, [.ref 136, .ref 130, .ref 132, .ref 134, .int 0, .int 0, .int 0, .int 0, .int 0, .int 0, .int 0, .ref 135, .int 0, .int 0, .int 0]))) (h136 : am_is H 136 (.inr (3, [.int v136_0, .int v136_1, .ref 138, .ref 139, .ref 140, .int 0, .int 0, .int 0, .int 0, .int v136_9, .int 96, .int 0, .int 0, .int 0, .int 0, .int 0, .int 0, .ref 137]))) (h138 : am_is H 138 (.inl (.int, (m138, .inl g138)))) (c1 : ¬ x0 < 0) (c2 : ¬ v136_0 ≤ x0) (c3 : ¬ x1 < 0) (c4 : ¬ v136_1 ≤ x1) (s1 : ¬ ((x0 * v136_1) + x1 < 0 ∨ m138 ≤ ((x0 * v136_1) + x1).toNatClampNeg)) :
    am_E sL sx cs 248 0 [(0, .ref 0), (1, .int x0), (2, .int x1)] [] H (some (.int (g138 (((x0 * v136_1) + x1).toNatClampNeg)))) (fun H1 => (True) ∧ ∀ j : Nat, H1[j]? = H[j]?) := by
  refine ex_s (am_nb (m := 1) (pc1 := 1) (ls1 := [(0, .ref 0), (1, .int x0), (2, .int x1)]) (st1 := [.ref 0]) (H1 := H) (k1 := 0) (n1 := 0) (by with_unfolding_all rfl)) ?_
  refine ex_s (st_get rfl h0 rfl) ?_
  refine ex_s (st_get rfl h129 rfl) ?_
  refine ex_s (am_nb (m := 4) (pc1 := 11) (ls1 := [(3, .ref 136), (0, .ref 0), (1, .int x0), (2, .int x1)]) (st1 := [.int x1, .int x0, .ref 136]) (H1 := H) (k1 := 0) (n1 := 0) (by with_unfolding_all rfl)) ?_
  refine ex_cv1 (as := [.int x0, .int x1]) (rest := []) rfl rfl rfl rfl h136 rfl (by with_unfolding_all rfl) (by with_unfolding_all rfl) (fx_screen_1_4 h136 c1 c2 c3 c4) ?_
  rintro H249 ⟨-, k249⟩
  refine ex_s (am_nb (m := 2) (pc1 := 18) (ls1 := [(3, .ref 136), (0, .ref 0), (1, .int x0), (2, .int x1)]) (st1 := [.ref 136]) (H1 := H249) (k1 := 0) (n1 := 0) (by with_unfolding_all rfl)) ?_
  refine ex_s (st_get rfl ((k249 136).trans h136) rfl) ?_
  refine ex_s (am_nb (m := 2) (pc1 := 23) (ls1 := [(3, .ref 136), (0, .ref 0), (1, .int x0), (2, .int x1)]) (st1 := [.ref 136, .int x0, .ref 138]) (H1 := H249) (k1 := 0) (n1 := 0) (by with_unfolding_all rfl)) ?_
  refine ex_s (st_get rfl ((k249 136).trans h136) rfl) ?_
  refine ex_s (am_nb (m := 3) (pc1 := 29) (ls1 := [(3, .ref 136), (0, .ref 0), (1, .int x0), (2, .int x1)]) (st1 := [.int ((x0 * v136_1) + x1), .ref 138]) (H1 := H249) (k1 := 0) (n1 := 0) (by with_unfolding_all rfl)) ?_
  refine ex_s (st_iald rfl ((k249 138).trans h138) s1) ?_
  refine ex_s (am_nb (m := 1) (pc1 := 34) (ls1 := [(3, .ref 136), (0, .ref 0), (1, .int x0), (2, .int x1)]) (st1 := [.int (g138 (((x0 * v136_1) + x1).toNatClampNeg))]) (H1 := H249) (k1 := 0) (n1 := 0) (by with_unfolding_all rfl)) ?_
  exact ex_r (st_iret rfl rfl rfl) ⟨trivial, fun j => (k249 j)⟩

set_option maxRecDepth 100000 in
theorem fx_width_1_0 {sL : Nat} {sx : Nat → Int32} {cs : Nat → Nat → Option Int32} {H : am_H} {v136_0 : Int32} {v136_1 : Int32} {v136_9 : Int32} {x0 : Int32} (h136 : am_is H 136 (.inr (3, [.int v136_0, .int v136_1, .ref 138, .ref 139, .ref 140, .int 0, .int 0, .int 0, .int 0, .int v136_9, .int 96, .int 0, .int 0, .int 0, .int 0, .int 0, .int 0, .ref 137]))) (c1 : x0 < 0)  :
    am_E sL sx cs 249 0 [(0, .ref 136), (1, .int x0), (2, .int 0)] [] H (some (.int 0)) (fun H1 => (True) ∧ ∀ j : Nat, H1[j]? = H[j]?) := by
  refine ex_s (am_nb (m := 1) (pc1 := 1) (ls1 := [(0, .ref 136), (1, .int x0), (2, .int 0)]) (st1 := [.int x0]) (H1 := H) (k1 := 0) (n1 := 0) (by with_unfolding_all rfl)) ?_
  refine ex_s (st_if rfl) ?_
  refine ex_pc (if_pos c1) ?_
  refine ex_s (am_nb (m := 1) (pc1 := 29) (ls1 := [(0, .ref 136), (1, .int x0), (2, .int 0)]) (st1 := [.int 0]) (H1 := H) (k1 := 0) (n1 := 0) (by with_unfolding_all rfl)) ?_
  exact ex_r (st_iret rfl rfl rfl) ⟨trivial, fun j => rfl⟩

set_option maxRecDepth 100000 in
theorem fx_width_1_1 {sL : Nat} {sx : Nat → Int32} {cs : Nat → Nat → Option Int32} {H : am_H} {v136_0 : Int32} {v136_1 : Int32} {v136_9 : Int32} {x0 : Int32} (h136 : am_is H 136 (.inr (3, [.int v136_0, .int v136_1, .ref 138, .ref 139, .ref 140, .int 0, .int 0, .int 0, .int 0, .int v136_9, .int 96, .int 0, .int 0, .int 0, .int 0, .int 0, .int 0, .ref 137]))) (c1 : ¬ x0 < 0) (c2 : v136_0 ≤ x0)  :
    am_E sL sx cs 249 0 [(0, .ref 136), (1, .int x0), (2, .int 0)] [] H (some (.int 0)) (fun H1 => (True) ∧ ∀ j : Nat, H1[j]? = H[j]?) := by
  refine ex_s (am_nb (m := 1) (pc1 := 1) (ls1 := [(0, .ref 136), (1, .int x0), (2, .int 0)]) (st1 := [.int x0]) (H1 := H) (k1 := 0) (n1 := 0) (by with_unfolding_all rfl)) ?_
  refine ex_s (st_if rfl) ?_
  refine ex_pc (if_neg c1) ?_
  refine ex_s (am_nb (m := 2) (pc1 := 6) (ls1 := [(0, .ref 136), (1, .int x0), (2, .int 0)]) (st1 := [.ref 136, .int x0]) (H1 := H) (k1 := 0) (n1 := 0) (by with_unfolding_all rfl)) ?_
  refine ex_s (st_get rfl h136 rfl) ?_
  refine ex_s (st_icmp rfl) ?_
  refine ex_pc (if_pos c2) ?_
  refine ex_s (am_nb (m := 1) (pc1 := 29) (ls1 := [(0, .ref 136), (1, .int x0), (2, .int 0)]) (st1 := [.int 0]) (H1 := H) (k1 := 0) (n1 := 0) (by with_unfolding_all rfl)) ?_
  exact ex_r (st_iret rfl rfl rfl) ⟨trivial, fun j => rfl⟩

set_option maxRecDepth 100000 in
theorem fx_width_1_2 {sL : Nat} {sx : Nat → Int32} {cs : Nat → Nat → Option Int32} {H : am_H} {v136_0 : Int32} {v136_1 : Int32} {v136_9 : Int32} {x0 : Int32} (h136 : am_is H 136 (.inr (3, [.int v136_0, .int v136_1, .ref 138, .ref 139, .ref 140, .int 0, .int 0, .int 0, .int 0, .int v136_9, .int 96, .int 0, .int 0, .int 0, .int 0, .int 0, .int 0, .ref 137]))) (c1 : ¬ x0 < 0) (c2 : ¬ v136_0 ≤ x0) (c3 : v136_1 ≤ 0)  :
    am_E sL sx cs 249 0 [(0, .ref 136), (1, .int x0), (2, .int 0)] [] H (some (.int 0)) (fun H1 => (True) ∧ ∀ j : Nat, H1[j]? = H[j]?) := by
  refine ex_s (am_nb (m := 1) (pc1 := 1) (ls1 := [(0, .ref 136), (1, .int x0), (2, .int 0)]) (st1 := [.int x0]) (H1 := H) (k1 := 0) (n1 := 0) (by with_unfolding_all rfl)) ?_
  refine ex_s (st_if rfl) ?_
  refine ex_pc (if_neg c1) ?_
  refine ex_s (am_nb (m := 2) (pc1 := 6) (ls1 := [(0, .ref 136), (1, .int x0), (2, .int 0)]) (st1 := [.ref 136, .int x0]) (H1 := H) (k1 := 0) (n1 := 0) (by with_unfolding_all rfl)) ?_
  refine ex_s (st_get rfl h136 rfl) ?_
  refine ex_s (st_icmp rfl) ?_
  refine ex_pc (if_neg c2) ?_
  refine ex_s (am_nb (m := 4) (pc1 := 18) (ls1 := [(0, .ref 136), (1, .int x0), (2, .int 0)]) (st1 := [.ref 136, .int 0]) (H1 := H) (k1 := 0) (n1 := 0) (by with_unfolding_all rfl)) ?_
  refine ex_s (st_get rfl h136 rfl) ?_
  refine ex_s (st_icmp rfl) ?_
  refine ex_pc (if_pos c3) ?_
  refine ex_s (am_nb (m := 1) (pc1 := 29) (ls1 := [(0, .ref 136), (1, .int x0), (2, .int 0)]) (st1 := [.int 0]) (H1 := H) (k1 := 0) (n1 := 0) (by with_unfolding_all rfl)) ?_
  exact ex_r (st_iret rfl rfl rfl) ⟨trivial, fun j => rfl⟩

set_option maxRecDepth 100000 in
theorem fx_width_1_3 {sL : Nat} {sx : Nat → Int32} {cs : Nat → Nat → Option Int32} {H : am_H} {v136_0 : Int32} {v136_1 : Int32} {v136_9 : Int32} {x0 : Int32} (h136 : am_is H 136 (.inr (3, [.int v136_0, .int v136_1, .ref 138, .ref 139, .ref 140, .int 0, .int 0, .int 0, .int 0, .int v136_9, .int 96, .int 0, .int 0, .int 0, .int 0, .int 0, .int 0, .ref 137]))) (c1 : ¬ x0 < 0) (c2 : ¬ v136_0 ≤ x0) (c3 : ¬ v136_1 ≤ 0)  :
    am_E sL sx cs 249 0 [(0, .ref 136), (1, .int x0), (2, .int 0)] [] H (some (.int 1)) (fun H1 => (True) ∧ ∀ j : Nat, H1[j]? = H[j]?) := by
  refine ex_s (am_nb (m := 1) (pc1 := 1) (ls1 := [(0, .ref 136), (1, .int x0), (2, .int 0)]) (st1 := [.int x0]) (H1 := H) (k1 := 0) (n1 := 0) (by with_unfolding_all rfl)) ?_
  refine ex_s (st_if rfl) ?_
  refine ex_pc (if_neg c1) ?_
  refine ex_s (am_nb (m := 2) (pc1 := 6) (ls1 := [(0, .ref 136), (1, .int x0), (2, .int 0)]) (st1 := [.ref 136, .int x0]) (H1 := H) (k1 := 0) (n1 := 0) (by with_unfolding_all rfl)) ?_
  refine ex_s (st_get rfl h136 rfl) ?_
  refine ex_s (st_icmp rfl) ?_
  refine ex_pc (if_neg c2) ?_
  refine ex_s (am_nb (m := 4) (pc1 := 18) (ls1 := [(0, .ref 136), (1, .int x0), (2, .int 0)]) (st1 := [.ref 136, .int 0]) (H1 := H) (k1 := 0) (n1 := 0) (by with_unfolding_all rfl)) ?_
  refine ex_s (st_get rfl h136 rfl) ?_
  refine ex_s (st_icmp rfl) ?_
  refine ex_pc (if_neg c3) ?_
  refine ex_s (am_nb (m := 2) (pc1 := 29) (ls1 := [(0, .ref 136), (1, .int x0), (2, .int 0)]) (st1 := [.int 1]) (H1 := H) (k1 := 0) (n1 := 0) (by with_unfolding_all rfl)) ?_
  exact ex_r (st_iret rfl rfl rfl) ⟨trivial, fun j => rfl⟩

set_option maxRecDepth 100000 in
theorem fx_width_0 {sL : Nat} {sx : Nat → Int32} {cs : Nat → Nat → Option Int32} {H : am_H} {v0_13 : Int32} {v136_0 : Int32} {v136_1 : Int32} {v136_9 : Int32} {m139 : Nat} {x0 : Int32} (h0 : am_is H 0 (.inr (11, [.ref 1, .int 0, .ref 2, .int 0, .ref 3, .ref 93, .ref 97, .ref 115, .ref 116, .ref 129, .ref 123, .ref 127, .ref 128, .int v0_13, .null, .int 0]))) (h129 : am_is H 129 (.inr (8, [.ref 136, .ref 130, .ref 132, .ref 134, .int 0, .int 0, .int 0, .int 0, .int 0, .int 0, .int 0, .ref 135, .int 0, .int 0, .int 0]))) (h136 : am_is H 136 (.inr (3, [.int v136_0, .int v136_1, .ref 138, .ref 139, .ref 140, .int 0, .int 0, .int 0, .int 0, .int v136_9, .int 96, .int 0, .int 0, .int 0, .int 0, .int 0, .int 0, .ref 137]))) (h139 : am_is H 139 (.inl (.int, (m139, .inl (fun _ => 0))))) (c1 : x0 < 0)  :
    am_E sL sx cs 250 0 [(0, .ref 0), (1, .int x0)] [] H (some (.int (-1))) (fun H1 => (True) ∧ ∀ j : Nat, H1[j]? = H[j]?) := by
  refine ex_s (am_nb (m := 1) (pc1 := 1) (ls1 := [(0, .ref 0), (1, .int x0)]) (st1 := [.ref 0]) (H1 := H) (k1 := 0) (n1 := 0) (by with_unfolding_all rfl)) ?_
  refine ex_s (st_get rfl h0 rfl) ?_
  refine ex_s (st_get rfl h129 rfl) ?_
  refine ex_s (am_nb (m := 4) (pc1 := 11) (ls1 := [(2, .ref 136), (0, .ref 0), (1, .int x0)]) (st1 := [.int 0, .int x0, .ref 136]) (H1 := H) (k1 := 0) (n1 := 0) (by with_unfolding_all rfl)) ?_
  refine ex_cv1 (as := [.int x0, .int 0]) (rest := []) rfl rfl rfl rfl h136 rfl (by with_unfolding_all rfl) (by with_unfolding_all rfl) (fx_width_1_0 h136 c1) ?_
  rintro H250 ⟨-, k250⟩
  refine ex_s (am_nb (m := 2) (pc1 := 27) (ls1 := [(2, .ref 136), (0, .ref 0), (1, .int x0)]) (st1 := [.int (-1)]) (H1 := H250) (k1 := 0) (n1 := 0) (by with_unfolding_all rfl)) ?_
  exact ex_r (st_iret rfl rfl rfl) ⟨trivial, fun j => (k250 j)⟩

set_option maxRecDepth 100000 in
theorem fx_width_1 {sL : Nat} {sx : Nat → Int32} {cs : Nat → Nat → Option Int32} {H : am_H} {v0_13 : Int32} {v136_0 : Int32} {v136_1 : Int32} {v136_9 : Int32} {m139 : Nat} {x0 : Int32} (h0 : am_is H 0 (.inr (11, [.ref 1, .int 0, .ref 2, .int 0, .ref 3, .ref 93, .ref 97, .ref 115, .ref 116, .ref 129, .ref 123, .ref 127, .ref 128, .int v0_13, .null, .int 0]))) (h129 : am_is H 129 (.inr (8, [.ref 136, .ref 130, .ref 132, .ref 134, .int 0, .int 0, .int 0, .int 0, .int 0, .int 0, .int 0, .ref 135, .int 0, .int 0, .int 0]))) (h136 : am_is H 136 (.inr (3, [.int v136_0, .int v136_1, .ref 138, .ref 139, .ref 140, .int 0, .int 0, .int 0, .int 0, .int v136_9, .int 96, .int 0, .int 0, .int 0, .int 0, .int 0, .int 0, .ref 137]))) (h139 : am_is H 139 (.inl (.int, (m139, .inl (fun _ => 0))))) (c1 : ¬ x0 < 0) (c2 : v136_0 ≤ x0)  :
    am_E sL sx cs 250 0 [(0, .ref 0), (1, .int x0)] [] H (some (.int (-1))) (fun H1 => (True) ∧ ∀ j : Nat, H1[j]? = H[j]?) := by
  refine ex_s (am_nb (m := 1) (pc1 := 1) (ls1 := [(0, .ref 0), (1, .int x0)]) (st1 := [.ref 0]) (H1 := H) (k1 := 0) (n1 := 0) (by with_unfolding_all rfl)) ?_
  refine ex_s (st_get rfl h0 rfl) ?_
  refine ex_s (st_get rfl h129 rfl) ?_
  refine ex_s (am_nb (m := 4) (pc1 := 11) (ls1 := [(2, .ref 136), (0, .ref 0), (1, .int x0)]) (st1 := [.int 0, .int x0, .ref 136]) (H1 := H) (k1 := 0) (n1 := 0) (by with_unfolding_all rfl)) ?_
  refine ex_cv1 (as := [.int x0, .int 0]) (rest := []) rfl rfl rfl rfl h136 rfl (by with_unfolding_all rfl) (by with_unfolding_all rfl) (fx_width_1_1 h136 c1 c2) ?_
  rintro H251 ⟨-, k251⟩
  refine ex_s (am_nb (m := 2) (pc1 := 27) (ls1 := [(2, .ref 136), (0, .ref 0), (1, .int x0)]) (st1 := [.int (-1)]) (H1 := H251) (k1 := 0) (n1 := 0) (by with_unfolding_all rfl)) ?_
  exact ex_r (st_iret rfl rfl rfl) ⟨trivial, fun j => (k251 j)⟩

set_option maxRecDepth 100000 in
theorem fx_width_2 {sL : Nat} {sx : Nat → Int32} {cs : Nat → Nat → Option Int32} {H : am_H} {v0_13 : Int32} {v136_0 : Int32} {v136_1 : Int32} {v136_9 : Int32} {m139 : Nat} {x0 : Int32} (h0 : am_is H 0 (.inr (11, [.ref 1, .int 0, .ref 2, .int 0, .ref 3, .ref 93, .ref 97, .ref 115, .ref 116, .ref 129, .ref 123, .ref 127, .ref 128, .int v0_13, .null, .int 0]))) (h129 : am_is H 129 (.inr (8, [.ref 136, .ref 130, .ref 132, .ref 134, .int 0, .int 0, .int 0, .int 0, .int 0, .int 0, .int 0, .ref 135, .int 0, .int 0, .int 0]))) (h136 : am_is H 136 (.inr (3, [.int v136_0, .int v136_1, .ref 138, .ref 139, .ref 140, .int 0, .int 0, .int 0, .int 0, .int v136_9, .int 96, .int 0, .int 0, .int 0, .int 0, .int 0, .int 0, .ref 137]))) (h139 : am_is H 139 (.inl (.int, (m139, .inl (fun _ => 0))))) (c1 : ¬ x0 < 0) (c2 : ¬ v136_0 ≤ x0) (c3 : v136_1 ≤ 0)  :
    am_E sL sx cs 250 0 [(0, .ref 0), (1, .int x0)] [] H (some (.int (-1))) (fun H1 => (True) ∧ ∀ j : Nat, H1[j]? = H[j]?) := by
  refine ex_s (am_nb (m := 1) (pc1 := 1) (ls1 := [(0, .ref 0), (1, .int x0)]) (st1 := [.ref 0]) (H1 := H) (k1 := 0) (n1 := 0) (by with_unfolding_all rfl)) ?_
  refine ex_s (st_get rfl h0 rfl) ?_
  refine ex_s (st_get rfl h129 rfl) ?_
  refine ex_s (am_nb (m := 4) (pc1 := 11) (ls1 := [(2, .ref 136), (0, .ref 0), (1, .int x0)]) (st1 := [.int 0, .int x0, .ref 136]) (H1 := H) (k1 := 0) (n1 := 0) (by with_unfolding_all rfl)) ?_
  refine ex_cv1 (as := [.int x0, .int 0]) (rest := []) rfl rfl rfl rfl h136 rfl (by with_unfolding_all rfl) (by with_unfolding_all rfl) (fx_width_1_2 h136 c1 c2 c3) ?_
  rintro H252 ⟨-, k252⟩
  refine ex_s (am_nb (m := 2) (pc1 := 27) (ls1 := [(2, .ref 136), (0, .ref 0), (1, .int x0)]) (st1 := [.int (-1)]) (H1 := H252) (k1 := 0) (n1 := 0) (by with_unfolding_all rfl)) ?_
  exact ex_r (st_iret rfl rfl rfl) ⟨trivial, fun j => (k252 j)⟩

set_option maxRecDepth 100000 in
theorem fx_width_3 {sL : Nat} {sx : Nat → Int32} {cs : Nat → Nat → Option Int32} {H : am_H} {v0_13 : Int32} {v136_0 : Int32} {v136_1 : Int32} {v136_9 : Int32} {m139 : Nat} {x0 : Int32} (h0 : am_is H 0 (.inr (11, [.ref 1, .int 0, .ref 2, .int 0, .ref 3, .ref 93, .ref 97, .ref 115, .ref 116, .ref 129, .ref 123, .ref 127, .ref 128, .int v0_13, .null, .int 0]))) (h129 : am_is H 129 (.inr (8, [.ref 136, .ref 130, .ref 132, .ref 134, .int 0, .int 0, .int 0, .int 0, .int 0, .int 0, .int 0, .ref 135, .int 0, .int 0, .int 0]))) (h136 : am_is H 136 (.inr (3, [.int v136_0, .int v136_1, .ref 138, .ref 139, .ref 140, .int 0, .int 0, .int 0, .int 0, .int v136_9, .int 96, .int 0, .int 0, .int 0, .int 0, .int 0, .int 0, .ref 137]))) (h139 : am_is H 139 (.inl (.int, (m139, .inl (fun _ => 0))))) (c1 : ¬ x0 < 0) (c2 : ¬ v136_0 ≤ x0) (c3 : ¬ v136_1 ≤ 0) (s1 : ¬ (x0 < 0 ∨ m139 ≤ x0.toNatClampNeg)) :
    am_E sL sx cs 250 0 [(0, .ref 0), (1, .int x0)] [] H (some (.int 0)) (fun H1 => (True) ∧ ∀ j : Nat, H1[j]? = H[j]?) := by
  refine ex_s (am_nb (m := 1) (pc1 := 1) (ls1 := [(0, .ref 0), (1, .int x0)]) (st1 := [.ref 0]) (H1 := H) (k1 := 0) (n1 := 0) (by with_unfolding_all rfl)) ?_
  refine ex_s (st_get rfl h0 rfl) ?_
  refine ex_s (st_get rfl h129 rfl) ?_
  refine ex_s (am_nb (m := 4) (pc1 := 11) (ls1 := [(2, .ref 136), (0, .ref 0), (1, .int x0)]) (st1 := [.int 0, .int x0, .ref 136]) (H1 := H) (k1 := 0) (n1 := 0) (by with_unfolding_all rfl)) ?_
  refine ex_cv1 (as := [.int x0, .int 0]) (rest := []) rfl rfl rfl rfl h136 rfl (by with_unfolding_all rfl) (by with_unfolding_all rfl) (fx_width_1_3 h136 c1 c2 c3) ?_
  rintro H253 ⟨-, k253⟩
  refine ex_s (am_nb (m := 2) (pc1 := 18) (ls1 := [(2, .ref 136), (0, .ref 0), (1, .int x0)]) (st1 := [.ref 136]) (H1 := H253) (k1 := 0) (n1 := 0) (by with_unfolding_all rfl)) ?_
  refine ex_s (st_get rfl ((k253 136).trans h136) rfl) ?_
  refine ex_s (am_nb (m := 1) (pc1 := 22) (ls1 := [(2, .ref 136), (0, .ref 0), (1, .int x0)]) (st1 := [.int x0, .ref 139]) (H1 := H253) (k1 := 0) (n1 := 0) (by with_unfolding_all rfl)) ?_
  refine ex_s (st_iald rfl ((k253 139).trans h139) s1) ?_
  refine ex_s (am_nb (m := 1) (pc1 := 27) (ls1 := [(2, .ref 136), (0, .ref 0), (1, .int x0)]) (st1 := [.int 0]) (H1 := H253) (k1 := 0) (n1 := 0) (by with_unfolding_all rfl)) ?_
  exact ex_r (st_iret rfl rfl rfl) ⟨trivial, fun j => (k253 j)⟩

set_option maxRecDepth 100000 in
theorem fx_state_1_0 {sL : Nat} {sx : Nat → Int32} {cs : Nat → Nat → Option Int32} {H : am_H} {v136_0 : Int32} {v136_1 : Int32} {v136_9 : Int32} {x0 : Int32} (h136 : am_is H 136 (.inr (3, [.int v136_0, .int v136_1, .ref 138, .ref 139, .ref 140, .int 0, .int 0, .int 0, .int 0, .int v136_9, .int 96, .int 0, .int 0, .int 0, .int 0, .int 0, .int 0, .ref 137]))) (c1 : x0 = 0)  :
    am_E sL sx cs 253 0 [(0, .ref 136), (1, .int x0)] [] H (some (.int 0)) (fun H1 => (True) ∧ ∀ j : Nat, H1[j]? = H[j]?) := by
  refine ex_s (am_nb (m := 1) (pc1 := 1) (ls1 := [(0, .ref 136), (1, .int x0)]) (st1 := [.int x0]) (H1 := H) (k1 := 0) (n1 := 0) (by with_unfolding_all rfl)) ?_
  refine ex_s (st_tsw rfl) ?_
  refine ex_pc (if_pos c1) ?_
  refine ex_s (am_nb (m := 1) (pc1 := 89) (ls1 := [(0, .ref 136), (1, .int x0)]) (st1 := [.ref 136]) (H1 := H) (k1 := 0) (n1 := 0) (by with_unfolding_all rfl)) ?_
  refine ex_s (st_get rfl h136 rfl) ?_
  exact ex_r (st_iret rfl rfl rfl) ⟨trivial, fun j => rfl⟩

set_option maxRecDepth 100000 in
theorem fx_state_1_1 {sL : Nat} {sx : Nat → Int32} {cs : Nat → Nat → Option Int32} {H : am_H} {v136_0 : Int32} {v136_1 : Int32} {v136_9 : Int32} {x0 : Int32} (h136 : am_is H 136 (.inr (3, [.int v136_0, .int v136_1, .ref 138, .ref 139, .ref 140, .int 0, .int 0, .int 0, .int 0, .int v136_9, .int 96, .int 0, .int 0, .int 0, .int 0, .int 0, .int 0, .ref 137]))) (c1 : ¬ x0 = 0) (c2 : x0 = 1)  :
    am_E sL sx cs 253 0 [(0, .ref 136), (1, .int x0)] [] H (some (.int 0)) (fun H1 => (True) ∧ ∀ j : Nat, H1[j]? = H[j]?) := by
  refine ex_s (am_nb (m := 1) (pc1 := 1) (ls1 := [(0, .ref 136), (1, .int x0)]) (st1 := [.int x0]) (H1 := H) (k1 := 0) (n1 := 0) (by with_unfolding_all rfl)) ?_
  refine ex_s (st_tsw rfl) ?_
  refine ex_pc (if_neg c1) ?_
  refine ex_pc (if_pos c2) ?_
  refine ex_s (am_nb (m := 1) (pc1 := 94) (ls1 := [(0, .ref 136), (1, .int x0)]) (st1 := [.ref 136]) (H1 := H) (k1 := 0) (n1 := 0) (by with_unfolding_all rfl)) ?_
  refine ex_s (st_get rfl h136 rfl) ?_
  exact ex_r (st_iret rfl rfl rfl) ⟨trivial, fun j => rfl⟩

set_option maxRecDepth 100000 in
theorem fx_state_1_2 {sL : Nat} {sx : Nat → Int32} {cs : Nat → Nat → Option Int32} {H : am_H} {v136_0 : Int32} {v136_1 : Int32} {v136_9 : Int32} {x0 : Int32} (h136 : am_is H 136 (.inr (3, [.int v136_0, .int v136_1, .ref 138, .ref 139, .ref 140, .int 0, .int 0, .int 0, .int 0, .int v136_9, .int 96, .int 0, .int 0, .int 0, .int 0, .int 0, .int 0, .ref 137]))) (c1 : ¬ x0 = 0) (c2 : ¬ x0 = 1) (c3 : x0 = 2)  :
    am_E sL sx cs 253 0 [(0, .ref 136), (1, .int x0)] [] H (some (.int 0)) (fun H1 => (True) ∧ ∀ j : Nat, H1[j]? = H[j]?) := by
  refine ex_s (am_nb (m := 1) (pc1 := 1) (ls1 := [(0, .ref 136), (1, .int x0)]) (st1 := [.int x0]) (H1 := H) (k1 := 0) (n1 := 0) (by with_unfolding_all rfl)) ?_
  refine ex_s (st_tsw rfl) ?_
  refine ex_pc (if_neg c1) ?_
  refine ex_pc (if_neg c2) ?_
  refine ex_pc (if_pos c3) ?_
  refine ex_s (am_nb (m := 1) (pc1 := 99) (ls1 := [(0, .ref 136), (1, .int x0)]) (st1 := [.ref 136]) (H1 := H) (k1 := 0) (n1 := 0) (by with_unfolding_all rfl)) ?_
  refine ex_s (st_get rfl h136 rfl) ?_
  refine ex_s (am_nb (m := 2) (pc1 := 110) (ls1 := [(0, .ref 136), (1, .int x0)]) (st1 := [.int 0]) (H1 := H) (k1 := 0) (n1 := 0) (by with_unfolding_all rfl)) ?_
  exact ex_r (st_iret rfl rfl rfl) ⟨trivial, fun j => rfl⟩

set_option maxRecDepth 100000 in
theorem fx_state_1_3 {sL : Nat} {sx : Nat → Int32} {cs : Nat → Nat → Option Int32} {H : am_H} {v136_0 : Int32} {v136_1 : Int32} {v136_9 : Int32} {x0 : Int32} (h136 : am_is H 136 (.inr (3, [.int v136_0, .int v136_1, .ref 138, .ref 139, .ref 140, .int 0, .int 0, .int 0, .int 0, .int v136_9, .int 96, .int 0, .int 0, .int 0, .int 0, .int 0, .int 0, .ref 137]))) (c1 : ¬ x0 = 0) (c2 : ¬ x0 = 1) (c3 : ¬ x0 = 2) (c4 : x0 = 3)  :
    am_E sL sx cs 253 0 [(0, .ref 136), (1, .int x0)] [] H (some (.int 0)) (fun H1 => (True) ∧ ∀ j : Nat, H1[j]? = H[j]?) := by
  refine ex_s (am_nb (m := 1) (pc1 := 1) (ls1 := [(0, .ref 136), (1, .int x0)]) (st1 := [.int x0]) (H1 := H) (k1 := 0) (n1 := 0) (by with_unfolding_all rfl)) ?_
  refine ex_s (st_tsw rfl) ?_
  refine ex_pc (if_neg c1) ?_
  refine ex_pc (if_neg c2) ?_
  refine ex_pc (if_neg c3) ?_
  refine ex_pc (if_pos c4) ?_
  refine ex_s (am_nb (m := 1) (pc1 := 112) (ls1 := [(0, .ref 136), (1, .int x0)]) (st1 := [.ref 136]) (H1 := H) (k1 := 0) (n1 := 0) (by with_unfolding_all rfl)) ?_
  refine ex_s (st_get rfl h136 rfl) ?_
  exact ex_r (st_iret rfl rfl rfl) ⟨trivial, fun j => rfl⟩

set_option maxRecDepth 100000 in
theorem fx_state_1_4 {sL : Nat} {sx : Nat → Int32} {cs : Nat → Nat → Option Int32} {H : am_H} {v136_0 : Int32} {v136_1 : Int32} {v136_9 : Int32} {x0 : Int32} (h136 : am_is H 136 (.inr (3, [.int v136_0, .int v136_1, .ref 138, .ref 139, .ref 140, .int 0, .int 0, .int 0, .int 0, .int v136_9, .int 96, .int 0, .int 0, .int 0, .int 0, .int 0, .int 0, .ref 137]))) (c1 : ¬ x0 = 0) (c2 : ¬ x0 = 1) (c3 : ¬ x0 = 2) (c4 : ¬ x0 = 3) (c5 : x0 = 4)  :
    am_E sL sx cs 253 0 [(0, .ref 136), (1, .int x0)] [] H (some (.int v136_9)) (fun H1 => (True) ∧ ∀ j : Nat, H1[j]? = H[j]?) := by
  refine ex_s (am_nb (m := 1) (pc1 := 1) (ls1 := [(0, .ref 136), (1, .int x0)]) (st1 := [.int x0]) (H1 := H) (k1 := 0) (n1 := 0) (by with_unfolding_all rfl)) ?_
  refine ex_s (st_tsw rfl) ?_
  refine ex_pc (if_neg c1) ?_
  refine ex_pc (if_neg c2) ?_
  refine ex_pc (if_neg c3) ?_
  refine ex_pc (if_neg c4) ?_
  refine ex_pc (if_pos c5) ?_
  refine ex_s (am_nb (m := 1) (pc1 := 117) (ls1 := [(0, .ref 136), (1, .int x0)]) (st1 := [.ref 136]) (H1 := H) (k1 := 0) (n1 := 0) (by with_unfolding_all rfl)) ?_
  refine ex_s (st_get rfl h136 rfl) ?_
  exact ex_r (st_iret rfl rfl rfl) ⟨trivial, fun j => rfl⟩

set_option maxRecDepth 100000 in
theorem fx_state_1_5 {sL : Nat} {sx : Nat → Int32} {cs : Nat → Nat → Option Int32} {H : am_H} {v136_0 : Int32} {v136_1 : Int32} {v136_9 : Int32} {x0 : Int32} (h136 : am_is H 136 (.inr (3, [.int v136_0, .int v136_1, .ref 138, .ref 139, .ref 140, .int 0, .int 0, .int 0, .int 0, .int v136_9, .int 96, .int 0, .int 0, .int 0, .int 0, .int 0, .int 0, .ref 137]))) (c1 : ¬ x0 = 0) (c2 : ¬ x0 = 1) (c3 : ¬ x0 = 2) (c4 : ¬ x0 = 3) (c5 : ¬ x0 = 4) (c6 : x0 = 5)  :
    am_E sL sx cs 253 0 [(0, .ref 136), (1, .int x0)] [] H (some (.int 0)) (fun H1 => (True) ∧ ∀ j : Nat, H1[j]? = H[j]?) := by
  refine ex_s (am_nb (m := 1) (pc1 := 1) (ls1 := [(0, .ref 136), (1, .int x0)]) (st1 := [.int x0]) (H1 := H) (k1 := 0) (n1 := 0) (by with_unfolding_all rfl)) ?_
  refine ex_s (st_tsw rfl) ?_
  refine ex_pc (if_neg c1) ?_
  refine ex_pc (if_neg c2) ?_
  refine ex_pc (if_neg c3) ?_
  refine ex_pc (if_neg c4) ?_
  refine ex_pc (if_neg c5) ?_
  refine ex_pc (if_pos c6) ?_
  refine ex_s (am_nb (m := 1) (pc1 := 122) (ls1 := [(0, .ref 136), (1, .int x0)]) (st1 := [.ref 136]) (H1 := H) (k1 := 0) (n1 := 0) (by with_unfolding_all rfl)) ?_
  refine ex_s (st_get rfl h136 rfl) ?_
  exact ex_r (st_iret rfl rfl rfl) ⟨trivial, fun j => rfl⟩

set_option maxRecDepth 100000 in
theorem fx_state_1_6 {sL : Nat} {sx : Nat → Int32} {cs : Nat → Nat → Option Int32} {H : am_H} {v136_0 : Int32} {v136_1 : Int32} {v136_9 : Int32} {x0 : Int32} (h136 : am_is H 136 (.inr (3, [.int v136_0, .int v136_1, .ref 138, .ref 139, .ref 140, .int 0, .int 0, .int 0, .int 0, .int v136_9, .int 96, .int 0, .int 0, .int 0, .int 0, .int 0, .int 0, .ref 137]))) (c1 : ¬ x0 = 0) (c2 : ¬ x0 = 1) (c3 : ¬ x0 = 2) (c4 : ¬ x0 = 3) (c5 : ¬ x0 = 4) (c6 : ¬ x0 = 5) (c7 : x0 = 6)  :
    am_E sL sx cs 253 0 [(0, .ref 136), (1, .int x0)] [] H (some (.int 96)) (fun H1 => (True) ∧ ∀ j : Nat, H1[j]? = H[j]?) := by
  refine ex_s (am_nb (m := 1) (pc1 := 1) (ls1 := [(0, .ref 136), (1, .int x0)]) (st1 := [.int x0]) (H1 := H) (k1 := 0) (n1 := 0) (by with_unfolding_all rfl)) ?_
  refine ex_s (st_tsw rfl) ?_
  refine ex_pc (if_neg c1) ?_
  refine ex_pc (if_neg c2) ?_
  refine ex_pc (if_neg c3) ?_
  refine ex_pc (if_neg c4) ?_
  refine ex_pc (if_neg c5) ?_
  refine ex_pc (if_neg c6) ?_
  refine ex_pc (if_pos c7) ?_
  refine ex_s (am_nb (m := 1) (pc1 := 127) (ls1 := [(0, .ref 136), (1, .int x0)]) (st1 := [.ref 136]) (H1 := H) (k1 := 0) (n1 := 0) (by with_unfolding_all rfl)) ?_
  refine ex_s (st_get rfl h136 rfl) ?_
  exact ex_r (st_iret rfl rfl rfl) ⟨trivial, fun j => rfl⟩

set_option maxRecDepth 100000 in
theorem fx_state_1_7 {sL : Nat} {sx : Nat → Int32} {cs : Nat → Nat → Option Int32} {H : am_H} {v136_0 : Int32} {v136_1 : Int32} {v136_9 : Int32} {x0 : Int32} (h136 : am_is H 136 (.inr (3, [.int v136_0, .int v136_1, .ref 138, .ref 139, .ref 140, .int 0, .int 0, .int 0, .int 0, .int v136_9, .int 96, .int 0, .int 0, .int 0, .int 0, .int 0, .int 0, .ref 137]))) (c1 : ¬ x0 = 0) (c2 : ¬ x0 = 1) (c3 : ¬ x0 = 2) (c4 : ¬ x0 = 3) (c5 : ¬ x0 = 4) (c6 : ¬ x0 = 5) (c7 : ¬ x0 = 6) (c8 : x0 = 7)  :
    am_E sL sx cs 253 0 [(0, .ref 136), (1, .int x0)] [] H (some (.int 0)) (fun H1 => (True) ∧ ∀ j : Nat, H1[j]? = H[j]?) := by
  refine ex_s (am_nb (m := 1) (pc1 := 1) (ls1 := [(0, .ref 136), (1, .int x0)]) (st1 := [.int x0]) (H1 := H) (k1 := 0) (n1 := 0) (by with_unfolding_all rfl)) ?_
  refine ex_s (st_tsw rfl) ?_
  refine ex_pc (if_neg c1) ?_
  refine ex_pc (if_neg c2) ?_
  refine ex_pc (if_neg c3) ?_
  refine ex_pc (if_neg c4) ?_
  refine ex_pc (if_neg c5) ?_
  refine ex_pc (if_neg c6) ?_
  refine ex_pc (if_neg c7) ?_
  refine ex_pc (if_pos c8) ?_
  refine ex_s (am_nb (m := 1) (pc1 := 132) (ls1 := [(0, .ref 136), (1, .int x0)]) (st1 := [.ref 136]) (H1 := H) (k1 := 0) (n1 := 0) (by with_unfolding_all rfl)) ?_
  refine ex_s (st_get rfl h136 rfl) ?_
  exact ex_r (st_iret rfl rfl rfl) ⟨trivial, fun j => rfl⟩

set_option maxRecDepth 100000 in
theorem fx_state_1_8 {sL : Nat} {sx : Nat → Int32} {cs : Nat → Nat → Option Int32} {H : am_H} {v136_0 : Int32} {v136_1 : Int32} {v136_9 : Int32} {x0 : Int32} (h136 : am_is H 136 (.inr (3, [.int v136_0, .int v136_1, .ref 138, .ref 139, .ref 140, .int 0, .int 0, .int 0, .int 0, .int v136_9, .int 96, .int 0, .int 0, .int 0, .int 0, .int 0, .int 0, .ref 137]))) (c1 : ¬ x0 = 0) (c2 : ¬ x0 = 1) (c3 : ¬ x0 = 2) (c4 : ¬ x0 = 3) (c5 : ¬ x0 = 4) (c6 : ¬ x0 = 5) (c7 : ¬ x0 = 6) (c8 : ¬ x0 = 7) (c9 : x0 = 8)  :
    am_E sL sx cs 253 0 [(0, .ref 136), (1, .int x0)] [] H (some (.int 0)) (fun H1 => (True) ∧ ∀ j : Nat, H1[j]? = H[j]?) := by
  refine ex_s (am_nb (m := 1) (pc1 := 1) (ls1 := [(0, .ref 136), (1, .int x0)]) (st1 := [.int x0]) (H1 := H) (k1 := 0) (n1 := 0) (by with_unfolding_all rfl)) ?_
  refine ex_s (st_tsw rfl) ?_
  refine ex_pc (if_neg c1) ?_
  refine ex_pc (if_neg c2) ?_
  refine ex_pc (if_neg c3) ?_
  refine ex_pc (if_neg c4) ?_
  refine ex_pc (if_neg c5) ?_
  refine ex_pc (if_neg c6) ?_
  refine ex_pc (if_neg c7) ?_
  refine ex_pc (if_neg c8) ?_
  refine ex_pc (if_pos c9) ?_
  refine ex_s (am_nb (m := 1) (pc1 := 137) (ls1 := [(0, .ref 136), (1, .int x0)]) (st1 := [.ref 136]) (H1 := H) (k1 := 0) (n1 := 0) (by with_unfolding_all rfl)) ?_
  refine ex_s (st_get rfl h136 rfl) ?_
  exact ex_r (st_iret rfl rfl rfl) ⟨trivial, fun j => rfl⟩

set_option maxRecDepth 100000 in
theorem fx_state_1_9 {sL : Nat} {sx : Nat → Int32} {cs : Nat → Nat → Option Int32} {H : am_H} {v136_0 : Int32} {v136_1 : Int32} {v136_9 : Int32} {x0 : Int32} (h136 : am_is H 136 (.inr (3, [.int v136_0, .int v136_1, .ref 138, .ref 139, .ref 140, .int 0, .int 0, .int 0, .int 0, .int v136_9, .int 96, .int 0, .int 0, .int 0, .int 0, .int 0, .int 0, .ref 137]))) (c1 : ¬ x0 = 0) (c2 : ¬ x0 = 1) (c3 : ¬ x0 = 2) (c4 : ¬ x0 = 3) (c5 : ¬ x0 = 4) (c6 : ¬ x0 = 5) (c7 : ¬ x0 = 6) (c8 : ¬ x0 = 7) (c9 : ¬ x0 = 8) (c10 : x0 = 9)  :
    am_E sL sx cs 253 0 [(0, .ref 136), (1, .int x0)] [] H (some (.int (-1))) (fun H1 => (True) ∧ ∀ j : Nat, H1[j]? = H[j]?) := by
  refine ex_s (am_nb (m := 1) (pc1 := 1) (ls1 := [(0, .ref 136), (1, .int x0)]) (st1 := [.int x0]) (H1 := H) (k1 := 0) (n1 := 0) (by with_unfolding_all rfl)) ?_
  refine ex_s (st_tsw rfl) ?_
  refine ex_pc (if_neg c1) ?_
  refine ex_pc (if_neg c2) ?_
  refine ex_pc (if_neg c3) ?_
  refine ex_pc (if_neg c4) ?_
  refine ex_pc (if_neg c5) ?_
  refine ex_pc (if_neg c6) ?_
  refine ex_pc (if_neg c7) ?_
  refine ex_pc (if_neg c8) ?_
  refine ex_pc (if_neg c9) ?_
  refine ex_pc (if_pos c10) ?_
  refine ex_s (am_nb (m := 1) (pc1 := 152) (ls1 := [(0, .ref 136), (1, .int x0)]) (st1 := [.int (-1)]) (H1 := H) (k1 := 0) (n1 := 0) (by with_unfolding_all rfl)) ?_
  exact ex_r (st_iret rfl rfl rfl) ⟨trivial, fun j => rfl⟩

set_option maxRecDepth 100000 in
theorem fx_state_1_10 {sL : Nat} {sx : Nat → Int32} {cs : Nat → Nat → Option Int32} {H : am_H} {v136_0 : Int32} {v136_1 : Int32} {v136_9 : Int32} {x0 : Int32} (h136 : am_is H 136 (.inr (3, [.int v136_0, .int v136_1, .ref 138, .ref 139, .ref 140, .int 0, .int 0, .int 0, .int 0, .int v136_9, .int 96, .int 0, .int 0, .int 0, .int 0, .int 0, .int 0, .ref 137]))) (c1 : ¬ x0 = 0) (c2 : ¬ x0 = 1) (c3 : ¬ x0 = 2) (c4 : ¬ x0 = 3) (c5 : ¬ x0 = 4) (c6 : ¬ x0 = 5) (c7 : ¬ x0 = 6) (c8 : ¬ x0 = 7) (c9 : ¬ x0 = 8) (c10 : ¬ x0 = 9) (c11 : x0 = 10)  :
    am_E sL sx cs 253 0 [(0, .ref 136), (1, .int x0)] [] H (some (.int 0)) (fun H1 => (True) ∧ ∀ j : Nat, H1[j]? = H[j]?) := by
  refine ex_s (am_nb (m := 1) (pc1 := 1) (ls1 := [(0, .ref 136), (1, .int x0)]) (st1 := [.int x0]) (H1 := H) (k1 := 0) (n1 := 0) (by with_unfolding_all rfl)) ?_
  refine ex_s (st_tsw rfl) ?_
  refine ex_pc (if_neg c1) ?_
  refine ex_pc (if_neg c2) ?_
  refine ex_pc (if_neg c3) ?_
  refine ex_pc (if_neg c4) ?_
  refine ex_pc (if_neg c5) ?_
  refine ex_pc (if_neg c6) ?_
  refine ex_pc (if_neg c7) ?_
  refine ex_pc (if_neg c8) ?_
  refine ex_pc (if_neg c9) ?_
  refine ex_pc (if_neg c10) ?_
  refine ex_pc (if_pos c11) ?_
  refine ex_s (am_nb (m := 1) (pc1 := 142) (ls1 := [(0, .ref 136), (1, .int x0)]) (st1 := [.ref 136]) (H1 := H) (k1 := 0) (n1 := 0) (by with_unfolding_all rfl)) ?_
  refine ex_s (st_get rfl h136 rfl) ?_
  exact ex_r (st_iret rfl rfl rfl) ⟨trivial, fun j => rfl⟩

set_option maxRecDepth 100000 in
theorem fx_state_1_11 {sL : Nat} {sx : Nat → Int32} {cs : Nat → Nat → Option Int32} {H : am_H} {v136_0 : Int32} {v136_1 : Int32} {v136_9 : Int32} {x0 : Int32} (h136 : am_is H 136 (.inr (3, [.int v136_0, .int v136_1, .ref 138, .ref 139, .ref 140, .int 0, .int 0, .int 0, .int 0, .int v136_9, .int 96, .int 0, .int 0, .int 0, .int 0, .int 0, .int 0, .ref 137]))) (c1 : ¬ x0 = 0) (c2 : ¬ x0 = 1) (c3 : ¬ x0 = 2) (c4 : ¬ x0 = 3) (c5 : ¬ x0 = 4) (c6 : ¬ x0 = 5) (c7 : ¬ x0 = 6) (c8 : ¬ x0 = 7) (c9 : ¬ x0 = 8) (c10 : ¬ x0 = 9) (c11 : ¬ x0 = 10) (c12 : x0 = 11)  :
    am_E sL sx cs 253 0 [(0, .ref 136), (1, .int x0)] [] H (some (.int (-1))) (fun H1 => (True) ∧ ∀ j : Nat, H1[j]? = H[j]?) := by
  refine ex_s (am_nb (m := 1) (pc1 := 1) (ls1 := [(0, .ref 136), (1, .int x0)]) (st1 := [.int x0]) (H1 := H) (k1 := 0) (n1 := 0) (by with_unfolding_all rfl)) ?_
  refine ex_s (st_tsw rfl) ?_
  refine ex_pc (if_neg c1) ?_
  refine ex_pc (if_neg c2) ?_
  refine ex_pc (if_neg c3) ?_
  refine ex_pc (if_neg c4) ?_
  refine ex_pc (if_neg c5) ?_
  refine ex_pc (if_neg c6) ?_
  refine ex_pc (if_neg c7) ?_
  refine ex_pc (if_neg c8) ?_
  refine ex_pc (if_neg c9) ?_
  refine ex_pc (if_neg c10) ?_
  refine ex_pc (if_neg c11) ?_
  refine ex_pc (if_pos c12) ?_
  refine ex_s (am_nb (m := 1) (pc1 := 152) (ls1 := [(0, .ref 136), (1, .int x0)]) (st1 := [.int (-1)]) (H1 := H) (k1 := 0) (n1 := 0) (by with_unfolding_all rfl)) ?_
  exact ex_r (st_iret rfl rfl rfl) ⟨trivial, fun j => rfl⟩

set_option maxRecDepth 100000 in
theorem fx_state_1_12 {sL : Nat} {sx : Nat → Int32} {cs : Nat → Nat → Option Int32} {H : am_H} {v136_0 : Int32} {v136_1 : Int32} {v136_9 : Int32} {x0 : Int32} (h136 : am_is H 136 (.inr (3, [.int v136_0, .int v136_1, .ref 138, .ref 139, .ref 140, .int 0, .int 0, .int 0, .int 0, .int v136_9, .int 96, .int 0, .int 0, .int 0, .int 0, .int 0, .int 0, .ref 137]))) (c1 : ¬ x0 = 0) (c2 : ¬ x0 = 1) (c3 : ¬ x0 = 2) (c4 : ¬ x0 = 3) (c5 : ¬ x0 = 4) (c6 : ¬ x0 = 5) (c7 : ¬ x0 = 6) (c8 : ¬ x0 = 7) (c9 : ¬ x0 = 8) (c10 : ¬ x0 = 9) (c11 : ¬ x0 = 10) (c12 : ¬ x0 = 11) (c13 : x0 = 12)  :
    am_E sL sx cs 253 0 [(0, .ref 136), (1, .int x0)] [] H (some (.int (-1))) (fun H1 => (True) ∧ ∀ j : Nat, H1[j]? = H[j]?) := by
  refine ex_s (am_nb (m := 1) (pc1 := 1) (ls1 := [(0, .ref 136), (1, .int x0)]) (st1 := [.int x0]) (H1 := H) (k1 := 0) (n1 := 0) (by with_unfolding_all rfl)) ?_
  refine ex_s (st_tsw rfl) ?_
  refine ex_pc (if_neg c1) ?_
  refine ex_pc (if_neg c2) ?_
  refine ex_pc (if_neg c3) ?_
  refine ex_pc (if_neg c4) ?_
  refine ex_pc (if_neg c5) ?_
  refine ex_pc (if_neg c6) ?_
  refine ex_pc (if_neg c7) ?_
  refine ex_pc (if_neg c8) ?_
  refine ex_pc (if_neg c9) ?_
  refine ex_pc (if_neg c10) ?_
  refine ex_pc (if_neg c11) ?_
  refine ex_pc (if_neg c12) ?_
  refine ex_pc (if_pos c13) ?_
  refine ex_s (am_nb (m := 1) (pc1 := 152) (ls1 := [(0, .ref 136), (1, .int x0)]) (st1 := [.int (-1)]) (H1 := H) (k1 := 0) (n1 := 0) (by with_unfolding_all rfl)) ?_
  exact ex_r (st_iret rfl rfl rfl) ⟨trivial, fun j => rfl⟩

set_option maxRecDepth 100000 in
theorem fx_state_1_13 {sL : Nat} {sx : Nat → Int32} {cs : Nat → Nat → Option Int32} {H : am_H} {v136_0 : Int32} {v136_1 : Int32} {v136_9 : Int32} {x0 : Int32} (h136 : am_is H 136 (.inr (3, [.int v136_0, .int v136_1, .ref 138, .ref 139, .ref 140, .int 0, .int 0, .int 0, .int 0, .int v136_9, .int 96, .int 0, .int 0, .int 0, .int 0, .int 0, .int 0, .ref 137]))) (c1 : ¬ x0 = 0) (c2 : ¬ x0 = 1) (c3 : ¬ x0 = 2) (c4 : ¬ x0 = 3) (c5 : ¬ x0 = 4) (c6 : ¬ x0 = 5) (c7 : ¬ x0 = 6) (c8 : ¬ x0 = 7) (c9 : ¬ x0 = 8) (c10 : ¬ x0 = 9) (c11 : ¬ x0 = 10) (c12 : ¬ x0 = 11) (c13 : ¬ x0 = 12) (c14 : x0 = 13)  :
    am_E sL sx cs 253 0 [(0, .ref 136), (1, .int x0)] [] H (some (.int (-1))) (fun H1 => (True) ∧ ∀ j : Nat, H1[j]? = H[j]?) := by
  refine ex_s (am_nb (m := 1) (pc1 := 1) (ls1 := [(0, .ref 136), (1, .int x0)]) (st1 := [.int x0]) (H1 := H) (k1 := 0) (n1 := 0) (by with_unfolding_all rfl)) ?_
  refine ex_s (st_tsw rfl) ?_
  refine ex_pc (if_neg c1) ?_
  refine ex_pc (if_neg c2) ?_
  refine ex_pc (if_neg c3) ?_
  refine ex_pc (if_neg c4) ?_
  refine ex_pc (if_neg c5) ?_
  refine ex_pc (if_neg c6) ?_
  refine ex_pc (if_neg c7) ?_
  refine ex_pc (if_neg c8) ?_
  refine ex_pc (if_neg c9) ?_
  refine ex_pc (if_neg c10) ?_
  refine ex_pc (if_neg c11) ?_
  refine ex_pc (if_neg c12) ?_
  refine ex_pc (if_neg c13) ?_
  refine ex_pc (if_pos c14) ?_
  refine ex_s (am_nb (m := 1) (pc1 := 152) (ls1 := [(0, .ref 136), (1, .int x0)]) (st1 := [.int (-1)]) (H1 := H) (k1 := 0) (n1 := 0) (by with_unfolding_all rfl)) ?_
  exact ex_r (st_iret rfl rfl rfl) ⟨trivial, fun j => rfl⟩

set_option maxRecDepth 100000 in
theorem fx_state_1_14 {sL : Nat} {sx : Nat → Int32} {cs : Nat → Nat → Option Int32} {H : am_H} {v136_0 : Int32} {v136_1 : Int32} {v136_9 : Int32} {x0 : Int32} (h136 : am_is H 136 (.inr (3, [.int v136_0, .int v136_1, .ref 138, .ref 139, .ref 140, .int 0, .int 0, .int 0, .int 0, .int v136_9, .int 96, .int 0, .int 0, .int 0, .int 0, .int 0, .int 0, .ref 137]))) (c1 : ¬ x0 = 0) (c2 : ¬ x0 = 1) (c3 : ¬ x0 = 2) (c4 : ¬ x0 = 3) (c5 : ¬ x0 = 4) (c6 : ¬ x0 = 5) (c7 : ¬ x0 = 6) (c8 : ¬ x0 = 7) (c9 : ¬ x0 = 8) (c10 : ¬ x0 = 9) (c11 : ¬ x0 = 10) (c12 : ¬ x0 = 11) (c13 : ¬ x0 = 12) (c14 : ¬ x0 = 13) (c15 : x0 = 14)  :
    am_E sL sx cs 253 0 [(0, .ref 136), (1, .int x0)] [] H (some (.int (-1))) (fun H1 => (True) ∧ ∀ j : Nat, H1[j]? = H[j]?) := by
  refine ex_s (am_nb (m := 1) (pc1 := 1) (ls1 := [(0, .ref 136), (1, .int x0)]) (st1 := [.int x0]) (H1 := H) (k1 := 0) (n1 := 0) (by with_unfolding_all rfl)) ?_
  refine ex_s (st_tsw rfl) ?_
  refine ex_pc (if_neg c1) ?_
  refine ex_pc (if_neg c2) ?_
  refine ex_pc (if_neg c3) ?_
  refine ex_pc (if_neg c4) ?_
  refine ex_pc (if_neg c5) ?_
  refine ex_pc (if_neg c6) ?_
  refine ex_pc (if_neg c7) ?_
  refine ex_pc (if_neg c8) ?_
  refine ex_pc (if_neg c9) ?_
  refine ex_pc (if_neg c10) ?_
  refine ex_pc (if_neg c11) ?_
  refine ex_pc (if_neg c12) ?_
  refine ex_pc (if_neg c13) ?_
  refine ex_pc (if_neg c14) ?_
  refine ex_pc (if_pos c15) ?_
  refine ex_s (am_nb (m := 1) (pc1 := 152) (ls1 := [(0, .ref 136), (1, .int x0)]) (st1 := [.int (-1)]) (H1 := H) (k1 := 0) (n1 := 0) (by with_unfolding_all rfl)) ?_
  exact ex_r (st_iret rfl rfl rfl) ⟨trivial, fun j => rfl⟩

set_option maxRecDepth 100000 in
theorem fx_state_1_15 {sL : Nat} {sx : Nat → Int32} {cs : Nat → Nat → Option Int32} {H : am_H} {v136_0 : Int32} {v136_1 : Int32} {v136_9 : Int32} {x0 : Int32} (h136 : am_is H 136 (.inr (3, [.int v136_0, .int v136_1, .ref 138, .ref 139, .ref 140, .int 0, .int 0, .int 0, .int 0, .int v136_9, .int 96, .int 0, .int 0, .int 0, .int 0, .int 0, .int 0, .ref 137]))) (c1 : ¬ x0 = 0) (c2 : ¬ x0 = 1) (c3 : ¬ x0 = 2) (c4 : ¬ x0 = 3) (c5 : ¬ x0 = 4) (c6 : ¬ x0 = 5) (c7 : ¬ x0 = 6) (c8 : ¬ x0 = 7) (c9 : ¬ x0 = 8) (c10 : ¬ x0 = 9) (c11 : ¬ x0 = 10) (c12 : ¬ x0 = 11) (c13 : ¬ x0 = 12) (c14 : ¬ x0 = 13) (c15 : ¬ x0 = 14) (c16 : x0 = 15)  :
    am_E sL sx cs 253 0 [(0, .ref 136), (1, .int x0)] [] H (some (.int (-1))) (fun H1 => (True) ∧ ∀ j : Nat, H1[j]? = H[j]?) := by
  refine ex_s (am_nb (m := 1) (pc1 := 1) (ls1 := [(0, .ref 136), (1, .int x0)]) (st1 := [.int x0]) (H1 := H) (k1 := 0) (n1 := 0) (by with_unfolding_all rfl)) ?_
  refine ex_s (st_tsw rfl) ?_
  refine ex_pc (if_neg c1) ?_
  refine ex_pc (if_neg c2) ?_
  refine ex_pc (if_neg c3) ?_
  refine ex_pc (if_neg c4) ?_
  refine ex_pc (if_neg c5) ?_
  refine ex_pc (if_neg c6) ?_
  refine ex_pc (if_neg c7) ?_
  refine ex_pc (if_neg c8) ?_
  refine ex_pc (if_neg c9) ?_
  refine ex_pc (if_neg c10) ?_
  refine ex_pc (if_neg c11) ?_
  refine ex_pc (if_neg c12) ?_
  refine ex_pc (if_neg c13) ?_
  refine ex_pc (if_neg c14) ?_
  refine ex_pc (if_neg c15) ?_
  refine ex_pc (if_pos c16) ?_
  refine ex_s (am_nb (m := 1) (pc1 := 152) (ls1 := [(0, .ref 136), (1, .int x0)]) (st1 := [.int (-1)]) (H1 := H) (k1 := 0) (n1 := 0) (by with_unfolding_all rfl)) ?_
  exact ex_r (st_iret rfl rfl rfl) ⟨trivial, fun j => rfl⟩

set_option maxRecDepth 100000 in
theorem fx_state_1_16 {sL : Nat} {sx : Nat → Int32} {cs : Nat → Nat → Option Int32} {H : am_H} {v136_0 : Int32} {v136_1 : Int32} {v136_9 : Int32} {x0 : Int32} (h136 : am_is H 136 (.inr (3, [.int v136_0, .int v136_1, .ref 138, .ref 139, .ref 140, .int 0, .int 0, .int 0, .int 0, .int v136_9, .int 96, .int 0, .int 0, .int 0, .int 0, .int 0, .int 0, .ref 137]))) (c1 : ¬ x0 = 0) (c2 : ¬ x0 = 1) (c3 : ¬ x0 = 2) (c4 : ¬ x0 = 3) (c5 : ¬ x0 = 4) (c6 : ¬ x0 = 5) (c7 : ¬ x0 = 6) (c8 : ¬ x0 = 7) (c9 : ¬ x0 = 8) (c10 : ¬ x0 = 9) (c11 : ¬ x0 = 10) (c12 : ¬ x0 = 11) (c13 : ¬ x0 = 12) (c14 : ¬ x0 = 13) (c15 : ¬ x0 = 14) (c16 : ¬ x0 = 15) (c17 : x0 = 16)  :
    am_E sL sx cs 253 0 [(0, .ref 136), (1, .int x0)] [] H (some (.int (-1))) (fun H1 => (True) ∧ ∀ j : Nat, H1[j]? = H[j]?) := by
  refine ex_s (am_nb (m := 1) (pc1 := 1) (ls1 := [(0, .ref 136), (1, .int x0)]) (st1 := [.int x0]) (H1 := H) (k1 := 0) (n1 := 0) (by with_unfolding_all rfl)) ?_
  refine ex_s (st_tsw rfl) ?_
  refine ex_pc (if_neg c1) ?_
  refine ex_pc (if_neg c2) ?_
  refine ex_pc (if_neg c3) ?_
  refine ex_pc (if_neg c4) ?_
  refine ex_pc (if_neg c5) ?_
  refine ex_pc (if_neg c6) ?_
  refine ex_pc (if_neg c7) ?_
  refine ex_pc (if_neg c8) ?_
  refine ex_pc (if_neg c9) ?_
  refine ex_pc (if_neg c10) ?_
  refine ex_pc (if_neg c11) ?_
  refine ex_pc (if_neg c12) ?_
  refine ex_pc (if_neg c13) ?_
  refine ex_pc (if_neg c14) ?_
  refine ex_pc (if_neg c15) ?_
  refine ex_pc (if_neg c16) ?_
  refine ex_pc (if_pos c17) ?_
  refine ex_s (am_nb (m := 1) (pc1 := 152) (ls1 := [(0, .ref 136), (1, .int x0)]) (st1 := [.int (-1)]) (H1 := H) (k1 := 0) (n1 := 0) (by with_unfolding_all rfl)) ?_
  exact ex_r (st_iret rfl rfl rfl) ⟨trivial, fun j => rfl⟩

set_option maxRecDepth 100000 in
theorem fx_state_1_17 {sL : Nat} {sx : Nat → Int32} {cs : Nat → Nat → Option Int32} {H : am_H} {v136_0 : Int32} {v136_1 : Int32} {v136_9 : Int32} {x0 : Int32} (h136 : am_is H 136 (.inr (3, [.int v136_0, .int v136_1, .ref 138, .ref 139, .ref 140, .int 0, .int 0, .int 0, .int 0, .int v136_9, .int 96, .int 0, .int 0, .int 0, .int 0, .int 0, .int 0, .ref 137]))) (c1 : ¬ x0 = 0) (c2 : ¬ x0 = 1) (c3 : ¬ x0 = 2) (c4 : ¬ x0 = 3) (c5 : ¬ x0 = 4) (c6 : ¬ x0 = 5) (c7 : ¬ x0 = 6) (c8 : ¬ x0 = 7) (c9 : ¬ x0 = 8) (c10 : ¬ x0 = 9) (c11 : ¬ x0 = 10) (c12 : ¬ x0 = 11) (c13 : ¬ x0 = 12) (c14 : ¬ x0 = 13) (c15 : ¬ x0 = 14) (c16 : ¬ x0 = 15) (c17 : ¬ x0 = 16) (c18 : x0 = 17)  :
    am_E sL sx cs 253 0 [(0, .ref 136), (1, .int x0)] [] H (some (.int 0)) (fun H1 => (True) ∧ ∀ j : Nat, H1[j]? = H[j]?) := by
  refine ex_s (am_nb (m := 1) (pc1 := 1) (ls1 := [(0, .ref 136), (1, .int x0)]) (st1 := [.int x0]) (H1 := H) (k1 := 0) (n1 := 0) (by with_unfolding_all rfl)) ?_
  refine ex_s (st_tsw rfl) ?_
  refine ex_pc (if_neg c1) ?_
  refine ex_pc (if_neg c2) ?_
  refine ex_pc (if_neg c3) ?_
  refine ex_pc (if_neg c4) ?_
  refine ex_pc (if_neg c5) ?_
  refine ex_pc (if_neg c6) ?_
  refine ex_pc (if_neg c7) ?_
  refine ex_pc (if_neg c8) ?_
  refine ex_pc (if_neg c9) ?_
  refine ex_pc (if_neg c10) ?_
  refine ex_pc (if_neg c11) ?_
  refine ex_pc (if_neg c12) ?_
  refine ex_pc (if_neg c13) ?_
  refine ex_pc (if_neg c14) ?_
  refine ex_pc (if_neg c15) ?_
  refine ex_pc (if_neg c16) ?_
  refine ex_pc (if_neg c17) ?_
  refine ex_pc (if_pos c18) ?_
  refine ex_s (am_nb (m := 1) (pc1 := 147) (ls1 := [(0, .ref 136), (1, .int x0)]) (st1 := [.ref 136]) (H1 := H) (k1 := 0) (n1 := 0) (by with_unfolding_all rfl)) ?_
  refine ex_s (st_get rfl h136 rfl) ?_
  exact ex_r (st_iret rfl rfl rfl) ⟨trivial, fun j => rfl⟩

set_option maxRecDepth 100000 in
theorem fx_state_1_18 {sL : Nat} {sx : Nat → Int32} {cs : Nat → Nat → Option Int32} {H : am_H} {v136_0 : Int32} {v136_1 : Int32} {v136_9 : Int32} {x0 : Int32} (h136 : am_is H 136 (.inr (3, [.int v136_0, .int v136_1, .ref 138, .ref 139, .ref 140, .int 0, .int 0, .int 0, .int 0, .int v136_9, .int 96, .int 0, .int 0, .int 0, .int 0, .int 0, .int 0, .ref 137]))) (c1 : ¬ x0 = 0) (c2 : ¬ x0 = 1) (c3 : ¬ x0 = 2) (c4 : ¬ x0 = 3) (c5 : ¬ x0 = 4) (c6 : ¬ x0 = 5) (c7 : ¬ x0 = 6) (c8 : ¬ x0 = 7) (c9 : ¬ x0 = 8) (c10 : ¬ x0 = 9) (c11 : ¬ x0 = 10) (c12 : ¬ x0 = 11) (c13 : ¬ x0 = 12) (c14 : ¬ x0 = 13) (c15 : ¬ x0 = 14) (c16 : ¬ x0 = 15) (c17 : ¬ x0 = 16) (c18 : ¬ x0 = 17)  :
    am_E sL sx cs 253 0 [(0, .ref 136), (1, .int x0)] [] H (some (.int (-1))) (fun H1 => (True) ∧ ∀ j : Nat, H1[j]? = H[j]?) := by
  refine ex_s (am_nb (m := 1) (pc1 := 1) (ls1 := [(0, .ref 136), (1, .int x0)]) (st1 := [.int x0]) (H1 := H) (k1 := 0) (n1 := 0) (by with_unfolding_all rfl)) ?_
  refine ex_s (st_tsw rfl) ?_
  refine ex_pc (if_neg c1) ?_
  refine ex_pc (if_neg c2) ?_
  refine ex_pc (if_neg c3) ?_
  refine ex_pc (if_neg c4) ?_
  refine ex_pc (if_neg c5) ?_
  refine ex_pc (if_neg c6) ?_
  refine ex_pc (if_neg c7) ?_
  refine ex_pc (if_neg c8) ?_
  refine ex_pc (if_neg c9) ?_
  refine ex_pc (if_neg c10) ?_
  refine ex_pc (if_neg c11) ?_
  refine ex_pc (if_neg c12) ?_
  refine ex_pc (if_neg c13) ?_
  refine ex_pc (if_neg c14) ?_
  refine ex_pc (if_neg c15) ?_
  refine ex_pc (if_neg c16) ?_
  refine ex_pc (if_neg c17) ?_
  refine ex_pc (if_neg c18) ?_
  refine ex_pc (pc1 := 151) rfl ?_
  refine ex_s (am_nb (m := 1) (pc1 := 152) (ls1 := [(0, .ref 136), (1, .int x0)]) (st1 := [.int (-1)]) (H1 := H) (k1 := 0) (n1 := 0) (by with_unfolding_all rfl)) ?_
  exact ex_r (st_iret rfl rfl rfl) ⟨trivial, fun j => rfl⟩

set_option maxRecDepth 100000 in
theorem fx_state_3_0 {sL : Nat} {sx : Nat → Int32} {cs : Nat → Nat → Option Int32} {H : am_H}  (h130 : am_is H 130 (.inr (0, [.ref 131, .int 0, .int 0])))   :
    am_E sL sx cs 163 0 [(0, .ref 130)] [] H (some (.int 0)) (fun H1 => (True) ∧ ∀ j : Nat, H1[j]? = H[j]?) := by
  refine ex_s (am_nb (m := 1) (pc1 := 1) (ls1 := [(0, .ref 130)]) (st1 := [.ref 130]) (H1 := H) (k1 := 0) (n1 := 0) (by with_unfolding_all rfl)) ?_
  refine ex_s (st_get rfl h130 rfl) ?_
  exact ex_r (st_iret rfl rfl rfl) ⟨trivial, fun j => rfl⟩

set_option maxRecDepth 100000 in
theorem fx_state_4_0 {sL : Nat} {sx : Nat → Int32} {cs : Nat → Nat → Option Int32} {H : am_H}  (h132 : am_is H 132 (.inr (0, [.ref 133, .int 0, .int 0])))   :
    am_E sL sx cs 163 0 [(0, .ref 132)] [] H (some (.int 0)) (fun H1 => (True) ∧ ∀ j : Nat, H1[j]? = H[j]?) := by
  refine ex_s (am_nb (m := 1) (pc1 := 1) (ls1 := [(0, .ref 132)]) (st1 := [.ref 132]) (H1 := H) (k1 := 0) (n1 := 0) (by with_unfolding_all rfl)) ?_
  refine ex_s (st_get rfl h132 rfl) ?_
  exact ex_r (st_iret rfl rfl rfl) ⟨trivial, fun j => rfl⟩

set_option maxRecDepth 100000 in
theorem fx_state_2_0 {sL : Nat} {sx : Nat → Int32} {cs : Nat → Nat → Option Int32} {H : am_H} {x0 : Int32} (h129 : am_is H 129 (.inr (8, [.ref 136, .ref 130, .ref 132, .ref 134, .int 0, .int 0, .int 0, .int 0, .int 0, .int 0, .int 0, .ref 135, .int 0, .int 0, .int 0]))) (h130 : am_is H 130 (.inr (0, [.ref 131, .int 0, .int 0]))) (h132 : am_is H 132 (.inr (0, [.ref 133, .int 0, .int 0]))) (c1 : x0 = 9)  :
    am_E sL sx cs 252 0 [(0, .ref 129), (1, .int x0)] [] H (some (.int 0)) (fun H1 => (True) ∧ ∀ j : Nat, H1[j]? = H[j]?) := by
  refine ex_s (am_nb (m := 1) (pc1 := 1) (ls1 := [(0, .ref 129), (1, .int x0)]) (st1 := [.int x0]) (H1 := H) (k1 := 0) (n1 := 0) (by with_unfolding_all rfl)) ?_
  refine ex_s (st_tsw rfl) ?_
  refine ex_pc (if_pos c1) ?_
  refine ex_s (am_nb (m := 1) (pc1 := 49) (ls1 := [(0, .ref 129), (1, .int x0)]) (st1 := [.ref 129]) (H1 := H) (k1 := 0) (n1 := 0) (by with_unfolding_all rfl)) ?_
  refine ex_s (st_get rfl h129 rfl) ?_
  refine ex_cv1 (as := []) (rest := []) rfl rfl rfl rfl h130 rfl (by with_unfolding_all rfl) (by with_unfolding_all rfl) (fx_state_3_0 h130) ?_
  rintro H303 ⟨-, k303⟩
  exact ex_r (st_iret rfl rfl rfl) ⟨trivial, fun j => (k303 j)⟩

set_option maxRecDepth 100000 in
theorem fx_state_2_1 {sL : Nat} {sx : Nat → Int32} {cs : Nat → Nat → Option Int32} {H : am_H} {x0 : Int32} (h129 : am_is H 129 (.inr (8, [.ref 136, .ref 130, .ref 132, .ref 134, .int 0, .int 0, .int 0, .int 0, .int 0, .int 0, .int 0, .ref 135, .int 0, .int 0, .int 0]))) (h130 : am_is H 130 (.inr (0, [.ref 131, .int 0, .int 0]))) (h132 : am_is H 132 (.inr (0, [.ref 133, .int 0, .int 0]))) (c1 : ¬ x0 = 9) (c2 : x0 = 10)  :
    am_E sL sx cs 252 0 [(0, .ref 129), (1, .int x0)] [] H (some (.int (-1))) (fun H1 => (True) ∧ ∀ j : Nat, H1[j]? = H[j]?) := by
  refine ex_s (am_nb (m := 1) (pc1 := 1) (ls1 := [(0, .ref 129), (1, .int x0)]) (st1 := [.int x0]) (H1 := H) (k1 := 0) (n1 := 0) (by with_unfolding_all rfl)) ?_
  refine ex_s (st_tsw rfl) ?_
  refine ex_pc (if_neg c1) ?_
  refine ex_pc (if_pos c2) ?_
  refine ex_s (am_nb (m := 1) (pc1 := 127) (ls1 := [(0, .ref 129), (1, .int x0)]) (st1 := [.int (-1)]) (H1 := H) (k1 := 0) (n1 := 0) (by with_unfolding_all rfl)) ?_
  exact ex_r (st_iret rfl rfl rfl) ⟨trivial, fun j => rfl⟩

set_option maxRecDepth 100000 in
theorem fx_state_2_2 {sL : Nat} {sx : Nat → Int32} {cs : Nat → Nat → Option Int32} {H : am_H} {x0 : Int32} (h129 : am_is H 129 (.inr (8, [.ref 136, .ref 130, .ref 132, .ref 134, .int 0, .int 0, .int 0, .int 0, .int 0, .int 0, .int 0, .ref 135, .int 0, .int 0, .int 0]))) (h130 : am_is H 130 (.inr (0, [.ref 131, .int 0, .int 0]))) (h132 : am_is H 132 (.inr (0, [.ref 133, .int 0, .int 0]))) (c1 : ¬ x0 = 9) (c2 : ¬ x0 = 10) (c3 : x0 = 11)  :
    am_E sL sx cs 252 0 [(0, .ref 129), (1, .int x0)] [] H (some (.int 0)) (fun H1 => (True) ∧ ∀ j : Nat, H1[j]? = H[j]?) := by
  refine ex_s (am_nb (m := 1) (pc1 := 1) (ls1 := [(0, .ref 129), (1, .int x0)]) (st1 := [.int x0]) (H1 := H) (k1 := 0) (n1 := 0) (by with_unfolding_all rfl)) ?_
  refine ex_s (st_tsw rfl) ?_
  refine ex_pc (if_neg c1) ?_
  refine ex_pc (if_neg c2) ?_
  refine ex_pc (if_pos c3) ?_
  refine ex_s (am_nb (m := 1) (pc1 := 57) (ls1 := [(0, .ref 129), (1, .int x0)]) (st1 := [.ref 129]) (H1 := H) (k1 := 0) (n1 := 0) (by with_unfolding_all rfl)) ?_
  refine ex_s (st_get rfl h129 rfl) ?_
  refine ex_s (am_nb (m := 2) (pc1 := 68) (ls1 := [(0, .ref 129), (1, .int x0)]) (st1 := [.int 0]) (H1 := H) (k1 := 0) (n1 := 0) (by with_unfolding_all rfl)) ?_
  exact ex_r (st_iret rfl rfl rfl) ⟨trivial, fun j => rfl⟩

set_option maxRecDepth 100000 in
theorem fx_state_2_3 {sL : Nat} {sx : Nat → Int32} {cs : Nat → Nat → Option Int32} {H : am_H} {x0 : Int32} (h129 : am_is H 129 (.inr (8, [.ref 136, .ref 130, .ref 132, .ref 134, .int 0, .int 0, .int 0, .int 0, .int 0, .int 0, .int 0, .ref 135, .int 0, .int 0, .int 0]))) (h130 : am_is H 130 (.inr (0, [.ref 131, .int 0, .int 0]))) (h132 : am_is H 132 (.inr (0, [.ref 133, .int 0, .int 0]))) (c1 : ¬ x0 = 9) (c2 : ¬ x0 = 10) (c3 : ¬ x0 = 11) (c4 : x0 = 12)  :
    am_E sL sx cs 252 0 [(0, .ref 129), (1, .int x0)] [] H (some (.int 0)) (fun H1 => (True) ∧ ∀ j : Nat, H1[j]? = H[j]?) := by
  refine ex_s (am_nb (m := 1) (pc1 := 1) (ls1 := [(0, .ref 129), (1, .int x0)]) (st1 := [.int x0]) (H1 := H) (k1 := 0) (n1 := 0) (by with_unfolding_all rfl)) ?_
  refine ex_s (st_tsw rfl) ?_
  refine ex_pc (if_neg c1) ?_
  refine ex_pc (if_neg c2) ?_
  refine ex_pc (if_neg c3) ?_
  refine ex_pc (if_pos c4) ?_
  refine ex_s (am_nb (m := 1) (pc1 := 70) (ls1 := [(0, .ref 129), (1, .int x0)]) (st1 := [.ref 129]) (H1 := H) (k1 := 0) (n1 := 0) (by with_unfolding_all rfl)) ?_
  refine ex_s (st_get rfl h129 rfl) ?_
  refine ex_s (am_nb (m := 2) (pc1 := 81) (ls1 := [(0, .ref 129), (1, .int x0)]) (st1 := [.int 0]) (H1 := H) (k1 := 0) (n1 := 0) (by with_unfolding_all rfl)) ?_
  exact ex_r (st_iret rfl rfl rfl) ⟨trivial, fun j => rfl⟩

set_option maxRecDepth 100000 in
theorem fx_state_2_4 {sL : Nat} {sx : Nat → Int32} {cs : Nat → Nat → Option Int32} {H : am_H} {x0 : Int32} (h129 : am_is H 129 (.inr (8, [.ref 136, .ref 130, .ref 132, .ref 134, .int 0, .int 0, .int 0, .int 0, .int 0, .int 0, .int 0, .ref 135, .int 0, .int 0, .int 0]))) (h130 : am_is H 130 (.inr (0, [.ref 131, .int 0, .int 0]))) (h132 : am_is H 132 (.inr (0, [.ref 133, .int 0, .int 0]))) (c1 : ¬ x0 = 9) (c2 : ¬ x0 = 10) (c3 : ¬ x0 = 11) (c4 : ¬ x0 = 12) (c5 : x0 = 13)  :
    am_E sL sx cs 252 0 [(0, .ref 129), (1, .int x0)] [] H (some (.int 0)) (fun H1 => (True) ∧ ∀ j : Nat, H1[j]? = H[j]?) := by
  refine ex_s (am_nb (m := 1) (pc1 := 1) (ls1 := [(0, .ref 129), (1, .int x0)]) (st1 := [.int x0]) (H1 := H) (k1 := 0) (n1 := 0) (by with_unfolding_all rfl)) ?_
  refine ex_s (st_tsw rfl) ?_
  refine ex_pc (if_neg c1) ?_
  refine ex_pc (if_neg c2) ?_
  refine ex_pc (if_neg c3) ?_
  refine ex_pc (if_neg c4) ?_
  refine ex_pc (if_pos c5) ?_
  refine ex_s (am_nb (m := 1) (pc1 := 83) (ls1 := [(0, .ref 129), (1, .int x0)]) (st1 := [.ref 129]) (H1 := H) (k1 := 0) (n1 := 0) (by with_unfolding_all rfl)) ?_
  refine ex_s (st_get rfl h129 rfl) ?_
  refine ex_s (am_nb (m := 3) (pc1 := 95) (ls1 := [(0, .ref 129), (1, .int x0)]) (st1 := [.ref 129, .int 0]) (H1 := H) (k1 := 0) (n1 := 0) (by with_unfolding_all rfl)) ?_
  refine ex_s (st_get rfl h129 rfl) ?_
  refine ex_s (am_nb (m := 3) (pc1 := 107) (ls1 := [(0, .ref 129), (1, .int x0)]) (st1 := [.int 0]) (H1 := H) (k1 := 0) (n1 := 0) (by with_unfolding_all rfl)) ?_
  exact ex_r (st_iret rfl rfl rfl) ⟨trivial, fun j => rfl⟩

set_option maxRecDepth 100000 in
theorem fx_state_2_5 {sL : Nat} {sx : Nat → Int32} {cs : Nat → Nat → Option Int32} {H : am_H} {x0 : Int32} (h129 : am_is H 129 (.inr (8, [.ref 136, .ref 130, .ref 132, .ref 134, .int 0, .int 0, .int 0, .int 0, .int 0, .int 0, .int 0, .ref 135, .int 0, .int 0, .int 0]))) (h130 : am_is H 130 (.inr (0, [.ref 131, .int 0, .int 0]))) (h132 : am_is H 132 (.inr (0, [.ref 133, .int 0, .int 0]))) (c1 : ¬ x0 = 9) (c2 : ¬ x0 = 10) (c3 : ¬ x0 = 11) (c4 : ¬ x0 = 12) (c5 : ¬ x0 = 13) (c6 : x0 = 14)  :
    am_E sL sx cs 252 0 [(0, .ref 129), (1, .int x0)] [] H (some (.int 0)) (fun H1 => (True) ∧ ∀ j : Nat, H1[j]? = H[j]?) := by
  refine ex_s (am_nb (m := 1) (pc1 := 1) (ls1 := [(0, .ref 129), (1, .int x0)]) (st1 := [.int x0]) (H1 := H) (k1 := 0) (n1 := 0) (by with_unfolding_all rfl)) ?_
  refine ex_s (st_tsw rfl) ?_
  refine ex_pc (if_neg c1) ?_
  refine ex_pc (if_neg c2) ?_
  refine ex_pc (if_neg c3) ?_
  refine ex_pc (if_neg c4) ?_
  refine ex_pc (if_neg c5) ?_
  refine ex_pc (if_pos c6) ?_
  refine ex_s (am_nb (m := 1) (pc1 := 109) (ls1 := [(0, .ref 129), (1, .int x0)]) (st1 := [.ref 129]) (H1 := H) (k1 := 0) (n1 := 0) (by with_unfolding_all rfl)) ?_
  refine ex_s (st_get rfl h129 rfl) ?_
  refine ex_cv1 (as := []) (rest := []) rfl rfl rfl rfl h132 rfl (by with_unfolding_all rfl) (by with_unfolding_all rfl) (fx_state_4_0 h132) ?_
  rintro H304 ⟨-, k304⟩
  exact ex_r (st_iret rfl rfl rfl) ⟨trivial, fun j => (k304 j)⟩

set_option maxRecDepth 100000 in
theorem fx_state_2_6 {sL : Nat} {sx : Nat → Int32} {cs : Nat → Nat → Option Int32} {H : am_H} {x0 : Int32} (h129 : am_is H 129 (.inr (8, [.ref 136, .ref 130, .ref 132, .ref 134, .int 0, .int 0, .int 0, .int 0, .int 0, .int 0, .int 0, .ref 135, .int 0, .int 0, .int 0]))) (h130 : am_is H 130 (.inr (0, [.ref 131, .int 0, .int 0]))) (h132 : am_is H 132 (.inr (0, [.ref 133, .int 0, .int 0]))) (c1 : ¬ x0 = 9) (c2 : ¬ x0 = 10) (c3 : ¬ x0 = 11) (c4 : ¬ x0 = 12) (c5 : ¬ x0 = 13) (c6 : ¬ x0 = 14) (c7 : x0 = 15)  :
    am_E sL sx cs 252 0 [(0, .ref 129), (1, .int x0)] [] H (some (.int 0)) (fun H1 => (True) ∧ ∀ j : Nat, H1[j]? = H[j]?) := by
  refine ex_s (am_nb (m := 1) (pc1 := 1) (ls1 := [(0, .ref 129), (1, .int x0)]) (st1 := [.int x0]) (H1 := H) (k1 := 0) (n1 := 0) (by with_unfolding_all rfl)) ?_
  refine ex_s (st_tsw rfl) ?_
  refine ex_pc (if_neg c1) ?_
  refine ex_pc (if_neg c2) ?_
  refine ex_pc (if_neg c3) ?_
  refine ex_pc (if_neg c4) ?_
  refine ex_pc (if_neg c5) ?_
  refine ex_pc (if_neg c6) ?_
  refine ex_pc (if_pos c7) ?_
  refine ex_s (am_nb (m := 1) (pc1 := 117) (ls1 := [(0, .ref 129), (1, .int x0)]) (st1 := [.ref 129]) (H1 := H) (k1 := 0) (n1 := 0) (by with_unfolding_all rfl)) ?_
  refine ex_s (st_get rfl h129 rfl) ?_
  exact ex_r (st_iret rfl rfl rfl) ⟨trivial, fun j => rfl⟩

set_option maxRecDepth 100000 in
theorem fx_state_2_7 {sL : Nat} {sx : Nat → Int32} {cs : Nat → Nat → Option Int32} {H : am_H} {x0 : Int32} (h129 : am_is H 129 (.inr (8, [.ref 136, .ref 130, .ref 132, .ref 134, .int 0, .int 0, .int 0, .int 0, .int 0, .int 0, .int 0, .ref 135, .int 0, .int 0, .int 0]))) (h130 : am_is H 130 (.inr (0, [.ref 131, .int 0, .int 0]))) (h132 : am_is H 132 (.inr (0, [.ref 133, .int 0, .int 0]))) (c1 : ¬ x0 = 9) (c2 : ¬ x0 = 10) (c3 : ¬ x0 = 11) (c4 : ¬ x0 = 12) (c5 : ¬ x0 = 13) (c6 : ¬ x0 = 14) (c7 : ¬ x0 = 15) (c8 : x0 = 16)  :
    am_E sL sx cs 252 0 [(0, .ref 129), (1, .int x0)] [] H (some (.int 0)) (fun H1 => (True) ∧ ∀ j : Nat, H1[j]? = H[j]?) := by
  refine ex_s (am_nb (m := 1) (pc1 := 1) (ls1 := [(0, .ref 129), (1, .int x0)]) (st1 := [.int x0]) (H1 := H) (k1 := 0) (n1 := 0) (by with_unfolding_all rfl)) ?_
  refine ex_s (st_tsw rfl) ?_
  refine ex_pc (if_neg c1) ?_
  refine ex_pc (if_neg c2) ?_
  refine ex_pc (if_neg c3) ?_
  refine ex_pc (if_neg c4) ?_
  refine ex_pc (if_neg c5) ?_
  refine ex_pc (if_neg c6) ?_
  refine ex_pc (if_neg c7) ?_
  refine ex_pc (if_pos c8) ?_
  refine ex_s (am_nb (m := 1) (pc1 := 122) (ls1 := [(0, .ref 129), (1, .int x0)]) (st1 := [.ref 129]) (H1 := H) (k1 := 0) (n1 := 0) (by with_unfolding_all rfl)) ?_
  refine ex_s (st_get rfl h129 rfl) ?_
  exact ex_r (st_iret rfl rfl rfl) ⟨trivial, fun j => rfl⟩

set_option maxRecDepth 100000 in
theorem fx_state_2_8 {sL : Nat} {sx : Nat → Int32} {cs : Nat → Nat → Option Int32} {H : am_H} {x0 : Int32} (h129 : am_is H 129 (.inr (8, [.ref 136, .ref 130, .ref 132, .ref 134, .int 0, .int 0, .int 0, .int 0, .int 0, .int 0, .int 0, .ref 135, .int 0, .int 0, .int 0]))) (h130 : am_is H 130 (.inr (0, [.ref 131, .int 0, .int 0]))) (h132 : am_is H 132 (.inr (0, [.ref 133, .int 0, .int 0]))) (c1 : ¬ x0 = 9) (c2 : ¬ x0 = 10) (c3 : ¬ x0 = 11) (c4 : ¬ x0 = 12) (c5 : ¬ x0 = 13) (c6 : ¬ x0 = 14) (c7 : ¬ x0 = 15) (c8 : ¬ x0 = 16)  :
    am_E sL sx cs 252 0 [(0, .ref 129), (1, .int x0)] [] H (some (.int (-1))) (fun H1 => (True) ∧ ∀ j : Nat, H1[j]? = H[j]?) := by
  refine ex_s (am_nb (m := 1) (pc1 := 1) (ls1 := [(0, .ref 129), (1, .int x0)]) (st1 := [.int x0]) (H1 := H) (k1 := 0) (n1 := 0) (by with_unfolding_all rfl)) ?_
  refine ex_s (st_tsw rfl) ?_
  refine ex_pc (if_neg c1) ?_
  refine ex_pc (if_neg c2) ?_
  refine ex_pc (if_neg c3) ?_
  refine ex_pc (if_neg c4) ?_
  refine ex_pc (if_neg c5) ?_
  refine ex_pc (if_neg c6) ?_
  refine ex_pc (if_neg c7) ?_
  refine ex_pc (if_neg c8) ?_
  refine ex_pc (pc1 := 126) rfl ?_
  refine ex_s (am_nb (m := 1) (pc1 := 127) (ls1 := [(0, .ref 129), (1, .int x0)]) (st1 := [.int (-1)]) (H1 := H) (k1 := 0) (n1 := 0) (by with_unfolding_all rfl)) ?_
  exact ex_r (st_iret rfl rfl rfl) ⟨trivial, fun j => rfl⟩

set_option maxRecDepth 100000 in
theorem fx_state_0 {sL : Nat} {sx : Nat → Int32} {cs : Nat → Nat → Option Int32} {H : am_H} {v0_13 : Int32} {v136_0 : Int32} {v136_1 : Int32} {v136_9 : Int32} {x0 : Int32} (h0 : am_is H 0 (.inr (11, [.ref 1, .int 0, .ref 2, .int 0, .ref 3, .ref 93, .ref 97, .ref 115, .ref 116, .ref 129, .ref 123, .ref 127, .ref 128, .int v0_13, .null, .int 0]))) (h123 : am_is H 123 (.inr (4, [.ref 124, .ref 125, .int 0, .int (-1), .int 0, .ref 126]))) (h129 : am_is H 129 (.inr (8, [.ref 136, .ref 130, .ref 132, .ref 134, .int 0, .int 0, .int 0, .int 0, .int 0, .int 0, .int 0, .ref 135, .int 0, .int 0, .int 0]))) (h136 : am_is H 136 (.inr (3, [.int v136_0, .int v136_1, .ref 138, .ref 139, .ref 140, .int 0, .int 0, .int 0, .int 0, .int v136_9, .int 96, .int 0, .int 0, .int 0, .int 0, .int 0, .int 0, .ref 137]))) (h130 : am_is H 130 (.inr (0, [.ref 131, .int 0, .int 0]))) (h132 : am_is H 132 (.inr (0, [.ref 133, .int 0, .int 0]))) (c1 : x0 = 18)  :
    am_E sL sx cs 251 0 [(0, .ref 0), (1, .int x0)] [] H (some (.int (-1))) (fun H1 => (True) ∧ ∀ j : Nat, H1[j]? = H[j]?) := by
  refine ex_s (am_nb (m := 2) (pc1 := 3) (ls1 := [(0, .ref 0), (1, .int x0)]) (st1 := [.int 18, .int x0]) (H1 := H) (k1 := 0) (n1 := 0) (by with_unfolding_all rfl)) ?_
  refine ex_s (st_icmp rfl) ?_
  refine ex_pc (if_pos c1) ?_
  refine ex_s (am_nb (m := 1) (pc1 := 7) (ls1 := [(0, .ref 0), (1, .int x0)]) (st1 := [.ref 0]) (H1 := H) (k1 := 0) (n1 := 0) (by with_unfolding_all rfl)) ?_
  refine ex_s (st_get rfl h0 rfl) ?_
  refine ex_s (st_get rfl h123 rfl) ?_
  exact ex_r (st_iret rfl rfl rfl) ⟨trivial, fun j => rfl⟩

set_option maxRecDepth 100000 in
theorem fx_state_1 {sL : Nat} {sx : Nat → Int32} {cs : Nat → Nat → Option Int32} {H : am_H} {v0_13 : Int32} {v136_0 : Int32} {v136_1 : Int32} {v136_9 : Int32} {x0 : Int32} (h0 : am_is H 0 (.inr (11, [.ref 1, .int 0, .ref 2, .int 0, .ref 3, .ref 93, .ref 97, .ref 115, .ref 116, .ref 129, .ref 123, .ref 127, .ref 128, .int v0_13, .null, .int 0]))) (h123 : am_is H 123 (.inr (4, [.ref 124, .ref 125, .int 0, .int (-1), .int 0, .ref 126]))) (h129 : am_is H 129 (.inr (8, [.ref 136, .ref 130, .ref 132, .ref 134, .int 0, .int 0, .int 0, .int 0, .int 0, .int 0, .int 0, .ref 135, .int 0, .int 0, .int 0]))) (h136 : am_is H 136 (.inr (3, [.int v136_0, .int v136_1, .ref 138, .ref 139, .ref 140, .int 0, .int 0, .int 0, .int 0, .int v136_9, .int 96, .int 0, .int 0, .int 0, .int 0, .int 0, .int 0, .ref 137]))) (h130 : am_is H 130 (.inr (0, [.ref 131, .int 0, .int 0]))) (h132 : am_is H 132 (.inr (0, [.ref 133, .int 0, .int 0]))) (c1 : ¬ x0 = 18) (c2 : x0 < 9) (c3 : x0 = 0)  :
    am_E sL sx cs 251 0 [(0, .ref 0), (1, .int x0)] [] H (some (.int 0)) (fun H1 => (True) ∧ ∀ j : Nat, H1[j]? = H[j]?) := by
  refine ex_s (am_nb (m := 2) (pc1 := 3) (ls1 := [(0, .ref 0), (1, .int x0)]) (st1 := [.int 18, .int x0]) (H1 := H) (k1 := 0) (n1 := 0) (by with_unfolding_all rfl)) ?_
  refine ex_s (st_icmp rfl) ?_
  refine ex_pc (if_neg c1) ?_
  refine ex_s (am_nb (m := 2) (pc1 := 17) (ls1 := [(0, .ref 0), (1, .int x0)]) (st1 := [.int 9, .int x0]) (H1 := H) (k1 := 0) (n1 := 0) (by with_unfolding_all rfl)) ?_
  refine ex_s (st_icmp rfl) ?_
  refine ex_pc (if_pos c2) ?_
  refine ex_s (am_nb (m := 1) (pc1 := 42) (ls1 := [(0, .ref 0), (1, .int x0)]) (st1 := [.ref 0]) (H1 := H) (k1 := 0) (n1 := 0) (by with_unfolding_all rfl)) ?_
  refine ex_s (st_get rfl h0 rfl) ?_
  refine ex_s (st_get rfl h129 rfl) ?_
  refine ex_s (am_nb (m := 1) (pc1 := 49) (ls1 := [(0, .ref 0), (1, .int x0)]) (st1 := [.int x0, .ref 136]) (H1 := H) (k1 := 0) (n1 := 0) (by with_unfolding_all rfl)) ?_
  refine ex_cv1 (as := [.int x0]) (rest := []) rfl rfl rfl rfl h136 rfl (by with_unfolding_all rfl) (by with_unfolding_all rfl) (fx_state_1_0 h136 c3) ?_
  rintro H254 ⟨-, k254⟩
  exact ex_r (st_iret rfl rfl rfl) ⟨trivial, fun j => (k254 j)⟩

set_option maxRecDepth 100000 in
theorem fx_state_2 {sL : Nat} {sx : Nat → Int32} {cs : Nat → Nat → Option Int32} {H : am_H} {v0_13 : Int32} {v136_0 : Int32} {v136_1 : Int32} {v136_9 : Int32} {x0 : Int32} (h0 : am_is H 0 (.inr (11, [.ref 1, .int 0, .ref 2, .int 0, .ref 3, .ref 93, .ref 97, .ref 115, .ref 116, .ref 129, .ref 123, .ref 127, .ref 128, .int v0_13, .null, .int 0]))) (h123 : am_is H 123 (.inr (4, [.ref 124, .ref 125, .int 0, .int (-1), .int 0, .ref 126]))) (h129 : am_is H 129 (.inr (8, [.ref 136, .ref 130, .ref 132, .ref 134, .int 0, .int 0, .int 0, .int 0, .int 0, .int 0, .int 0, .ref 135, .int 0, .int 0, .int 0]))) (h136 : am_is H 136 (.inr (3, [.int v136_0, .int v136_1, .ref 138, .ref 139, .ref 140, .int 0, .int 0, .int 0, .int 0, .int v136_9, .int 96, .int 0, .int 0, .int 0, .int 0, .int 0, .int 0, .ref 137]))) (h130 : am_is H 130 (.inr (0, [.ref 131, .int 0, .int 0]))) (h132 : am_is H 132 (.inr (0, [.ref 133, .int 0, .int 0]))) (c1 : ¬ x0 = 18) (c2 : x0 < 9) (c3 : ¬ x0 = 0) (c4 : x0 = 1)  :
    am_E sL sx cs 251 0 [(0, .ref 0), (1, .int x0)] [] H (some (.int 0)) (fun H1 => (True) ∧ ∀ j : Nat, H1[j]? = H[j]?) := by
  refine ex_s (am_nb (m := 2) (pc1 := 3) (ls1 := [(0, .ref 0), (1, .int x0)]) (st1 := [.int 18, .int x0]) (H1 := H) (k1 := 0) (n1 := 0) (by with_unfolding_all rfl)) ?_
  refine ex_s (st_icmp rfl) ?_
  refine ex_pc (if_neg c1) ?_
  refine ex_s (am_nb (m := 2) (pc1 := 17) (ls1 := [(0, .ref 0), (1, .int x0)]) (st1 := [.int 9, .int x0]) (H1 := H) (k1 := 0) (n1 := 0) (by with_unfolding_all rfl)) ?_
  refine ex_s (st_icmp rfl) ?_
  refine ex_pc (if_pos c2) ?_
  refine ex_s (am_nb (m := 1) (pc1 := 42) (ls1 := [(0, .ref 0), (1, .int x0)]) (st1 := [.ref 0]) (H1 := H) (k1 := 0) (n1 := 0) (by with_unfolding_all rfl)) ?_
  refine ex_s (st_get rfl h0 rfl) ?_
  refine ex_s (st_get rfl h129 rfl) ?_
  refine ex_s (am_nb (m := 1) (pc1 := 49) (ls1 := [(0, .ref 0), (1, .int x0)]) (st1 := [.int x0, .ref 136]) (H1 := H) (k1 := 0) (n1 := 0) (by with_unfolding_all rfl)) ?_
  refine ex_cv1 (as := [.int x0]) (rest := []) rfl rfl rfl rfl h136 rfl (by with_unfolding_all rfl) (by with_unfolding_all rfl) (fx_state_1_1 h136 c3 c4) ?_
  rintro H255 ⟨-, k255⟩
  exact ex_r (st_iret rfl rfl rfl) ⟨trivial, fun j => (k255 j)⟩

set_option maxRecDepth 100000 in
theorem fx_state_3 {sL : Nat} {sx : Nat → Int32} {cs : Nat → Nat → Option Int32} {H : am_H} {v0_13 : Int32} {v136_0 : Int32} {v136_1 : Int32} {v136_9 : Int32} {x0 : Int32} (h0 : am_is H 0 (.inr (11, [.ref 1, .int 0, .ref 2, .int 0, .ref 3, .ref 93, .ref 97, .ref 115, .ref 116, .ref 129, .ref 123, .ref 127, .ref 128, .int v0_13, .null, .int 0]))) (h123 : am_is H 123 (.inr (4, [.ref 124, .ref 125, .int 0, .int (-1), .int 0, .ref 126]))) (h129 : am_is H 129 (.inr (8, [.ref 136, .ref 130, .ref 132, .ref 134, .int 0, .int 0, .int 0, .int 0, .int 0, .int 0, .int 0, .ref 135, .int 0, .int 0, .int 0]))) (h136 : am_is H 136 (.inr (3, [.int v136_0, .int v136_1, .ref 138, .ref 139, .ref 140, .int 0, .int 0, .int 0, .int 0, .int v136_9, .int 96, .int 0, .int 0, .int 0, .int 0, .int 0, .int 0, .ref 137]))) (h130 : am_is H 130 (.inr (0, [.ref 131, .int 0, .int 0]))) (h132 : am_is H 132 (.inr (0, [.ref 133, .int 0, .int 0]))) (c1 : ¬ x0 = 18) (c2 : x0 < 9) (c3 : ¬ x0 = 0) (c4 : ¬ x0 = 1) (c5 : x0 = 2)  :
    am_E sL sx cs 251 0 [(0, .ref 0), (1, .int x0)] [] H (some (.int 0)) (fun H1 => (True) ∧ ∀ j : Nat, H1[j]? = H[j]?) := by
  refine ex_s (am_nb (m := 2) (pc1 := 3) (ls1 := [(0, .ref 0), (1, .int x0)]) (st1 := [.int 18, .int x0]) (H1 := H) (k1 := 0) (n1 := 0) (by with_unfolding_all rfl)) ?_
  refine ex_s (st_icmp rfl) ?_
  refine ex_pc (if_neg c1) ?_
  refine ex_s (am_nb (m := 2) (pc1 := 17) (ls1 := [(0, .ref 0), (1, .int x0)]) (st1 := [.int 9, .int x0]) (H1 := H) (k1 := 0) (n1 := 0) (by with_unfolding_all rfl)) ?_
  refine ex_s (st_icmp rfl) ?_
  refine ex_pc (if_pos c2) ?_
  refine ex_s (am_nb (m := 1) (pc1 := 42) (ls1 := [(0, .ref 0), (1, .int x0)]) (st1 := [.ref 0]) (H1 := H) (k1 := 0) (n1 := 0) (by with_unfolding_all rfl)) ?_
  refine ex_s (st_get rfl h0 rfl) ?_
  refine ex_s (st_get rfl h129 rfl) ?_
  refine ex_s (am_nb (m := 1) (pc1 := 49) (ls1 := [(0, .ref 0), (1, .int x0)]) (st1 := [.int x0, .ref 136]) (H1 := H) (k1 := 0) (n1 := 0) (by with_unfolding_all rfl)) ?_
  refine ex_cv1 (as := [.int x0]) (rest := []) rfl rfl rfl rfl h136 rfl (by with_unfolding_all rfl) (by with_unfolding_all rfl) (fx_state_1_2 h136 c3 c4 c5) ?_
  rintro H256 ⟨-, k256⟩
  exact ex_r (st_iret rfl rfl rfl) ⟨trivial, fun j => (k256 j)⟩

set_option maxRecDepth 100000 in
theorem fx_state_4 {sL : Nat} {sx : Nat → Int32} {cs : Nat → Nat → Option Int32} {H : am_H} {v0_13 : Int32} {v136_0 : Int32} {v136_1 : Int32} {v136_9 : Int32} {x0 : Int32} (h0 : am_is H 0 (.inr (11, [.ref 1, .int 0, .ref 2, .int 0, .ref 3, .ref 93, .ref 97, .ref 115, .ref 116, .ref 129, .ref 123, .ref 127, .ref 128, .int v0_13, .null, .int 0]))) (h123 : am_is H 123 (.inr (4, [.ref 124, .ref 125, .int 0, .int (-1), .int 0, .ref 126]))) (h129 : am_is H 129 (.inr (8, [.ref 136, .ref 130, .ref 132, .ref 134, .int 0, .int 0, .int 0, .int 0, .int 0, .int 0, .int 0, .ref 135, .int 0, .int 0, .int 0]))) (h136 : am_is H 136 (.inr (3, [.int v136_0, .int v136_1, .ref 138, .ref 139, .ref 140, .int 0, .int 0, .int 0, .int 0, .int v136_9, .int 96, .int 0, .int 0, .int 0, .int 0, .int 0, .int 0, .ref 137]))) (h130 : am_is H 130 (.inr (0, [.ref 131, .int 0, .int 0]))) (h132 : am_is H 132 (.inr (0, [.ref 133, .int 0, .int 0]))) (c1 : ¬ x0 = 18) (c2 : x0 < 9) (c3 : ¬ x0 = 0) (c4 : ¬ x0 = 1) (c5 : ¬ x0 = 2) (c6 : x0 = 3)  :
    am_E sL sx cs 251 0 [(0, .ref 0), (1, .int x0)] [] H (some (.int 0)) (fun H1 => (True) ∧ ∀ j : Nat, H1[j]? = H[j]?) := by
  refine ex_s (am_nb (m := 2) (pc1 := 3) (ls1 := [(0, .ref 0), (1, .int x0)]) (st1 := [.int 18, .int x0]) (H1 := H) (k1 := 0) (n1 := 0) (by with_unfolding_all rfl)) ?_
  refine ex_s (st_icmp rfl) ?_
  refine ex_pc (if_neg c1) ?_
  refine ex_s (am_nb (m := 2) (pc1 := 17) (ls1 := [(0, .ref 0), (1, .int x0)]) (st1 := [.int 9, .int x0]) (H1 := H) (k1 := 0) (n1 := 0) (by with_unfolding_all rfl)) ?_
  refine ex_s (st_icmp rfl) ?_
  refine ex_pc (if_pos c2) ?_
  refine ex_s (am_nb (m := 1) (pc1 := 42) (ls1 := [(0, .ref 0), (1, .int x0)]) (st1 := [.ref 0]) (H1 := H) (k1 := 0) (n1 := 0) (by with_unfolding_all rfl)) ?_
  refine ex_s (st_get rfl h0 rfl) ?_
  refine ex_s (st_get rfl h129 rfl) ?_
  refine ex_s (am_nb (m := 1) (pc1 := 49) (ls1 := [(0, .ref 0), (1, .int x0)]) (st1 := [.int x0, .ref 136]) (H1 := H) (k1 := 0) (n1 := 0) (by with_unfolding_all rfl)) ?_
  refine ex_cv1 (as := [.int x0]) (rest := []) rfl rfl rfl rfl h136 rfl (by with_unfolding_all rfl) (by with_unfolding_all rfl) (fx_state_1_3 h136 c3 c4 c5 c6) ?_
  rintro H257 ⟨-, k257⟩
  exact ex_r (st_iret rfl rfl rfl) ⟨trivial, fun j => (k257 j)⟩

set_option maxRecDepth 100000 in
theorem fx_state_5 {sL : Nat} {sx : Nat → Int32} {cs : Nat → Nat → Option Int32} {H : am_H} {v0_13 : Int32} {v136_0 : Int32} {v136_1 : Int32} {v136_9 : Int32} {x0 : Int32} (h0 : am_is H 0 (.inr (11, [.ref 1, .int 0, .ref 2, .int 0, .ref 3, .ref 93, .ref 97, .ref 115, .ref 116, .ref 129, .ref 123, .ref 127, .ref 128, .int v0_13, .null, .int 0]))) (h123 : am_is H 123 (.inr (4, [.ref 124, .ref 125, .int 0, .int (-1), .int 0, .ref 126]))) (h129 : am_is H 129 (.inr (8, [.ref 136, .ref 130, .ref 132, .ref 134, .int 0, .int 0, .int 0, .int 0, .int 0, .int 0, .int 0, .ref 135, .int 0, .int 0, .int 0]))) (h136 : am_is H 136 (.inr (3, [.int v136_0, .int v136_1, .ref 138, .ref 139, .ref 140, .int 0, .int 0, .int 0, .int 0, .int v136_9, .int 96, .int 0, .int 0, .int 0, .int 0, .int 0, .int 0, .ref 137]))) (h130 : am_is H 130 (.inr (0, [.ref 131, .int 0, .int 0]))) (h132 : am_is H 132 (.inr (0, [.ref 133, .int 0, .int 0]))) (c1 : ¬ x0 = 18) (c2 : x0 < 9) (c3 : ¬ x0 = 0) (c4 : ¬ x0 = 1) (c5 : ¬ x0 = 2) (c6 : ¬ x0 = 3) (c7 : x0 = 4)  :
    am_E sL sx cs 251 0 [(0, .ref 0), (1, .int x0)] [] H (some (.int v136_9)) (fun H1 => (True) ∧ ∀ j : Nat, H1[j]? = H[j]?) := by
  refine ex_s (am_nb (m := 2) (pc1 := 3) (ls1 := [(0, .ref 0), (1, .int x0)]) (st1 := [.int 18, .int x0]) (H1 := H) (k1 := 0) (n1 := 0) (by with_unfolding_all rfl)) ?_
  refine ex_s (st_icmp rfl) ?_
  refine ex_pc (if_neg c1) ?_
  refine ex_s (am_nb (m := 2) (pc1 := 17) (ls1 := [(0, .ref 0), (1, .int x0)]) (st1 := [.int 9, .int x0]) (H1 := H) (k1 := 0) (n1 := 0) (by with_unfolding_all rfl)) ?_
  refine ex_s (st_icmp rfl) ?_
  refine ex_pc (if_pos c2) ?_
  refine ex_s (am_nb (m := 1) (pc1 := 42) (ls1 := [(0, .ref 0), (1, .int x0)]) (st1 := [.ref 0]) (H1 := H) (k1 := 0) (n1 := 0) (by with_unfolding_all rfl)) ?_
  refine ex_s (st_get rfl h0 rfl) ?_
  refine ex_s (st_get rfl h129 rfl) ?_
  refine ex_s (am_nb (m := 1) (pc1 := 49) (ls1 := [(0, .ref 0), (1, .int x0)]) (st1 := [.int x0, .ref 136]) (H1 := H) (k1 := 0) (n1 := 0) (by with_unfolding_all rfl)) ?_
  refine ex_cv1 (as := [.int x0]) (rest := []) rfl rfl rfl rfl h136 rfl (by with_unfolding_all rfl) (by with_unfolding_all rfl) (fx_state_1_4 h136 c3 c4 c5 c6 c7) ?_
  rintro H258 ⟨-, k258⟩
  exact ex_r (st_iret rfl rfl rfl) ⟨trivial, fun j => (k258 j)⟩

set_option maxRecDepth 100000 in
theorem fx_state_6 {sL : Nat} {sx : Nat → Int32} {cs : Nat → Nat → Option Int32} {H : am_H} {v0_13 : Int32} {v136_0 : Int32} {v136_1 : Int32} {v136_9 : Int32} {x0 : Int32} (h0 : am_is H 0 (.inr (11, [.ref 1, .int 0, .ref 2, .int 0, .ref 3, .ref 93, .ref 97, .ref 115, .ref 116, .ref 129, .ref 123, .ref 127, .ref 128, .int v0_13, .null, .int 0]))) (h123 : am_is H 123 (.inr (4, [.ref 124, .ref 125, .int 0, .int (-1), .int 0, .ref 126]))) (h129 : am_is H 129 (.inr (8, [.ref 136, .ref 130, .ref 132, .ref 134, .int 0, .int 0, .int 0, .int 0, .int 0, .int 0, .int 0, .ref 135, .int 0, .int 0, .int 0]))) (h136 : am_is H 136 (.inr (3, [.int v136_0, .int v136_1, .ref 138, .ref 139, .ref 140, .int 0, .int 0, .int 0, .int 0, .int v136_9, .int 96, .int 0, .int 0, .int 0, .int 0, .int 0, .int 0, .ref 137]))) (h130 : am_is H 130 (.inr (0, [.ref 131, .int 0, .int 0]))) (h132 : am_is H 132 (.inr (0, [.ref 133, .int 0, .int 0]))) (c1 : ¬ x0 = 18) (c2 : x0 < 9) (c3 : ¬ x0 = 0) (c4 : ¬ x0 = 1) (c5 : ¬ x0 = 2) (c6 : ¬ x0 = 3) (c7 : ¬ x0 = 4) (c8 : x0 = 5)  :
    am_E sL sx cs 251 0 [(0, .ref 0), (1, .int x0)] [] H (some (.int 0)) (fun H1 => (True) ∧ ∀ j : Nat, H1[j]? = H[j]?) := by
  refine ex_s (am_nb (m := 2) (pc1 := 3) (ls1 := [(0, .ref 0), (1, .int x0)]) (st1 := [.int 18, .int x0]) (H1 := H) (k1 := 0) (n1 := 0) (by with_unfolding_all rfl)) ?_
  refine ex_s (st_icmp rfl) ?_
  refine ex_pc (if_neg c1) ?_
  refine ex_s (am_nb (m := 2) (pc1 := 17) (ls1 := [(0, .ref 0), (1, .int x0)]) (st1 := [.int 9, .int x0]) (H1 := H) (k1 := 0) (n1 := 0) (by with_unfolding_all rfl)) ?_
  refine ex_s (st_icmp rfl) ?_
  refine ex_pc (if_pos c2) ?_
  refine ex_s (am_nb (m := 1) (pc1 := 42) (ls1 := [(0, .ref 0), (1, .int x0)]) (st1 := [.ref 0]) (H1 := H) (k1 := 0) (n1 := 0) (by with_unfolding_all rfl)) ?_
  refine ex_s (st_get rfl h0 rfl) ?_
  refine ex_s (st_get rfl h129 rfl) ?_
  refine ex_s (am_nb (m := 1) (pc1 := 49) (ls1 := [(0, .ref 0), (1, .int x0)]) (st1 := [.int x0, .ref 136]) (H1 := H) (k1 := 0) (n1 := 0) (by with_unfolding_all rfl)) ?_
  refine ex_cv1 (as := [.int x0]) (rest := []) rfl rfl rfl rfl h136 rfl (by with_unfolding_all rfl) (by with_unfolding_all rfl) (fx_state_1_5 h136 c3 c4 c5 c6 c7 c8) ?_
  rintro H259 ⟨-, k259⟩
  exact ex_r (st_iret rfl rfl rfl) ⟨trivial, fun j => (k259 j)⟩

set_option maxRecDepth 100000 in
theorem fx_state_7 {sL : Nat} {sx : Nat → Int32} {cs : Nat → Nat → Option Int32} {H : am_H} {v0_13 : Int32} {v136_0 : Int32} {v136_1 : Int32} {v136_9 : Int32} {x0 : Int32} (h0 : am_is H 0 (.inr (11, [.ref 1, .int 0, .ref 2, .int 0, .ref 3, .ref 93, .ref 97, .ref 115, .ref 116, .ref 129, .ref 123, .ref 127, .ref 128, .int v0_13, .null, .int 0]))) (h123 : am_is H 123 (.inr (4, [.ref 124, .ref 125, .int 0, .int (-1), .int 0, .ref 126]))) (h129 : am_is H 129 (.inr (8, [.ref 136, .ref 130, .ref 132, .ref 134, .int 0, .int 0, .int 0, .int 0, .int 0, .int 0, .int 0, .ref 135, .int 0, .int 0, .int 0]))) (h136 : am_is H 136 (.inr (3, [.int v136_0, .int v136_1, .ref 138, .ref 139, .ref 140, .int 0, .int 0, .int 0, .int 0, .int v136_9, .int 96, .int 0, .int 0, .int 0, .int 0, .int 0, .int 0, .ref 137]))) (h130 : am_is H 130 (.inr (0, [.ref 131, .int 0, .int 0]))) (h132 : am_is H 132 (.inr (0, [.ref 133, .int 0, .int 0]))) (c1 : ¬ x0 = 18) (c2 : x0 < 9) (c3 : ¬ x0 = 0) (c4 : ¬ x0 = 1) (c5 : ¬ x0 = 2) (c6 : ¬ x0 = 3) (c7 : ¬ x0 = 4) (c8 : ¬ x0 = 5) (c9 : x0 = 6)  :
    am_E sL sx cs 251 0 [(0, .ref 0), (1, .int x0)] [] H (some (.int 96)) (fun H1 => (True) ∧ ∀ j : Nat, H1[j]? = H[j]?) := by
  refine ex_s (am_nb (m := 2) (pc1 := 3) (ls1 := [(0, .ref 0), (1, .int x0)]) (st1 := [.int 18, .int x0]) (H1 := H) (k1 := 0) (n1 := 0) (by with_unfolding_all rfl)) ?_
  refine ex_s (st_icmp rfl) ?_
  refine ex_pc (if_neg c1) ?_
  refine ex_s (am_nb (m := 2) (pc1 := 17) (ls1 := [(0, .ref 0), (1, .int x0)]) (st1 := [.int 9, .int x0]) (H1 := H) (k1 := 0) (n1 := 0) (by with_unfolding_all rfl)) ?_
  refine ex_s (st_icmp rfl) ?_
  refine ex_pc (if_pos c2) ?_
  refine ex_s (am_nb (m := 1) (pc1 := 42) (ls1 := [(0, .ref 0), (1, .int x0)]) (st1 := [.ref 0]) (H1 := H) (k1 := 0) (n1 := 0) (by with_unfolding_all rfl)) ?_
  refine ex_s (st_get rfl h0 rfl) ?_
  refine ex_s (st_get rfl h129 rfl) ?_
  refine ex_s (am_nb (m := 1) (pc1 := 49) (ls1 := [(0, .ref 0), (1, .int x0)]) (st1 := [.int x0, .ref 136]) (H1 := H) (k1 := 0) (n1 := 0) (by with_unfolding_all rfl)) ?_
  refine ex_cv1 (as := [.int x0]) (rest := []) rfl rfl rfl rfl h136 rfl (by with_unfolding_all rfl) (by with_unfolding_all rfl) (fx_state_1_6 h136 c3 c4 c5 c6 c7 c8 c9) ?_
  rintro H260 ⟨-, k260⟩
  exact ex_r (st_iret rfl rfl rfl) ⟨trivial, fun j => (k260 j)⟩

set_option maxRecDepth 100000 in
theorem fx_state_8 {sL : Nat} {sx : Nat → Int32} {cs : Nat → Nat → Option Int32} {H : am_H} {v0_13 : Int32} {v136_0 : Int32} {v136_1 : Int32} {v136_9 : Int32} {x0 : Int32} (h0 : am_is H 0 (.inr (11, [.ref 1, .int 0, .ref 2, .int 0, .ref 3, .ref 93, .ref 97, .ref 115, .ref 116, .ref 129, .ref 123, .ref 127, .ref 128, .int v0_13, .null, .int 0]))) (h123 : am_is H 123 (.inr (4, [.ref 124, .ref 125, .int 0, .int (-1), .int 0, .ref 126]))) (h129 : am_is H 129 (.inr (8, [.ref 136, .ref 130, .ref 132, .ref 134, .int 0, .int 0, .int 0, .int 0, .int 0, .int 0, .int 0, .ref 135, .int 0, .int 0, .int 0]))) (h136 : am_is H 136 (.inr (3, [.int v136_0, .int v136_1, .ref 138, .ref 139, .ref 140, .int 0, .int 0, .int 0, .int 0, .int v136_9, .int 96, .int 0, .int 0, .int 0, .int 0, .int 0, .int 0, .ref 137]))) (h130 : am_is H 130 (.inr (0, [.ref 131, .int 0, .int 0]))) (h132 : am_is H 132 (.inr (0, [.ref 133, .int 0, .int 0]))) (c1 : ¬ x0 = 18) (c2 : x0 < 9) (c3 : ¬ x0 = 0) (c4 : ¬ x0 = 1) (c5 : ¬ x0 = 2) (c6 : ¬ x0 = 3) (c7 : ¬ x0 = 4) (c8 : ¬ x0 = 5) (c9 : ¬ x0 = 6) (c10 : x0 = 7)  :
    am_E sL sx cs 251 0 [(0, .ref 0), (1, .int x0)] [] H (some (.int 0)) (fun H1 => (True) ∧ ∀ j : Nat, H1[j]? = H[j]?) := by
  refine ex_s (am_nb (m := 2) (pc1 := 3) (ls1 := [(0, .ref 0), (1, .int x0)]) (st1 := [.int 18, .int x0]) (H1 := H) (k1 := 0) (n1 := 0) (by with_unfolding_all rfl)) ?_
  refine ex_s (st_icmp rfl) ?_
  refine ex_pc (if_neg c1) ?_
  refine ex_s (am_nb (m := 2) (pc1 := 17) (ls1 := [(0, .ref 0), (1, .int x0)]) (st1 := [.int 9, .int x0]) (H1 := H) (k1 := 0) (n1 := 0) (by with_unfolding_all rfl)) ?_
  refine ex_s (st_icmp rfl) ?_
  refine ex_pc (if_pos c2) ?_
  refine ex_s (am_nb (m := 1) (pc1 := 42) (ls1 := [(0, .ref 0), (1, .int x0)]) (st1 := [.ref 0]) (H1 := H) (k1 := 0) (n1 := 0) (by with_unfolding_all rfl)) ?_
  refine ex_s (st_get rfl h0 rfl) ?_
  refine ex_s (st_get rfl h129 rfl) ?_
  refine ex_s (am_nb (m := 1) (pc1 := 49) (ls1 := [(0, .ref 0), (1, .int x0)]) (st1 := [.int x0, .ref 136]) (H1 := H) (k1 := 0) (n1 := 0) (by with_unfolding_all rfl)) ?_
  refine ex_cv1 (as := [.int x0]) (rest := []) rfl rfl rfl rfl h136 rfl (by with_unfolding_all rfl) (by with_unfolding_all rfl) (fx_state_1_7 h136 c3 c4 c5 c6 c7 c8 c9 c10) ?_
  rintro H261 ⟨-, k261⟩
  exact ex_r (st_iret rfl rfl rfl) ⟨trivial, fun j => (k261 j)⟩

set_option maxRecDepth 100000 in
theorem fx_state_9 {sL : Nat} {sx : Nat → Int32} {cs : Nat → Nat → Option Int32} {H : am_H} {v0_13 : Int32} {v136_0 : Int32} {v136_1 : Int32} {v136_9 : Int32} {x0 : Int32} (h0 : am_is H 0 (.inr (11, [.ref 1, .int 0, .ref 2, .int 0, .ref 3, .ref 93, .ref 97, .ref 115, .ref 116, .ref 129, .ref 123, .ref 127, .ref 128, .int v0_13, .null, .int 0]))) (h123 : am_is H 123 (.inr (4, [.ref 124, .ref 125, .int 0, .int (-1), .int 0, .ref 126]))) (h129 : am_is H 129 (.inr (8, [.ref 136, .ref 130, .ref 132, .ref 134, .int 0, .int 0, .int 0, .int 0, .int 0, .int 0, .int 0, .ref 135, .int 0, .int 0, .int 0]))) (h136 : am_is H 136 (.inr (3, [.int v136_0, .int v136_1, .ref 138, .ref 139, .ref 140, .int 0, .int 0, .int 0, .int 0, .int v136_9, .int 96, .int 0, .int 0, .int 0, .int 0, .int 0, .int 0, .ref 137]))) (h130 : am_is H 130 (.inr (0, [.ref 131, .int 0, .int 0]))) (h132 : am_is H 132 (.inr (0, [.ref 133, .int 0, .int 0]))) (c1 : ¬ x0 = 18) (c2 : x0 < 9) (c3 : ¬ x0 = 0) (c4 : ¬ x0 = 1) (c5 : ¬ x0 = 2) (c6 : ¬ x0 = 3) (c7 : ¬ x0 = 4) (c8 : ¬ x0 = 5) (c9 : ¬ x0 = 6) (c10 : ¬ x0 = 7) (c11 : x0 = 8)  :
    am_E sL sx cs 251 0 [(0, .ref 0), (1, .int x0)] [] H (some (.int 0)) (fun H1 => (True) ∧ ∀ j : Nat, H1[j]? = H[j]?) := by
  refine ex_s (am_nb (m := 2) (pc1 := 3) (ls1 := [(0, .ref 0), (1, .int x0)]) (st1 := [.int 18, .int x0]) (H1 := H) (k1 := 0) (n1 := 0) (by with_unfolding_all rfl)) ?_
  refine ex_s (st_icmp rfl) ?_
  refine ex_pc (if_neg c1) ?_
  refine ex_s (am_nb (m := 2) (pc1 := 17) (ls1 := [(0, .ref 0), (1, .int x0)]) (st1 := [.int 9, .int x0]) (H1 := H) (k1 := 0) (n1 := 0) (by with_unfolding_all rfl)) ?_
  refine ex_s (st_icmp rfl) ?_
  refine ex_pc (if_pos c2) ?_
  refine ex_s (am_nb (m := 1) (pc1 := 42) (ls1 := [(0, .ref 0), (1, .int x0)]) (st1 := [.ref 0]) (H1 := H) (k1 := 0) (n1 := 0) (by with_unfolding_all rfl)) ?_
  refine ex_s (st_get rfl h0 rfl) ?_
  refine ex_s (st_get rfl h129 rfl) ?_
  refine ex_s (am_nb (m := 1) (pc1 := 49) (ls1 := [(0, .ref 0), (1, .int x0)]) (st1 := [.int x0, .ref 136]) (H1 := H) (k1 := 0) (n1 := 0) (by with_unfolding_all rfl)) ?_
  refine ex_cv1 (as := [.int x0]) (rest := []) rfl rfl rfl rfl h136 rfl (by with_unfolding_all rfl) (by with_unfolding_all rfl) (fx_state_1_8 h136 c3 c4 c5 c6 c7 c8 c9 c10 c11) ?_
  rintro H262 ⟨-, k262⟩
  exact ex_r (st_iret rfl rfl rfl) ⟨trivial, fun j => (k262 j)⟩

set_option maxRecDepth 100000 in
theorem fx_state_10 {sL : Nat} {sx : Nat → Int32} {cs : Nat → Nat → Option Int32} {H : am_H} {v0_13 : Int32} {v136_0 : Int32} {v136_1 : Int32} {v136_9 : Int32} {x0 : Int32} (h0 : am_is H 0 (.inr (11, [.ref 1, .int 0, .ref 2, .int 0, .ref 3, .ref 93, .ref 97, .ref 115, .ref 116, .ref 129, .ref 123, .ref 127, .ref 128, .int v0_13, .null, .int 0]))) (h123 : am_is H 123 (.inr (4, [.ref 124, .ref 125, .int 0, .int (-1), .int 0, .ref 126]))) (h129 : am_is H 129 (.inr (8, [.ref 136, .ref 130, .ref 132, .ref 134, .int 0, .int 0, .int 0, .int 0, .int 0, .int 0, .int 0, .ref 135, .int 0, .int 0, .int 0]))) (h136 : am_is H 136 (.inr (3, [.int v136_0, .int v136_1, .ref 138, .ref 139, .ref 140, .int 0, .int 0, .int 0, .int 0, .int v136_9, .int 96, .int 0, .int 0, .int 0, .int 0, .int 0, .int 0, .ref 137]))) (h130 : am_is H 130 (.inr (0, [.ref 131, .int 0, .int 0]))) (h132 : am_is H 132 (.inr (0, [.ref 133, .int 0, .int 0]))) (c1 : ¬ x0 = 18) (c2 : x0 < 9) (c3 : ¬ x0 = 0) (c4 : ¬ x0 = 1) (c5 : ¬ x0 = 2) (c6 : ¬ x0 = 3) (c7 : ¬ x0 = 4) (c8 : ¬ x0 = 5) (c9 : ¬ x0 = 6) (c10 : ¬ x0 = 7) (c11 : ¬ x0 = 8) (c12 : x0 = 9)  :
    am_E sL sx cs 251 0 [(0, .ref 0), (1, .int x0)] [] H (some (.int (-1))) (fun H1 => (True) ∧ ∀ j : Nat, H1[j]? = H[j]?) := by
  refine ex_s (am_nb (m := 2) (pc1 := 3) (ls1 := [(0, .ref 0), (1, .int x0)]) (st1 := [.int 18, .int x0]) (H1 := H) (k1 := 0) (n1 := 0) (by with_unfolding_all rfl)) ?_
  refine ex_s (st_icmp rfl) ?_
  refine ex_pc (if_neg c1) ?_
  refine ex_s (am_nb (m := 2) (pc1 := 17) (ls1 := [(0, .ref 0), (1, .int x0)]) (st1 := [.int 9, .int x0]) (H1 := H) (k1 := 0) (n1 := 0) (by with_unfolding_all rfl)) ?_
  refine ex_s (st_icmp rfl) ?_
  refine ex_pc (if_pos c2) ?_
  refine ex_s (am_nb (m := 1) (pc1 := 42) (ls1 := [(0, .ref 0), (1, .int x0)]) (st1 := [.ref 0]) (H1 := H) (k1 := 0) (n1 := 0) (by with_unfolding_all rfl)) ?_
  refine ex_s (st_get rfl h0 rfl) ?_
  refine ex_s (st_get rfl h129 rfl) ?_
  refine ex_s (am_nb (m := 1) (pc1 := 49) (ls1 := [(0, .ref 0), (1, .int x0)]) (st1 := [.int x0, .ref 136]) (H1 := H) (k1 := 0) (n1 := 0) (by with_unfolding_all rfl)) ?_
  refine ex_cv1 (as := [.int x0]) (rest := []) rfl rfl rfl rfl h136 rfl (by with_unfolding_all rfl) (by with_unfolding_all rfl) (fx_state_1_9 h136 c3 c4 c5 c6 c7 c8 c9 c10 c11 c12) ?_
  rintro H263 ⟨-, k263⟩
  exact ex_r (st_iret rfl rfl rfl) ⟨trivial, fun j => (k263 j)⟩

set_option maxRecDepth 100000 in
theorem fx_state_11 {sL : Nat} {sx : Nat → Int32} {cs : Nat → Nat → Option Int32} {H : am_H} {v0_13 : Int32} {v136_0 : Int32} {v136_1 : Int32} {v136_9 : Int32} {x0 : Int32} (h0 : am_is H 0 (.inr (11, [.ref 1, .int 0, .ref 2, .int 0, .ref 3, .ref 93, .ref 97, .ref 115, .ref 116, .ref 129, .ref 123, .ref 127, .ref 128, .int v0_13, .null, .int 0]))) (h123 : am_is H 123 (.inr (4, [.ref 124, .ref 125, .int 0, .int (-1), .int 0, .ref 126]))) (h129 : am_is H 129 (.inr (8, [.ref 136, .ref 130, .ref 132, .ref 134, .int 0, .int 0, .int 0, .int 0, .int 0, .int 0, .int 0, .ref 135, .int 0, .int 0, .int 0]))) (h136 : am_is H 136 (.inr (3, [.int v136_0, .int v136_1, .ref 138, .ref 139, .ref 140, .int 0, .int 0, .int 0, .int 0, .int v136_9, .int 96, .int 0, .int 0, .int 0, .int 0, .int 0, .int 0, .ref 137]))) (h130 : am_is H 130 (.inr (0, [.ref 131, .int 0, .int 0]))) (h132 : am_is H 132 (.inr (0, [.ref 133, .int 0, .int 0]))) (c1 : ¬ x0 = 18) (c2 : x0 < 9) (c3 : ¬ x0 = 0) (c4 : ¬ x0 = 1) (c5 : ¬ x0 = 2) (c6 : ¬ x0 = 3) (c7 : ¬ x0 = 4) (c8 : ¬ x0 = 5) (c9 : ¬ x0 = 6) (c10 : ¬ x0 = 7) (c11 : ¬ x0 = 8) (c12 : ¬ x0 = 9) (c13 : x0 = 10)  :
    am_E sL sx cs 251 0 [(0, .ref 0), (1, .int x0)] [] H (some (.int 0)) (fun H1 => (True) ∧ ∀ j : Nat, H1[j]? = H[j]?) := by
  refine ex_s (am_nb (m := 2) (pc1 := 3) (ls1 := [(0, .ref 0), (1, .int x0)]) (st1 := [.int 18, .int x0]) (H1 := H) (k1 := 0) (n1 := 0) (by with_unfolding_all rfl)) ?_
  refine ex_s (st_icmp rfl) ?_
  refine ex_pc (if_neg c1) ?_
  refine ex_s (am_nb (m := 2) (pc1 := 17) (ls1 := [(0, .ref 0), (1, .int x0)]) (st1 := [.int 9, .int x0]) (H1 := H) (k1 := 0) (n1 := 0) (by with_unfolding_all rfl)) ?_
  refine ex_s (st_icmp rfl) ?_
  refine ex_pc (if_pos c2) ?_
  refine ex_s (am_nb (m := 1) (pc1 := 42) (ls1 := [(0, .ref 0), (1, .int x0)]) (st1 := [.ref 0]) (H1 := H) (k1 := 0) (n1 := 0) (by with_unfolding_all rfl)) ?_
  refine ex_s (st_get rfl h0 rfl) ?_
  refine ex_s (st_get rfl h129 rfl) ?_
  refine ex_s (am_nb (m := 1) (pc1 := 49) (ls1 := [(0, .ref 0), (1, .int x0)]) (st1 := [.int x0, .ref 136]) (H1 := H) (k1 := 0) (n1 := 0) (by with_unfolding_all rfl)) ?_
  refine ex_cv1 (as := [.int x0]) (rest := []) rfl rfl rfl rfl h136 rfl (by with_unfolding_all rfl) (by with_unfolding_all rfl) (fx_state_1_10 h136 c3 c4 c5 c6 c7 c8 c9 c10 c11 c12 c13) ?_
  rintro H264 ⟨-, k264⟩
  exact ex_r (st_iret rfl rfl rfl) ⟨trivial, fun j => (k264 j)⟩

set_option maxRecDepth 100000 in
theorem fx_state_12 {sL : Nat} {sx : Nat → Int32} {cs : Nat → Nat → Option Int32} {H : am_H} {v0_13 : Int32} {v136_0 : Int32} {v136_1 : Int32} {v136_9 : Int32} {x0 : Int32} (h0 : am_is H 0 (.inr (11, [.ref 1, .int 0, .ref 2, .int 0, .ref 3, .ref 93, .ref 97, .ref 115, .ref 116, .ref 129, .ref 123, .ref 127, .ref 128, .int v0_13, .null, .int 0]))) (h123 : am_is H 123 (.inr (4, [.ref 124, .ref 125, .int 0, .int (-1), .int 0, .ref 126]))) (h129 : am_is H 129 (.inr (8, [.ref 136, .ref 130, .ref 132, .ref 134, .int 0, .int 0, .int 0, .int 0, .int 0, .int 0, .int 0, .ref 135, .int 0, .int 0, .int 0]))) (h136 : am_is H 136 (.inr (3, [.int v136_0, .int v136_1, .ref 138, .ref 139, .ref 140, .int 0, .int 0, .int 0, .int 0, .int v136_9, .int 96, .int 0, .int 0, .int 0, .int 0, .int 0, .int 0, .ref 137]))) (h130 : am_is H 130 (.inr (0, [.ref 131, .int 0, .int 0]))) (h132 : am_is H 132 (.inr (0, [.ref 133, .int 0, .int 0]))) (c1 : ¬ x0 = 18) (c2 : x0 < 9) (c3 : ¬ x0 = 0) (c4 : ¬ x0 = 1) (c5 : ¬ x0 = 2) (c6 : ¬ x0 = 3) (c7 : ¬ x0 = 4) (c8 : ¬ x0 = 5) (c9 : ¬ x0 = 6) (c10 : ¬ x0 = 7) (c11 : ¬ x0 = 8) (c12 : ¬ x0 = 9) (c13 : ¬ x0 = 10) (c14 : x0 = 11)  :
    am_E sL sx cs 251 0 [(0, .ref 0), (1, .int x0)] [] H (some (.int (-1))) (fun H1 => (True) ∧ ∀ j : Nat, H1[j]? = H[j]?) := by
  refine ex_s (am_nb (m := 2) (pc1 := 3) (ls1 := [(0, .ref 0), (1, .int x0)]) (st1 := [.int 18, .int x0]) (H1 := H) (k1 := 0) (n1 := 0) (by with_unfolding_all rfl)) ?_
  refine ex_s (st_icmp rfl) ?_
  refine ex_pc (if_neg c1) ?_
  refine ex_s (am_nb (m := 2) (pc1 := 17) (ls1 := [(0, .ref 0), (1, .int x0)]) (st1 := [.int 9, .int x0]) (H1 := H) (k1 := 0) (n1 := 0) (by with_unfolding_all rfl)) ?_
  refine ex_s (st_icmp rfl) ?_
  refine ex_pc (if_pos c2) ?_
  refine ex_s (am_nb (m := 1) (pc1 := 42) (ls1 := [(0, .ref 0), (1, .int x0)]) (st1 := [.ref 0]) (H1 := H) (k1 := 0) (n1 := 0) (by with_unfolding_all rfl)) ?_
  refine ex_s (st_get rfl h0 rfl) ?_
  refine ex_s (st_get rfl h129 rfl) ?_
  refine ex_s (am_nb (m := 1) (pc1 := 49) (ls1 := [(0, .ref 0), (1, .int x0)]) (st1 := [.int x0, .ref 136]) (H1 := H) (k1 := 0) (n1 := 0) (by with_unfolding_all rfl)) ?_
  refine ex_cv1 (as := [.int x0]) (rest := []) rfl rfl rfl rfl h136 rfl (by with_unfolding_all rfl) (by with_unfolding_all rfl) (fx_state_1_11 h136 c3 c4 c5 c6 c7 c8 c9 c10 c11 c12 c13 c14) ?_
  rintro H265 ⟨-, k265⟩
  exact ex_r (st_iret rfl rfl rfl) ⟨trivial, fun j => (k265 j)⟩

set_option maxRecDepth 100000 in
theorem fx_state_13 {sL : Nat} {sx : Nat → Int32} {cs : Nat → Nat → Option Int32} {H : am_H} {v0_13 : Int32} {v136_0 : Int32} {v136_1 : Int32} {v136_9 : Int32} {x0 : Int32} (h0 : am_is H 0 (.inr (11, [.ref 1, .int 0, .ref 2, .int 0, .ref 3, .ref 93, .ref 97, .ref 115, .ref 116, .ref 129, .ref 123, .ref 127, .ref 128, .int v0_13, .null, .int 0]))) (h123 : am_is H 123 (.inr (4, [.ref 124, .ref 125, .int 0, .int (-1), .int 0, .ref 126]))) (h129 : am_is H 129 (.inr (8, [.ref 136, .ref 130, .ref 132, .ref 134, .int 0, .int 0, .int 0, .int 0, .int 0, .int 0, .int 0, .ref 135, .int 0, .int 0, .int 0]))) (h136 : am_is H 136 (.inr (3, [.int v136_0, .int v136_1, .ref 138, .ref 139, .ref 140, .int 0, .int 0, .int 0, .int 0, .int v136_9, .int 96, .int 0, .int 0, .int 0, .int 0, .int 0, .int 0, .ref 137]))) (h130 : am_is H 130 (.inr (0, [.ref 131, .int 0, .int 0]))) (h132 : am_is H 132 (.inr (0, [.ref 133, .int 0, .int 0]))) (c1 : ¬ x0 = 18) (c2 : x0 < 9) (c3 : ¬ x0 = 0) (c4 : ¬ x0 = 1) (c5 : ¬ x0 = 2) (c6 : ¬ x0 = 3) (c7 : ¬ x0 = 4) (c8 : ¬ x0 = 5) (c9 : ¬ x0 = 6) (c10 : ¬ x0 = 7) (c11 : ¬ x0 = 8) (c12 : ¬ x0 = 9) (c13 : ¬ x0 = 10) (c14 : ¬ x0 = 11) (c15 : x0 = 12)  :
    am_E sL sx cs 251 0 [(0, .ref 0), (1, .int x0)] [] H (some (.int (-1))) (fun H1 => (True) ∧ ∀ j : Nat, H1[j]? = H[j]?) := by
  refine ex_s (am_nb (m := 2) (pc1 := 3) (ls1 := [(0, .ref 0), (1, .int x0)]) (st1 := [.int 18, .int x0]) (H1 := H) (k1 := 0) (n1 := 0) (by with_unfolding_all rfl)) ?_
  refine ex_s (st_icmp rfl) ?_
  refine ex_pc (if_neg c1) ?_
  refine ex_s (am_nb (m := 2) (pc1 := 17) (ls1 := [(0, .ref 0), (1, .int x0)]) (st1 := [.int 9, .int x0]) (H1 := H) (k1 := 0) (n1 := 0) (by with_unfolding_all rfl)) ?_
  refine ex_s (st_icmp rfl) ?_
  refine ex_pc (if_pos c2) ?_
  refine ex_s (am_nb (m := 1) (pc1 := 42) (ls1 := [(0, .ref 0), (1, .int x0)]) (st1 := [.ref 0]) (H1 := H) (k1 := 0) (n1 := 0) (by with_unfolding_all rfl)) ?_
  refine ex_s (st_get rfl h0 rfl) ?_
  refine ex_s (st_get rfl h129 rfl) ?_
  refine ex_s (am_nb (m := 1) (pc1 := 49) (ls1 := [(0, .ref 0), (1, .int x0)]) (st1 := [.int x0, .ref 136]) (H1 := H) (k1 := 0) (n1 := 0) (by with_unfolding_all rfl)) ?_
  refine ex_cv1 (as := [.int x0]) (rest := []) rfl rfl rfl rfl h136 rfl (by with_unfolding_all rfl) (by with_unfolding_all rfl) (fx_state_1_12 h136 c3 c4 c5 c6 c7 c8 c9 c10 c11 c12 c13 c14 c15) ?_
  rintro H266 ⟨-, k266⟩
  exact ex_r (st_iret rfl rfl rfl) ⟨trivial, fun j => (k266 j)⟩

set_option maxRecDepth 100000 in
theorem fx_state_14 {sL : Nat} {sx : Nat → Int32} {cs : Nat → Nat → Option Int32} {H : am_H} {v0_13 : Int32} {v136_0 : Int32} {v136_1 : Int32} {v136_9 : Int32} {x0 : Int32} (h0 : am_is H 0 (.inr (11, [.ref 1, .int 0, .ref 2, .int 0, .ref 3, .ref 93, .ref 97, .ref 115, .ref 116, .ref 129, .ref 123, .ref 127, .ref 128, .int v0_13, .null, .int 0]))) (h123 : am_is H 123 (.inr (4, [.ref 124, .ref 125, .int 0, .int (-1), .int 0, .ref 126]))) (h129 : am_is H 129 (.inr (8, [.ref 136, .ref 130, .ref 132, .ref 134, .int 0, .int 0, .int 0, .int 0, .int 0, .int 0, .int 0, .ref 135, .int 0, .int 0, .int 0]))) (h136 : am_is H 136 (.inr (3, [.int v136_0, .int v136_1, .ref 138, .ref 139, .ref 140, .int 0, .int 0, .int 0, .int 0, .int v136_9, .int 96, .int 0, .int 0, .int 0, .int 0, .int 0, .int 0, .ref 137]))) (h130 : am_is H 130 (.inr (0, [.ref 131, .int 0, .int 0]))) (h132 : am_is H 132 (.inr (0, [.ref 133, .int 0, .int 0]))) (c1 : ¬ x0 = 18) (c2 : x0 < 9) (c3 : ¬ x0 = 0) (c4 : ¬ x0 = 1) (c5 : ¬ x0 = 2) (c6 : ¬ x0 = 3) (c7 : ¬ x0 = 4) (c8 : ¬ x0 = 5) (c9 : ¬ x0 = 6) (c10 : ¬ x0 = 7) (c11 : ¬ x0 = 8) (c12 : ¬ x0 = 9) (c13 : ¬ x0 = 10) (c14 : ¬ x0 = 11) (c15 : ¬ x0 = 12) (c16 : x0 = 13)  :
    am_E sL sx cs 251 0 [(0, .ref 0), (1, .int x0)] [] H (some (.int (-1))) (fun H1 => (True) ∧ ∀ j : Nat, H1[j]? = H[j]?) := by
  refine ex_s (am_nb (m := 2) (pc1 := 3) (ls1 := [(0, .ref 0), (1, .int x0)]) (st1 := [.int 18, .int x0]) (H1 := H) (k1 := 0) (n1 := 0) (by with_unfolding_all rfl)) ?_
  refine ex_s (st_icmp rfl) ?_
  refine ex_pc (if_neg c1) ?_
  refine ex_s (am_nb (m := 2) (pc1 := 17) (ls1 := [(0, .ref 0), (1, .int x0)]) (st1 := [.int 9, .int x0]) (H1 := H) (k1 := 0) (n1 := 0) (by with_unfolding_all rfl)) ?_
  refine ex_s (st_icmp rfl) ?_
  refine ex_pc (if_pos c2) ?_
  refine ex_s (am_nb (m := 1) (pc1 := 42) (ls1 := [(0, .ref 0), (1, .int x0)]) (st1 := [.ref 0]) (H1 := H) (k1 := 0) (n1 := 0) (by with_unfolding_all rfl)) ?_
  refine ex_s (st_get rfl h0 rfl) ?_
  refine ex_s (st_get rfl h129 rfl) ?_
  refine ex_s (am_nb (m := 1) (pc1 := 49) (ls1 := [(0, .ref 0), (1, .int x0)]) (st1 := [.int x0, .ref 136]) (H1 := H) (k1 := 0) (n1 := 0) (by with_unfolding_all rfl)) ?_
  refine ex_cv1 (as := [.int x0]) (rest := []) rfl rfl rfl rfl h136 rfl (by with_unfolding_all rfl) (by with_unfolding_all rfl) (fx_state_1_13 h136 c3 c4 c5 c6 c7 c8 c9 c10 c11 c12 c13 c14 c15 c16) ?_
  rintro H267 ⟨-, k267⟩
  exact ex_r (st_iret rfl rfl rfl) ⟨trivial, fun j => (k267 j)⟩

set_option maxRecDepth 100000 in
theorem fx_state_15 {sL : Nat} {sx : Nat → Int32} {cs : Nat → Nat → Option Int32} {H : am_H} {v0_13 : Int32} {v136_0 : Int32} {v136_1 : Int32} {v136_9 : Int32} {x0 : Int32} (h0 : am_is H 0 (.inr (11, [.ref 1, .int 0, .ref 2, .int 0, .ref 3, .ref 93, .ref 97, .ref 115, .ref 116, .ref 129, .ref 123, .ref 127, .ref 128, .int v0_13, .null, .int 0]))) (h123 : am_is H 123 (.inr (4, [.ref 124, .ref 125, .int 0, .int (-1), .int 0, .ref 126]))) (h129 : am_is H 129 (.inr (8, [.ref 136, .ref 130, .ref 132, .ref 134, .int 0, .int 0, .int 0, .int 0, .int 0, .int 0, .int 0, .ref 135, .int 0, .int 0, .int 0]))) (h136 : am_is H 136 (.inr (3, [.int v136_0, .int v136_1, .ref 138, .ref 139, .ref 140, .int 0, .int 0, .int 0, .int 0, .int v136_9, .int 96, .int 0, .int 0, .int 0, .int 0, .int 0, .int 0, .ref 137]))) (h130 : am_is H 130 (.inr (0, [.ref 131, .int 0, .int 0]))) (h132 : am_is H 132 (.inr (0, [.ref 133, .int 0, .int 0]))) (c1 : ¬ x0 = 18) (c2 : x0 < 9) (c3 : ¬ x0 = 0) (c4 : ¬ x0 = 1) (c5 : ¬ x0 = 2) (c6 : ¬ x0 = 3) (c7 : ¬ x0 = 4) (c8 : ¬ x0 = 5) (c9 : ¬ x0 = 6) (c10 : ¬ x0 = 7) (c11 : ¬ x0 = 8) (c12 : ¬ x0 = 9) (c13 : ¬ x0 = 10) (c14 : ¬ x0 = 11) (c15 : ¬ x0 = 12) (c16 : ¬ x0 = 13) (c17 : x0 = 14)  :
    am_E sL sx cs 251 0 [(0, .ref 0), (1, .int x0)] [] H (some (.int (-1))) (fun H1 => (True) ∧ ∀ j : Nat, H1[j]? = H[j]?) := by
  refine ex_s (am_nb (m := 2) (pc1 := 3) (ls1 := [(0, .ref 0), (1, .int x0)]) (st1 := [.int 18, .int x0]) (H1 := H) (k1 := 0) (n1 := 0) (by with_unfolding_all rfl)) ?_
  refine ex_s (st_icmp rfl) ?_
  refine ex_pc (if_neg c1) ?_
  refine ex_s (am_nb (m := 2) (pc1 := 17) (ls1 := [(0, .ref 0), (1, .int x0)]) (st1 := [.int 9, .int x0]) (H1 := H) (k1 := 0) (n1 := 0) (by with_unfolding_all rfl)) ?_
  refine ex_s (st_icmp rfl) ?_
  refine ex_pc (if_pos c2) ?_
  refine ex_s (am_nb (m := 1) (pc1 := 42) (ls1 := [(0, .ref 0), (1, .int x0)]) (st1 := [.ref 0]) (H1 := H) (k1 := 0) (n1 := 0) (by with_unfolding_all rfl)) ?_
  refine ex_s (st_get rfl h0 rfl) ?_
  refine ex_s (st_get rfl h129 rfl) ?_
  refine ex_s (am_nb (m := 1) (pc1 := 49) (ls1 := [(0, .ref 0), (1, .int x0)]) (st1 := [.int x0, .ref 136]) (H1 := H) (k1 := 0) (n1 := 0) (by with_unfolding_all rfl)) ?_
  refine ex_cv1 (as := [.int x0]) (rest := []) rfl rfl rfl rfl h136 rfl (by with_unfolding_all rfl) (by with_unfolding_all rfl) (fx_state_1_14 h136 c3 c4 c5 c6 c7 c8 c9 c10 c11 c12 c13 c14 c15 c16 c17) ?_
  rintro H268 ⟨-, k268⟩
  exact ex_r (st_iret rfl rfl rfl) ⟨trivial, fun j => (k268 j)⟩

set_option maxRecDepth 100000 in
theorem fx_state_16 {sL : Nat} {sx : Nat → Int32} {cs : Nat → Nat → Option Int32} {H : am_H} {v0_13 : Int32} {v136_0 : Int32} {v136_1 : Int32} {v136_9 : Int32} {x0 : Int32} (h0 : am_is H 0 (.inr (11, [.ref 1, .int 0, .ref 2, .int 0, .ref 3, .ref 93, .ref 97, .ref 115, .ref 116, .ref 129, .ref 123, .ref 127, .ref 128, .int v0_13, .null, .int 0]))) (h123 : am_is H 123 (.inr (4, [.ref 124, .ref 125, .int 0, .int (-1), .int 0, .ref 126]))) (h129 : am_is H 129 (.inr (8, [.ref 136, .ref 130, .ref 132, .ref 134, .int 0, .int 0, .int 0, .int 0, .int 0, .int 0, .int 0, .ref 135, .int 0, .int 0, .int 0]))) (h136 : am_is H 136 (.inr (3, [.int v136_0, .int v136_1, .ref 138, .ref 139, .ref 140, .int 0, .int 0, .int 0, .int 0, .int v136_9, .int 96, .int 0, .int 0, .int 0, .int 0, .int 0, .int 0, .ref 137]))) (h130 : am_is H 130 (.inr (0, [.ref 131, .int 0, .int 0]))) (h132 : am_is H 132 (.inr (0, [.ref 133, .int 0, .int 0]))) (c1 : ¬ x0 = 18) (c2 : x0 < 9) (c3 : ¬ x0 = 0) (c4 : ¬ x0 = 1) (c5 : ¬ x0 = 2) (c6 : ¬ x0 = 3) (c7 : ¬ x0 = 4) (c8 : ¬ x0 = 5) (c9 : ¬ x0 = 6) (c10 : ¬ x0 = 7) (c11 : ¬ x0 = 8) (c12 : ¬ x0 = 9) (c13 : ¬ x0 = 10) (c14 : ¬ x0 = 11) (c15 : ¬ x0 = 12) (c16 : ¬ x0 = 13) (c17 : ¬ x0 = 14) (c18 : x0 = 15)  :
    am_E sL sx cs 251 0 [(0, .ref 0), (1, .int x0)] [] H (some (.int (-1))) (fun H1 => (True) ∧ ∀ j : Nat, H1[j]? = H[j]?) := by
  refine ex_s (am_nb (m := 2) (pc1 := 3) (ls1 := [(0, .ref 0), (1, .int x0)]) (st1 := [.int 18, .int x0]) (H1 := H) (k1 := 0) (n1 := 0) (by with_unfolding_all rfl)) ?_
  refine ex_s (st_icmp rfl) ?_
  refine ex_pc (if_neg c1) ?_
  refine ex_s (am_nb (m := 2) (pc1 := 17) (ls1 := [(0, .ref 0), (1, .int x0)]) (st1 := [.int 9, .int x0]) (H1 := H) (k1 := 0) (n1 := 0) (by with_unfolding_all rfl)) ?_
  refine ex_s (st_icmp rfl) ?_
  refine ex_pc (if_pos c2) ?_
  refine ex_s (am_nb (m := 1) (pc1 := 42) (ls1 := [(0, .ref 0), (1, .int x0)]) (st1 := [.ref 0]) (H1 := H) (k1 := 0) (n1 := 0) (by with_unfolding_all rfl)) ?_
  refine ex_s (st_get rfl h0 rfl) ?_
  refine ex_s (st_get rfl h129 rfl) ?_
  refine ex_s (am_nb (m := 1) (pc1 := 49) (ls1 := [(0, .ref 0), (1, .int x0)]) (st1 := [.int x0, .ref 136]) (H1 := H) (k1 := 0) (n1 := 0) (by with_unfolding_all rfl)) ?_
  refine ex_cv1 (as := [.int x0]) (rest := []) rfl rfl rfl rfl h136 rfl (by with_unfolding_all rfl) (by with_unfolding_all rfl) (fx_state_1_15 h136 c3 c4 c5 c6 c7 c8 c9 c10 c11 c12 c13 c14 c15 c16 c17 c18) ?_
  rintro H269 ⟨-, k269⟩
  exact ex_r (st_iret rfl rfl rfl) ⟨trivial, fun j => (k269 j)⟩

set_option maxRecDepth 100000 in
theorem fx_state_17 {sL : Nat} {sx : Nat → Int32} {cs : Nat → Nat → Option Int32} {H : am_H} {v0_13 : Int32} {v136_0 : Int32} {v136_1 : Int32} {v136_9 : Int32} {x0 : Int32} (h0 : am_is H 0 (.inr (11, [.ref 1, .int 0, .ref 2, .int 0, .ref 3, .ref 93, .ref 97, .ref 115, .ref 116, .ref 129, .ref 123, .ref 127, .ref 128, .int v0_13, .null, .int 0]))) (h123 : am_is H 123 (.inr (4, [.ref 124, .ref 125, .int 0, .int (-1), .int 0, .ref 126]))) (h129 : am_is H 129 (.inr (8, [.ref 136, .ref 130, .ref 132, .ref 134, .int 0, .int 0, .int 0, .int 0, .int 0, .int 0, .int 0, .ref 135, .int 0, .int 0, .int 0]))) (h136 : am_is H 136 (.inr (3, [.int v136_0, .int v136_1, .ref 138, .ref 139, .ref 140, .int 0, .int 0, .int 0, .int 0, .int v136_9, .int 96, .int 0, .int 0, .int 0, .int 0, .int 0, .int 0, .ref 137]))) (h130 : am_is H 130 (.inr (0, [.ref 131, .int 0, .int 0]))) (h132 : am_is H 132 (.inr (0, [.ref 133, .int 0, .int 0]))) (c1 : ¬ x0 = 18) (c2 : x0 < 9) (c3 : ¬ x0 = 0) (c4 : ¬ x0 = 1) (c5 : ¬ x0 = 2) (c6 : ¬ x0 = 3) (c7 : ¬ x0 = 4) (c8 : ¬ x0 = 5) (c9 : ¬ x0 = 6) (c10 : ¬ x0 = 7) (c11 : ¬ x0 = 8) (c12 : ¬ x0 = 9) (c13 : ¬ x0 = 10) (c14 : ¬ x0 = 11) (c15 : ¬ x0 = 12) (c16 : ¬ x0 = 13) (c17 : ¬ x0 = 14) (c18 : ¬ x0 = 15) (c19 : x0 = 16)  :
    am_E sL sx cs 251 0 [(0, .ref 0), (1, .int x0)] [] H (some (.int (-1))) (fun H1 => (True) ∧ ∀ j : Nat, H1[j]? = H[j]?) := by
  refine ex_s (am_nb (m := 2) (pc1 := 3) (ls1 := [(0, .ref 0), (1, .int x0)]) (st1 := [.int 18, .int x0]) (H1 := H) (k1 := 0) (n1 := 0) (by with_unfolding_all rfl)) ?_
  refine ex_s (st_icmp rfl) ?_
  refine ex_pc (if_neg c1) ?_
  refine ex_s (am_nb (m := 2) (pc1 := 17) (ls1 := [(0, .ref 0), (1, .int x0)]) (st1 := [.int 9, .int x0]) (H1 := H) (k1 := 0) (n1 := 0) (by with_unfolding_all rfl)) ?_
  refine ex_s (st_icmp rfl) ?_
  refine ex_pc (if_pos c2) ?_
  refine ex_s (am_nb (m := 1) (pc1 := 42) (ls1 := [(0, .ref 0), (1, .int x0)]) (st1 := [.ref 0]) (H1 := H) (k1 := 0) (n1 := 0) (by with_unfolding_all rfl)) ?_
  refine ex_s (st_get rfl h0 rfl) ?_
  refine ex_s (st_get rfl h129 rfl) ?_
  refine ex_s (am_nb (m := 1) (pc1 := 49) (ls1 := [(0, .ref 0), (1, .int x0)]) (st1 := [.int x0, .ref 136]) (H1 := H) (k1 := 0) (n1 := 0) (by with_unfolding_all rfl)) ?_
  refine ex_cv1 (as := [.int x0]) (rest := []) rfl rfl rfl rfl h136 rfl (by with_unfolding_all rfl) (by with_unfolding_all rfl) (fx_state_1_16 h136 c3 c4 c5 c6 c7 c8 c9 c10 c11 c12 c13 c14 c15 c16 c17 c18 c19) ?_
  rintro H270 ⟨-, k270⟩
  exact ex_r (st_iret rfl rfl rfl) ⟨trivial, fun j => (k270 j)⟩

set_option maxRecDepth 100000 in
theorem fx_state_18 {sL : Nat} {sx : Nat → Int32} {cs : Nat → Nat → Option Int32} {H : am_H} {v0_13 : Int32} {v136_0 : Int32} {v136_1 : Int32} {v136_9 : Int32} {x0 : Int32} (h0 : am_is H 0 (.inr (11, [.ref 1, .int 0, .ref 2, .int 0, .ref 3, .ref 93, .ref 97, .ref 115, .ref 116, .ref 129, .ref 123, .ref 127, .ref 128, .int v0_13, .null, .int 0]))) (h123 : am_is H 123 (.inr (4, [.ref 124, .ref 125, .int 0, .int (-1), .int 0, .ref 126]))) (h129 : am_is H 129 (.inr (8, [.ref 136, .ref 130, .ref 132, .ref 134, .int 0, .int 0, .int 0, .int 0, .int 0, .int 0, .int 0, .ref 135, .int 0, .int 0, .int 0]))) (h136 : am_is H 136 (.inr (3, [.int v136_0, .int v136_1, .ref 138, .ref 139, .ref 140, .int 0, .int 0, .int 0, .int 0, .int v136_9, .int 96, .int 0, .int 0, .int 0, .int 0, .int 0, .int 0, .ref 137]))) (h130 : am_is H 130 (.inr (0, [.ref 131, .int 0, .int 0]))) (h132 : am_is H 132 (.inr (0, [.ref 133, .int 0, .int 0]))) (c1 : ¬ x0 = 18) (c2 : x0 < 9) (c3 : ¬ x0 = 0) (c4 : ¬ x0 = 1) (c5 : ¬ x0 = 2) (c6 : ¬ x0 = 3) (c7 : ¬ x0 = 4) (c8 : ¬ x0 = 5) (c9 : ¬ x0 = 6) (c10 : ¬ x0 = 7) (c11 : ¬ x0 = 8) (c12 : ¬ x0 = 9) (c13 : ¬ x0 = 10) (c14 : ¬ x0 = 11) (c15 : ¬ x0 = 12) (c16 : ¬ x0 = 13) (c17 : ¬ x0 = 14) (c18 : ¬ x0 = 15) (c19 : ¬ x0 = 16) (c20 : x0 = 17)  :
    am_E sL sx cs 251 0 [(0, .ref 0), (1, .int x0)] [] H (some (.int 0)) (fun H1 => (True) ∧ ∀ j : Nat, H1[j]? = H[j]?) := by
  refine ex_s (am_nb (m := 2) (pc1 := 3) (ls1 := [(0, .ref 0), (1, .int x0)]) (st1 := [.int 18, .int x0]) (H1 := H) (k1 := 0) (n1 := 0) (by with_unfolding_all rfl)) ?_
  refine ex_s (st_icmp rfl) ?_
  refine ex_pc (if_neg c1) ?_
  refine ex_s (am_nb (m := 2) (pc1 := 17) (ls1 := [(0, .ref 0), (1, .int x0)]) (st1 := [.int 9, .int x0]) (H1 := H) (k1 := 0) (n1 := 0) (by with_unfolding_all rfl)) ?_
  refine ex_s (st_icmp rfl) ?_
  refine ex_pc (if_pos c2) ?_
  refine ex_s (am_nb (m := 1) (pc1 := 42) (ls1 := [(0, .ref 0), (1, .int x0)]) (st1 := [.ref 0]) (H1 := H) (k1 := 0) (n1 := 0) (by with_unfolding_all rfl)) ?_
  refine ex_s (st_get rfl h0 rfl) ?_
  refine ex_s (st_get rfl h129 rfl) ?_
  refine ex_s (am_nb (m := 1) (pc1 := 49) (ls1 := [(0, .ref 0), (1, .int x0)]) (st1 := [.int x0, .ref 136]) (H1 := H) (k1 := 0) (n1 := 0) (by with_unfolding_all rfl)) ?_
  refine ex_cv1 (as := [.int x0]) (rest := []) rfl rfl rfl rfl h136 rfl (by with_unfolding_all rfl) (by with_unfolding_all rfl) (fx_state_1_17 h136 c3 c4 c5 c6 c7 c8 c9 c10 c11 c12 c13 c14 c15 c16 c17 c18 c19 c20) ?_
  rintro H271 ⟨-, k271⟩
  exact ex_r (st_iret rfl rfl rfl) ⟨trivial, fun j => (k271 j)⟩

set_option maxRecDepth 100000 in
theorem fx_state_19 {sL : Nat} {sx : Nat → Int32} {cs : Nat → Nat → Option Int32} {H : am_H} {v0_13 : Int32} {v136_0 : Int32} {v136_1 : Int32} {v136_9 : Int32} {x0 : Int32} (h0 : am_is H 0 (.inr (11, [.ref 1, .int 0, .ref 2, .int 0, .ref 3, .ref 93, .ref 97, .ref 115, .ref 116, .ref 129, .ref 123, .ref 127, .ref 128, .int v0_13, .null, .int 0]))) (h123 : am_is H 123 (.inr (4, [.ref 124, .ref 125, .int 0, .int (-1), .int 0, .ref 126]))) (h129 : am_is H 129 (.inr (8, [.ref 136, .ref 130, .ref 132, .ref 134, .int 0, .int 0, .int 0, .int 0, .int 0, .int 0, .int 0, .ref 135, .int 0, .int 0, .int 0]))) (h136 : am_is H 136 (.inr (3, [.int v136_0, .int v136_1, .ref 138, .ref 139, .ref 140, .int 0, .int 0, .int 0, .int 0, .int v136_9, .int 96, .int 0, .int 0, .int 0, .int 0, .int 0, .int 0, .ref 137]))) (h130 : am_is H 130 (.inr (0, [.ref 131, .int 0, .int 0]))) (h132 : am_is H 132 (.inr (0, [.ref 133, .int 0, .int 0]))) (c1 : ¬ x0 = 18) (c2 : x0 < 9) (c3 : ¬ x0 = 0) (c4 : ¬ x0 = 1) (c5 : ¬ x0 = 2) (c6 : ¬ x0 = 3) (c7 : ¬ x0 = 4) (c8 : ¬ x0 = 5) (c9 : ¬ x0 = 6) (c10 : ¬ x0 = 7) (c11 : ¬ x0 = 8) (c12 : ¬ x0 = 9) (c13 : ¬ x0 = 10) (c14 : ¬ x0 = 11) (c15 : ¬ x0 = 12) (c16 : ¬ x0 = 13) (c17 : ¬ x0 = 14) (c18 : ¬ x0 = 15) (c19 : ¬ x0 = 16) (c20 : ¬ x0 = 17)  :
    am_E sL sx cs 251 0 [(0, .ref 0), (1, .int x0)] [] H (some (.int (-1))) (fun H1 => (True) ∧ ∀ j : Nat, H1[j]? = H[j]?) := by
  refine ex_s (am_nb (m := 2) (pc1 := 3) (ls1 := [(0, .ref 0), (1, .int x0)]) (st1 := [.int 18, .int x0]) (H1 := H) (k1 := 0) (n1 := 0) (by with_unfolding_all rfl)) ?_
  refine ex_s (st_icmp rfl) ?_
  refine ex_pc (if_neg c1) ?_
  refine ex_s (am_nb (m := 2) (pc1 := 17) (ls1 := [(0, .ref 0), (1, .int x0)]) (st1 := [.int 9, .int x0]) (H1 := H) (k1 := 0) (n1 := 0) (by with_unfolding_all rfl)) ?_
  refine ex_s (st_icmp rfl) ?_
  refine ex_pc (if_pos c2) ?_
  refine ex_s (am_nb (m := 1) (pc1 := 42) (ls1 := [(0, .ref 0), (1, .int x0)]) (st1 := [.ref 0]) (H1 := H) (k1 := 0) (n1 := 0) (by with_unfolding_all rfl)) ?_
  refine ex_s (st_get rfl h0 rfl) ?_
  refine ex_s (st_get rfl h129 rfl) ?_
  refine ex_s (am_nb (m := 1) (pc1 := 49) (ls1 := [(0, .ref 0), (1, .int x0)]) (st1 := [.int x0, .ref 136]) (H1 := H) (k1 := 0) (n1 := 0) (by with_unfolding_all rfl)) ?_
  refine ex_cv1 (as := [.int x0]) (rest := []) rfl rfl rfl rfl h136 rfl (by with_unfolding_all rfl) (by with_unfolding_all rfl) (fx_state_1_18 h136 c3 c4 c5 c6 c7 c8 c9 c10 c11 c12 c13 c14 c15 c16 c17 c18 c19 c20) ?_
  rintro H272 ⟨-, k272⟩
  exact ex_r (st_iret rfl rfl rfl) ⟨trivial, fun j => (k272 j)⟩

set_option maxRecDepth 100000 in
theorem fx_state_20 {sL : Nat} {sx : Nat → Int32} {cs : Nat → Nat → Option Int32} {H : am_H} {v0_13 : Int32} {v136_0 : Int32} {v136_1 : Int32} {v136_9 : Int32} {x0 : Int32} (h0 : am_is H 0 (.inr (11, [.ref 1, .int 0, .ref 2, .int 0, .ref 3, .ref 93, .ref 97, .ref 115, .ref 116, .ref 129, .ref 123, .ref 127, .ref 128, .int v0_13, .null, .int 0]))) (h123 : am_is H 123 (.inr (4, [.ref 124, .ref 125, .int 0, .int (-1), .int 0, .ref 126]))) (h129 : am_is H 129 (.inr (8, [.ref 136, .ref 130, .ref 132, .ref 134, .int 0, .int 0, .int 0, .int 0, .int 0, .int 0, .int 0, .ref 135, .int 0, .int 0, .int 0]))) (h136 : am_is H 136 (.inr (3, [.int v136_0, .int v136_1, .ref 138, .ref 139, .ref 140, .int 0, .int 0, .int 0, .int 0, .int v136_9, .int 96, .int 0, .int 0, .int 0, .int 0, .int 0, .int 0, .ref 137]))) (h130 : am_is H 130 (.inr (0, [.ref 131, .int 0, .int 0]))) (h132 : am_is H 132 (.inr (0, [.ref 133, .int 0, .int 0]))) (c1 : ¬ x0 = 18) (c2 : ¬ x0 < 9) (c3 : 16 < x0) (c4 : x0 = 0)  :
    am_E sL sx cs 251 0 [(0, .ref 0), (1, .int x0)] [] H (some (.int 0)) (fun H1 => (True) ∧ ∀ j : Nat, H1[j]? = H[j]?) := by
  refine ex_s (am_nb (m := 2) (pc1 := 3) (ls1 := [(0, .ref 0), (1, .int x0)]) (st1 := [.int 18, .int x0]) (H1 := H) (k1 := 0) (n1 := 0) (by with_unfolding_all rfl)) ?_
  refine ex_s (st_icmp rfl) ?_
  refine ex_pc (if_neg c1) ?_
  refine ex_s (am_nb (m := 2) (pc1 := 17) (ls1 := [(0, .ref 0), (1, .int x0)]) (st1 := [.int 9, .int x0]) (H1 := H) (k1 := 0) (n1 := 0) (by with_unfolding_all rfl)) ?_
  refine ex_s (st_icmp rfl) ?_
  refine ex_pc (if_neg c2) ?_
  refine ex_s (am_nb (m := 2) (pc1 := 23) (ls1 := [(0, .ref 0), (1, .int x0)]) (st1 := [.int 16, .int x0]) (H1 := H) (k1 := 0) (n1 := 0) (by with_unfolding_all rfl)) ?_
  refine ex_s (st_icmp rfl) ?_
  refine ex_pc (if_pos c3) ?_
  refine ex_s (am_nb (m := 1) (pc1 := 42) (ls1 := [(0, .ref 0), (1, .int x0)]) (st1 := [.ref 0]) (H1 := H) (k1 := 0) (n1 := 0) (by with_unfolding_all rfl)) ?_
  refine ex_s (st_get rfl h0 rfl) ?_
  refine ex_s (st_get rfl h129 rfl) ?_
  refine ex_s (am_nb (m := 1) (pc1 := 49) (ls1 := [(0, .ref 0), (1, .int x0)]) (st1 := [.int x0, .ref 136]) (H1 := H) (k1 := 0) (n1 := 0) (by with_unfolding_all rfl)) ?_
  refine ex_cv1 (as := [.int x0]) (rest := []) rfl rfl rfl rfl h136 rfl (by with_unfolding_all rfl) (by with_unfolding_all rfl) (fx_state_1_0 h136 c4) ?_
  rintro H273 ⟨-, k273⟩
  exact ex_r (st_iret rfl rfl rfl) ⟨trivial, fun j => (k273 j)⟩

set_option maxRecDepth 100000 in
theorem fx_state_21 {sL : Nat} {sx : Nat → Int32} {cs : Nat → Nat → Option Int32} {H : am_H} {v0_13 : Int32} {v136_0 : Int32} {v136_1 : Int32} {v136_9 : Int32} {x0 : Int32} (h0 : am_is H 0 (.inr (11, [.ref 1, .int 0, .ref 2, .int 0, .ref 3, .ref 93, .ref 97, .ref 115, .ref 116, .ref 129, .ref 123, .ref 127, .ref 128, .int v0_13, .null, .int 0]))) (h123 : am_is H 123 (.inr (4, [.ref 124, .ref 125, .int 0, .int (-1), .int 0, .ref 126]))) (h129 : am_is H 129 (.inr (8, [.ref 136, .ref 130, .ref 132, .ref 134, .int 0, .int 0, .int 0, .int 0, .int 0, .int 0, .int 0, .ref 135, .int 0, .int 0, .int 0]))) (h136 : am_is H 136 (.inr (3, [.int v136_0, .int v136_1, .ref 138, .ref 139, .ref 140, .int 0, .int 0, .int 0, .int 0, .int v136_9, .int 96, .int 0, .int 0, .int 0, .int 0, .int 0, .int 0, .ref 137]))) (h130 : am_is H 130 (.inr (0, [.ref 131, .int 0, .int 0]))) (h132 : am_is H 132 (.inr (0, [.ref 133, .int 0, .int 0]))) (c1 : ¬ x0 = 18) (c2 : ¬ x0 < 9) (c3 : 16 < x0) (c4 : ¬ x0 = 0) (c5 : x0 = 1)  :
    am_E sL sx cs 251 0 [(0, .ref 0), (1, .int x0)] [] H (some (.int 0)) (fun H1 => (True) ∧ ∀ j : Nat, H1[j]? = H[j]?) := by
  refine ex_s (am_nb (m := 2) (pc1 := 3) (ls1 := [(0, .ref 0), (1, .int x0)]) (st1 := [.int 18, .int x0]) (H1 := H) (k1 := 0) (n1 := 0) (by with_unfolding_all rfl)) ?_
  refine ex_s (st_icmp rfl) ?_
  refine ex_pc (if_neg c1) ?_
  refine ex_s (am_nb (m := 2) (pc1 := 17) (ls1 := [(0, .ref 0), (1, .int x0)]) (st1 := [.int 9, .int x0]) (H1 := H) (k1 := 0) (n1 := 0) (by with_unfolding_all rfl)) ?_
  refine ex_s (st_icmp rfl) ?_
  refine ex_pc (if_neg c2) ?_
  refine ex_s (am_nb (m := 2) (pc1 := 23) (ls1 := [(0, .ref 0), (1, .int x0)]) (st1 := [.int 16, .int x0]) (H1 := H) (k1 := 0) (n1 := 0) (by with_unfolding_all rfl)) ?_
  refine ex_s (st_icmp rfl) ?_
  refine ex_pc (if_pos c3) ?_
  refine ex_s (am_nb (m := 1) (pc1 := 42) (ls1 := [(0, .ref 0), (1, .int x0)]) (st1 := [.ref 0]) (H1 := H) (k1 := 0) (n1 := 0) (by with_unfolding_all rfl)) ?_
  refine ex_s (st_get rfl h0 rfl) ?_
  refine ex_s (st_get rfl h129 rfl) ?_
  refine ex_s (am_nb (m := 1) (pc1 := 49) (ls1 := [(0, .ref 0), (1, .int x0)]) (st1 := [.int x0, .ref 136]) (H1 := H) (k1 := 0) (n1 := 0) (by with_unfolding_all rfl)) ?_
  refine ex_cv1 (as := [.int x0]) (rest := []) rfl rfl rfl rfl h136 rfl (by with_unfolding_all rfl) (by with_unfolding_all rfl) (fx_state_1_1 h136 c4 c5) ?_
  rintro H274 ⟨-, k274⟩
  exact ex_r (st_iret rfl rfl rfl) ⟨trivial, fun j => (k274 j)⟩

set_option maxRecDepth 100000 in
theorem fx_state_22 {sL : Nat} {sx : Nat → Int32} {cs : Nat → Nat → Option Int32} {H : am_H} {v0_13 : Int32} {v136_0 : Int32} {v136_1 : Int32} {v136_9 : Int32} {x0 : Int32} (h0 : am_is H 0 (.inr (11, [.ref 1, .int 0, .ref 2, .int 0, .ref 3, .ref 93, .ref 97, .ref 115, .ref 116, .ref 129, .ref 123, .ref 127, .ref 128, .int v0_13, .null, .int 0]))) (h123 : am_is H 123 (.inr (4, [.ref 124, .ref 125, .int 0, .int (-1), .int 0, .ref 126]))) (h129 : am_is H 129 (.inr (8, [.ref 136, .ref 130, .ref 132, .ref 134, .int 0, .int 0, .int 0, .int 0, .int 0, .int 0, .int 0, .ref 135, .int 0, .int 0, .int 0]))) (h136 : am_is H 136 (.inr (3, [.int v136_0, .int v136_1, .ref 138, .ref 139, .ref 140, .int 0, .int 0, .int 0, .int 0, .int v136_9, .int 96, .int 0, .int 0, .int 0, .int 0, .int 0, .int 0, .ref 137]))) (h130 : am_is H 130 (.inr (0, [.ref 131, .int 0, .int 0]))) (h132 : am_is H 132 (.inr (0, [.ref 133, .int 0, .int 0]))) (c1 : ¬ x0 = 18) (c2 : ¬ x0 < 9) (c3 : 16 < x0) (c4 : ¬ x0 = 0) (c5 : ¬ x0 = 1) (c6 : x0 = 2)  :
    am_E sL sx cs 251 0 [(0, .ref 0), (1, .int x0)] [] H (some (.int 0)) (fun H1 => (True) ∧ ∀ j : Nat, H1[j]? = H[j]?) := by
  refine ex_s (am_nb (m := 2) (pc1 := 3) (ls1 := [(0, .ref 0), (1, .int x0)]) (st1 := [.int 18, .int x0]) (H1 := H) (k1 := 0) (n1 := 0) (by with_unfolding_all rfl)) ?_
  refine ex_s (st_icmp rfl) ?_
  refine ex_pc (if_neg c1) ?_
  refine ex_s (am_nb (m := 2) (pc1 := 17) (ls1 := [(0, .ref 0), (1, .int x0)]) (st1 := [.int 9, .int x0]) (H1 := H) (k1 := 0) (n1 := 0) (by with_unfolding_all rfl)) ?_
  refine ex_s (st_icmp rfl) ?_
  refine ex_pc (if_neg c2) ?_
  refine ex_s (am_nb (m := 2) (pc1 := 23) (ls1 := [(0, .ref 0), (1, .int x0)]) (st1 := [.int 16, .int x0]) (H1 := H) (k1 := 0) (n1 := 0) (by with_unfolding_all rfl)) ?_
  refine ex_s (st_icmp rfl) ?_
  refine ex_pc (if_pos c3) ?_
  refine ex_s (am_nb (m := 1) (pc1 := 42) (ls1 := [(0, .ref 0), (1, .int x0)]) (st1 := [.ref 0]) (H1 := H) (k1 := 0) (n1 := 0) (by with_unfolding_all rfl)) ?_
  refine ex_s (st_get rfl h0 rfl) ?_
  refine ex_s (st_get rfl h129 rfl) ?_
  refine ex_s (am_nb (m := 1) (pc1 := 49) (ls1 := [(0, .ref 0), (1, .int x0)]) (st1 := [.int x0, .ref 136]) (H1 := H) (k1 := 0) (n1 := 0) (by with_unfolding_all rfl)) ?_
  refine ex_cv1 (as := [.int x0]) (rest := []) rfl rfl rfl rfl h136 rfl (by with_unfolding_all rfl) (by with_unfolding_all rfl) (fx_state_1_2 h136 c4 c5 c6) ?_
  rintro H275 ⟨-, k275⟩
  exact ex_r (st_iret rfl rfl rfl) ⟨trivial, fun j => (k275 j)⟩

set_option maxRecDepth 100000 in
theorem fx_state_23 {sL : Nat} {sx : Nat → Int32} {cs : Nat → Nat → Option Int32} {H : am_H} {v0_13 : Int32} {v136_0 : Int32} {v136_1 : Int32} {v136_9 : Int32} {x0 : Int32} (h0 : am_is H 0 (.inr (11, [.ref 1, .int 0, .ref 2, .int 0, .ref 3, .ref 93, .ref 97, .ref 115, .ref 116, .ref 129, .ref 123, .ref 127, .ref 128, .int v0_13, .null, .int 0]))) (h123 : am_is H 123 (.inr (4, [.ref 124, .ref 125, .int 0, .int (-1), .int 0, .ref 126]))) (h129 : am_is H 129 (.inr (8, [.ref 136, .ref 130, .ref 132, .ref 134, .int 0, .int 0, .int 0, .int 0, .int 0, .int 0, .int 0, .ref 135, .int 0, .int 0, .int 0]))) (h136 : am_is H 136 (.inr (3, [.int v136_0, .int v136_1, .ref 138, .ref 139, .ref 140, .int 0, .int 0, .int 0, .int 0, .int v136_9, .int 96, .int 0, .int 0, .int 0, .int 0, .int 0, .int 0, .ref 137]))) (h130 : am_is H 130 (.inr (0, [.ref 131, .int 0, .int 0]))) (h132 : am_is H 132 (.inr (0, [.ref 133, .int 0, .int 0]))) (c1 : ¬ x0 = 18) (c2 : ¬ x0 < 9) (c3 : 16 < x0) (c4 : ¬ x0 = 0) (c5 : ¬ x0 = 1) (c6 : ¬ x0 = 2) (c7 : x0 = 3)  :
    am_E sL sx cs 251 0 [(0, .ref 0), (1, .int x0)] [] H (some (.int 0)) (fun H1 => (True) ∧ ∀ j : Nat, H1[j]? = H[j]?) := by
  refine ex_s (am_nb (m := 2) (pc1 := 3) (ls1 := [(0, .ref 0), (1, .int x0)]) (st1 := [.int 18, .int x0]) (H1 := H) (k1 := 0) (n1 := 0) (by with_unfolding_all rfl)) ?_
  refine ex_s (st_icmp rfl) ?_
  refine ex_pc (if_neg c1) ?_
  refine ex_s (am_nb (m := 2) (pc1 := 17) (ls1 := [(0, .ref 0), (1, .int x0)]) (st1 := [.int 9, .int x0]) (H1 := H) (k1 := 0) (n1 := 0) (by with_unfolding_all rfl)) ?_
  refine ex_s (st_icmp rfl) ?_
  refine ex_pc (if_neg c2) ?_
  refine ex_s (am_nb (m := 2) (pc1 := 23) (ls1 := [(0, .ref 0), (1, .int x0)]) (st1 := [.int 16, .int x0]) (H1 := H) (k1 := 0) (n1 := 0) (by with_unfolding_all rfl)) ?_
  refine ex_s (st_icmp rfl) ?_
  refine ex_pc (if_pos c3) ?_
  refine ex_s (am_nb (m := 1) (pc1 := 42) (ls1 := [(0, .ref 0), (1, .int x0)]) (st1 := [.ref 0]) (H1 := H) (k1 := 0) (n1 := 0) (by with_unfolding_all rfl)) ?_
  refine ex_s (st_get rfl h0 rfl) ?_
  refine ex_s (st_get rfl h129 rfl) ?_
  refine ex_s (am_nb (m := 1) (pc1 := 49) (ls1 := [(0, .ref 0), (1, .int x0)]) (st1 := [.int x0, .ref 136]) (H1 := H) (k1 := 0) (n1 := 0) (by with_unfolding_all rfl)) ?_
  refine ex_cv1 (as := [.int x0]) (rest := []) rfl rfl rfl rfl h136 rfl (by with_unfolding_all rfl) (by with_unfolding_all rfl) (fx_state_1_3 h136 c4 c5 c6 c7) ?_
  rintro H276 ⟨-, k276⟩
  exact ex_r (st_iret rfl rfl rfl) ⟨trivial, fun j => (k276 j)⟩

set_option maxRecDepth 100000 in
theorem fx_state_24 {sL : Nat} {sx : Nat → Int32} {cs : Nat → Nat → Option Int32} {H : am_H} {v0_13 : Int32} {v136_0 : Int32} {v136_1 : Int32} {v136_9 : Int32} {x0 : Int32} (h0 : am_is H 0 (.inr (11, [.ref 1, .int 0, .ref 2, .int 0, .ref 3, .ref 93, .ref 97, .ref 115, .ref 116, .ref 129, .ref 123, .ref 127, .ref 128, .int v0_13, .null, .int 0]))) (h123 : am_is H 123 (.inr (4, [.ref 124, .ref 125, .int 0, .int (-1), .int 0, .ref 126]))) (h129 : am_is H 129 (.inr (8, [.ref 136, .ref 130, .ref 132, .ref 134, .int 0, .int 0, .int 0, .int 0, .int 0, .int 0, .int 0, .ref 135, .int 0, .int 0, .int 0]))) (h136 : am_is H 136 (.inr (3, [.int v136_0, .int v136_1, .ref 138, .ref 139, .ref 140, .int 0, .int 0, .int 0, .int 0, .int v136_9, .int 96, .int 0, .int 0, .int 0, .int 0, .int 0, .int 0, .ref 137]))) (h130 : am_is H 130 (.inr (0, [.ref 131, .int 0, .int 0]))) (h132 : am_is H 132 (.inr (0, [.ref 133, .int 0, .int 0]))) (c1 : ¬ x0 = 18) (c2 : ¬ x0 < 9) (c3 : 16 < x0) (c4 : ¬ x0 = 0) (c5 : ¬ x0 = 1) (c6 : ¬ x0 = 2) (c7 : ¬ x0 = 3) (c8 : x0 = 4)  :
    am_E sL sx cs 251 0 [(0, .ref 0), (1, .int x0)] [] H (some (.int v136_9)) (fun H1 => (True) ∧ ∀ j : Nat, H1[j]? = H[j]?) := by
  refine ex_s (am_nb (m := 2) (pc1 := 3) (ls1 := [(0, .ref 0), (1, .int x0)]) (st1 := [.int 18, .int x0]) (H1 := H) (k1 := 0) (n1 := 0) (by with_unfolding_all rfl)) ?_
  refine ex_s (st_icmp rfl) ?_
  refine ex_pc (if_neg c1) ?_
  refine ex_s (am_nb (m := 2) (pc1 := 17) (ls1 := [(0, .ref 0), (1, .int x0)]) (st1 := [.int 9, .int x0]) (H1 := H) (k1 := 0) (n1 := 0) (by with_unfolding_all rfl)) ?_
  refine ex_s (st_icmp rfl) ?_
  refine ex_pc (if_neg c2) ?_
  refine ex_s (am_nb (m := 2) (pc1 := 23) (ls1 := [(0, .ref 0), (1, .int x0)]) (st1 := [.int 16, .int x0]) (H1 := H) (k1 := 0) (n1 := 0) (by with_unfolding_all rfl)) ?_
  refine ex_s (st_icmp rfl) ?_
  refine ex_pc (if_pos c3) ?_
  refine ex_s (am_nb (m := 1) (pc1 := 42) (ls1 := [(0, .ref 0), (1, .int x0)]) (st1 := [.ref 0]) (H1 := H) (k1 := 0) (n1 := 0) (by with_unfolding_all rfl)) ?_
  refine ex_s (st_get rfl h0 rfl) ?_
  refine ex_s (st_get rfl h129 rfl) ?_
  refine ex_s (am_nb (m := 1) (pc1 := 49) (ls1 := [(0, .ref 0), (1, .int x0)]) (st1 := [.int x0, .ref 136]) (H1 := H) (k1 := 0) (n1 := 0) (by with_unfolding_all rfl)) ?_
  refine ex_cv1 (as := [.int x0]) (rest := []) rfl rfl rfl rfl h136 rfl (by with_unfolding_all rfl) (by with_unfolding_all rfl) (fx_state_1_4 h136 c4 c5 c6 c7 c8) ?_
  rintro H277 ⟨-, k277⟩
  exact ex_r (st_iret rfl rfl rfl) ⟨trivial, fun j => (k277 j)⟩

set_option maxRecDepth 100000 in
theorem fx_state_25 {sL : Nat} {sx : Nat → Int32} {cs : Nat → Nat → Option Int32} {H : am_H} {v0_13 : Int32} {v136_0 : Int32} {v136_1 : Int32} {v136_9 : Int32} {x0 : Int32} (h0 : am_is H 0 (.inr (11, [.ref 1, .int 0, .ref 2, .int 0, .ref 3, .ref 93, .ref 97, .ref 115, .ref 116, .ref 129, .ref 123, .ref 127, .ref 128, .int v0_13, .null, .int 0]))) (h123 : am_is H 123 (.inr (4, [.ref 124, .ref 125, .int 0, .int (-1), .int 0, .ref 126]))) (h129 : am_is H 129 (.inr (8, [.ref 136, .ref 130, .ref 132, .ref 134, .int 0, .int 0, .int 0, .int 0, .int 0, .int 0, .int 0, .ref 135, .int 0, .int 0, .int 0]))) (h136 : am_is H 136 (.inr (3, [.int v136_0, .int v136_1, .ref 138, .ref 139, .ref 140, .int 0, .int 0, .int 0, .int 0, .int v136_9, .int 96, .int 0, .int 0, .int 0, .int 0, .int 0, .int 0, .ref 137]))) (h130 : am_is H 130 (.inr (0, [.ref 131, .int 0, .int 0]))) (h132 : am_is H 132 (.inr (0, [.ref 133, .int 0, .int 0]))) (c1 : ¬ x0 = 18) (c2 : ¬ x0 < 9) (c3 : 16 < x0) (c4 : ¬ x0 = 0) (c5 : ¬ x0 = 1) (c6 : ¬ x0 = 2) (c7 : ¬ x0 = 3) (c8 : ¬ x0 = 4) (c9 : x0 = 5)  :
    am_E sL sx cs 251 0 [(0, .ref 0), (1, .int x0)] [] H (some (.int 0)) (fun H1 => (True) ∧ ∀ j : Nat, H1[j]? = H[j]?) := by
  refine ex_s (am_nb (m := 2) (pc1 := 3) (ls1 := [(0, .ref 0), (1, .int x0)]) (st1 := [.int 18, .int x0]) (H1 := H) (k1 := 0) (n1 := 0) (by with_unfolding_all rfl)) ?_
  refine ex_s (st_icmp rfl) ?_
  refine ex_pc (if_neg c1) ?_
  refine ex_s (am_nb (m := 2) (pc1 := 17) (ls1 := [(0, .ref 0), (1, .int x0)]) (st1 := [.int 9, .int x0]) (H1 := H) (k1 := 0) (n1 := 0) (by with_unfolding_all rfl)) ?_
  refine ex_s (st_icmp rfl) ?_
  refine ex_pc (if_neg c2) ?_
  refine ex_s (am_nb (m := 2) (pc1 := 23) (ls1 := [(0, .ref 0), (1, .int x0)]) (st1 := [.int 16, .int x0]) (H1 := H) (k1 := 0) (n1 := 0) (by with_unfolding_all rfl)) ?_
  refine ex_s (st_icmp rfl) ?_
  refine ex_pc (if_pos c3) ?_
  refine ex_s (am_nb (m := 1) (pc1 := 42) (ls1 := [(0, .ref 0), (1, .int x0)]) (st1 := [.ref 0]) (H1 := H) (k1 := 0) (n1 := 0) (by with_unfolding_all rfl)) ?_
  refine ex_s (st_get rfl h0 rfl) ?_
  refine ex_s (st_get rfl h129 rfl) ?_
  refine ex_s (am_nb (m := 1) (pc1 := 49) (ls1 := [(0, .ref 0), (1, .int x0)]) (st1 := [.int x0, .ref 136]) (H1 := H) (k1 := 0) (n1 := 0) (by with_unfolding_all rfl)) ?_
  refine ex_cv1 (as := [.int x0]) (rest := []) rfl rfl rfl rfl h136 rfl (by with_unfolding_all rfl) (by with_unfolding_all rfl) (fx_state_1_5 h136 c4 c5 c6 c7 c8 c9) ?_
  rintro H278 ⟨-, k278⟩
  exact ex_r (st_iret rfl rfl rfl) ⟨trivial, fun j => (k278 j)⟩

set_option maxRecDepth 100000 in
theorem fx_state_26 {sL : Nat} {sx : Nat → Int32} {cs : Nat → Nat → Option Int32} {H : am_H} {v0_13 : Int32} {v136_0 : Int32} {v136_1 : Int32} {v136_9 : Int32} {x0 : Int32} (h0 : am_is H 0 (.inr (11, [.ref 1, .int 0, .ref 2, .int 0, .ref 3, .ref 93, .ref 97, .ref 115, .ref 116, .ref 129, .ref 123, .ref 127, .ref 128, .int v0_13, .null, .int 0]))) (h123 : am_is H 123 (.inr (4, [.ref 124, .ref 125, .int 0, .int (-1), .int 0, .ref 126]))) (h129 : am_is H 129 (.inr (8, [.ref 136, .ref 130, .ref 132, .ref 134, .int 0, .int 0, .int 0, .int 0, .int 0, .int 0, .int 0, .ref 135, .int 0, .int 0, .int 0]))) (h136 : am_is H 136 (.inr (3, [.int v136_0, .int v136_1, .ref 138, .ref 139, .ref 140, .int 0, .int 0, .int 0, .int 0, .int v136_9, .int 96, .int 0, .int 0, .int 0, .int 0, .int 0, .int 0, .ref 137]))) (h130 : am_is H 130 (.inr (0, [.ref 131, .int 0, .int 0]))) (h132 : am_is H 132 (.inr (0, [.ref 133, .int 0, .int 0]))) (c1 : ¬ x0 = 18) (c2 : ¬ x0 < 9) (c3 : 16 < x0) (c4 : ¬ x0 = 0) (c5 : ¬ x0 = 1) (c6 : ¬ x0 = 2) (c7 : ¬ x0 = 3) (c8 : ¬ x0 = 4) (c9 : ¬ x0 = 5) (c10 : x0 = 6)  :
    am_E sL sx cs 251 0 [(0, .ref 0), (1, .int x0)] [] H (some (.int 96)) (fun H1 => (True) ∧ ∀ j : Nat, H1[j]? = H[j]?) := by
  refine ex_s (am_nb (m := 2) (pc1 := 3) (ls1 := [(0, .ref 0), (1, .int x0)]) (st1 := [.int 18, .int x0]) (H1 := H) (k1 := 0) (n1 := 0) (by with_unfolding_all rfl)) ?_
  refine ex_s (st_icmp rfl) ?_
  refine ex_pc (if_neg c1) ?_
  refine ex_s (am_nb (m := 2) (pc1 := 17) (ls1 := [(0, .ref 0), (1, .int x0)]) (st1 := [.int 9, .int x0]) (H1 := H) (k1 := 0) (n1 := 0) (by with_unfolding_all rfl)) ?_
  refine ex_s (st_icmp rfl) ?_
  refine ex_pc (if_neg c2) ?_
  refine ex_s (am_nb (m := 2) (pc1 := 23) (ls1 := [(0, .ref 0), (1, .int x0)]) (st1 := [.int 16, .int x0]) (H1 := H) (k1 := 0) (n1 := 0) (by with_unfolding_all rfl)) ?_
  refine ex_s (st_icmp rfl) ?_
  refine ex_pc (if_pos c3) ?_
  refine ex_s (am_nb (m := 1) (pc1 := 42) (ls1 := [(0, .ref 0), (1, .int x0)]) (st1 := [.ref 0]) (H1 := H) (k1 := 0) (n1 := 0) (by with_unfolding_all rfl)) ?_
  refine ex_s (st_get rfl h0 rfl) ?_
  refine ex_s (st_get rfl h129 rfl) ?_
  refine ex_s (am_nb (m := 1) (pc1 := 49) (ls1 := [(0, .ref 0), (1, .int x0)]) (st1 := [.int x0, .ref 136]) (H1 := H) (k1 := 0) (n1 := 0) (by with_unfolding_all rfl)) ?_
  refine ex_cv1 (as := [.int x0]) (rest := []) rfl rfl rfl rfl h136 rfl (by with_unfolding_all rfl) (by with_unfolding_all rfl) (fx_state_1_6 h136 c4 c5 c6 c7 c8 c9 c10) ?_
  rintro H279 ⟨-, k279⟩
  exact ex_r (st_iret rfl rfl rfl) ⟨trivial, fun j => (k279 j)⟩

set_option maxRecDepth 100000 in
theorem fx_state_27 {sL : Nat} {sx : Nat → Int32} {cs : Nat → Nat → Option Int32} {H : am_H} {v0_13 : Int32} {v136_0 : Int32} {v136_1 : Int32} {v136_9 : Int32} {x0 : Int32} (h0 : am_is H 0 (.inr (11, [.ref 1, .int 0, .ref 2, .int 0, .ref 3, .ref 93, .ref 97, .ref 115, .ref 116, .ref 129, .ref 123, .ref 127, .ref 128, .int v0_13, .null, .int 0]))) (h123 : am_is H 123 (.inr (4, [.ref 124, .ref 125, .int 0, .int (-1), .int 0, .ref 126]))) (h129 : am_is H 129 (.inr (8, [.ref 136, .ref 130, .ref 132, .ref 134, .int 0, .int 0, .int 0, .int 0, .int 0, .int 0, .int 0, .ref 135, .int 0, .int 0, .int 0]))) (h136 : am_is H 136 (.inr (3, [.int v136_0, .int v136_1, .ref 138, .ref 139, .ref 140, .int 0, .int 0, .int 0, .int 0, .int v136_9, .int 96, .int 0, .int 0, .int 0, .int 0, .int 0, .int 0, .ref 137]))) (h130 : am_is H 130 (.inr (0, [.ref 131, .int 0, .int 0]))) (h132 : am_is H 132 (.inr (0, [.ref 133, .int 0, .int 0]))) (c1 : ¬ x0 = 18) (c2 : ¬ x0 < 9) (c3 : 16 < x0) (c4 : ¬ x0 = 0) (c5 : ¬ x0 = 1) (c6 : ¬ x0 = 2) (c7 : ¬ x0 = 3) (c8 : ¬ x0 = 4) (c9 : ¬ x0 = 5) (c10 : ¬ x0 = 6) (c11 : x0 = 7)  :
    am_E sL sx cs 251 0 [(0, .ref 0), (1, .int x0)] [] H (some (.int 0)) (fun H1 => (True) ∧ ∀ j : Nat, H1[j]? = H[j]?) := by
  refine ex_s (am_nb (m := 2) (pc1 := 3) (ls1 := [(0, .ref 0), (1, .int x0)]) (st1 := [.int 18, .int x0]) (H1 := H) (k1 := 0) (n1 := 0) (by with_unfolding_all rfl)) ?_
  refine ex_s (st_icmp rfl) ?_
  refine ex_pc (if_neg c1) ?_
  refine ex_s (am_nb (m := 2) (pc1 := 17) (ls1 := [(0, .ref 0), (1, .int x0)]) (st1 := [.int 9, .int x0]) (H1 := H) (k1 := 0) (n1 := 0) (by with_unfolding_all rfl)) ?_
  refine ex_s (st_icmp rfl) ?_
  refine ex_pc (if_neg c2) ?_
  refine ex_s (am_nb (m := 2) (pc1 := 23) (ls1 := [(0, .ref 0), (1, .int x0)]) (st1 := [.int 16, .int x0]) (H1 := H) (k1 := 0) (n1 := 0) (by with_unfolding_all rfl)) ?_
  refine ex_s (st_icmp rfl) ?_
  refine ex_pc (if_pos c3) ?_
  refine ex_s (am_nb (m := 1) (pc1 := 42) (ls1 := [(0, .ref 0), (1, .int x0)]) (st1 := [.ref 0]) (H1 := H) (k1 := 0) (n1 := 0) (by with_unfolding_all rfl)) ?_
  refine ex_s (st_get rfl h0 rfl) ?_
  refine ex_s (st_get rfl h129 rfl) ?_
  refine ex_s (am_nb (m := 1) (pc1 := 49) (ls1 := [(0, .ref 0), (1, .int x0)]) (st1 := [.int x0, .ref 136]) (H1 := H) (k1 := 0) (n1 := 0) (by with_unfolding_all rfl)) ?_
  refine ex_cv1 (as := [.int x0]) (rest := []) rfl rfl rfl rfl h136 rfl (by with_unfolding_all rfl) (by with_unfolding_all rfl) (fx_state_1_7 h136 c4 c5 c6 c7 c8 c9 c10 c11) ?_
  rintro H280 ⟨-, k280⟩
  exact ex_r (st_iret rfl rfl rfl) ⟨trivial, fun j => (k280 j)⟩

set_option maxRecDepth 100000 in
theorem fx_state_28 {sL : Nat} {sx : Nat → Int32} {cs : Nat → Nat → Option Int32} {H : am_H} {v0_13 : Int32} {v136_0 : Int32} {v136_1 : Int32} {v136_9 : Int32} {x0 : Int32} (h0 : am_is H 0 (.inr (11, [.ref 1, .int 0, .ref 2, .int 0, .ref 3, .ref 93, .ref 97, .ref 115, .ref 116, .ref 129, .ref 123, .ref 127, .ref 128, .int v0_13, .null, .int 0]))) (h123 : am_is H 123 (.inr (4, [.ref 124, .ref 125, .int 0, .int (-1), .int 0, .ref 126]))) (h129 : am_is H 129 (.inr (8, [.ref 136, .ref 130, .ref 132, .ref 134, .int 0, .int 0, .int 0, .int 0, .int 0, .int 0, .int 0, .ref 135, .int 0, .int 0, .int 0]))) (h136 : am_is H 136 (.inr (3, [.int v136_0, .int v136_1, .ref 138, .ref 139, .ref 140, .int 0, .int 0, .int 0, .int 0, .int v136_9, .int 96, .int 0, .int 0, .int 0, .int 0, .int 0, .int 0, .ref 137]))) (h130 : am_is H 130 (.inr (0, [.ref 131, .int 0, .int 0]))) (h132 : am_is H 132 (.inr (0, [.ref 133, .int 0, .int 0]))) (c1 : ¬ x0 = 18) (c2 : ¬ x0 < 9) (c3 : 16 < x0) (c4 : ¬ x0 = 0) (c5 : ¬ x0 = 1) (c6 : ¬ x0 = 2) (c7 : ¬ x0 = 3) (c8 : ¬ x0 = 4) (c9 : ¬ x0 = 5) (c10 : ¬ x0 = 6) (c11 : ¬ x0 = 7) (c12 : x0 = 8)  :
    am_E sL sx cs 251 0 [(0, .ref 0), (1, .int x0)] [] H (some (.int 0)) (fun H1 => (True) ∧ ∀ j : Nat, H1[j]? = H[j]?) := by
  refine ex_s (am_nb (m := 2) (pc1 := 3) (ls1 := [(0, .ref 0), (1, .int x0)]) (st1 := [.int 18, .int x0]) (H1 := H) (k1 := 0) (n1 := 0) (by with_unfolding_all rfl)) ?_
  refine ex_s (st_icmp rfl) ?_
  refine ex_pc (if_neg c1) ?_
  refine ex_s (am_nb (m := 2) (pc1 := 17) (ls1 := [(0, .ref 0), (1, .int x0)]) (st1 := [.int 9, .int x0]) (H1 := H) (k1 := 0) (n1 := 0) (by with_unfolding_all rfl)) ?_
  refine ex_s (st_icmp rfl) ?_
  refine ex_pc (if_neg c2) ?_
  refine ex_s (am_nb (m := 2) (pc1 := 23) (ls1 := [(0, .ref 0), (1, .int x0)]) (st1 := [.int 16, .int x0]) (H1 := H) (k1 := 0) (n1 := 0) (by with_unfolding_all rfl)) ?_
  refine ex_s (st_icmp rfl) ?_
  refine ex_pc (if_pos c3) ?_
  refine ex_s (am_nb (m := 1) (pc1 := 42) (ls1 := [(0, .ref 0), (1, .int x0)]) (st1 := [.ref 0]) (H1 := H) (k1 := 0) (n1 := 0) (by with_unfolding_all rfl)) ?_
  refine ex_s (st_get rfl h0 rfl) ?_
  refine ex_s (st_get rfl h129 rfl) ?_
  refine ex_s (am_nb (m := 1) (pc1 := 49) (ls1 := [(0, .ref 0), (1, .int x0)]) (st1 := [.int x0, .ref 136]) (H1 := H) (k1 := 0) (n1 := 0) (by with_unfolding_all rfl)) ?_
  refine ex_cv1 (as := [.int x0]) (rest := []) rfl rfl rfl rfl h136 rfl (by with_unfolding_all rfl) (by with_unfolding_all rfl) (fx_state_1_8 h136 c4 c5 c6 c7 c8 c9 c10 c11 c12) ?_
  rintro H281 ⟨-, k281⟩
  exact ex_r (st_iret rfl rfl rfl) ⟨trivial, fun j => (k281 j)⟩

set_option maxRecDepth 100000 in
theorem fx_state_29 {sL : Nat} {sx : Nat → Int32} {cs : Nat → Nat → Option Int32} {H : am_H} {v0_13 : Int32} {v136_0 : Int32} {v136_1 : Int32} {v136_9 : Int32} {x0 : Int32} (h0 : am_is H 0 (.inr (11, [.ref 1, .int 0, .ref 2, .int 0, .ref 3, .ref 93, .ref 97, .ref 115, .ref 116, .ref 129, .ref 123, .ref 127, .ref 128, .int v0_13, .null, .int 0]))) (h123 : am_is H 123 (.inr (4, [.ref 124, .ref 125, .int 0, .int (-1), .int 0, .ref 126]))) (h129 : am_is H 129 (.inr (8, [.ref 136, .ref 130, .ref 132, .ref 134, .int 0, .int 0, .int 0, .int 0, .int 0, .int 0, .int 0, .ref 135, .int 0, .int 0, .int 0]))) (h136 : am_is H 136 (.inr (3, [.int v136_0, .int v136_1, .ref 138, .ref 139, .ref 140, .int 0, .int 0, .int 0, .int 0, .int v136_9, .int 96, .int 0, .int 0, .int 0, .int 0, .int 0, .int 0, .ref 137]))) (h130 : am_is H 130 (.inr (0, [.ref 131, .int 0, .int 0]))) (h132 : am_is H 132 (.inr (0, [.ref 133, .int 0, .int 0]))) (c1 : ¬ x0 = 18) (c2 : ¬ x0 < 9) (c3 : 16 < x0) (c4 : ¬ x0 = 0) (c5 : ¬ x0 = 1) (c6 : ¬ x0 = 2) (c7 : ¬ x0 = 3) (c8 : ¬ x0 = 4) (c9 : ¬ x0 = 5) (c10 : ¬ x0 = 6) (c11 : ¬ x0 = 7) (c12 : ¬ x0 = 8) (c13 : x0 = 9)  :
    am_E sL sx cs 251 0 [(0, .ref 0), (1, .int x0)] [] H (some (.int (-1))) (fun H1 => (True) ∧ ∀ j : Nat, H1[j]? = H[j]?) := by
  refine ex_s (am_nb (m := 2) (pc1 := 3) (ls1 := [(0, .ref 0), (1, .int x0)]) (st1 := [.int 18, .int x0]) (H1 := H) (k1 := 0) (n1 := 0) (by with_unfolding_all rfl)) ?_
  refine ex_s (st_icmp rfl) ?_
  refine ex_pc (if_neg c1) ?_
  refine ex_s (am_nb (m := 2) (pc1 := 17) (ls1 := [(0, .ref 0), (1, .int x0)]) (st1 := [.int 9, .int x0]) (H1 := H) (k1 := 0) (n1 := 0) (by with_unfolding_all rfl)) ?_
  refine ex_s (st_icmp rfl) ?_
  refine ex_pc (if_neg c2) ?_
  refine ex_s (am_nb (m := 2) (pc1 := 23) (ls1 := [(0, .ref 0), (1, .int x0)]) (st1 := [.int 16, .int x0]) (H1 := H) (k1 := 0) (n1 := 0) (by with_unfolding_all rfl)) ?_
  refine ex_s (st_icmp rfl) ?_
  refine ex_pc (if_pos c3) ?_
  refine ex_s (am_nb (m := 1) (pc1 := 42) (ls1 := [(0, .ref 0), (1, .int x0)]) (st1 := [.ref 0]) (H1 := H) (k1 := 0) (n1 := 0) (by with_unfolding_all rfl)) ?_
  refine ex_s (st_get rfl h0 rfl) ?_
  refine ex_s (st_get rfl h129 rfl) ?_
  refine ex_s (am_nb (m := 1) (pc1 := 49) (ls1 := [(0, .ref 0), (1, .int x0)]) (st1 := [.int x0, .ref 136]) (H1 := H) (k1 := 0) (n1 := 0) (by with_unfolding_all rfl)) ?_
  refine ex_cv1 (as := [.int x0]) (rest := []) rfl rfl rfl rfl h136 rfl (by with_unfolding_all rfl) (by with_unfolding_all rfl) (fx_state_1_9 h136 c4 c5 c6 c7 c8 c9 c10 c11 c12 c13) ?_
  rintro H282 ⟨-, k282⟩
  exact ex_r (st_iret rfl rfl rfl) ⟨trivial, fun j => (k282 j)⟩

set_option maxRecDepth 100000 in
theorem fx_state_30 {sL : Nat} {sx : Nat → Int32} {cs : Nat → Nat → Option Int32} {H : am_H} {v0_13 : Int32} {v136_0 : Int32} {v136_1 : Int32} {v136_9 : Int32} {x0 : Int32} (h0 : am_is H 0 (.inr (11, [.ref 1, .int 0, .ref 2, .int 0, .ref 3, .ref 93, .ref 97, .ref 115, .ref 116, .ref 129, .ref 123, .ref 127, .ref 128, .int v0_13, .null, .int 0]))) (h123 : am_is H 123 (.inr (4, [.ref 124, .ref 125, .int 0, .int (-1), .int 0, .ref 126]))) (h129 : am_is H 129 (.inr (8, [.ref 136, .ref 130, .ref 132, .ref 134, .int 0, .int 0, .int 0, .int 0, .int 0, .int 0, .int 0, .ref 135, .int 0, .int 0, .int 0]))) (h136 : am_is H 136 (.inr (3, [.int v136_0, .int v136_1, .ref 138, .ref 139, .ref 140, .int 0, .int 0, .int 0, .int 0, .int v136_9, .int 96, .int 0, .int 0, .int 0, .int 0, .int 0, .int 0, .ref 137]))) (h130 : am_is H 130 (.inr (0, [.ref 131, .int 0, .int 0]))) (h132 : am_is H 132 (.inr (0, [.ref 133, .int 0, .int 0]))) (c1 : ¬ x0 = 18) (c2 : ¬ x0 < 9) (c3 : 16 < x0) (c4 : ¬ x0 = 0) (c5 : ¬ x0 = 1) (c6 : ¬ x0 = 2) (c7 : ¬ x0 = 3) (c8 : ¬ x0 = 4) (c9 : ¬ x0 = 5) (c10 : ¬ x0 = 6) (c11 : ¬ x0 = 7) (c12 : ¬ x0 = 8) (c13 : ¬ x0 = 9) (c14 : x0 = 10)  :
    am_E sL sx cs 251 0 [(0, .ref 0), (1, .int x0)] [] H (some (.int 0)) (fun H1 => (True) ∧ ∀ j : Nat, H1[j]? = H[j]?) := by
  refine ex_s (am_nb (m := 2) (pc1 := 3) (ls1 := [(0, .ref 0), (1, .int x0)]) (st1 := [.int 18, .int x0]) (H1 := H) (k1 := 0) (n1 := 0) (by with_unfolding_all rfl)) ?_
  refine ex_s (st_icmp rfl) ?_
  refine ex_pc (if_neg c1) ?_
  refine ex_s (am_nb (m := 2) (pc1 := 17) (ls1 := [(0, .ref 0), (1, .int x0)]) (st1 := [.int 9, .int x0]) (H1 := H) (k1 := 0) (n1 := 0) (by with_unfolding_all rfl)) ?_
  refine ex_s (st_icmp rfl) ?_
  refine ex_pc (if_neg c2) ?_
  refine ex_s (am_nb (m := 2) (pc1 := 23) (ls1 := [(0, .ref 0), (1, .int x0)]) (st1 := [.int 16, .int x0]) (H1 := H) (k1 := 0) (n1 := 0) (by with_unfolding_all rfl)) ?_
  refine ex_s (st_icmp rfl) ?_
  refine ex_pc (if_pos c3) ?_
  refine ex_s (am_nb (m := 1) (pc1 := 42) (ls1 := [(0, .ref 0), (1, .int x0)]) (st1 := [.ref 0]) (H1 := H) (k1 := 0) (n1 := 0) (by with_unfolding_all rfl)) ?_
  refine ex_s (st_get rfl h0 rfl) ?_
  refine ex_s (st_get rfl h129 rfl) ?_
  refine ex_s (am_nb (m := 1) (pc1 := 49) (ls1 := [(0, .ref 0), (1, .int x0)]) (st1 := [.int x0, .ref 136]) (H1 := H) (k1 := 0) (n1 := 0) (by with_unfolding_all rfl)) ?_
  refine ex_cv1 (as := [.int x0]) (rest := []) rfl rfl rfl rfl h136 rfl (by with_unfolding_all rfl) (by with_unfolding_all rfl) (fx_state_1_10 h136 c4 c5 c6 c7 c8 c9 c10 c11 c12 c13 c14) ?_
  rintro H283 ⟨-, k283⟩
  exact ex_r (st_iret rfl rfl rfl) ⟨trivial, fun j => (k283 j)⟩

set_option maxRecDepth 100000 in
theorem fx_state_31 {sL : Nat} {sx : Nat → Int32} {cs : Nat → Nat → Option Int32} {H : am_H} {v0_13 : Int32} {v136_0 : Int32} {v136_1 : Int32} {v136_9 : Int32} {x0 : Int32} (h0 : am_is H 0 (.inr (11, [.ref 1, .int 0, .ref 2, .int 0, .ref 3, .ref 93, .ref 97, .ref 115, .ref 116, .ref 129, .ref 123, .ref 127, .ref 128, .int v0_13, .null, .int 0]))) (h123 : am_is H 123 (.inr (4, [.ref 124, .ref 125, .int 0, .int (-1), .int 0, .ref 126]))) (h129 : am_is H 129 (.inr (8, [.ref 136, .ref 130, .ref 132, .ref 134, .int 0, .int 0, .int 0, .int 0, .int 0, .int 0, .int 0, .ref 135, .int 0, .int 0, .int 0]))) (h136 : am_is H 136 (.inr (3, [.int v136_0, .int v136_1, .ref 138, .ref 139, .ref 140, .int 0, .int 0, .int 0, .int 0, .int v136_9, .int 96, .int 0, .int 0, .int 0, .int 0, .int 0, .int 0, .ref 137]))) (h130 : am_is H 130 (.inr (0, [.ref 131, .int 0, .int 0]))) (h132 : am_is H 132 (.inr (0, [.ref 133, .int 0, .int 0]))) (c1 : ¬ x0 = 18) (c2 : ¬ x0 < 9) (c3 : 16 < x0) (c4 : ¬ x0 = 0) (c5 : ¬ x0 = 1) (c6 : ¬ x0 = 2) (c7 : ¬ x0 = 3) (c8 : ¬ x0 = 4) (c9 : ¬ x0 = 5) (c10 : ¬ x0 = 6) (c11 : ¬ x0 = 7) (c12 : ¬ x0 = 8) (c13 : ¬ x0 = 9) (c14 : ¬ x0 = 10) (c15 : x0 = 11)  :
    am_E sL sx cs 251 0 [(0, .ref 0), (1, .int x0)] [] H (some (.int (-1))) (fun H1 => (True) ∧ ∀ j : Nat, H1[j]? = H[j]?) := by
  refine ex_s (am_nb (m := 2) (pc1 := 3) (ls1 := [(0, .ref 0), (1, .int x0)]) (st1 := [.int 18, .int x0]) (H1 := H) (k1 := 0) (n1 := 0) (by with_unfolding_all rfl)) ?_
  refine ex_s (st_icmp rfl) ?_
  refine ex_pc (if_neg c1) ?_
  refine ex_s (am_nb (m := 2) (pc1 := 17) (ls1 := [(0, .ref 0), (1, .int x0)]) (st1 := [.int 9, .int x0]) (H1 := H) (k1 := 0) (n1 := 0) (by with_unfolding_all rfl)) ?_
  refine ex_s (st_icmp rfl) ?_
  refine ex_pc (if_neg c2) ?_
  refine ex_s (am_nb (m := 2) (pc1 := 23) (ls1 := [(0, .ref 0), (1, .int x0)]) (st1 := [.int 16, .int x0]) (H1 := H) (k1 := 0) (n1 := 0) (by with_unfolding_all rfl)) ?_
  refine ex_s (st_icmp rfl) ?_
  refine ex_pc (if_pos c3) ?_
  refine ex_s (am_nb (m := 1) (pc1 := 42) (ls1 := [(0, .ref 0), (1, .int x0)]) (st1 := [.ref 0]) (H1 := H) (k1 := 0) (n1 := 0) (by with_unfolding_all rfl)) ?_
  refine ex_s (st_get rfl h0 rfl) ?_
  refine ex_s (st_get rfl h129 rfl) ?_
  refine ex_s (am_nb (m := 1) (pc1 := 49) (ls1 := [(0, .ref 0), (1, .int x0)]) (st1 := [.int x0, .ref 136]) (H1 := H) (k1 := 0) (n1 := 0) (by with_unfolding_all rfl)) ?_
  refine ex_cv1 (as := [.int x0]) (rest := []) rfl rfl rfl rfl h136 rfl (by with_unfolding_all rfl) (by with_unfolding_all rfl) (fx_state_1_11 h136 c4 c5 c6 c7 c8 c9 c10 c11 c12 c13 c14 c15) ?_
  rintro H284 ⟨-, k284⟩
  exact ex_r (st_iret rfl rfl rfl) ⟨trivial, fun j => (k284 j)⟩

set_option maxRecDepth 100000 in
theorem fx_state_32 {sL : Nat} {sx : Nat → Int32} {cs : Nat → Nat → Option Int32} {H : am_H} {v0_13 : Int32} {v136_0 : Int32} {v136_1 : Int32} {v136_9 : Int32} {x0 : Int32} (h0 : am_is H 0 (.inr (11, [.ref 1, .int 0, .ref 2, .int 0, .ref 3, .ref 93, .ref 97, .ref 115, .ref 116, .ref 129, .ref 123, .ref 127, .ref 128, .int v0_13, .null, .int 0]))) (h123 : am_is H 123 (.inr (4, [.ref 124, .ref 125, .int 0, .int (-1), .int 0, .ref 126]))) (h129 : am_is H 129 (.inr (8, [.ref 136, .ref 130, .ref 132, .ref 134, .int 0, .int 0, .int 0, .int 0, .int 0, .int 0, .int 0, .ref 135, .int 0, .int 0, .int 0]))) (h136 : am_is H 136 (.inr (3, [.int v136_0, .int v136_1, .ref 138, .ref 139, .ref 140, .int 0, .int 0, .int 0, .int 0, .int v136_9, .int 96, .int 0, .int 0, .int 0, .int 0, .int 0, .int 0, .ref 137]))) (h130 : am_is H 130 (.inr (0, [.ref 131, .int 0, .int 0]))) (h132 : am_is H 132 (.inr (0, [.ref 133, .int 0, .int 0]))) (c1 : ¬ x0 = 18) (c2 : ¬ x0 < 9) (c3 : 16 < x0) (c4 : ¬ x0 = 0) (c5 : ¬ x0 = 1) (c6 : ¬ x0 = 2) (c7 : ¬ x0 = 3) (c8 : ¬ x0 = 4) (c9 : ¬ x0 = 5) (c10 : ¬ x0 = 6) (c11 : ¬ x0 = 7) (c12 : ¬ x0 = 8) (c13 : ¬ x0 = 9) (c14 : ¬ x0 = 10) (c15 : ¬ x0 = 11) (c16 : x0 = 12)  :
    am_E sL sx cs 251 0 [(0, .ref 0), (1, .int x0)] [] H (some (.int (-1))) (fun H1 => (True) ∧ ∀ j : Nat, H1[j]? = H[j]?) := by
  refine ex_s (am_nb (m := 2) (pc1 := 3) (ls1 := [(0, .ref 0), (1, .int x0)]) (st1 := [.int 18, .int x0]) (H1 := H) (k1 := 0) (n1 := 0) (by with_unfolding_all rfl)) ?_
  refine ex_s (st_icmp rfl) ?_
  refine ex_pc (if_neg c1) ?_
  refine ex_s (am_nb (m := 2) (pc1 := 17) (ls1 := [(0, .ref 0), (1, .int x0)]) (st1 := [.int 9, .int x0]) (H1 := H) (k1 := 0) (n1 := 0) (by with_unfolding_all rfl)) ?_
  refine ex_s (st_icmp rfl) ?_
  refine ex_pc (if_neg c2) ?_
  refine ex_s (am_nb (m := 2) (pc1 := 23) (ls1 := [(0, .ref 0), (1, .int x0)]) (st1 := [.int 16, .int x0]) (H1 := H) (k1 := 0) (n1 := 0) (by with_unfolding_all rfl)) ?_
  refine ex_s (st_icmp rfl) ?_
  refine ex_pc (if_pos c3) ?_
  refine ex_s (am_nb (m := 1) (pc1 := 42) (ls1 := [(0, .ref 0), (1, .int x0)]) (st1 := [.ref 0]) (H1 := H) (k1 := 0) (n1 := 0) (by with_unfolding_all rfl)) ?_
  refine ex_s (st_get rfl h0 rfl) ?_
  refine ex_s (st_get rfl h129 rfl) ?_
  refine ex_s (am_nb (m := 1) (pc1 := 49) (ls1 := [(0, .ref 0), (1, .int x0)]) (st1 := [.int x0, .ref 136]) (H1 := H) (k1 := 0) (n1 := 0) (by with_unfolding_all rfl)) ?_
  refine ex_cv1 (as := [.int x0]) (rest := []) rfl rfl rfl rfl h136 rfl (by with_unfolding_all rfl) (by with_unfolding_all rfl) (fx_state_1_12 h136 c4 c5 c6 c7 c8 c9 c10 c11 c12 c13 c14 c15 c16) ?_
  rintro H285 ⟨-, k285⟩
  exact ex_r (st_iret rfl rfl rfl) ⟨trivial, fun j => (k285 j)⟩

set_option maxRecDepth 100000 in
theorem fx_state_33 {sL : Nat} {sx : Nat → Int32} {cs : Nat → Nat → Option Int32} {H : am_H} {v0_13 : Int32} {v136_0 : Int32} {v136_1 : Int32} {v136_9 : Int32} {x0 : Int32} (h0 : am_is H 0 (.inr (11, [.ref 1, .int 0, .ref 2, .int 0, .ref 3, .ref 93, .ref 97, .ref 115, .ref 116, .ref 129, .ref 123, .ref 127, .ref 128, .int v0_13, .null, .int 0]))) (h123 : am_is H 123 (.inr (4, [.ref 124, .ref 125, .int 0, .int (-1), .int 0, .ref 126]))) (h129 : am_is H 129 (.inr (8, [.ref 136, .ref 130, .ref 132, .ref 134, .int 0, .int 0, .int 0, .int 0, .int 0, .int 0, .int 0, .ref 135, .int 0, .int 0, .int 0]))) (h136 : am_is H 136 (.inr (3, [.int v136_0, .int v136_1, .ref 138, .ref 139, .ref 140, .int 0, .int 0, .int 0, .int 0, .int v136_9, .int 96, .int 0, .int 0, .int 0, .int 0, .int 0, .int 0, .ref 137]))) (h130 : am_is H 130 (.inr (0, [.ref 131, .int 0, .int 0]))) (h132 : am_is H 132 (.inr (0, [.ref 133, .int 0, .int 0]))) (c1 : ¬ x0 = 18) (c2 : ¬ x0 < 9) (c3 : 16 < x0) (c4 : ¬ x0 = 0) (c5 : ¬ x0 = 1) (c6 : ¬ x0 = 2) (c7 : ¬ x0 = 3) (c8 : ¬ x0 = 4) (c9 : ¬ x0 = 5) (c10 : ¬ x0 = 6) (c11 : ¬ x0 = 7) (c12 : ¬ x0 = 8) (c13 : ¬ x0 = 9) (c14 : ¬ x0 = 10) (c15 : ¬ x0 = 11) (c16 : ¬ x0 = 12) (c17 : x0 = 13)  :
    am_E sL sx cs 251 0 [(0, .ref 0), (1, .int x0)] [] H (some (.int (-1))) (fun H1 => (True) ∧ ∀ j : Nat, H1[j]? = H[j]?) := by
  refine ex_s (am_nb (m := 2) (pc1 := 3) (ls1 := [(0, .ref 0), (1, .int x0)]) (st1 := [.int 18, .int x0]) (H1 := H) (k1 := 0) (n1 := 0) (by with_unfolding_all rfl)) ?_
  refine ex_s (st_icmp rfl) ?_
  refine ex_pc (if_neg c1) ?_
  refine ex_s (am_nb (m := 2) (pc1 := 17) (ls1 := [(0, .ref 0), (1, .int x0)]) (st1 := [.int 9, .int x0]) (H1 := H) (k1 := 0) (n1 := 0) (by with_unfolding_all rfl)) ?_
  refine ex_s (st_icmp rfl) ?_
  refine ex_pc (if_neg c2) ?_
  refine ex_s (am_nb (m := 2) (pc1 := 23) (ls1 := [(0, .ref 0), (1, .int x0)]) (st1 := [.int 16, .int x0]) (H1 := H) (k1 := 0) (n1 := 0) (by with_unfolding_all rfl)) ?_
  refine ex_s (st_icmp rfl) ?_
  refine ex_pc (if_pos c3) ?_
  refine ex_s (am_nb (m := 1) (pc1 := 42) (ls1 := [(0, .ref 0), (1, .int x0)]) (st1 := [.ref 0]) (H1 := H) (k1 := 0) (n1 := 0) (by with_unfolding_all rfl)) ?_
  refine ex_s (st_get rfl h0 rfl) ?_
  refine ex_s (st_get rfl h129 rfl) ?_
  refine ex_s (am_nb (m := 1) (pc1 := 49) (ls1 := [(0, .ref 0), (1, .int x0)]) (st1 := [.int x0, .ref 136]) (H1 := H) (k1 := 0) (n1 := 0) (by with_unfolding_all rfl)) ?_
  refine ex_cv1 (as := [.int x0]) (rest := []) rfl rfl rfl rfl h136 rfl (by with_unfolding_all rfl) (by with_unfolding_all rfl) (fx_state_1_13 h136 c4 c5 c6 c7 c8 c9 c10 c11 c12 c13 c14 c15 c16 c17) ?_
  rintro H286 ⟨-, k286⟩
  exact ex_r (st_iret rfl rfl rfl) ⟨trivial, fun j => (k286 j)⟩

set_option maxRecDepth 100000 in
theorem fx_state_34 {sL : Nat} {sx : Nat → Int32} {cs : Nat → Nat → Option Int32} {H : am_H} {v0_13 : Int32} {v136_0 : Int32} {v136_1 : Int32} {v136_9 : Int32} {x0 : Int32} (h0 : am_is H 0 (.inr (11, [.ref 1, .int 0, .ref 2, .int 0, .ref 3, .ref 93, .ref 97, .ref 115, .ref 116, .ref 129, .ref 123, .ref 127, .ref 128, .int v0_13, .null, .int 0]))) (h123 : am_is H 123 (.inr (4, [.ref 124, .ref 125, .int 0, .int (-1), .int 0, .ref 126]))) (h129 : am_is H 129 (.inr (8, [.ref 136, .ref 130, .ref 132, .ref 134, .int 0, .int 0, .int 0, .int 0, .int 0, .int 0, .int 0, .ref 135, .int 0, .int 0, .int 0]))) (h136 : am_is H 136 (.inr (3, [.int v136_0, .int v136_1, .ref 138, .ref 139, .ref 140, .int 0, .int 0, .int 0, .int 0, .int v136_9, .int 96, .int 0, .int 0, .int 0, .int 0, .int 0, .int 0, .ref 137]))) (h130 : am_is H 130 (.inr (0, [.ref 131, .int 0, .int 0]))) (h132 : am_is H 132 (.inr (0, [.ref 133, .int 0, .int 0]))) (c1 : ¬ x0 = 18) (c2 : ¬ x0 < 9) (c3 : 16 < x0) (c4 : ¬ x0 = 0) (c5 : ¬ x0 = 1) (c6 : ¬ x0 = 2) (c7 : ¬ x0 = 3) (c8 : ¬ x0 = 4) (c9 : ¬ x0 = 5) (c10 : ¬ x0 = 6) (c11 : ¬ x0 = 7) (c12 : ¬ x0 = 8) (c13 : ¬ x0 = 9) (c14 : ¬ x0 = 10) (c15 : ¬ x0 = 11) (c16 : ¬ x0 = 12) (c17 : ¬ x0 = 13) (c18 : x0 = 14)  :
    am_E sL sx cs 251 0 [(0, .ref 0), (1, .int x0)] [] H (some (.int (-1))) (fun H1 => (True) ∧ ∀ j : Nat, H1[j]? = H[j]?) := by
  refine ex_s (am_nb (m := 2) (pc1 := 3) (ls1 := [(0, .ref 0), (1, .int x0)]) (st1 := [.int 18, .int x0]) (H1 := H) (k1 := 0) (n1 := 0) (by with_unfolding_all rfl)) ?_
  refine ex_s (st_icmp rfl) ?_
  refine ex_pc (if_neg c1) ?_
  refine ex_s (am_nb (m := 2) (pc1 := 17) (ls1 := [(0, .ref 0), (1, .int x0)]) (st1 := [.int 9, .int x0]) (H1 := H) (k1 := 0) (n1 := 0) (by with_unfolding_all rfl)) ?_
  refine ex_s (st_icmp rfl) ?_
  refine ex_pc (if_neg c2) ?_
  refine ex_s (am_nb (m := 2) (pc1 := 23) (ls1 := [(0, .ref 0), (1, .int x0)]) (st1 := [.int 16, .int x0]) (H1 := H) (k1 := 0) (n1 := 0) (by with_unfolding_all rfl)) ?_
  refine ex_s (st_icmp rfl) ?_
  refine ex_pc (if_pos c3) ?_
  refine ex_s (am_nb (m := 1) (pc1 := 42) (ls1 := [(0, .ref 0), (1, .int x0)]) (st1 := [.ref 0]) (H1 := H) (k1 := 0) (n1 := 0) (by with_unfolding_all rfl)) ?_
  refine ex_s (st_get rfl h0 rfl) ?_
  refine ex_s (st_get rfl h129 rfl) ?_
  refine ex_s (am_nb (m := 1) (pc1 := 49) (ls1 := [(0, .ref 0), (1, .int x0)]) (st1 := [.int x0, .ref 136]) (H1 := H) (k1 := 0) (n1 := 0) (by with_unfolding_all rfl)) ?_
  refine ex_cv1 (as := [.int x0]) (rest := []) rfl rfl rfl rfl h136 rfl (by with_unfolding_all rfl) (by with_unfolding_all rfl) (fx_state_1_14 h136 c4 c5 c6 c7 c8 c9 c10 c11 c12 c13 c14 c15 c16 c17 c18) ?_
  rintro H287 ⟨-, k287⟩
  exact ex_r (st_iret rfl rfl rfl) ⟨trivial, fun j => (k287 j)⟩

set_option maxRecDepth 100000 in
theorem fx_state_35 {sL : Nat} {sx : Nat → Int32} {cs : Nat → Nat → Option Int32} {H : am_H} {v0_13 : Int32} {v136_0 : Int32} {v136_1 : Int32} {v136_9 : Int32} {x0 : Int32} (h0 : am_is H 0 (.inr (11, [.ref 1, .int 0, .ref 2, .int 0, .ref 3, .ref 93, .ref 97, .ref 115, .ref 116, .ref 129, .ref 123, .ref 127, .ref 128, .int v0_13, .null, .int 0]))) (h123 : am_is H 123 (.inr (4, [.ref 124, .ref 125, .int 0, .int (-1), .int 0, .ref 126]))) (h129 : am_is H 129 (.inr (8, [.ref 136, .ref 130, .ref 132, .ref 134, .int 0, .int 0, .int 0, .int 0, .int 0, .int 0, .int 0, .ref 135, .int 0, .int 0, .int 0]))) (h136 : am_is H 136 (.inr (3, [.int v136_0, .int v136_1, .ref 138, .ref 139, .ref 140, .int 0, .int 0, .int 0, .int 0, .int v136_9, .int 96, .int 0, .int 0, .int 0, .int 0, .int 0, .int 0, .ref 137]))) (h130 : am_is H 130 (.inr (0, [.ref 131, .int 0, .int 0]))) (h132 : am_is H 132 (.inr (0, [.ref 133, .int 0, .int 0]))) (c1 : ¬ x0 = 18) (c2 : ¬ x0 < 9) (c3 : 16 < x0) (c4 : ¬ x0 = 0) (c5 : ¬ x0 = 1) (c6 : ¬ x0 = 2) (c7 : ¬ x0 = 3) (c8 : ¬ x0 = 4) (c9 : ¬ x0 = 5) (c10 : ¬ x0 = 6) (c11 : ¬ x0 = 7) (c12 : ¬ x0 = 8) (c13 : ¬ x0 = 9) (c14 : ¬ x0 = 10) (c15 : ¬ x0 = 11) (c16 : ¬ x0 = 12) (c17 : ¬ x0 = 13) (c18 : ¬ x0 = 14) (c19 : x0 = 15)  :
    am_E sL sx cs 251 0 [(0, .ref 0), (1, .int x0)] [] H (some (.int (-1))) (fun H1 => (True) ∧ ∀ j : Nat, H1[j]? = H[j]?) := by
  refine ex_s (am_nb (m := 2) (pc1 := 3) (ls1 := [(0, .ref 0), (1, .int x0)]) (st1 := [.int 18, .int x0]) (H1 := H) (k1 := 0) (n1 := 0) (by with_unfolding_all rfl)) ?_
  refine ex_s (st_icmp rfl) ?_
  refine ex_pc (if_neg c1) ?_
  refine ex_s (am_nb (m := 2) (pc1 := 17) (ls1 := [(0, .ref 0), (1, .int x0)]) (st1 := [.int 9, .int x0]) (H1 := H) (k1 := 0) (n1 := 0) (by with_unfolding_all rfl)) ?_
  refine ex_s (st_icmp rfl) ?_
  refine ex_pc (if_neg c2) ?_
  refine ex_s (am_nb (m := 2) (pc1 := 23) (ls1 := [(0, .ref 0), (1, .int x0)]) (st1 := [.int 16, .int x0]) (H1 := H) (k1 := 0) (n1 := 0) (by with_unfolding_all rfl)) ?_
  refine ex_s (st_icmp rfl) ?_
  refine ex_pc (if_pos c3) ?_
  refine ex_s (am_nb (m := 1) (pc1 := 42) (ls1 := [(0, .ref 0), (1, .int x0)]) (st1 := [.ref 0]) (H1 := H) (k1 := 0) (n1 := 0) (by with_unfolding_all rfl)) ?_
  refine ex_s (st_get rfl h0 rfl) ?_
  refine ex_s (st_get rfl h129 rfl) ?_
  refine ex_s (am_nb (m := 1) (pc1 := 49) (ls1 := [(0, .ref 0), (1, .int x0)]) (st1 := [.int x0, .ref 136]) (H1 := H) (k1 := 0) (n1 := 0) (by with_unfolding_all rfl)) ?_
  refine ex_cv1 (as := [.int x0]) (rest := []) rfl rfl rfl rfl h136 rfl (by with_unfolding_all rfl) (by with_unfolding_all rfl) (fx_state_1_15 h136 c4 c5 c6 c7 c8 c9 c10 c11 c12 c13 c14 c15 c16 c17 c18 c19) ?_
  rintro H288 ⟨-, k288⟩
  exact ex_r (st_iret rfl rfl rfl) ⟨trivial, fun j => (k288 j)⟩

set_option maxRecDepth 100000 in
theorem fx_state_36 {sL : Nat} {sx : Nat → Int32} {cs : Nat → Nat → Option Int32} {H : am_H} {v0_13 : Int32} {v136_0 : Int32} {v136_1 : Int32} {v136_9 : Int32} {x0 : Int32} (h0 : am_is H 0 (.inr (11, [.ref 1, .int 0, .ref 2, .int 0, .ref 3, .ref 93, .ref 97, .ref 115, .ref 116, .ref 129, .ref 123, .ref 127, .ref 128, .int v0_13, .null, .int 0]))) (h123 : am_is H 123 (.inr (4, [.ref 124, .ref 125, .int 0, .int (-1), .int 0, .ref 126]))) (h129 : am_is H 129 (.inr (8, [.ref 136, .ref 130, .ref 132, .ref 134, .int 0, .int 0, .int 0, .int 0, .int 0, .int 0, .int 0, .ref 135, .int 0, .int 0, .int 0]))) (h136 : am_is H 136 (.inr (3, [.int v136_0, .int v136_1, .ref 138, .ref 139, .ref 140, .int 0, .int 0, .int 0, .int 0, .int v136_9, .int 96, .int 0, .int 0, .int 0, .int 0, .int 0, .int 0, .ref 137]))) (h130 : am_is H 130 (.inr (0, [.ref 131, .int 0, .int 0]))) (h132 : am_is H 132 (.inr (0, [.ref 133, .int 0, .int 0]))) (c1 : ¬ x0 = 18) (c2 : ¬ x0 < 9) (c3 : 16 < x0) (c4 : ¬ x0 = 0) (c5 : ¬ x0 = 1) (c6 : ¬ x0 = 2) (c7 : ¬ x0 = 3) (c8 : ¬ x0 = 4) (c9 : ¬ x0 = 5) (c10 : ¬ x0 = 6) (c11 : ¬ x0 = 7) (c12 : ¬ x0 = 8) (c13 : ¬ x0 = 9) (c14 : ¬ x0 = 10) (c15 : ¬ x0 = 11) (c16 : ¬ x0 = 12) (c17 : ¬ x0 = 13) (c18 : ¬ x0 = 14) (c19 : ¬ x0 = 15) (c20 : x0 = 16)  :
    am_E sL sx cs 251 0 [(0, .ref 0), (1, .int x0)] [] H (some (.int (-1))) (fun H1 => (True) ∧ ∀ j : Nat, H1[j]? = H[j]?) := by
  refine ex_s (am_nb (m := 2) (pc1 := 3) (ls1 := [(0, .ref 0), (1, .int x0)]) (st1 := [.int 18, .int x0]) (H1 := H) (k1 := 0) (n1 := 0) (by with_unfolding_all rfl)) ?_
  refine ex_s (st_icmp rfl) ?_
  refine ex_pc (if_neg c1) ?_
  refine ex_s (am_nb (m := 2) (pc1 := 17) (ls1 := [(0, .ref 0), (1, .int x0)]) (st1 := [.int 9, .int x0]) (H1 := H) (k1 := 0) (n1 := 0) (by with_unfolding_all rfl)) ?_
  refine ex_s (st_icmp rfl) ?_
  refine ex_pc (if_neg c2) ?_
  refine ex_s (am_nb (m := 2) (pc1 := 23) (ls1 := [(0, .ref 0), (1, .int x0)]) (st1 := [.int 16, .int x0]) (H1 := H) (k1 := 0) (n1 := 0) (by with_unfolding_all rfl)) ?_
  refine ex_s (st_icmp rfl) ?_
  refine ex_pc (if_pos c3) ?_
  refine ex_s (am_nb (m := 1) (pc1 := 42) (ls1 := [(0, .ref 0), (1, .int x0)]) (st1 := [.ref 0]) (H1 := H) (k1 := 0) (n1 := 0) (by with_unfolding_all rfl)) ?_
  refine ex_s (st_get rfl h0 rfl) ?_
  refine ex_s (st_get rfl h129 rfl) ?_
  refine ex_s (am_nb (m := 1) (pc1 := 49) (ls1 := [(0, .ref 0), (1, .int x0)]) (st1 := [.int x0, .ref 136]) (H1 := H) (k1 := 0) (n1 := 0) (by with_unfolding_all rfl)) ?_
  refine ex_cv1 (as := [.int x0]) (rest := []) rfl rfl rfl rfl h136 rfl (by with_unfolding_all rfl) (by with_unfolding_all rfl) (fx_state_1_16 h136 c4 c5 c6 c7 c8 c9 c10 c11 c12 c13 c14 c15 c16 c17 c18 c19 c20) ?_
  rintro H289 ⟨-, k289⟩
  exact ex_r (st_iret rfl rfl rfl) ⟨trivial, fun j => (k289 j)⟩

set_option maxRecDepth 100000 in
theorem fx_state_37 {sL : Nat} {sx : Nat → Int32} {cs : Nat → Nat → Option Int32} {H : am_H} {v0_13 : Int32} {v136_0 : Int32} {v136_1 : Int32} {v136_9 : Int32} {x0 : Int32} (h0 : am_is H 0 (.inr (11, [.ref 1, .int 0, .ref 2, .int 0, .ref 3, .ref 93, .ref 97, .ref 115, .ref 116, .ref 129, .ref 123, .ref 127, .ref 128, .int v0_13, .null, .int 0]))) (h123 : am_is H 123 (.inr (4, [.ref 124, .ref 125, .int 0, .int (-1), .int 0, .ref 126]))) (h129 : am_is H 129 (.inr (8, [.ref 136, .ref 130, .ref 132, .ref 134, .int 0, .int 0, .int 0, .int 0, .int 0, .int 0, .int 0, .ref 135, .int 0, .int 0, .int 0]))) (h136 : am_is H 136 (.inr (3, [.int v136_0, .int v136_1, .ref 138, .ref 139, .ref 140, .int 0, .int 0, .int 0, .int 0, .int v136_9, .int 96, .int 0, .int 0, .int 0, .int 0, .int 0, .int 0, .ref 137]))) (h130 : am_is H 130 (.inr (0, [.ref 131, .int 0, .int 0]))) (h132 : am_is H 132 (.inr (0, [.ref 133, .int 0, .int 0]))) (c1 : ¬ x0 = 18) (c2 : ¬ x0 < 9) (c3 : 16 < x0) (c4 : ¬ x0 = 0) (c5 : ¬ x0 = 1) (c6 : ¬ x0 = 2) (c7 : ¬ x0 = 3) (c8 : ¬ x0 = 4) (c9 : ¬ x0 = 5) (c10 : ¬ x0 = 6) (c11 : ¬ x0 = 7) (c12 : ¬ x0 = 8) (c13 : ¬ x0 = 9) (c14 : ¬ x0 = 10) (c15 : ¬ x0 = 11) (c16 : ¬ x0 = 12) (c17 : ¬ x0 = 13) (c18 : ¬ x0 = 14) (c19 : ¬ x0 = 15) (c20 : ¬ x0 = 16) (c21 : x0 = 17)  :
    am_E sL sx cs 251 0 [(0, .ref 0), (1, .int x0)] [] H (some (.int 0)) (fun H1 => (True) ∧ ∀ j : Nat, H1[j]? = H[j]?) := by
  refine ex_s (am_nb (m := 2) (pc1 := 3) (ls1 := [(0, .ref 0), (1, .int x0)]) (st1 := [.int 18, .int x0]) (H1 := H) (k1 := 0) (n1 := 0) (by with_unfolding_all rfl)) ?_
  refine ex_s (st_icmp rfl) ?_
  refine ex_pc (if_neg c1) ?_
  refine ex_s (am_nb (m := 2) (pc1 := 17) (ls1 := [(0, .ref 0), (1, .int x0)]) (st1 := [.int 9, .int x0]) (H1 := H) (k1 := 0) (n1 := 0) (by with_unfolding_all rfl)) ?_
  refine ex_s (st_icmp rfl) ?_
  refine ex_pc (if_neg c2) ?_
  refine ex_s (am_nb (m := 2) (pc1 := 23) (ls1 := [(0, .ref 0), (1, .int x0)]) (st1 := [.int 16, .int x0]) (H1 := H) (k1 := 0) (n1 := 0) (by with_unfolding_all rfl)) ?_
  refine ex_s (st_icmp rfl) ?_
  refine ex_pc (if_pos c3) ?_
  refine ex_s (am_nb (m := 1) (pc1 := 42) (ls1 := [(0, .ref 0), (1, .int x0)]) (st1 := [.ref 0]) (H1 := H) (k1 := 0) (n1 := 0) (by with_unfolding_all rfl)) ?_
  refine ex_s (st_get rfl h0 rfl) ?_
  refine ex_s (st_get rfl h129 rfl) ?_
  refine ex_s (am_nb (m := 1) (pc1 := 49) (ls1 := [(0, .ref 0), (1, .int x0)]) (st1 := [.int x0, .ref 136]) (H1 := H) (k1 := 0) (n1 := 0) (by with_unfolding_all rfl)) ?_
  refine ex_cv1 (as := [.int x0]) (rest := []) rfl rfl rfl rfl h136 rfl (by with_unfolding_all rfl) (by with_unfolding_all rfl) (fx_state_1_17 h136 c4 c5 c6 c7 c8 c9 c10 c11 c12 c13 c14 c15 c16 c17 c18 c19 c20 c21) ?_
  rintro H290 ⟨-, k290⟩
  exact ex_r (st_iret rfl rfl rfl) ⟨trivial, fun j => (k290 j)⟩

set_option maxRecDepth 100000 in
theorem fx_state_38 {sL : Nat} {sx : Nat → Int32} {cs : Nat → Nat → Option Int32} {H : am_H} {v0_13 : Int32} {v136_0 : Int32} {v136_1 : Int32} {v136_9 : Int32} {x0 : Int32} (h0 : am_is H 0 (.inr (11, [.ref 1, .int 0, .ref 2, .int 0, .ref 3, .ref 93, .ref 97, .ref 115, .ref 116, .ref 129, .ref 123, .ref 127, .ref 128, .int v0_13, .null, .int 0]))) (h123 : am_is H 123 (.inr (4, [.ref 124, .ref 125, .int 0, .int (-1), .int 0, .ref 126]))) (h129 : am_is H 129 (.inr (8, [.ref 136, .ref 130, .ref 132, .ref 134, .int 0, .int 0, .int 0, .int 0, .int 0, .int 0, .int 0, .ref 135, .int 0, .int 0, .int 0]))) (h136 : am_is H 136 (.inr (3, [.int v136_0, .int v136_1, .ref 138, .ref 139, .ref 140, .int 0, .int 0, .int 0, .int 0, .int v136_9, .int 96, .int 0, .int 0, .int 0, .int 0, .int 0, .int 0, .ref 137]))) (h130 : am_is H 130 (.inr (0, [.ref 131, .int 0, .int 0]))) (h132 : am_is H 132 (.inr (0, [.ref 133, .int 0, .int 0]))) (c1 : ¬ x0 = 18) (c2 : ¬ x0 < 9) (c3 : 16 < x0) (c4 : ¬ x0 = 0) (c5 : ¬ x0 = 1) (c6 : ¬ x0 = 2) (c7 : ¬ x0 = 3) (c8 : ¬ x0 = 4) (c9 : ¬ x0 = 5) (c10 : ¬ x0 = 6) (c11 : ¬ x0 = 7) (c12 : ¬ x0 = 8) (c13 : ¬ x0 = 9) (c14 : ¬ x0 = 10) (c15 : ¬ x0 = 11) (c16 : ¬ x0 = 12) (c17 : ¬ x0 = 13) (c18 : ¬ x0 = 14) (c19 : ¬ x0 = 15) (c20 : ¬ x0 = 16) (c21 : ¬ x0 = 17)  :
    am_E sL sx cs 251 0 [(0, .ref 0), (1, .int x0)] [] H (some (.int (-1))) (fun H1 => (True) ∧ ∀ j : Nat, H1[j]? = H[j]?) := by
  refine ex_s (am_nb (m := 2) (pc1 := 3) (ls1 := [(0, .ref 0), (1, .int x0)]) (st1 := [.int 18, .int x0]) (H1 := H) (k1 := 0) (n1 := 0) (by with_unfolding_all rfl)) ?_
  refine ex_s (st_icmp rfl) ?_
  refine ex_pc (if_neg c1) ?_
  refine ex_s (am_nb (m := 2) (pc1 := 17) (ls1 := [(0, .ref 0), (1, .int x0)]) (st1 := [.int 9, .int x0]) (H1 := H) (k1 := 0) (n1 := 0) (by with_unfolding_all rfl)) ?_
  refine ex_s (st_icmp rfl) ?_
  refine ex_pc (if_neg c2) ?_
  refine ex_s (am_nb (m := 2) (pc1 := 23) (ls1 := [(0, .ref 0), (1, .int x0)]) (st1 := [.int 16, .int x0]) (H1 := H) (k1 := 0) (n1 := 0) (by with_unfolding_all rfl)) ?_
  refine ex_s (st_icmp rfl) ?_
  refine ex_pc (if_pos c3) ?_
  refine ex_s (am_nb (m := 1) (pc1 := 42) (ls1 := [(0, .ref 0), (1, .int x0)]) (st1 := [.ref 0]) (H1 := H) (k1 := 0) (n1 := 0) (by with_unfolding_all rfl)) ?_
  refine ex_s (st_get rfl h0 rfl) ?_
  refine ex_s (st_get rfl h129 rfl) ?_
  refine ex_s (am_nb (m := 1) (pc1 := 49) (ls1 := [(0, .ref 0), (1, .int x0)]) (st1 := [.int x0, .ref 136]) (H1 := H) (k1 := 0) (n1 := 0) (by with_unfolding_all rfl)) ?_
  refine ex_cv1 (as := [.int x0]) (rest := []) rfl rfl rfl rfl h136 rfl (by with_unfolding_all rfl) (by with_unfolding_all rfl) (fx_state_1_18 h136 c4 c5 c6 c7 c8 c9 c10 c11 c12 c13 c14 c15 c16 c17 c18 c19 c20 c21) ?_
  rintro H291 ⟨-, k291⟩
  exact ex_r (st_iret rfl rfl rfl) ⟨trivial, fun j => (k291 j)⟩

set_option maxRecDepth 100000 in
theorem fx_state_39 {sL : Nat} {sx : Nat → Int32} {cs : Nat → Nat → Option Int32} {H : am_H} {v0_13 : Int32} {v136_0 : Int32} {v136_1 : Int32} {v136_9 : Int32} {x0 : Int32} (h0 : am_is H 0 (.inr (11, [.ref 1, .int 0, .ref 2, .int 0, .ref 3, .ref 93, .ref 97, .ref 115, .ref 116, .ref 129, .ref 123, .ref 127, .ref 128, .int v0_13, .null, .int 0]))) (h123 : am_is H 123 (.inr (4, [.ref 124, .ref 125, .int 0, .int (-1), .int 0, .ref 126]))) (h129 : am_is H 129 (.inr (8, [.ref 136, .ref 130, .ref 132, .ref 134, .int 0, .int 0, .int 0, .int 0, .int 0, .int 0, .int 0, .ref 135, .int 0, .int 0, .int 0]))) (h136 : am_is H 136 (.inr (3, [.int v136_0, .int v136_1, .ref 138, .ref 139, .ref 140, .int 0, .int 0, .int 0, .int 0, .int v136_9, .int 96, .int 0, .int 0, .int 0, .int 0, .int 0, .int 0, .ref 137]))) (h130 : am_is H 130 (.inr (0, [.ref 131, .int 0, .int 0]))) (h132 : am_is H 132 (.inr (0, [.ref 133, .int 0, .int 0]))) (c1 : ¬ x0 = 18) (c2 : ¬ x0 < 9) (c3 : ¬ 16 < x0) (c4 : x0 = 10) (c5 : x0 = 0)  :
    am_E sL sx cs 251 0 [(0, .ref 0), (1, .int x0)] [] H (some (.int 0)) (fun H1 => (True) ∧ ∀ j : Nat, H1[j]? = H[j]?) := by
  refine ex_s (am_nb (m := 2) (pc1 := 3) (ls1 := [(0, .ref 0), (1, .int x0)]) (st1 := [.int 18, .int x0]) (H1 := H) (k1 := 0) (n1 := 0) (by with_unfolding_all rfl)) ?_
  refine ex_s (st_icmp rfl) ?_
  refine ex_pc (if_neg c1) ?_
  refine ex_s (am_nb (m := 2) (pc1 := 17) (ls1 := [(0, .ref 0), (1, .int x0)]) (st1 := [.int 9, .int x0]) (H1 := H) (k1 := 0) (n1 := 0) (by with_unfolding_all rfl)) ?_
  refine ex_s (st_icmp rfl) ?_
  refine ex_pc (if_neg c2) ?_
  refine ex_s (am_nb (m := 2) (pc1 := 23) (ls1 := [(0, .ref 0), (1, .int x0)]) (st1 := [.int 16, .int x0]) (H1 := H) (k1 := 0) (n1 := 0) (by with_unfolding_all rfl)) ?_
  refine ex_s (st_icmp rfl) ?_
  refine ex_pc (if_neg c3) ?_
  refine ex_s (am_nb (m := 2) (pc1 := 29) (ls1 := [(0, .ref 0), (1, .int x0)]) (st1 := [.int 10, .int x0]) (H1 := H) (k1 := 0) (n1 := 0) (by with_unfolding_all rfl)) ?_
  refine ex_s (st_icmp rfl) ?_
  refine ex_pc (if_pos c4) ?_
  refine ex_s (am_nb (m := 1) (pc1 := 42) (ls1 := [(0, .ref 0), (1, .int x0)]) (st1 := [.ref 0]) (H1 := H) (k1 := 0) (n1 := 0) (by with_unfolding_all rfl)) ?_
  refine ex_s (st_get rfl h0 rfl) ?_
  refine ex_s (st_get rfl h129 rfl) ?_
  refine ex_s (am_nb (m := 1) (pc1 := 49) (ls1 := [(0, .ref 0), (1, .int x0)]) (st1 := [.int x0, .ref 136]) (H1 := H) (k1 := 0) (n1 := 0) (by with_unfolding_all rfl)) ?_
  refine ex_cv1 (as := [.int x0]) (rest := []) rfl rfl rfl rfl h136 rfl (by with_unfolding_all rfl) (by with_unfolding_all rfl) (fx_state_1_0 h136 c5) ?_
  rintro H292 ⟨-, k292⟩
  exact ex_r (st_iret rfl rfl rfl) ⟨trivial, fun j => (k292 j)⟩

set_option maxRecDepth 100000 in
theorem fx_state_40 {sL : Nat} {sx : Nat → Int32} {cs : Nat → Nat → Option Int32} {H : am_H} {v0_13 : Int32} {v136_0 : Int32} {v136_1 : Int32} {v136_9 : Int32} {x0 : Int32} (h0 : am_is H 0 (.inr (11, [.ref 1, .int 0, .ref 2, .int 0, .ref 3, .ref 93, .ref 97, .ref 115, .ref 116, .ref 129, .ref 123, .ref 127, .ref 128, .int v0_13, .null, .int 0]))) (h123 : am_is H 123 (.inr (4, [.ref 124, .ref 125, .int 0, .int (-1), .int 0, .ref 126]))) (h129 : am_is H 129 (.inr (8, [.ref 136, .ref 130, .ref 132, .ref 134, .int 0, .int 0, .int 0, .int 0, .int 0, .int 0, .int 0, .ref 135, .int 0, .int 0, .int 0]))) (h136 : am_is H 136 (.inr (3, [.int v136_0, .int v136_1, .ref 138, .ref 139, .ref 140, .int 0, .int 0, .int 0, .int 0, .int v136_9, .int 96, .int 0, .int 0, .int 0, .int 0, .int 0, .int 0, .ref 137]))) (h130 : am_is H 130 (.inr (0, [.ref 131, .int 0, .int 0]))) (h132 : am_is H 132 (.inr (0, [.ref 133, .int 0, .int 0]))) (c1 : ¬ x0 = 18) (c2 : ¬ x0 < 9) (c3 : ¬ 16 < x0) (c4 : x0 = 10) (c5 : ¬ x0 = 0) (c6 : x0 = 1)  :
    am_E sL sx cs 251 0 [(0, .ref 0), (1, .int x0)] [] H (some (.int 0)) (fun H1 => (True) ∧ ∀ j : Nat, H1[j]? = H[j]?) := by
  refine ex_s (am_nb (m := 2) (pc1 := 3) (ls1 := [(0, .ref 0), (1, .int x0)]) (st1 := [.int 18, .int x0]) (H1 := H) (k1 := 0) (n1 := 0) (by with_unfolding_all rfl)) ?_
  refine ex_s (st_icmp rfl) ?_
  refine ex_pc (if_neg c1) ?_
  refine ex_s (am_nb (m := 2) (pc1 := 17) (ls1 := [(0, .ref 0), (1, .int x0)]) (st1 := [.int 9, .int x0]) (H1 := H) (k1 := 0) (n1 := 0) (by with_unfolding_all rfl)) ?_
  refine ex_s (st_icmp rfl) ?_
  refine ex_pc (if_neg c2) ?_
  refine ex_s (am_nb (m := 2) (pc1 := 23) (ls1 := [(0, .ref 0), (1, .int x0)]) (st1 := [.int 16, .int x0]) (H1 := H) (k1 := 0) (n1 := 0) (by with_unfolding_all rfl)) ?_
  refine ex_s (st_icmp rfl) ?_
  refine ex_pc (if_neg c3) ?_
  refine ex_s (am_nb (m := 2) (pc1 := 29) (ls1 := [(0, .ref 0), (1, .int x0)]) (st1 := [.int 10, .int x0]) (H1 := H) (k1 := 0) (n1 := 0) (by with_unfolding_all rfl)) ?_
  refine ex_s (st_icmp rfl) ?_
  refine ex_pc (if_pos c4) ?_
  refine ex_s (am_nb (m := 1) (pc1 := 42) (ls1 := [(0, .ref 0), (1, .int x0)]) (st1 := [.ref 0]) (H1 := H) (k1 := 0) (n1 := 0) (by with_unfolding_all rfl)) ?_
  refine ex_s (st_get rfl h0 rfl) ?_
  refine ex_s (st_get rfl h129 rfl) ?_
  refine ex_s (am_nb (m := 1) (pc1 := 49) (ls1 := [(0, .ref 0), (1, .int x0)]) (st1 := [.int x0, .ref 136]) (H1 := H) (k1 := 0) (n1 := 0) (by with_unfolding_all rfl)) ?_
  refine ex_cv1 (as := [.int x0]) (rest := []) rfl rfl rfl rfl h136 rfl (by with_unfolding_all rfl) (by with_unfolding_all rfl) (fx_state_1_1 h136 c5 c6) ?_
  rintro H293 ⟨-, k293⟩
  exact ex_r (st_iret rfl rfl rfl) ⟨trivial, fun j => (k293 j)⟩

set_option maxRecDepth 100000 in
theorem fx_state_41 {sL : Nat} {sx : Nat → Int32} {cs : Nat → Nat → Option Int32} {H : am_H} {v0_13 : Int32} {v136_0 : Int32} {v136_1 : Int32} {v136_9 : Int32} {x0 : Int32} (h0 : am_is H 0 (.inr (11, [.ref 1, .int 0, .ref 2, .int 0, .ref 3, .ref 93, .ref 97, .ref 115, .ref 116, .ref 129, .ref 123, .ref 127, .ref 128, .int v0_13, .null, .int 0]))) (h123 : am_is H 123 (.inr (4, [.ref 124, .ref 125, .int 0, .int (-1), .int 0, .ref 126]))) (h129 : am_is H 129 (.inr (8, [.ref 136, .ref 130, .ref 132, .ref 134, .int 0, .int 0, .int 0, .int 0, .int 0, .int 0, .int 0, .ref 135, .int 0, .int 0, .int 0]))) (h136 : am_is H 136 (.inr (3, [.int v136_0, .int v136_1, .ref 138, .ref 139, .ref 140, .int 0, .int 0, .int 0, .int 0, .int v136_9, .int 96, .int 0, .int 0, .int 0, .int 0, .int 0, .int 0, .ref 137]))) (h130 : am_is H 130 (.inr (0, [.ref 131, .int 0, .int 0]))) (h132 : am_is H 132 (.inr (0, [.ref 133, .int 0, .int 0]))) (c1 : ¬ x0 = 18) (c2 : ¬ x0 < 9) (c3 : ¬ 16 < x0) (c4 : x0 = 10) (c5 : ¬ x0 = 0) (c6 : ¬ x0 = 1) (c7 : x0 = 2)  :
    am_E sL sx cs 251 0 [(0, .ref 0), (1, .int x0)] [] H (some (.int 0)) (fun H1 => (True) ∧ ∀ j : Nat, H1[j]? = H[j]?) := by
  refine ex_s (am_nb (m := 2) (pc1 := 3) (ls1 := [(0, .ref 0), (1, .int x0)]) (st1 := [.int 18, .int x0]) (H1 := H) (k1 := 0) (n1 := 0) (by with_unfolding_all rfl)) ?_
  refine ex_s (st_icmp rfl) ?_
  refine ex_pc (if_neg c1) ?_
  refine ex_s (am_nb (m := 2) (pc1 := 17) (ls1 := [(0, .ref 0), (1, .int x0)]) (st1 := [.int 9, .int x0]) (H1 := H) (k1 := 0) (n1 := 0) (by with_unfolding_all rfl)) ?_
  refine ex_s (st_icmp rfl) ?_
  refine ex_pc (if_neg c2) ?_
  refine ex_s (am_nb (m := 2) (pc1 := 23) (ls1 := [(0, .ref 0), (1, .int x0)]) (st1 := [.int 16, .int x0]) (H1 := H) (k1 := 0) (n1 := 0) (by with_unfolding_all rfl)) ?_
  refine ex_s (st_icmp rfl) ?_
  refine ex_pc (if_neg c3) ?_
  refine ex_s (am_nb (m := 2) (pc1 := 29) (ls1 := [(0, .ref 0), (1, .int x0)]) (st1 := [.int 10, .int x0]) (H1 := H) (k1 := 0) (n1 := 0) (by with_unfolding_all rfl)) ?_
  refine ex_s (st_icmp rfl) ?_
  refine ex_pc (if_pos c4) ?_
  refine ex_s (am_nb (m := 1) (pc1 := 42) (ls1 := [(0, .ref 0), (1, .int x0)]) (st1 := [.ref 0]) (H1 := H) (k1 := 0) (n1 := 0) (by with_unfolding_all rfl)) ?_
  refine ex_s (st_get rfl h0 rfl) ?_
  refine ex_s (st_get rfl h129 rfl) ?_
  refine ex_s (am_nb (m := 1) (pc1 := 49) (ls1 := [(0, .ref 0), (1, .int x0)]) (st1 := [.int x0, .ref 136]) (H1 := H) (k1 := 0) (n1 := 0) (by with_unfolding_all rfl)) ?_
  refine ex_cv1 (as := [.int x0]) (rest := []) rfl rfl rfl rfl h136 rfl (by with_unfolding_all rfl) (by with_unfolding_all rfl) (fx_state_1_2 h136 c5 c6 c7) ?_
  rintro H294 ⟨-, k294⟩
  exact ex_r (st_iret rfl rfl rfl) ⟨trivial, fun j => (k294 j)⟩

set_option maxRecDepth 100000 in
theorem fx_state_42 {sL : Nat} {sx : Nat → Int32} {cs : Nat → Nat → Option Int32} {H : am_H} {v0_13 : Int32} {v136_0 : Int32} {v136_1 : Int32} {v136_9 : Int32} {x0 : Int32} (h0 : am_is H 0 (.inr (11, [.ref 1, .int 0, .ref 2, .int 0, .ref 3, .ref 93, .ref 97, .ref 115, .ref 116, .ref 129, .ref 123, .ref 127, .ref 128, .int v0_13, .null, .int 0]))) (h123 : am_is H 123 (.inr (4, [.ref 124, .ref 125, .int 0, .int (-1), .int 0, .ref 126]))) (h129 : am_is H 129 (.inr (8, [.ref 136, .ref 130, .ref 132, .ref 134, .int 0, .int 0, .int 0, .int 0, .int 0, .int 0, .int 0, .ref 135, .int 0, .int 0, .int 0]))) (h136 : am_is H 136 (.inr (3, [.int v136_0, .int v136_1, .ref 138, .ref 139, .ref 140, .int 0, .int 0, .int 0, .int 0, .int v136_9, .int 96, .int 0, .int 0, .int 0, .int 0, .int 0, .int 0, .ref 137]))) (h130 : am_is H 130 (.inr (0, [.ref 131, .int 0, .int 0]))) (h132 : am_is H 132 (.inr (0, [.ref 133, .int 0, .int 0]))) (c1 : ¬ x0 = 18) (c2 : ¬ x0 < 9) (c3 : ¬ 16 < x0) (c4 : x0 = 10) (c5 : ¬ x0 = 0) (c6 : ¬ x0 = 1) (c7 : ¬ x0 = 2) (c8 : x0 = 3)  :
    am_E sL sx cs 251 0 [(0, .ref 0), (1, .int x0)] [] H (some (.int 0)) (fun H1 => (True) ∧ ∀ j : Nat, H1[j]? = H[j]?) := by
  refine ex_s (am_nb (m := 2) (pc1 := 3) (ls1 := [(0, .ref 0), (1, .int x0)]) (st1 := [.int 18, .int x0]) (H1 := H) (k1 := 0) (n1 := 0) (by with_unfolding_all rfl)) ?_
  refine ex_s (st_icmp rfl) ?_
  refine ex_pc (if_neg c1) ?_
  refine ex_s (am_nb (m := 2) (pc1 := 17) (ls1 := [(0, .ref 0), (1, .int x0)]) (st1 := [.int 9, .int x0]) (H1 := H) (k1 := 0) (n1 := 0) (by with_unfolding_all rfl)) ?_
  refine ex_s (st_icmp rfl) ?_
  refine ex_pc (if_neg c2) ?_
  refine ex_s (am_nb (m := 2) (pc1 := 23) (ls1 := [(0, .ref 0), (1, .int x0)]) (st1 := [.int 16, .int x0]) (H1 := H) (k1 := 0) (n1 := 0) (by with_unfolding_all rfl)) ?_
  refine ex_s (st_icmp rfl) ?_
  refine ex_pc (if_neg c3) ?_
  refine ex_s (am_nb (m := 2) (pc1 := 29) (ls1 := [(0, .ref 0), (1, .int x0)]) (st1 := [.int 10, .int x0]) (H1 := H) (k1 := 0) (n1 := 0) (by with_unfolding_all rfl)) ?_
  refine ex_s (st_icmp rfl) ?_
  refine ex_pc (if_pos c4) ?_
  refine ex_s (am_nb (m := 1) (pc1 := 42) (ls1 := [(0, .ref 0), (1, .int x0)]) (st1 := [.ref 0]) (H1 := H) (k1 := 0) (n1 := 0) (by with_unfolding_all rfl)) ?_
  refine ex_s (st_get rfl h0 rfl) ?_
  refine ex_s (st_get rfl h129 rfl) ?_
  refine ex_s (am_nb (m := 1) (pc1 := 49) (ls1 := [(0, .ref 0), (1, .int x0)]) (st1 := [.int x0, .ref 136]) (H1 := H) (k1 := 0) (n1 := 0) (by with_unfolding_all rfl)) ?_
  refine ex_cv1 (as := [.int x0]) (rest := []) rfl rfl rfl rfl h136 rfl (by with_unfolding_all rfl) (by with_unfolding_all rfl) (fx_state_1_3 h136 c5 c6 c7 c8) ?_
  rintro H295 ⟨-, k295⟩
  exact ex_r (st_iret rfl rfl rfl) ⟨trivial, fun j => (k295 j)⟩

set_option maxRecDepth 100000 in
theorem fx_state_43 {sL : Nat} {sx : Nat → Int32} {cs : Nat → Nat → Option Int32} {H : am_H} {v0_13 : Int32} {v136_0 : Int32} {v136_1 : Int32} {v136_9 : Int32} {x0 : Int32} (h0 : am_is H 0 (.inr (11, [.ref 1, .int 0, .ref 2, .int 0, .ref 3, .ref 93, .ref 97, .ref 115, .ref 116, .ref 129, .ref 123, .ref 127, .ref 128, .int v0_13, .null, .int 0]))) (h123 : am_is H 123 (.inr (4, [.ref 124, .ref 125, .int 0, .int (-1), .int 0, .ref 126]))) (h129 : am_is H 129 (.inr (8, [.ref 136, .ref 130, .ref 132, .ref 134, .int 0, .int 0, .int 0, .int 0, .int 0, .int 0, .int 0, .ref 135, .int 0, .int 0, .int 0]))) (h136 : am_is H 136 (.inr (3, [.int v136_0, .int v136_1, .ref 138, .ref 139, .ref 140, .int 0, .int 0, .int 0, .int 0, .int v136_9, .int 96, .int 0, .int 0, .int 0, .int 0, .int 0, .int 0, .ref 137]))) (h130 : am_is H 130 (.inr (0, [.ref 131, .int 0, .int 0]))) (h132 : am_is H 132 (.inr (0, [.ref 133, .int 0, .int 0]))) (c1 : ¬ x0 = 18) (c2 : ¬ x0 < 9) (c3 : ¬ 16 < x0) (c4 : x0 = 10) (c5 : ¬ x0 = 0) (c6 : ¬ x0 = 1) (c7 : ¬ x0 = 2) (c8 : ¬ x0 = 3) (c9 : x0 = 4)  :
    am_E sL sx cs 251 0 [(0, .ref 0), (1, .int x0)] [] H (some (.int v136_9)) (fun H1 => (True) ∧ ∀ j : Nat, H1[j]? = H[j]?) := by
  refine ex_s (am_nb (m := 2) (pc1 := 3) (ls1 := [(0, .ref 0), (1, .int x0)]) (st1 := [.int 18, .int x0]) (H1 := H) (k1 := 0) (n1 := 0) (by with_unfolding_all rfl)) ?_
  refine ex_s (st_icmp rfl) ?_
  refine ex_pc (if_neg c1) ?_
  refine ex_s (am_nb (m := 2) (pc1 := 17) (ls1 := [(0, .ref 0), (1, .int x0)]) (st1 := [.int 9, .int x0]) (H1 := H) (k1 := 0) (n1 := 0) (by with_unfolding_all rfl)) ?_
  refine ex_s (st_icmp rfl) ?_
  refine ex_pc (if_neg c2) ?_
  refine ex_s (am_nb (m := 2) (pc1 := 23) (ls1 := [(0, .ref 0), (1, .int x0)]) (st1 := [.int 16, .int x0]) (H1 := H) (k1 := 0) (n1 := 0) (by with_unfolding_all rfl)) ?_
  refine ex_s (st_icmp rfl) ?_
  refine ex_pc (if_neg c3) ?_
  refine ex_s (am_nb (m := 2) (pc1 := 29) (ls1 := [(0, .ref 0), (1, .int x0)]) (st1 := [.int 10, .int x0]) (H1 := H) (k1 := 0) (n1 := 0) (by with_unfolding_all rfl)) ?_
  refine ex_s (st_icmp rfl) ?_
  refine ex_pc (if_pos c4) ?_
  refine ex_s (am_nb (m := 1) (pc1 := 42) (ls1 := [(0, .ref 0), (1, .int x0)]) (st1 := [.ref 0]) (H1 := H) (k1 := 0) (n1 := 0) (by with_unfolding_all rfl)) ?_
  refine ex_s (st_get rfl h0 rfl) ?_
  refine ex_s (st_get rfl h129 rfl) ?_
  refine ex_s (am_nb (m := 1) (pc1 := 49) (ls1 := [(0, .ref 0), (1, .int x0)]) (st1 := [.int x0, .ref 136]) (H1 := H) (k1 := 0) (n1 := 0) (by with_unfolding_all rfl)) ?_
  refine ex_cv1 (as := [.int x0]) (rest := []) rfl rfl rfl rfl h136 rfl (by with_unfolding_all rfl) (by with_unfolding_all rfl) (fx_state_1_4 h136 c5 c6 c7 c8 c9) ?_
  rintro H296 ⟨-, k296⟩
  exact ex_r (st_iret rfl rfl rfl) ⟨trivial, fun j => (k296 j)⟩

set_option maxRecDepth 100000 in
theorem fx_state_44 {sL : Nat} {sx : Nat → Int32} {cs : Nat → Nat → Option Int32} {H : am_H} {v0_13 : Int32} {v136_0 : Int32} {v136_1 : Int32} {v136_9 : Int32} {x0 : Int32} (h0 : am_is H 0 (.inr (11, [.ref 1, .int 0, .ref 2, .int 0, .ref 3, .ref 93, .ref 97, .ref 115, .ref 116, .ref 129, .ref 123, .ref 127, .ref 128, .int v0_13, .null, .int 0]))) (h123 : am_is H 123 (.inr (4, [.ref 124, .ref 125, .int 0, .int (-1), .int 0, .ref 126]))) (h129 : am_is H 129 (.inr (8, [.ref 136, .ref 130, .ref 132, .ref 134, .int 0, .int 0, .int 0, .int 0, .int 0, .int 0, .int 0, .ref 135, .int 0, .int 0, .int 0]))) (h136 : am_is H 136 (.inr (3, [.int v136_0, .int v136_1, .ref 138, .ref 139, .ref 140, .int 0, .int 0, .int 0, .int 0, .int v136_9, .int 96, .int 0, .int 0, .int 0, .int 0, .int 0, .int 0, .ref 137]))) (h130 : am_is H 130 (.inr (0, [.ref 131, .int 0, .int 0]))) (h132 : am_is H 132 (.inr (0, [.ref 133, .int 0, .int 0]))) (c1 : ¬ x0 = 18) (c2 : ¬ x0 < 9) (c3 : ¬ 16 < x0) (c4 : x0 = 10) (c5 : ¬ x0 = 0) (c6 : ¬ x0 = 1) (c7 : ¬ x0 = 2) (c8 : ¬ x0 = 3) (c9 : ¬ x0 = 4) (c10 : x0 = 5)  :
    am_E sL sx cs 251 0 [(0, .ref 0), (1, .int x0)] [] H (some (.int 0)) (fun H1 => (True) ∧ ∀ j : Nat, H1[j]? = H[j]?) := by
  refine ex_s (am_nb (m := 2) (pc1 := 3) (ls1 := [(0, .ref 0), (1, .int x0)]) (st1 := [.int 18, .int x0]) (H1 := H) (k1 := 0) (n1 := 0) (by with_unfolding_all rfl)) ?_
  refine ex_s (st_icmp rfl) ?_
  refine ex_pc (if_neg c1) ?_
  refine ex_s (am_nb (m := 2) (pc1 := 17) (ls1 := [(0, .ref 0), (1, .int x0)]) (st1 := [.int 9, .int x0]) (H1 := H) (k1 := 0) (n1 := 0) (by with_unfolding_all rfl)) ?_
  refine ex_s (st_icmp rfl) ?_
  refine ex_pc (if_neg c2) ?_
  refine ex_s (am_nb (m := 2) (pc1 := 23) (ls1 := [(0, .ref 0), (1, .int x0)]) (st1 := [.int 16, .int x0]) (H1 := H) (k1 := 0) (n1 := 0) (by with_unfolding_all rfl)) ?_
  refine ex_s (st_icmp rfl) ?_
  refine ex_pc (if_neg c3) ?_
  refine ex_s (am_nb (m := 2) (pc1 := 29) (ls1 := [(0, .ref 0), (1, .int x0)]) (st1 := [.int 10, .int x0]) (H1 := H) (k1 := 0) (n1 := 0) (by with_unfolding_all rfl)) ?_
  refine ex_s (st_icmp rfl) ?_
  refine ex_pc (if_pos c4) ?_
  refine ex_s (am_nb (m := 1) (pc1 := 42) (ls1 := [(0, .ref 0), (1, .int x0)]) (st1 := [.ref 0]) (H1 := H) (k1 := 0) (n1 := 0) (by with_unfolding_all rfl)) ?_
  refine ex_s (st_get rfl h0 rfl) ?_
  refine ex_s (st_get rfl h129 rfl) ?_
  refine ex_s (am_nb (m := 1) (pc1 := 49) (ls1 := [(0, .ref 0), (1, .int x0)]) (st1 := [.int x0, .ref 136]) (H1 := H) (k1 := 0) (n1 := 0) (by with_unfolding_all rfl)) ?_
  refine ex_cv1 (as := [.int x0]) (rest := []) rfl rfl rfl rfl h136 rfl (by with_unfolding_all rfl) (by with_unfolding_all rfl) (fx_state_1_5 h136 c5 c6 c7 c8 c9 c10) ?_
  rintro H297 ⟨-, k297⟩
  exact ex_r (st_iret rfl rfl rfl) ⟨trivial, fun j => (k297 j)⟩

set_option maxRecDepth 100000 in
theorem fx_state_45 {sL : Nat} {sx : Nat → Int32} {cs : Nat → Nat → Option Int32} {H : am_H} {v0_13 : Int32} {v136_0 : Int32} {v136_1 : Int32} {v136_9 : Int32} {x0 : Int32} (h0 : am_is H 0 (.inr (11, [.ref 1, .int 0, .ref 2, .int 0, .ref 3, .ref 93, .ref 97, .ref 115, .ref 116, .ref 129, .ref 123, .ref 127, .ref 128, .int v0_13, .null, .int 0]))) (h123 : am_is H 123 (.inr (4, [.ref 124, .ref 125, .int 0, .int (-1), .int 0, .ref 126]))) (h129 : am_is H 129 (.inr (8, [.ref 136, .ref 130, .ref 132, .ref 134, .int 0, .int 0, .int 0, .int 0, .int 0, .int 0, .int 0, .ref 135, .int 0, .int 0, .int 0]))) (h136 : am_is H 136 (.inr (3, [.int v136_0, .int v136_1, .ref 138, .ref 139, .ref 140, .int 0, .int 0, .int 0, .int 0, .int v136_9, .int 96, .int 0, .int 0, .int 0, .int 0, .int 0, .int 0, .ref 137]))) (h130 : am_is H 130 (.inr (0, [.ref 131, .int 0, .int 0]))) (h132 : am_is H 132 (.inr (0, [.ref 133, .int 0, .int 0]))) (c1 : ¬ x0 = 18) (c2 : ¬ x0 < 9) (c3 : ¬ 16 < x0) (c4 : x0 = 10) (c5 : ¬ x0 = 0) (c6 : ¬ x0 = 1) (c7 : ¬ x0 = 2) (c8 : ¬ x0 = 3) (c9 : ¬ x0 = 4) (c10 : ¬ x0 = 5) (c11 : x0 = 6)  :
    am_E sL sx cs 251 0 [(0, .ref 0), (1, .int x0)] [] H (some (.int 96)) (fun H1 => (True) ∧ ∀ j : Nat, H1[j]? = H[j]?) := by
  refine ex_s (am_nb (m := 2) (pc1 := 3) (ls1 := [(0, .ref 0), (1, .int x0)]) (st1 := [.int 18, .int x0]) (H1 := H) (k1 := 0) (n1 := 0) (by with_unfolding_all rfl)) ?_
  refine ex_s (st_icmp rfl) ?_
  refine ex_pc (if_neg c1) ?_
  refine ex_s (am_nb (m := 2) (pc1 := 17) (ls1 := [(0, .ref 0), (1, .int x0)]) (st1 := [.int 9, .int x0]) (H1 := H) (k1 := 0) (n1 := 0) (by with_unfolding_all rfl)) ?_
  refine ex_s (st_icmp rfl) ?_
  refine ex_pc (if_neg c2) ?_
  refine ex_s (am_nb (m := 2) (pc1 := 23) (ls1 := [(0, .ref 0), (1, .int x0)]) (st1 := [.int 16, .int x0]) (H1 := H) (k1 := 0) (n1 := 0) (by with_unfolding_all rfl)) ?_
  refine ex_s (st_icmp rfl) ?_
  refine ex_pc (if_neg c3) ?_
  refine ex_s (am_nb (m := 2) (pc1 := 29) (ls1 := [(0, .ref 0), (1, .int x0)]) (st1 := [.int 10, .int x0]) (H1 := H) (k1 := 0) (n1 := 0) (by with_unfolding_all rfl)) ?_
  refine ex_s (st_icmp rfl) ?_
  refine ex_pc (if_pos c4) ?_
  refine ex_s (am_nb (m := 1) (pc1 := 42) (ls1 := [(0, .ref 0), (1, .int x0)]) (st1 := [.ref 0]) (H1 := H) (k1 := 0) (n1 := 0) (by with_unfolding_all rfl)) ?_
  refine ex_s (st_get rfl h0 rfl) ?_
  refine ex_s (st_get rfl h129 rfl) ?_
  refine ex_s (am_nb (m := 1) (pc1 := 49) (ls1 := [(0, .ref 0), (1, .int x0)]) (st1 := [.int x0, .ref 136]) (H1 := H) (k1 := 0) (n1 := 0) (by with_unfolding_all rfl)) ?_
  refine ex_cv1 (as := [.int x0]) (rest := []) rfl rfl rfl rfl h136 rfl (by with_unfolding_all rfl) (by with_unfolding_all rfl) (fx_state_1_6 h136 c5 c6 c7 c8 c9 c10 c11) ?_
  rintro H298 ⟨-, k298⟩
  exact ex_r (st_iret rfl rfl rfl) ⟨trivial, fun j => (k298 j)⟩

set_option maxRecDepth 100000 in
theorem fx_state_46 {sL : Nat} {sx : Nat → Int32} {cs : Nat → Nat → Option Int32} {H : am_H} {v0_13 : Int32} {v136_0 : Int32} {v136_1 : Int32} {v136_9 : Int32} {x0 : Int32} (h0 : am_is H 0 (.inr (11, [.ref 1, .int 0, .ref 2, .int 0, .ref 3, .ref 93, .ref 97, .ref 115, .ref 116, .ref 129, .ref 123, .ref 127, .ref 128, .int v0_13, .null, .int 0]))) (h123 : am_is H 123 (.inr (4, [.ref 124, .ref 125, .int 0, .int (-1), .int 0, .ref 126]))) (h129 : am_is H 129 (.inr (8, [.ref 136, .ref 130, .ref 132, .ref 134, .int 0, .int 0, .int 0, .int 0, .int 0, .int 0, .int 0, .ref 135, .int 0, .int 0, .int 0]))) (h136 : am_is H 136 (.inr (3, [.int v136_0, .int v136_1, .ref 138, .ref 139, .ref 140, .int 0, .int 0, .int 0, .int 0, .int v136_9, .int 96, .int 0, .int 0, .int 0, .int 0, .int 0, .int 0, .ref 137]))) (h130 : am_is H 130 (.inr (0, [.ref 131, .int 0, .int 0]))) (h132 : am_is H 132 (.inr (0, [.ref 133, .int 0, .int 0]))) (c1 : ¬ x0 = 18) (c2 : ¬ x0 < 9) (c3 : ¬ 16 < x0) (c4 : x0 = 10) (c5 : ¬ x0 = 0) (c6 : ¬ x0 = 1) (c7 : ¬ x0 = 2) (c8 : ¬ x0 = 3) (c9 : ¬ x0 = 4) (c10 : ¬ x0 = 5) (c11 : ¬ x0 = 6) (c12 : x0 = 7)  :
    am_E sL sx cs 251 0 [(0, .ref 0), (1, .int x0)] [] H (some (.int 0)) (fun H1 => (True) ∧ ∀ j : Nat, H1[j]? = H[j]?) := by
  refine ex_s (am_nb (m := 2) (pc1 := 3) (ls1 := [(0, .ref 0), (1, .int x0)]) (st1 := [.int 18, .int x0]) (H1 := H) (k1 := 0) (n1 := 0) (by with_unfolding_all rfl)) ?_
  refine ex_s (st_icmp rfl) ?_
  refine ex_pc (if_neg c1) ?_
  refine ex_s (am_nb (m := 2) (pc1 := 17) (ls1 := [(0, .ref 0), (1, .int x0)]) (st1 := [.int 9, .int x0]) (H1 := H) (k1 := 0) (n1 := 0) (by with_unfolding_all rfl)) ?_
  refine ex_s (st_icmp rfl) ?_
  refine ex_pc (if_neg c2) ?_
  refine ex_s (am_nb (m := 2) (pc1 := 23) (ls1 := [(0, .ref 0), (1, .int x0)]) (st1 := [.int 16, .int x0]) (H1 := H) (k1 := 0) (n1 := 0) (by with_unfolding_all rfl)) ?_
  refine ex_s (st_icmp rfl) ?_
  refine ex_pc (if_neg c3) ?_
  refine ex_s (am_nb (m := 2) (pc1 := 29) (ls1 := [(0, .ref 0), (1, .int x0)]) (st1 := [.int 10, .int x0]) (H1 := H) (k1 := 0) (n1 := 0) (by with_unfolding_all rfl)) ?_
  refine ex_s (st_icmp rfl) ?_
  refine ex_pc (if_pos c4) ?_
  refine ex_s (am_nb (m := 1) (pc1 := 42) (ls1 := [(0, .ref 0), (1, .int x0)]) (st1 := [.ref 0]) (H1 := H) (k1 := 0) (n1 := 0) (by with_unfolding_all rfl)) ?_
  refine ex_s (st_get rfl h0 rfl) ?_
  refine ex_s (st_get rfl h129 rfl) ?_
  refine ex_s (am_nb (m := 1) (pc1 := 49) (ls1 := [(0, .ref 0), (1, .int x0)]) (st1 := [.int x0, .ref 136]) (H1 := H) (k1 := 0) (n1 := 0) (by with_unfolding_all rfl)) ?_
  refine ex_cv1 (as := [.int x0]) (rest := []) rfl rfl rfl rfl h136 rfl (by with_unfolding_all rfl) (by with_unfolding_all rfl) (fx_state_1_7 h136 c5 c6 c7 c8 c9 c10 c11 c12) ?_
  rintro H299 ⟨-, k299⟩
  exact ex_r (st_iret rfl rfl rfl) ⟨trivial, fun j => (k299 j)⟩

set_option maxRecDepth 100000 in
theorem fx_state_47 {sL : Nat} {sx : Nat → Int32} {cs : Nat → Nat → Option Int32} {H : am_H} {v0_13 : Int32} {v136_0 : Int32} {v136_1 : Int32} {v136_9 : Int32} {x0 : Int32} (h0 : am_is H 0 (.inr (11, [.ref 1, .int 0, .ref 2, .int 0, .ref 3, .ref 93, .ref 97, .ref 115, .ref 116, .ref 129, .ref 123, .ref 127, .ref 128, .int v0_13, .null, .int 0]))) (h123 : am_is H 123 (.inr (4, [.ref 124, .ref 125, .int 0, .int (-1), .int 0, .ref 126]))) (h129 : am_is H 129 (.inr (8, [.ref 136, .ref 130, .ref 132, .ref 134, .int 0, .int 0, .int 0, .int 0, .int 0, .int 0, .int 0, .ref 135, .int 0, .int 0, .int 0]))) (h136 : am_is H 136 (.inr (3, [.int v136_0, .int v136_1, .ref 138, .ref 139, .ref 140, .int 0, .int 0, .int 0, .int 0, .int v136_9, .int 96, .int 0, .int 0, .int 0, .int 0, .int 0, .int 0, .ref 137]))) (h130 : am_is H 130 (.inr (0, [.ref 131, .int 0, .int 0]))) (h132 : am_is H 132 (.inr (0, [.ref 133, .int 0, .int 0]))) (c1 : ¬ x0 = 18) (c2 : ¬ x0 < 9) (c3 : ¬ 16 < x0) (c4 : x0 = 10) (c5 : ¬ x0 = 0) (c6 : ¬ x0 = 1) (c7 : ¬ x0 = 2) (c8 : ¬ x0 = 3) (c9 : ¬ x0 = 4) (c10 : ¬ x0 = 5) (c11 : ¬ x0 = 6) (c12 : ¬ x0 = 7) (c13 : x0 = 8)  :
    am_E sL sx cs 251 0 [(0, .ref 0), (1, .int x0)] [] H (some (.int 0)) (fun H1 => (True) ∧ ∀ j : Nat, H1[j]? = H[j]?) := by
  refine ex_s (am_nb (m := 2) (pc1 := 3) (ls1 := [(0, .ref 0), (1, .int x0)]) (st1 := [.int 18, .int x0]) (H1 := H) (k1 := 0) (n1 := 0) (by with_unfolding_all rfl)) ?_
  refine ex_s (st_icmp rfl) ?_
  refine ex_pc (if_neg c1) ?_
  refine ex_s (am_nb (m := 2) (pc1 := 17) (ls1 := [(0, .ref 0), (1, .int x0)]) (st1 := [.int 9, .int x0]) (H1 := H) (k1 := 0) (n1 := 0) (by with_unfolding_all rfl)) ?_
  refine ex_s (st_icmp rfl) ?_
  refine ex_pc (if_neg c2) ?_
  refine ex_s (am_nb (m := 2) (pc1 := 23) (ls1 := [(0, .ref 0), (1, .int x0)]) (st1 := [.int 16, .int x0]) (H1 := H) (k1 := 0) (n1 := 0) (by with_unfolding_all rfl)) ?_
  refine ex_s (st_icmp rfl) ?_
  refine ex_pc (if_neg c3) ?_
  refine ex_s (am_nb (m := 2) (pc1 := 29) (ls1 := [(0, .ref 0), (1, .int x0)]) (st1 := [.int 10, .int x0]) (H1 := H) (k1 := 0) (n1 := 0) (by with_unfolding_all rfl)) ?_
  refine ex_s (st_icmp rfl) ?_
  refine ex_pc (if_pos c4) ?_
  refine ex_s (am_nb (m := 1) (pc1 := 42) (ls1 := [(0, .ref 0), (1, .int x0)]) (st1 := [.ref 0]) (H1 := H) (k1 := 0) (n1 := 0) (by with_unfolding_all rfl)) ?_
  refine ex_s (st_get rfl h0 rfl) ?_
  refine ex_s (st_get rfl h129 rfl) ?_
  refine ex_s (am_nb (m := 1) (pc1 := 49) (ls1 := [(0, .ref 0), (1, .int x0)]) (st1 := [.int x0, .ref 136]) (H1 := H) (k1 := 0) (n1 := 0) (by with_unfolding_all rfl)) ?_
  refine ex_cv1 (as := [.int x0]) (rest := []) rfl rfl rfl rfl h136 rfl (by with_unfolding_all rfl) (by with_unfolding_all rfl) (fx_state_1_8 h136 c5 c6 c7 c8 c9 c10 c11 c12 c13) ?_
  rintro H300 ⟨-, k300⟩
  exact ex_r (st_iret rfl rfl rfl) ⟨trivial, fun j => (k300 j)⟩

set_option maxRecDepth 100000 in
theorem fx_state_48 {sL : Nat} {sx : Nat → Int32} {cs : Nat → Nat → Option Int32} {H : am_H} {v0_13 : Int32} {v136_0 : Int32} {v136_1 : Int32} {v136_9 : Int32} {x0 : Int32} (h0 : am_is H 0 (.inr (11, [.ref 1, .int 0, .ref 2, .int 0, .ref 3, .ref 93, .ref 97, .ref 115, .ref 116, .ref 129, .ref 123, .ref 127, .ref 128, .int v0_13, .null, .int 0]))) (h123 : am_is H 123 (.inr (4, [.ref 124, .ref 125, .int 0, .int (-1), .int 0, .ref 126]))) (h129 : am_is H 129 (.inr (8, [.ref 136, .ref 130, .ref 132, .ref 134, .int 0, .int 0, .int 0, .int 0, .int 0, .int 0, .int 0, .ref 135, .int 0, .int 0, .int 0]))) (h136 : am_is H 136 (.inr (3, [.int v136_0, .int v136_1, .ref 138, .ref 139, .ref 140, .int 0, .int 0, .int 0, .int 0, .int v136_9, .int 96, .int 0, .int 0, .int 0, .int 0, .int 0, .int 0, .ref 137]))) (h130 : am_is H 130 (.inr (0, [.ref 131, .int 0, .int 0]))) (h132 : am_is H 132 (.inr (0, [.ref 133, .int 0, .int 0]))) (c1 : ¬ x0 = 18) (c2 : ¬ x0 < 9) (c3 : ¬ 16 < x0) (c4 : x0 = 10) (c5 : ¬ x0 = 0) (c6 : ¬ x0 = 1) (c7 : ¬ x0 = 2) (c8 : ¬ x0 = 3) (c9 : ¬ x0 = 4) (c10 : ¬ x0 = 5) (c11 : ¬ x0 = 6) (c12 : ¬ x0 = 7) (c13 : ¬ x0 = 8) (c14 : x0 = 9)  :
    am_E sL sx cs 251 0 [(0, .ref 0), (1, .int x0)] [] H (some (.int (-1))) (fun H1 => (True) ∧ ∀ j : Nat, H1[j]? = H[j]?) := by
  refine ex_s (am_nb (m := 2) (pc1 := 3) (ls1 := [(0, .ref 0), (1, .int x0)]) (st1 := [.int 18, .int x0]) (H1 := H) (k1 := 0) (n1 := 0) (by with_unfolding_all rfl)) ?_
  refine ex_s (st_icmp rfl) ?_
  refine ex_pc (if_neg c1) ?_
  refine ex_s (am_nb (m := 2) (pc1 := 17) (ls1 := [(0, .ref 0), (1, .int x0)]) (st1 := [.int 9, .int x0]) (H1 := H) (k1 := 0) (n1 := 0) (by with_unfolding_all rfl)) ?_
  refine ex_s (st_icmp rfl) ?_
  refine ex_pc (if_neg c2) ?_
  refine ex_s (am_nb (m := 2) (pc1 := 23) (ls1 := [(0, .ref 0), (1, .int x0)]) (st1 := [.int 16, .int x0]) (H1 := H) (k1 := 0) (n1 := 0) (by with_unfolding_all rfl)) ?_
  refine ex_s (st_icmp rfl) ?_
  refine ex_pc (if_neg c3) ?_
  refine ex_s (am_nb (m := 2) (pc1 := 29) (ls1 := [(0, .ref 0), (1, .int x0)]) (st1 := [.int 10, .int x0]) (H1 := H) (k1 := 0) (n1 := 0) (by with_unfolding_all rfl)) ?_
  refine ex_s (st_icmp rfl) ?_
  refine ex_pc (if_pos c4) ?_
  refine ex_s (am_nb (m := 1) (pc1 := 42) (ls1 := [(0, .ref 0), (1, .int x0)]) (st1 := [.ref 0]) (H1 := H) (k1 := 0) (n1 := 0) (by with_unfolding_all rfl)) ?_
  refine ex_s (st_get rfl h0 rfl) ?_
  refine ex_s (st_get rfl h129 rfl) ?_
  refine ex_s (am_nb (m := 1) (pc1 := 49) (ls1 := [(0, .ref 0), (1, .int x0)]) (st1 := [.int x0, .ref 136]) (H1 := H) (k1 := 0) (n1 := 0) (by with_unfolding_all rfl)) ?_
  refine ex_cv1 (as := [.int x0]) (rest := []) rfl rfl rfl rfl h136 rfl (by with_unfolding_all rfl) (by with_unfolding_all rfl) (fx_state_1_9 h136 c5 c6 c7 c8 c9 c10 c11 c12 c13 c14) ?_
  rintro H301 ⟨-, k301⟩
  exact ex_r (st_iret rfl rfl rfl) ⟨trivial, fun j => (k301 j)⟩

set_option maxRecDepth 100000 in
theorem fx_state_49 {sL : Nat} {sx : Nat → Int32} {cs : Nat → Nat → Option Int32} {H : am_H} {v0_13 : Int32} {v136_0 : Int32} {v136_1 : Int32} {v136_9 : Int32} {x0 : Int32} (h0 : am_is H 0 (.inr (11, [.ref 1, .int 0, .ref 2, .int 0, .ref 3, .ref 93, .ref 97, .ref 115, .ref 116, .ref 129, .ref 123, .ref 127, .ref 128, .int v0_13, .null, .int 0]))) (h123 : am_is H 123 (.inr (4, [.ref 124, .ref 125, .int 0, .int (-1), .int 0, .ref 126]))) (h129 : am_is H 129 (.inr (8, [.ref 136, .ref 130, .ref 132, .ref 134, .int 0, .int 0, .int 0, .int 0, .int 0, .int 0, .int 0, .ref 135, .int 0, .int 0, .int 0]))) (h136 : am_is H 136 (.inr (3, [.int v136_0, .int v136_1, .ref 138, .ref 139, .ref 140, .int 0, .int 0, .int 0, .int 0, .int v136_9, .int 96, .int 0, .int 0, .int 0, .int 0, .int 0, .int 0, .ref 137]))) (h130 : am_is H 130 (.inr (0, [.ref 131, .int 0, .int 0]))) (h132 : am_is H 132 (.inr (0, [.ref 133, .int 0, .int 0]))) (c1 : ¬ x0 = 18) (c2 : ¬ x0 < 9) (c3 : ¬ 16 < x0) (c4 : x0 = 10) (c5 : ¬ x0 = 0) (c6 : ¬ x0 = 1) (c7 : ¬ x0 = 2) (c8 : ¬ x0 = 3) (c9 : ¬ x0 = 4) (c10 : ¬ x0 = 5) (c11 : ¬ x0 = 6) (c12 : ¬ x0 = 7) (c13 : ¬ x0 = 8) (c14 : ¬ x0 = 9)  :
    am_E sL sx cs 251 0 [(0, .ref 0), (1, .int x0)] [] H (some (.int 0)) (fun H1 => (True) ∧ ∀ j : Nat, H1[j]? = H[j]?) := by
  refine ex_s (am_nb (m := 2) (pc1 := 3) (ls1 := [(0, .ref 0), (1, .int x0)]) (st1 := [.int 18, .int x0]) (H1 := H) (k1 := 0) (n1 := 0) (by with_unfolding_all rfl)) ?_
  refine ex_s (st_icmp rfl) ?_
  refine ex_pc (if_neg c1) ?_
  refine ex_s (am_nb (m := 2) (pc1 := 17) (ls1 := [(0, .ref 0), (1, .int x0)]) (st1 := [.int 9, .int x0]) (H1 := H) (k1 := 0) (n1 := 0) (by with_unfolding_all rfl)) ?_
  refine ex_s (st_icmp rfl) ?_
  refine ex_pc (if_neg c2) ?_
  refine ex_s (am_nb (m := 2) (pc1 := 23) (ls1 := [(0, .ref 0), (1, .int x0)]) (st1 := [.int 16, .int x0]) (H1 := H) (k1 := 0) (n1 := 0) (by with_unfolding_all rfl)) ?_
  refine ex_s (st_icmp rfl) ?_
  refine ex_pc (if_neg c3) ?_
  refine ex_s (am_nb (m := 2) (pc1 := 29) (ls1 := [(0, .ref 0), (1, .int x0)]) (st1 := [.int 10, .int x0]) (H1 := H) (k1 := 0) (n1 := 0) (by with_unfolding_all rfl)) ?_
  refine ex_s (st_icmp rfl) ?_
  refine ex_pc (if_pos c4) ?_
  refine ex_s (am_nb (m := 1) (pc1 := 42) (ls1 := [(0, .ref 0), (1, .int x0)]) (st1 := [.ref 0]) (H1 := H) (k1 := 0) (n1 := 0) (by with_unfolding_all rfl)) ?_
  refine ex_s (st_get rfl h0 rfl) ?_
  refine ex_s (st_get rfl h129 rfl) ?_
  refine ex_s (am_nb (m := 1) (pc1 := 49) (ls1 := [(0, .ref 0), (1, .int x0)]) (st1 := [.int x0, .ref 136]) (H1 := H) (k1 := 0) (n1 := 0) (by with_unfolding_all rfl)) ?_
  refine ex_cv1 (as := [.int x0]) (rest := []) rfl rfl rfl rfl h136 rfl (by with_unfolding_all rfl) (by with_unfolding_all rfl) (fx_state_1_10 h136 c5 c6 c7 c8 c9 c10 c11 c12 c13 c14 c4) ?_
  rintro H302 ⟨-, k302⟩
  exact ex_r (st_iret rfl rfl rfl) ⟨trivial, fun j => (k302 j)⟩

set_option maxRecDepth 100000 in
theorem fx_state_50 {sL : Nat} {sx : Nat → Int32} {cs : Nat → Nat → Option Int32} {H : am_H} {v0_13 : Int32} {v136_0 : Int32} {v136_1 : Int32} {v136_9 : Int32} {x0 : Int32} (h0 : am_is H 0 (.inr (11, [.ref 1, .int 0, .ref 2, .int 0, .ref 3, .ref 93, .ref 97, .ref 115, .ref 116, .ref 129, .ref 123, .ref 127, .ref 128, .int v0_13, .null, .int 0]))) (h123 : am_is H 123 (.inr (4, [.ref 124, .ref 125, .int 0, .int (-1), .int 0, .ref 126]))) (h129 : am_is H 129 (.inr (8, [.ref 136, .ref 130, .ref 132, .ref 134, .int 0, .int 0, .int 0, .int 0, .int 0, .int 0, .int 0, .ref 135, .int 0, .int 0, .int 0]))) (h136 : am_is H 136 (.inr (3, [.int v136_0, .int v136_1, .ref 138, .ref 139, .ref 140, .int 0, .int 0, .int 0, .int 0, .int v136_9, .int 96, .int 0, .int 0, .int 0, .int 0, .int 0, .int 0, .ref 137]))) (h130 : am_is H 130 (.inr (0, [.ref 131, .int 0, .int 0]))) (h132 : am_is H 132 (.inr (0, [.ref 133, .int 0, .int 0]))) (c1 : ¬ x0 = 18) (c2 : ¬ x0 < 9) (c3 : ¬ 16 < x0) (c4 : ¬ x0 = 10) (c5 : x0 = 9)  :
    am_E sL sx cs 251 0 [(0, .ref 0), (1, .int x0)] [] H (some (.int 0)) (fun H1 => (True) ∧ ∀ j : Nat, H1[j]? = H[j]?) := by
  refine ex_s (am_nb (m := 2) (pc1 := 3) (ls1 := [(0, .ref 0), (1, .int x0)]) (st1 := [.int 18, .int x0]) (H1 := H) (k1 := 0) (n1 := 0) (by with_unfolding_all rfl)) ?_
  refine ex_s (st_icmp rfl) ?_
  refine ex_pc (if_neg c1) ?_
  refine ex_s (am_nb (m := 2) (pc1 := 17) (ls1 := [(0, .ref 0), (1, .int x0)]) (st1 := [.int 9, .int x0]) (H1 := H) (k1 := 0) (n1 := 0) (by with_unfolding_all rfl)) ?_
  refine ex_s (st_icmp rfl) ?_
  refine ex_pc (if_neg c2) ?_
  refine ex_s (am_nb (m := 2) (pc1 := 23) (ls1 := [(0, .ref 0), (1, .int x0)]) (st1 := [.int 16, .int x0]) (H1 := H) (k1 := 0) (n1 := 0) (by with_unfolding_all rfl)) ?_
  refine ex_s (st_icmp rfl) ?_
  refine ex_pc (if_neg c3) ?_
  refine ex_s (am_nb (m := 2) (pc1 := 29) (ls1 := [(0, .ref 0), (1, .int x0)]) (st1 := [.int 10, .int x0]) (H1 := H) (k1 := 0) (n1 := 0) (by with_unfolding_all rfl)) ?_
  refine ex_s (st_icmp rfl) ?_
  refine ex_pc (if_neg c4) ?_
  refine ex_s (am_nb (m := 1) (pc1 := 33) (ls1 := [(0, .ref 0), (1, .int x0)]) (st1 := [.ref 0]) (H1 := H) (k1 := 0) (n1 := 0) (by with_unfolding_all rfl)) ?_
  refine ex_s (st_get rfl h0 rfl) ?_
  refine ex_s (am_nb (m := 1) (pc1 := 37) (ls1 := [(0, .ref 0), (1, .int x0)]) (st1 := [.int x0, .ref 129]) (H1 := H) (k1 := 0) (n1 := 0) (by with_unfolding_all rfl)) ?_
  refine ex_cv1 (as := [.int x0]) (rest := []) rfl rfl rfl rfl h129 rfl (by with_unfolding_all rfl) (by with_unfolding_all rfl) (fx_state_2_0 h129 h130 h132 c5) ?_
  rintro H305 ⟨-, k305⟩
  exact ex_r (st_iret rfl rfl rfl) ⟨trivial, fun j => (k305 j)⟩

set_option maxRecDepth 100000 in
theorem fx_state_51 {sL : Nat} {sx : Nat → Int32} {cs : Nat → Nat → Option Int32} {H : am_H} {v0_13 : Int32} {v136_0 : Int32} {v136_1 : Int32} {v136_9 : Int32} {x0 : Int32} (h0 : am_is H 0 (.inr (11, [.ref 1, .int 0, .ref 2, .int 0, .ref 3, .ref 93, .ref 97, .ref 115, .ref 116, .ref 129, .ref 123, .ref 127, .ref 128, .int v0_13, .null, .int 0]))) (h123 : am_is H 123 (.inr (4, [.ref 124, .ref 125, .int 0, .int (-1), .int 0, .ref 126]))) (h129 : am_is H 129 (.inr (8, [.ref 136, .ref 130, .ref 132, .ref 134, .int 0, .int 0, .int 0, .int 0, .int 0, .int 0, .int 0, .ref 135, .int 0, .int 0, .int 0]))) (h136 : am_is H 136 (.inr (3, [.int v136_0, .int v136_1, .ref 138, .ref 139, .ref 140, .int 0, .int 0, .int 0, .int 0, .int v136_9, .int 96, .int 0, .int 0, .int 0, .int 0, .int 0, .int 0, .ref 137]))) (h130 : am_is H 130 (.inr (0, [.ref 131, .int 0, .int 0]))) (h132 : am_is H 132 (.inr (0, [.ref 133, .int 0, .int 0]))) (c1 : ¬ x0 = 18) (c2 : ¬ x0 < 9) (c3 : ¬ 16 < x0) (c4 : ¬ x0 = 10) (c5 : ¬ x0 = 9) (c6 : x0 = 11)  :
    am_E sL sx cs 251 0 [(0, .ref 0), (1, .int x0)] [] H (some (.int 0)) (fun H1 => (True) ∧ ∀ j : Nat, H1[j]? = H[j]?) := by
  refine ex_s (am_nb (m := 2) (pc1 := 3) (ls1 := [(0, .ref 0), (1, .int x0)]) (st1 := [.int 18, .int x0]) (H1 := H) (k1 := 0) (n1 := 0) (by with_unfolding_all rfl)) ?_
  refine ex_s (st_icmp rfl) ?_
  refine ex_pc (if_neg c1) ?_
  refine ex_s (am_nb (m := 2) (pc1 := 17) (ls1 := [(0, .ref 0), (1, .int x0)]) (st1 := [.int 9, .int x0]) (H1 := H) (k1 := 0) (n1 := 0) (by with_unfolding_all rfl)) ?_
  refine ex_s (st_icmp rfl) ?_
  refine ex_pc (if_neg c2) ?_
  refine ex_s (am_nb (m := 2) (pc1 := 23) (ls1 := [(0, .ref 0), (1, .int x0)]) (st1 := [.int 16, .int x0]) (H1 := H) (k1 := 0) (n1 := 0) (by with_unfolding_all rfl)) ?_
  refine ex_s (st_icmp rfl) ?_
  refine ex_pc (if_neg c3) ?_
  refine ex_s (am_nb (m := 2) (pc1 := 29) (ls1 := [(0, .ref 0), (1, .int x0)]) (st1 := [.int 10, .int x0]) (H1 := H) (k1 := 0) (n1 := 0) (by with_unfolding_all rfl)) ?_
  refine ex_s (st_icmp rfl) ?_
  refine ex_pc (if_neg c4) ?_
  refine ex_s (am_nb (m := 1) (pc1 := 33) (ls1 := [(0, .ref 0), (1, .int x0)]) (st1 := [.ref 0]) (H1 := H) (k1 := 0) (n1 := 0) (by with_unfolding_all rfl)) ?_
  refine ex_s (st_get rfl h0 rfl) ?_
  refine ex_s (am_nb (m := 1) (pc1 := 37) (ls1 := [(0, .ref 0), (1, .int x0)]) (st1 := [.int x0, .ref 129]) (H1 := H) (k1 := 0) (n1 := 0) (by with_unfolding_all rfl)) ?_
  refine ex_cv1 (as := [.int x0]) (rest := []) rfl rfl rfl rfl h129 rfl (by with_unfolding_all rfl) (by with_unfolding_all rfl) (fx_state_2_2 h129 h130 h132 c5 c4 c6) ?_
  rintro H306 ⟨-, k306⟩
  exact ex_r (st_iret rfl rfl rfl) ⟨trivial, fun j => (k306 j)⟩

set_option maxRecDepth 100000 in
theorem fx_state_52 {sL : Nat} {sx : Nat → Int32} {cs : Nat → Nat → Option Int32} {H : am_H} {v0_13 : Int32} {v136_0 : Int32} {v136_1 : Int32} {v136_9 : Int32} {x0 : Int32} (h0 : am_is H 0 (.inr (11, [.ref 1, .int 0, .ref 2, .int 0, .ref 3, .ref 93, .ref 97, .ref 115, .ref 116, .ref 129, .ref 123, .ref 127, .ref 128, .int v0_13, .null, .int 0]))) (h123 : am_is H 123 (.inr (4, [.ref 124, .ref 125, .int 0, .int (-1), .int 0, .ref 126]))) (h129 : am_is H 129 (.inr (8, [.ref 136, .ref 130, .ref 132, .ref 134, .int 0, .int 0, .int 0, .int 0, .int 0, .int 0, .int 0, .ref 135, .int 0, .int 0, .int 0]))) (h136 : am_is H 136 (.inr (3, [.int v136_0, .int v136_1, .ref 138, .ref 139, .ref 140, .int 0, .int 0, .int 0, .int 0, .int v136_9, .int 96, .int 0, .int 0, .int 0, .int 0, .int 0, .int 0, .ref 137]))) (h130 : am_is H 130 (.inr (0, [.ref 131, .int 0, .int 0]))) (h132 : am_is H 132 (.inr (0, [.ref 133, .int 0, .int 0]))) (c1 : ¬ x0 = 18) (c2 : ¬ x0 < 9) (c3 : ¬ 16 < x0) (c4 : ¬ x0 = 10) (c5 : ¬ x0 = 9) (c6 : ¬ x0 = 11) (c7 : x0 = 12)  :
    am_E sL sx cs 251 0 [(0, .ref 0), (1, .int x0)] [] H (some (.int 0)) (fun H1 => (True) ∧ ∀ j : Nat, H1[j]? = H[j]?) := by
  refine ex_s (am_nb (m := 2) (pc1 := 3) (ls1 := [(0, .ref 0), (1, .int x0)]) (st1 := [.int 18, .int x0]) (H1 := H) (k1 := 0) (n1 := 0) (by with_unfolding_all rfl)) ?_
  refine ex_s (st_icmp rfl) ?_
  refine ex_pc (if_neg c1) ?_
  refine ex_s (am_nb (m := 2) (pc1 := 17) (ls1 := [(0, .ref 0), (1, .int x0)]) (st1 := [.int 9, .int x0]) (H1 := H) (k1 := 0) (n1 := 0) (by with_unfolding_all rfl)) ?_
  refine ex_s (st_icmp rfl) ?_
  refine ex_pc (if_neg c2) ?_
  refine ex_s (am_nb (m := 2) (pc1 := 23) (ls1 := [(0, .ref 0), (1, .int x0)]) (st1 := [.int 16, .int x0]) (H1 := H) (k1 := 0) (n1 := 0) (by with_unfolding_all rfl)) ?_
  refine ex_s (st_icmp rfl) ?_
  refine ex_pc (if_neg c3) ?_
  refine ex_s (am_nb (m := 2) (pc1 := 29) (ls1 := [(0, .ref 0), (1, .int x0)]) (st1 := [.int 10, .int x0]) (H1 := H) (k1 := 0) (n1 := 0) (by with_unfolding_all rfl)) ?_
  refine ex_s (st_icmp rfl) ?_
  refine ex_pc (if_neg c4) ?_
  refine ex_s (am_nb (m := 1) (pc1 := 33) (ls1 := [(0, .ref 0), (1, .int x0)]) (st1 := [.ref 0]) (H1 := H) (k1 := 0) (n1 := 0) (by with_unfolding_all rfl)) ?_
  refine ex_s (st_get rfl h0 rfl) ?_
  refine ex_s (am_nb (m := 1) (pc1 := 37) (ls1 := [(0, .ref 0), (1, .int x0)]) (st1 := [.int x0, .ref 129]) (H1 := H) (k1 := 0) (n1 := 0) (by with_unfolding_all rfl)) ?_
  refine ex_cv1 (as := [.int x0]) (rest := []) rfl rfl rfl rfl h129 rfl (by with_unfolding_all rfl) (by with_unfolding_all rfl) (fx_state_2_3 h129 h130 h132 c5 c4 c6 c7) ?_
  rintro H307 ⟨-, k307⟩
  exact ex_r (st_iret rfl rfl rfl) ⟨trivial, fun j => (k307 j)⟩

set_option maxRecDepth 100000 in
theorem fx_state_53 {sL : Nat} {sx : Nat → Int32} {cs : Nat → Nat → Option Int32} {H : am_H} {v0_13 : Int32} {v136_0 : Int32} {v136_1 : Int32} {v136_9 : Int32} {x0 : Int32} (h0 : am_is H 0 (.inr (11, [.ref 1, .int 0, .ref 2, .int 0, .ref 3, .ref 93, .ref 97, .ref 115, .ref 116, .ref 129, .ref 123, .ref 127, .ref 128, .int v0_13, .null, .int 0]))) (h123 : am_is H 123 (.inr (4, [.ref 124, .ref 125, .int 0, .int (-1), .int 0, .ref 126]))) (h129 : am_is H 129 (.inr (8, [.ref 136, .ref 130, .ref 132, .ref 134, .int 0, .int 0, .int 0, .int 0, .int 0, .int 0, .int 0, .ref 135, .int 0, .int 0, .int 0]))) (h136 : am_is H 136 (.inr (3, [.int v136_0, .int v136_1, .ref 138, .ref 139, .ref 140, .int 0, .int 0, .int 0, .int 0, .int v136_9, .int 96, .int 0, .int 0, .int 0, .int 0, .int 0, .int 0, .ref 137]))) (h130 : am_is H 130 (.inr (0, [.ref 131, .int 0, .int 0]))) (h132 : am_is H 132 (.inr (0, [.ref 133, .int 0, .int 0]))) (c1 : ¬ x0 = 18) (c2 : ¬ x0 < 9) (c3 : ¬ 16 < x0) (c4 : ¬ x0 = 10) (c5 : ¬ x0 = 9) (c6 : ¬ x0 = 11) (c7 : ¬ x0 = 12) (c8 : x0 = 13)  :
    am_E sL sx cs 251 0 [(0, .ref 0), (1, .int x0)] [] H (some (.int 0)) (fun H1 => (True) ∧ ∀ j : Nat, H1[j]? = H[j]?) := by
  refine ex_s (am_nb (m := 2) (pc1 := 3) (ls1 := [(0, .ref 0), (1, .int x0)]) (st1 := [.int 18, .int x0]) (H1 := H) (k1 := 0) (n1 := 0) (by with_unfolding_all rfl)) ?_
  refine ex_s (st_icmp rfl) ?_
  refine ex_pc (if_neg c1) ?_
  refine ex_s (am_nb (m := 2) (pc1 := 17) (ls1 := [(0, .ref 0), (1, .int x0)]) (st1 := [.int 9, .int x0]) (H1 := H) (k1 := 0) (n1 := 0) (by with_unfolding_all rfl)) ?_
  refine ex_s (st_icmp rfl) ?_
  refine ex_pc (if_neg c2) ?_
  refine ex_s (am_nb (m := 2) (pc1 := 23) (ls1 := [(0, .ref 0), (1, .int x0)]) (st1 := [.int 16, .int x0]) (H1 := H) (k1 := 0) (n1 := 0) (by with_unfolding_all rfl)) ?_
  refine ex_s (st_icmp rfl) ?_
  refine ex_pc (if_neg c3) ?_
  refine ex_s (am_nb (m := 2) (pc1 := 29) (ls1 := [(0, .ref 0), (1, .int x0)]) (st1 := [.int 10, .int x0]) (H1 := H) (k1 := 0) (n1 := 0) (by with_unfolding_all rfl)) ?_
  refine ex_s (st_icmp rfl) ?_
  refine ex_pc (if_neg c4) ?_
  refine ex_s (am_nb (m := 1) (pc1 := 33) (ls1 := [(0, .ref 0), (1, .int x0)]) (st1 := [.ref 0]) (H1 := H) (k1 := 0) (n1 := 0) (by with_unfolding_all rfl)) ?_
  refine ex_s (st_get rfl h0 rfl) ?_
  refine ex_s (am_nb (m := 1) (pc1 := 37) (ls1 := [(0, .ref 0), (1, .int x0)]) (st1 := [.int x0, .ref 129]) (H1 := H) (k1 := 0) (n1 := 0) (by with_unfolding_all rfl)) ?_
  refine ex_cv1 (as := [.int x0]) (rest := []) rfl rfl rfl rfl h129 rfl (by with_unfolding_all rfl) (by with_unfolding_all rfl) (fx_state_2_4 h129 h130 h132 c5 c4 c6 c7 c8) ?_
  rintro H308 ⟨-, k308⟩
  exact ex_r (st_iret rfl rfl rfl) ⟨trivial, fun j => (k308 j)⟩

set_option maxRecDepth 100000 in
theorem fx_state_54 {sL : Nat} {sx : Nat → Int32} {cs : Nat → Nat → Option Int32} {H : am_H} {v0_13 : Int32} {v136_0 : Int32} {v136_1 : Int32} {v136_9 : Int32} {x0 : Int32} (h0 : am_is H 0 (.inr (11, [.ref 1, .int 0, .ref 2, .int 0, .ref 3, .ref 93, .ref 97, .ref 115, .ref 116, .ref 129, .ref 123, .ref 127, .ref 128, .int v0_13, .null, .int 0]))) (h123 : am_is H 123 (.inr (4, [.ref 124, .ref 125, .int 0, .int (-1), .int 0, .ref 126]))) (h129 : am_is H 129 (.inr (8, [.ref 136, .ref 130, .ref 132, .ref 134, .int 0, .int 0, .int 0, .int 0, .int 0, .int 0, .int 0, .ref 135, .int 0, .int 0, .int 0]))) (h136 : am_is H 136 (.inr (3, [.int v136_0, .int v136_1, .ref 138, .ref 139, .ref 140, .int 0, .int 0, .int 0, .int 0, .int v136_9, .int 96, .int 0, .int 0, .int 0, .int 0, .int 0, .int 0, .ref 137]))) (h130 : am_is H 130 (.inr (0, [.ref 131, .int 0, .int 0]))) (h132 : am_is H 132 (.inr (0, [.ref 133, .int 0, .int 0]))) (c1 : ¬ x0 = 18) (c2 : ¬ x0 < 9) (c3 : ¬ 16 < x0) (c4 : ¬ x0 = 10) (c5 : ¬ x0 = 9) (c6 : ¬ x0 = 11) (c7 : ¬ x0 = 12) (c8 : ¬ x0 = 13) (c9 : x0 = 14)  :
    am_E sL sx cs 251 0 [(0, .ref 0), (1, .int x0)] [] H (some (.int 0)) (fun H1 => (True) ∧ ∀ j : Nat, H1[j]? = H[j]?) := by
  refine ex_s (am_nb (m := 2) (pc1 := 3) (ls1 := [(0, .ref 0), (1, .int x0)]) (st1 := [.int 18, .int x0]) (H1 := H) (k1 := 0) (n1 := 0) (by with_unfolding_all rfl)) ?_
  refine ex_s (st_icmp rfl) ?_
  refine ex_pc (if_neg c1) ?_
  refine ex_s (am_nb (m := 2) (pc1 := 17) (ls1 := [(0, .ref 0), (1, .int x0)]) (st1 := [.int 9, .int x0]) (H1 := H) (k1 := 0) (n1 := 0) (by with_unfolding_all rfl)) ?_
  refine ex_s (st_icmp rfl) ?_
  refine ex_pc (if_neg c2) ?_
  refine ex_s (am_nb (m := 2) (pc1 := 23) (ls1 := [(0, .ref 0), (1, .int x0)]) (st1 := [.int 16, .int x0]) (H1 := H) (k1 := 0) (n1 := 0) (by with_unfolding_all rfl)) ?_
  refine ex_s (st_icmp rfl) ?_
  refine ex_pc (if_neg c3) ?_
  refine ex_s (am_nb (m := 2) (pc1 := 29) (ls1 := [(0, .ref 0), (1, .int x0)]) (st1 := [.int 10, .int x0]) (H1 := H) (k1 := 0) (n1 := 0) (by with_unfolding_all rfl)) ?_
  refine ex_s (st_icmp rfl) ?_
  refine ex_pc (if_neg c4) ?_
  refine ex_s (am_nb (m := 1) (pc1 := 33) (ls1 := [(0, .ref 0), (1, .int x0)]) (st1 := [.ref 0]) (H1 := H) (k1 := 0) (n1 := 0) (by with_unfolding_all rfl)) ?_
  refine ex_s (st_get rfl h0 rfl) ?_
  refine ex_s (am_nb (m := 1) (pc1 := 37) (ls1 := [(0, .ref 0), (1, .int x0)]) (st1 := [.int x0, .ref 129]) (H1 := H) (k1 := 0) (n1 := 0) (by with_unfolding_all rfl)) ?_
  refine ex_cv1 (as := [.int x0]) (rest := []) rfl rfl rfl rfl h129 rfl (by with_unfolding_all rfl) (by with_unfolding_all rfl) (fx_state_2_5 h129 h130 h132 c5 c4 c6 c7 c8 c9) ?_
  rintro H309 ⟨-, k309⟩
  exact ex_r (st_iret rfl rfl rfl) ⟨trivial, fun j => (k309 j)⟩

set_option maxRecDepth 100000 in
theorem fx_state_55 {sL : Nat} {sx : Nat → Int32} {cs : Nat → Nat → Option Int32} {H : am_H} {v0_13 : Int32} {v136_0 : Int32} {v136_1 : Int32} {v136_9 : Int32} {x0 : Int32} (h0 : am_is H 0 (.inr (11, [.ref 1, .int 0, .ref 2, .int 0, .ref 3, .ref 93, .ref 97, .ref 115, .ref 116, .ref 129, .ref 123, .ref 127, .ref 128, .int v0_13, .null, .int 0]))) (h123 : am_is H 123 (.inr (4, [.ref 124, .ref 125, .int 0, .int (-1), .int 0, .ref 126]))) (h129 : am_is H 129 (.inr (8, [.ref 136, .ref 130, .ref 132, .ref 134, .int 0, .int 0, .int 0, .int 0, .int 0, .int 0, .int 0, .ref 135, .int 0, .int 0, .int 0]))) (h136 : am_is H 136 (.inr (3, [.int v136_0, .int v136_1, .ref 138, .ref 139, .ref 140, .int 0, .int 0, .int 0, .int 0, .int v136_9, .int 96, .int 0, .int 0, .int 0, .int 0, .int 0, .int 0, .ref 137]))) (h130 : am_is H 130 (.inr (0, [.ref 131, .int 0, .int 0]))) (h132 : am_is H 132 (.inr (0, [.ref 133, .int 0, .int 0]))) (c1 : ¬ x0 = 18) (c2 : ¬ x0 < 9) (c3 : ¬ 16 < x0) (c4 : ¬ x0 = 10) (c5 : ¬ x0 = 9) (c6 : ¬ x0 = 11) (c7 : ¬ x0 = 12) (c8 : ¬ x0 = 13) (c9 : ¬ x0 = 14) (c10 : x0 = 15)  :
    am_E sL sx cs 251 0 [(0, .ref 0), (1, .int x0)] [] H (some (.int 0)) (fun H1 => (True) ∧ ∀ j : Nat, H1[j]? = H[j]?) := by
  refine ex_s (am_nb (m := 2) (pc1 := 3) (ls1 := [(0, .ref 0), (1, .int x0)]) (st1 := [.int 18, .int x0]) (H1 := H) (k1 := 0) (n1 := 0) (by with_unfolding_all rfl)) ?_
  refine ex_s (st_icmp rfl) ?_
  refine ex_pc (if_neg c1) ?_
  refine ex_s (am_nb (m := 2) (pc1 := 17) (ls1 := [(0, .ref 0), (1, .int x0)]) (st1 := [.int 9, .int x0]) (H1 := H) (k1 := 0) (n1 := 0) (by with_unfolding_all rfl)) ?_
  refine ex_s (st_icmp rfl) ?_
  refine ex_pc (if_neg c2) ?_
  refine ex_s (am_nb (m := 2) (pc1 := 23) (ls1 := [(0, .ref 0), (1, .int x0)]) (st1 := [.int 16, .int x0]) (H1 := H) (k1 := 0) (n1 := 0) (by with_unfolding_all rfl)) ?_
  refine ex_s (st_icmp rfl) ?_
  refine ex_pc (if_neg c3) ?_
  refine ex_s (am_nb (m := 2) (pc1 := 29) (ls1 := [(0, .ref 0), (1, .int x0)]) (st1 := [.int 10, .int x0]) (H1 := H) (k1 := 0) (n1 := 0) (by with_unfolding_all rfl)) ?_
  refine ex_s (st_icmp rfl) ?_
  refine ex_pc (if_neg c4) ?_
  refine ex_s (am_nb (m := 1) (pc1 := 33) (ls1 := [(0, .ref 0), (1, .int x0)]) (st1 := [.ref 0]) (H1 := H) (k1 := 0) (n1 := 0) (by with_unfolding_all rfl)) ?_
  refine ex_s (st_get rfl h0 rfl) ?_
  refine ex_s (am_nb (m := 1) (pc1 := 37) (ls1 := [(0, .ref 0), (1, .int x0)]) (st1 := [.int x0, .ref 129]) (H1 := H) (k1 := 0) (n1 := 0) (by with_unfolding_all rfl)) ?_
  refine ex_cv1 (as := [.int x0]) (rest := []) rfl rfl rfl rfl h129 rfl (by with_unfolding_all rfl) (by with_unfolding_all rfl) (fx_state_2_6 h129 h130 h132 c5 c4 c6 c7 c8 c9 c10) ?_
  rintro H310 ⟨-, k310⟩
  exact ex_r (st_iret rfl rfl rfl) ⟨trivial, fun j => (k310 j)⟩

set_option maxRecDepth 100000 in
theorem fx_state_56 {sL : Nat} {sx : Nat → Int32} {cs : Nat → Nat → Option Int32} {H : am_H} {v0_13 : Int32} {v136_0 : Int32} {v136_1 : Int32} {v136_9 : Int32} {x0 : Int32} (h0 : am_is H 0 (.inr (11, [.ref 1, .int 0, .ref 2, .int 0, .ref 3, .ref 93, .ref 97, .ref 115, .ref 116, .ref 129, .ref 123, .ref 127, .ref 128, .int v0_13, .null, .int 0]))) (h123 : am_is H 123 (.inr (4, [.ref 124, .ref 125, .int 0, .int (-1), .int 0, .ref 126]))) (h129 : am_is H 129 (.inr (8, [.ref 136, .ref 130, .ref 132, .ref 134, .int 0, .int 0, .int 0, .int 0, .int 0, .int 0, .int 0, .ref 135, .int 0, .int 0, .int 0]))) (h136 : am_is H 136 (.inr (3, [.int v136_0, .int v136_1, .ref 138, .ref 139, .ref 140, .int 0, .int 0, .int 0, .int 0, .int v136_9, .int 96, .int 0, .int 0, .int 0, .int 0, .int 0, .int 0, .ref 137]))) (h130 : am_is H 130 (.inr (0, [.ref 131, .int 0, .int 0]))) (h132 : am_is H 132 (.inr (0, [.ref 133, .int 0, .int 0]))) (c1 : ¬ x0 = 18) (c2 : ¬ x0 < 9) (c3 : ¬ 16 < x0) (c4 : ¬ x0 = 10) (c5 : ¬ x0 = 9) (c6 : ¬ x0 = 11) (c7 : ¬ x0 = 12) (c8 : ¬ x0 = 13) (c9 : ¬ x0 = 14) (c10 : ¬ x0 = 15) (c11 : x0 = 16)  :
    am_E sL sx cs 251 0 [(0, .ref 0), (1, .int x0)] [] H (some (.int 0)) (fun H1 => (True) ∧ ∀ j : Nat, H1[j]? = H[j]?) := by
  refine ex_s (am_nb (m := 2) (pc1 := 3) (ls1 := [(0, .ref 0), (1, .int x0)]) (st1 := [.int 18, .int x0]) (H1 := H) (k1 := 0) (n1 := 0) (by with_unfolding_all rfl)) ?_
  refine ex_s (st_icmp rfl) ?_
  refine ex_pc (if_neg c1) ?_
  refine ex_s (am_nb (m := 2) (pc1 := 17) (ls1 := [(0, .ref 0), (1, .int x0)]) (st1 := [.int 9, .int x0]) (H1 := H) (k1 := 0) (n1 := 0) (by with_unfolding_all rfl)) ?_
  refine ex_s (st_icmp rfl) ?_
  refine ex_pc (if_neg c2) ?_
  refine ex_s (am_nb (m := 2) (pc1 := 23) (ls1 := [(0, .ref 0), (1, .int x0)]) (st1 := [.int 16, .int x0]) (H1 := H) (k1 := 0) (n1 := 0) (by with_unfolding_all rfl)) ?_
  refine ex_s (st_icmp rfl) ?_
  refine ex_pc (if_neg c3) ?_
  refine ex_s (am_nb (m := 2) (pc1 := 29) (ls1 := [(0, .ref 0), (1, .int x0)]) (st1 := [.int 10, .int x0]) (H1 := H) (k1 := 0) (n1 := 0) (by with_unfolding_all rfl)) ?_
  refine ex_s (st_icmp rfl) ?_
  refine ex_pc (if_neg c4) ?_
  refine ex_s (am_nb (m := 1) (pc1 := 33) (ls1 := [(0, .ref 0), (1, .int x0)]) (st1 := [.ref 0]) (H1 := H) (k1 := 0) (n1 := 0) (by with_unfolding_all rfl)) ?_
  refine ex_s (st_get rfl h0 rfl) ?_
  refine ex_s (am_nb (m := 1) (pc1 := 37) (ls1 := [(0, .ref 0), (1, .int x0)]) (st1 := [.int x0, .ref 129]) (H1 := H) (k1 := 0) (n1 := 0) (by with_unfolding_all rfl)) ?_
  refine ex_cv1 (as := [.int x0]) (rest := []) rfl rfl rfl rfl h129 rfl (by with_unfolding_all rfl) (by with_unfolding_all rfl) (fx_state_2_7 h129 h130 h132 c5 c4 c6 c7 c8 c9 c10 c11) ?_
  rintro H311 ⟨-, k311⟩
  exact ex_r (st_iret rfl rfl rfl) ⟨trivial, fun j => (k311 j)⟩

set_option maxRecDepth 100000 in
theorem fx_state_57 {sL : Nat} {sx : Nat → Int32} {cs : Nat → Nat → Option Int32} {H : am_H} {v0_13 : Int32} {v136_0 : Int32} {v136_1 : Int32} {v136_9 : Int32} {x0 : Int32} (h0 : am_is H 0 (.inr (11, [.ref 1, .int 0, .ref 2, .int 0, .ref 3, .ref 93, .ref 97, .ref 115, .ref 116, .ref 129, .ref 123, .ref 127, .ref 128, .int v0_13, .null, .int 0]))) (h123 : am_is H 123 (.inr (4, [.ref 124, .ref 125, .int 0, .int (-1), .int 0, .ref 126]))) (h129 : am_is H 129 (.inr (8, [.ref 136, .ref 130, .ref 132, .ref 134, .int 0, .int 0, .int 0, .int 0, .int 0, .int 0, .int 0, .ref 135, .int 0, .int 0, .int 0]))) (h136 : am_is H 136 (.inr (3, [.int v136_0, .int v136_1, .ref 138, .ref 139, .ref 140, .int 0, .int 0, .int 0, .int 0, .int v136_9, .int 96, .int 0, .int 0, .int 0, .int 0, .int 0, .int 0, .ref 137]))) (h130 : am_is H 130 (.inr (0, [.ref 131, .int 0, .int 0]))) (h132 : am_is H 132 (.inr (0, [.ref 133, .int 0, .int 0]))) (c1 : ¬ x0 = 18) (c2 : ¬ x0 < 9) (c3 : ¬ 16 < x0) (c4 : ¬ x0 = 10) (c5 : ¬ x0 = 9) (c6 : ¬ x0 = 11) (c7 : ¬ x0 = 12) (c8 : ¬ x0 = 13) (c9 : ¬ x0 = 14) (c10 : ¬ x0 = 15) (c11 : ¬ x0 = 16)  :
    am_E sL sx cs 251 0 [(0, .ref 0), (1, .int x0)] [] H (some (.int (-1))) (fun H1 => (True) ∧ ∀ j : Nat, H1[j]? = H[j]?) := by
  refine ex_s (am_nb (m := 2) (pc1 := 3) (ls1 := [(0, .ref 0), (1, .int x0)]) (st1 := [.int 18, .int x0]) (H1 := H) (k1 := 0) (n1 := 0) (by with_unfolding_all rfl)) ?_
  refine ex_s (st_icmp rfl) ?_
  refine ex_pc (if_neg c1) ?_
  refine ex_s (am_nb (m := 2) (pc1 := 17) (ls1 := [(0, .ref 0), (1, .int x0)]) (st1 := [.int 9, .int x0]) (H1 := H) (k1 := 0) (n1 := 0) (by with_unfolding_all rfl)) ?_
  refine ex_s (st_icmp rfl) ?_
  refine ex_pc (if_neg c2) ?_
  refine ex_s (am_nb (m := 2) (pc1 := 23) (ls1 := [(0, .ref 0), (1, .int x0)]) (st1 := [.int 16, .int x0]) (H1 := H) (k1 := 0) (n1 := 0) (by with_unfolding_all rfl)) ?_
  refine ex_s (st_icmp rfl) ?_
  refine ex_pc (if_neg c3) ?_
  refine ex_s (am_nb (m := 2) (pc1 := 29) (ls1 := [(0, .ref 0), (1, .int x0)]) (st1 := [.int 10, .int x0]) (H1 := H) (k1 := 0) (n1 := 0) (by with_unfolding_all rfl)) ?_
  refine ex_s (st_icmp rfl) ?_
  refine ex_pc (if_neg c4) ?_
  refine ex_s (am_nb (m := 1) (pc1 := 33) (ls1 := [(0, .ref 0), (1, .int x0)]) (st1 := [.ref 0]) (H1 := H) (k1 := 0) (n1 := 0) (by with_unfolding_all rfl)) ?_
  refine ex_s (st_get rfl h0 rfl) ?_
  refine ex_s (am_nb (m := 1) (pc1 := 37) (ls1 := [(0, .ref 0), (1, .int x0)]) (st1 := [.int x0, .ref 129]) (H1 := H) (k1 := 0) (n1 := 0) (by with_unfolding_all rfl)) ?_
  refine ex_cv1 (as := [.int x0]) (rest := []) rfl rfl rfl rfl h129 rfl (by with_unfolding_all rfl) (by with_unfolding_all rfl) (fx_state_2_8 h129 h130 h132 c5 c4 c6 c7 c8 c9 c10 c11) ?_
  rintro H312 ⟨-, k312⟩
  exact ex_r (st_iret rfl rfl rfl) ⟨trivial, fun j => (k312 j)⟩

set_option maxRecDepth 100000 in
theorem fx_count_1_0 {sL : Nat} {sx : Nat → Int32} {cs : Nat → Nat → Option Int32} {H : am_H} {v0_13 : Int32} (h0 : am_is H 0 (.inr (11, [.ref 1, .int 0, .ref 2, .int 0, .ref 3, .ref 93, .ref 97, .ref 115, .ref 116, .ref 129, .ref 123, .ref 127, .ref 128, .int v0_13, .null, .int 0]))) (h115 : am_is H 115 (.inl ((.object "TerminalHouse$Window"), (8, .inr (.inr (.inr (.inr am_q115))))))) (h141 : am_is H 141 (.inr (9, [.ref 142, .int 0, .int 0, .int 0, .int 0, .int 0, .int 0, .int 0, .int 0, .int 0]))) (h143 : am_is H 143 (.inr (9, [.ref 144, .int 0, .int 0, .int 0, .int 0, .int 0, .int 0, .int 0, .int 0, .int 0]))) (h145 : am_is H 145 (.inr (9, [.ref 146, .int 0, .int 0, .int 0, .int 0, .int 0, .int 0, .int 0, .int 0, .int 0]))) (h147 : am_is H 147 (.inr (9, [.ref 148, .int 0, .int 0, .int 0, .int 0, .int 0, .int 0, .int 0, .int 0, .int 0]))) (h149 : am_is H 149 (.inr (9, [.ref 150, .int 0, .int 0, .int 0, .int 0, .int 0, .int 0, .int 0, .int 0, .int 0]))) (h151 : am_is H 151 (.inr (9, [.ref 152, .int 0, .int 0, .int 0, .int 0, .int 0, .int 0, .int 0, .int 0, .int 0]))) (h153 : am_is H 153 (.inr (9, [.ref 154, .int 0, .int 0, .int 0, .int 0, .int 0, .int 0, .int 0, .int 0, .int 0]))) (h155 : am_is H 155 (.inr (9, [.ref 156, .int 0, .int 0, .int 0, .int 0, .int 0, .int 0, .int 0, .int 0, .int 0])))   :
    am_E sL sx cs 255 0 [(0, .ref 0)] [] H (some (.int 0)) (fun H1 => (True) ∧ ∀ j : Nat, H1[j]? = H[j]?) := by
  refine ex_s (am_nb (m := 8) (pc1 := 11) (ls1 := [(2, .int 0), (1, .int 0), (0, .ref 0)]) (st1 := [.ref 0]) (H1 := H) (k1 := 0) (n1 := 0) (by with_unfolding_all rfl)) ?_
  refine ex_s (st_get rfl h0 rfl) ?_
  refine ex_s (am_nb (m := 1) (pc1 := 15) (ls1 := [(2, .int 0), (1, .int 0), (0, .ref 0)]) (st1 := [.int 0, .ref 115]) (H1 := H) (k1 := 0) (n1 := 0) (by with_unfolding_all rfl)) ?_
  refine ex_s (st_aald rfl h115 (by decide) rfl) ?_
  refine ex_s (am_nb (m := 0) (pc1 := 16) (ls1 := [(2, .int 0), (1, .int 0), (0, .ref 0)]) (st1 := [.ref 141]) (H1 := H) (k1 := 0) (n1 := 0) (by with_unfolding_all rfl)) ?_
  refine ex_s (st_get rfl h141 rfl) ?_
  refine ex_s (am_nb (m := 7) (pc1 := 11) (ls1 := [(2, .int 1), (1, .int 0), (0, .ref 0)]) (st1 := [.ref 0]) (H1 := H) (k1 := 0) (n1 := 0) (by with_unfolding_all rfl)) ?_
  refine ex_s (st_get rfl h0 rfl) ?_
  refine ex_s (am_nb (m := 1) (pc1 := 15) (ls1 := [(2, .int 1), (1, .int 0), (0, .ref 0)]) (st1 := [.int 1, .ref 115]) (H1 := H) (k1 := 0) (n1 := 0) (by with_unfolding_all rfl)) ?_
  refine ex_s (st_aald rfl h115 (by decide) rfl) ?_
  refine ex_s (am_nb (m := 0) (pc1 := 16) (ls1 := [(2, .int 1), (1, .int 0), (0, .ref 0)]) (st1 := [.ref 143]) (H1 := H) (k1 := 0) (n1 := 0) (by with_unfolding_all rfl)) ?_
  refine ex_s (st_get rfl h143 rfl) ?_
  refine ex_s (am_nb (m := 7) (pc1 := 11) (ls1 := [(2, .int 2), (1, .int 0), (0, .ref 0)]) (st1 := [.ref 0]) (H1 := H) (k1 := 0) (n1 := 0) (by with_unfolding_all rfl)) ?_
  refine ex_s (st_get rfl h0 rfl) ?_
  refine ex_s (am_nb (m := 1) (pc1 := 15) (ls1 := [(2, .int 2), (1, .int 0), (0, .ref 0)]) (st1 := [.int 2, .ref 115]) (H1 := H) (k1 := 0) (n1 := 0) (by with_unfolding_all rfl)) ?_
  refine ex_s (st_aald rfl h115 (by decide) rfl) ?_
  refine ex_s (am_nb (m := 0) (pc1 := 16) (ls1 := [(2, .int 2), (1, .int 0), (0, .ref 0)]) (st1 := [.ref 145]) (H1 := H) (k1 := 0) (n1 := 0) (by with_unfolding_all rfl)) ?_
  refine ex_s (st_get rfl h145 rfl) ?_
  refine ex_s (am_nb (m := 7) (pc1 := 11) (ls1 := [(2, .int 3), (1, .int 0), (0, .ref 0)]) (st1 := [.ref 0]) (H1 := H) (k1 := 0) (n1 := 0) (by with_unfolding_all rfl)) ?_
  refine ex_s (st_get rfl h0 rfl) ?_
  refine ex_s (am_nb (m := 1) (pc1 := 15) (ls1 := [(2, .int 3), (1, .int 0), (0, .ref 0)]) (st1 := [.int 3, .ref 115]) (H1 := H) (k1 := 0) (n1 := 0) (by with_unfolding_all rfl)) ?_
  refine ex_s (st_aald rfl h115 (by decide) rfl) ?_
  refine ex_s (am_nb (m := 0) (pc1 := 16) (ls1 := [(2, .int 3), (1, .int 0), (0, .ref 0)]) (st1 := [.ref 147]) (H1 := H) (k1 := 0) (n1 := 0) (by with_unfolding_all rfl)) ?_
  refine ex_s (st_get rfl h147 rfl) ?_
  refine ex_s (am_nb (m := 7) (pc1 := 11) (ls1 := [(2, .int 4), (1, .int 0), (0, .ref 0)]) (st1 := [.ref 0]) (H1 := H) (k1 := 0) (n1 := 0) (by with_unfolding_all rfl)) ?_
  refine ex_s (st_get rfl h0 rfl) ?_
  refine ex_s (am_nb (m := 1) (pc1 := 15) (ls1 := [(2, .int 4), (1, .int 0), (0, .ref 0)]) (st1 := [.int 4, .ref 115]) (H1 := H) (k1 := 0) (n1 := 0) (by with_unfolding_all rfl)) ?_
  refine ex_s (st_aald rfl h115 (by decide) rfl) ?_
  refine ex_s (am_nb (m := 0) (pc1 := 16) (ls1 := [(2, .int 4), (1, .int 0), (0, .ref 0)]) (st1 := [.ref 149]) (H1 := H) (k1 := 0) (n1 := 0) (by with_unfolding_all rfl)) ?_
  refine ex_s (st_get rfl h149 rfl) ?_
  refine ex_s (am_nb (m := 7) (pc1 := 11) (ls1 := [(2, .int 5), (1, .int 0), (0, .ref 0)]) (st1 := [.ref 0]) (H1 := H) (k1 := 0) (n1 := 0) (by with_unfolding_all rfl)) ?_
  refine ex_s (st_get rfl h0 rfl) ?_
  refine ex_s (am_nb (m := 1) (pc1 := 15) (ls1 := [(2, .int 5), (1, .int 0), (0, .ref 0)]) (st1 := [.int 5, .ref 115]) (H1 := H) (k1 := 0) (n1 := 0) (by with_unfolding_all rfl)) ?_
  refine ex_s (st_aald rfl h115 (by decide) rfl) ?_
  refine ex_s (am_nb (m := 0) (pc1 := 16) (ls1 := [(2, .int 5), (1, .int 0), (0, .ref 0)]) (st1 := [.ref 151]) (H1 := H) (k1 := 0) (n1 := 0) (by with_unfolding_all rfl)) ?_
  refine ex_s (st_get rfl h151 rfl) ?_
  refine ex_s (am_nb (m := 7) (pc1 := 11) (ls1 := [(2, .int 6), (1, .int 0), (0, .ref 0)]) (st1 := [.ref 0]) (H1 := H) (k1 := 0) (n1 := 0) (by with_unfolding_all rfl)) ?_
  refine ex_s (st_get rfl h0 rfl) ?_
  refine ex_s (am_nb (m := 1) (pc1 := 15) (ls1 := [(2, .int 6), (1, .int 0), (0, .ref 0)]) (st1 := [.int 6, .ref 115]) (H1 := H) (k1 := 0) (n1 := 0) (by with_unfolding_all rfl)) ?_
  refine ex_s (st_aald rfl h115 (by decide) rfl) ?_
  refine ex_s (am_nb (m := 0) (pc1 := 16) (ls1 := [(2, .int 6), (1, .int 0), (0, .ref 0)]) (st1 := [.ref 153]) (H1 := H) (k1 := 0) (n1 := 0) (by with_unfolding_all rfl)) ?_
  refine ex_s (st_get rfl h153 rfl) ?_
  refine ex_s (am_nb (m := 7) (pc1 := 11) (ls1 := [(2, .int 7), (1, .int 0), (0, .ref 0)]) (st1 := [.ref 0]) (H1 := H) (k1 := 0) (n1 := 0) (by with_unfolding_all rfl)) ?_
  refine ex_s (st_get rfl h0 rfl) ?_
  refine ex_s (am_nb (m := 1) (pc1 := 15) (ls1 := [(2, .int 7), (1, .int 0), (0, .ref 0)]) (st1 := [.int 7, .ref 115]) (H1 := H) (k1 := 0) (n1 := 0) (by with_unfolding_all rfl)) ?_
  refine ex_s (st_aald rfl h115 (by decide) rfl) ?_
  refine ex_s (am_nb (m := 0) (pc1 := 16) (ls1 := [(2, .int 7), (1, .int 0), (0, .ref 0)]) (st1 := [.ref 155]) (H1 := H) (k1 := 0) (n1 := 0) (by with_unfolding_all rfl)) ?_
  refine ex_s (st_get rfl h155 rfl) ?_
  refine ex_s (am_nb (m := 7) (pc1 := 32) (ls1 := [(2, .int 8), (1, .int 0), (0, .ref 0)]) (st1 := [.int 0]) (H1 := H) (k1 := 0) (n1 := 0) (by with_unfolding_all rfl)) ?_
  exact ex_r (st_iret rfl rfl rfl) ⟨trivial, fun j => rfl⟩

set_option maxRecDepth 100000 in
theorem fx_count_3_0 {sL : Nat} {sx : Nat → Int32} {cs : Nat → Nat → Option Int32} {H : am_H}  (h117 : am_is H 117 (.inr (0, [.ref 118, .int 0, .int 0])))   :
    am_E sL sx cs 163 0 [(0, .ref 117)] [] H (some (.int 0)) (fun H1 => (True) ∧ ∀ j : Nat, H1[j]? = H[j]?) := by
  refine ex_s (am_nb (m := 1) (pc1 := 1) (ls1 := [(0, .ref 117)]) (st1 := [.ref 117]) (H1 := H) (k1 := 0) (n1 := 0) (by with_unfolding_all rfl)) ?_
  refine ex_s (st_get rfl h117 rfl) ?_
  exact ex_r (st_iret rfl rfl rfl) ⟨trivial, fun j => rfl⟩

set_option maxRecDepth 100000 in
theorem fx_count_4_0 {sL : Nat} {sx : Nat → Int32} {cs : Nat → Nat → Option Int32} {H : am_H}  (h119 : am_is H 119 (.inr (0, [.ref 120, .int 0, .int 0])))   :
    am_E sL sx cs 163 0 [(0, .ref 119)] [] H (some (.int 0)) (fun H1 => (True) ∧ ∀ j : Nat, H1[j]? = H[j]?) := by
  refine ex_s (am_nb (m := 1) (pc1 := 1) (ls1 := [(0, .ref 119)]) (st1 := [.ref 119]) (H1 := H) (k1 := 0) (n1 := 0) (by with_unfolding_all rfl)) ?_
  refine ex_s (st_get rfl h119 rfl) ?_
  exact ex_r (st_iret rfl rfl rfl) ⟨trivial, fun j => rfl⟩

set_option maxRecDepth 100000 in
theorem fx_count_5_0 {sL : Nat} {sx : Nat → Int32} {cs : Nat → Nat → Option Int32} {H : am_H}  (h121 : am_is H 121 (.inr (0, [.ref 122, .int 0, .int 0])))   :
    am_E sL sx cs 163 0 [(0, .ref 121)] [] H (some (.int 0)) (fun H1 => (True) ∧ ∀ j : Nat, H1[j]? = H[j]?) := by
  refine ex_s (am_nb (m := 1) (pc1 := 1) (ls1 := [(0, .ref 121)]) (st1 := [.ref 121]) (H1 := H) (k1 := 0) (n1 := 0) (by with_unfolding_all rfl)) ?_
  refine ex_s (st_get rfl h121 rfl) ?_
  exact ex_r (st_iret rfl rfl rfl) ⟨trivial, fun j => rfl⟩

set_option maxRecDepth 100000 in
theorem fx_count_2_0 {sL : Nat} {sx : Nat → Int32} {cs : Nat → Nat → Option Int32} {H : am_H} {x0 : Int32} (h116 : am_is H 116 (.inr (1, [.ref 117, .ref 119, .ref 121, .int 127, .int 0, .int 0, .int 0, .int 0, .int 0, .int 0]))) (h117 : am_is H 117 (.inr (0, [.ref 118, .int 0, .int 0]))) (h119 : am_is H 119 (.inr (0, [.ref 120, .int 0, .int 0]))) (h121 : am_is H 121 (.inr (0, [.ref 122, .int 0, .int 0]))) (c1 : x0 = 5)  :
    am_E sL sx cs 256 0 [(0, .ref 116), (1, .int x0)] [] H (some (.int 0)) (fun H1 => (True) ∧ ∀ j : Nat, H1[j]? = H[j]?) := by
  refine ex_s (am_nb (m := 1) (pc1 := 1) (ls1 := [(0, .ref 116), (1, .int x0)]) (st1 := [.int x0]) (H1 := H) (k1 := 0) (n1 := 0) (by with_unfolding_all rfl)) ?_
  refine ex_s (st_tsw rfl) ?_
  refine ex_pc (if_pos c1) ?_
  refine ex_s (am_nb (m := 1) (pc1 := 73) (ls1 := [(0, .ref 116), (1, .int x0)]) (st1 := [.ref 116]) (H1 := H) (k1 := 0) (n1 := 0) (by with_unfolding_all rfl)) ?_
  refine ex_s (st_get rfl h116 rfl) ?_
  refine ex_cv1 (as := []) (rest := []) rfl rfl rfl rfl h117 rfl (by with_unfolding_all rfl) (by with_unfolding_all rfl) (fx_count_3_0 h117) ?_
  rintro H314 ⟨-, k314⟩
  exact ex_r (st_iret rfl rfl rfl) ⟨trivial, fun j => (k314 j)⟩

set_option maxRecDepth 100000 in
theorem fx_count_2_1 {sL : Nat} {sx : Nat → Int32} {cs : Nat → Nat → Option Int32} {H : am_H} {x0 : Int32} (h116 : am_is H 116 (.inr (1, [.ref 117, .ref 119, .ref 121, .int 127, .int 0, .int 0, .int 0, .int 0, .int 0, .int 0]))) (h117 : am_is H 117 (.inr (0, [.ref 118, .int 0, .int 0]))) (h119 : am_is H 119 (.inr (0, [.ref 120, .int 0, .int 0]))) (h121 : am_is H 121 (.inr (0, [.ref 122, .int 0, .int 0]))) (c1 : ¬ x0 = 5) (c2 : x0 = 6)  :
    am_E sL sx cs 256 0 [(0, .ref 116), (1, .int x0)] [] H (some (.int 0)) (fun H1 => (True) ∧ ∀ j : Nat, H1[j]? = H[j]?) := by
  refine ex_s (am_nb (m := 1) (pc1 := 1) (ls1 := [(0, .ref 116), (1, .int x0)]) (st1 := [.int x0]) (H1 := H) (k1 := 0) (n1 := 0) (by with_unfolding_all rfl)) ?_
  refine ex_s (st_tsw rfl) ?_
  refine ex_pc (if_neg c1) ?_
  refine ex_pc (if_pos c2) ?_
  refine ex_s (am_nb (m := 1) (pc1 := 81) (ls1 := [(0, .ref 116), (1, .int x0)]) (st1 := [.ref 116]) (H1 := H) (k1 := 0) (n1 := 0) (by with_unfolding_all rfl)) ?_
  refine ex_s (st_get rfl h116 rfl) ?_
  refine ex_s (am_nb (m := 2) (pc1 := 92) (ls1 := [(0, .ref 116), (1, .int x0)]) (st1 := [.int 0]) (H1 := H) (k1 := 0) (n1 := 0) (by with_unfolding_all rfl)) ?_
  exact ex_r (st_iret rfl rfl rfl) ⟨trivial, fun j => rfl⟩

set_option maxRecDepth 100000 in
theorem fx_count_2_2 {sL : Nat} {sx : Nat → Int32} {cs : Nat → Nat → Option Int32} {H : am_H} {x0 : Int32} (h116 : am_is H 116 (.inr (1, [.ref 117, .ref 119, .ref 121, .int 127, .int 0, .int 0, .int 0, .int 0, .int 0, .int 0]))) (h117 : am_is H 117 (.inr (0, [.ref 118, .int 0, .int 0]))) (h119 : am_is H 119 (.inr (0, [.ref 120, .int 0, .int 0]))) (h121 : am_is H 121 (.inr (0, [.ref 122, .int 0, .int 0]))) (c1 : ¬ x0 = 5) (c2 : ¬ x0 = 6) (c3 : x0 = 7)  :
    am_E sL sx cs 256 0 [(0, .ref 116), (1, .int x0)] [] H (some (.int 0)) (fun H1 => (True) ∧ ∀ j : Nat, H1[j]? = H[j]?) := by
  refine ex_s (am_nb (m := 1) (pc1 := 1) (ls1 := [(0, .ref 116), (1, .int x0)]) (st1 := [.int x0]) (H1 := H) (k1 := 0) (n1 := 0) (by with_unfolding_all rfl)) ?_
  refine ex_s (st_tsw rfl) ?_
  refine ex_pc (if_neg c1) ?_
  refine ex_pc (if_neg c2) ?_
  refine ex_pc (if_pos c3) ?_
  refine ex_s (am_nb (m := 1) (pc1 := 94) (ls1 := [(0, .ref 116), (1, .int x0)]) (st1 := [.ref 116]) (H1 := H) (k1 := 0) (n1 := 0) (by with_unfolding_all rfl)) ?_
  refine ex_s (st_get rfl h116 rfl) ?_
  refine ex_cv1 (as := []) (rest := []) rfl rfl rfl rfl h119 rfl (by with_unfolding_all rfl) (by with_unfolding_all rfl) (fx_count_4_0 h119) ?_
  rintro H315 ⟨-, k315⟩
  exact ex_r (st_iret rfl rfl rfl) ⟨trivial, fun j => (k315 j)⟩

set_option maxRecDepth 100000 in
theorem fx_count_2_3 {sL : Nat} {sx : Nat → Int32} {cs : Nat → Nat → Option Int32} {H : am_H} {x0 : Int32} (h116 : am_is H 116 (.inr (1, [.ref 117, .ref 119, .ref 121, .int 127, .int 0, .int 0, .int 0, .int 0, .int 0, .int 0]))) (h117 : am_is H 117 (.inr (0, [.ref 118, .int 0, .int 0]))) (h119 : am_is H 119 (.inr (0, [.ref 120, .int 0, .int 0]))) (h121 : am_is H 121 (.inr (0, [.ref 122, .int 0, .int 0]))) (c1 : ¬ x0 = 5) (c2 : ¬ x0 = 6) (c3 : ¬ x0 = 7) (c4 : x0 = 8)  :
    am_E sL sx cs 256 0 [(0, .ref 116), (1, .int x0)] [] H (some (.int 0)) (fun H1 => (True) ∧ ∀ j : Nat, H1[j]? = H[j]?) := by
  refine ex_s (am_nb (m := 1) (pc1 := 1) (ls1 := [(0, .ref 116), (1, .int x0)]) (st1 := [.int x0]) (H1 := H) (k1 := 0) (n1 := 0) (by with_unfolding_all rfl)) ?_
  refine ex_s (st_tsw rfl) ?_
  refine ex_pc (if_neg c1) ?_
  refine ex_pc (if_neg c2) ?_
  refine ex_pc (if_neg c3) ?_
  refine ex_pc (if_pos c4) ?_
  refine ex_s (am_nb (m := 1) (pc1 := 102) (ls1 := [(0, .ref 116), (1, .int x0)]) (st1 := [.ref 116]) (H1 := H) (k1 := 0) (n1 := 0) (by with_unfolding_all rfl)) ?_
  refine ex_s (st_get rfl h116 rfl) ?_
  refine ex_cv1 (as := []) (rest := []) rfl rfl rfl rfl h121 rfl (by with_unfolding_all rfl) (by with_unfolding_all rfl) (fx_count_5_0 h121) ?_
  rintro H316 ⟨-, k316⟩
  exact ex_r (st_iret rfl rfl rfl) ⟨trivial, fun j => (k316 j)⟩

set_option maxRecDepth 100000 in
theorem fx_count_2_4 {sL : Nat} {sx : Nat → Int32} {cs : Nat → Nat → Option Int32} {H : am_H} {x0 : Int32} (h116 : am_is H 116 (.inr (1, [.ref 117, .ref 119, .ref 121, .int 127, .int 0, .int 0, .int 0, .int 0, .int 0, .int 0]))) (h117 : am_is H 117 (.inr (0, [.ref 118, .int 0, .int 0]))) (h119 : am_is H 119 (.inr (0, [.ref 120, .int 0, .int 0]))) (h121 : am_is H 121 (.inr (0, [.ref 122, .int 0, .int 0]))) (c1 : ¬ x0 = 5) (c2 : ¬ x0 = 6) (c3 : ¬ x0 = 7) (c4 : ¬ x0 = 8) (c5 : x0 = 9)  :
    am_E sL sx cs 256 0 [(0, .ref 116), (1, .int x0)] [] H (some (.int 0)) (fun H1 => (True) ∧ ∀ j : Nat, H1[j]? = H[j]?) := by
  refine ex_s (am_nb (m := 1) (pc1 := 1) (ls1 := [(0, .ref 116), (1, .int x0)]) (st1 := [.int x0]) (H1 := H) (k1 := 0) (n1 := 0) (by with_unfolding_all rfl)) ?_
  refine ex_s (st_tsw rfl) ?_
  refine ex_pc (if_neg c1) ?_
  refine ex_pc (if_neg c2) ?_
  refine ex_pc (if_neg c3) ?_
  refine ex_pc (if_neg c4) ?_
  refine ex_pc (if_pos c5) ?_
  refine ex_s (am_nb (m := 1) (pc1 := 110) (ls1 := [(0, .ref 116), (1, .int x0)]) (st1 := [.ref 116]) (H1 := H) (k1 := 0) (n1 := 0) (by with_unfolding_all rfl)) ?_
  refine ex_s (st_get rfl h116 rfl) ?_
  exact ex_r (st_iret rfl rfl rfl) ⟨trivial, fun j => rfl⟩

set_option maxRecDepth 100000 in
theorem fx_count_2_5 {sL : Nat} {sx : Nat → Int32} {cs : Nat → Nat → Option Int32} {H : am_H} {x0 : Int32} (h116 : am_is H 116 (.inr (1, [.ref 117, .ref 119, .ref 121, .int 127, .int 0, .int 0, .int 0, .int 0, .int 0, .int 0]))) (h117 : am_is H 117 (.inr (0, [.ref 118, .int 0, .int 0]))) (h119 : am_is H 119 (.inr (0, [.ref 120, .int 0, .int 0]))) (h121 : am_is H 121 (.inr (0, [.ref 122, .int 0, .int 0]))) (c1 : ¬ x0 = 5) (c2 : ¬ x0 = 6) (c3 : ¬ x0 = 7) (c4 : ¬ x0 = 8) (c5 : ¬ x0 = 9) (c6 : x0 = 10)  :
    am_E sL sx cs 256 0 [(0, .ref 116), (1, .int x0)] [] H (some (.int 0)) (fun H1 => (True) ∧ ∀ j : Nat, H1[j]? = H[j]?) := by
  refine ex_s (am_nb (m := 1) (pc1 := 1) (ls1 := [(0, .ref 116), (1, .int x0)]) (st1 := [.int x0]) (H1 := H) (k1 := 0) (n1 := 0) (by with_unfolding_all rfl)) ?_
  refine ex_s (st_tsw rfl) ?_
  refine ex_pc (if_neg c1) ?_
  refine ex_pc (if_neg c2) ?_
  refine ex_pc (if_neg c3) ?_
  refine ex_pc (if_neg c4) ?_
  refine ex_pc (if_neg c5) ?_
  refine ex_pc (if_pos c6) ?_
  refine ex_s (am_nb (m := 1) (pc1 := 115) (ls1 := [(0, .ref 116), (1, .int x0)]) (st1 := [.ref 116]) (H1 := H) (k1 := 0) (n1 := 0) (by with_unfolding_all rfl)) ?_
  refine ex_s (st_get rfl h116 rfl) ?_
  exact ex_r (st_iret rfl rfl rfl) ⟨trivial, fun j => rfl⟩

set_option maxRecDepth 100000 in
theorem fx_count_2_6 {sL : Nat} {sx : Nat → Int32} {cs : Nat → Nat → Option Int32} {H : am_H} {x0 : Int32} (h116 : am_is H 116 (.inr (1, [.ref 117, .ref 119, .ref 121, .int 127, .int 0, .int 0, .int 0, .int 0, .int 0, .int 0]))) (h117 : am_is H 117 (.inr (0, [.ref 118, .int 0, .int 0]))) (h119 : am_is H 119 (.inr (0, [.ref 120, .int 0, .int 0]))) (h121 : am_is H 121 (.inr (0, [.ref 122, .int 0, .int 0]))) (c1 : ¬ x0 = 5) (c2 : ¬ x0 = 6) (c3 : ¬ x0 = 7) (c4 : ¬ x0 = 8) (c5 : ¬ x0 = 9) (c6 : ¬ x0 = 10) (c7 : x0 = 11)  :
    am_E sL sx cs 256 0 [(0, .ref 116), (1, .int x0)] [] H (some (.int (-1))) (fun H1 => (True) ∧ ∀ j : Nat, H1[j]? = H[j]?) := by
  refine ex_s (am_nb (m := 1) (pc1 := 1) (ls1 := [(0, .ref 116), (1, .int x0)]) (st1 := [.int x0]) (H1 := H) (k1 := 0) (n1 := 0) (by with_unfolding_all rfl)) ?_
  refine ex_s (st_tsw rfl) ?_
  refine ex_pc (if_neg c1) ?_
  refine ex_pc (if_neg c2) ?_
  refine ex_pc (if_neg c3) ?_
  refine ex_pc (if_neg c4) ?_
  refine ex_pc (if_neg c5) ?_
  refine ex_pc (if_neg c6) ?_
  refine ex_pc (if_pos c7) ?_
  refine ex_s (am_nb (m := 1) (pc1 := 130) (ls1 := [(0, .ref 116), (1, .int x0)]) (st1 := [.int (-1)]) (H1 := H) (k1 := 0) (n1 := 0) (by with_unfolding_all rfl)) ?_
  exact ex_r (st_iret rfl rfl rfl) ⟨trivial, fun j => rfl⟩

set_option maxRecDepth 100000 in
theorem fx_count_2_7 {sL : Nat} {sx : Nat → Int32} {cs : Nat → Nat → Option Int32} {H : am_H} {x0 : Int32} (h116 : am_is H 116 (.inr (1, [.ref 117, .ref 119, .ref 121, .int 127, .int 0, .int 0, .int 0, .int 0, .int 0, .int 0]))) (h117 : am_is H 117 (.inr (0, [.ref 118, .int 0, .int 0]))) (h119 : am_is H 119 (.inr (0, [.ref 120, .int 0, .int 0]))) (h121 : am_is H 121 (.inr (0, [.ref 122, .int 0, .int 0]))) (c1 : ¬ x0 = 5) (c2 : ¬ x0 = 6) (c3 : ¬ x0 = 7) (c4 : ¬ x0 = 8) (c5 : ¬ x0 = 9) (c6 : ¬ x0 = 10) (c7 : ¬ x0 = 11) (c8 : x0 = 12)  :
    am_E sL sx cs 256 0 [(0, .ref 116), (1, .int x0)] [] H (some (.int (-1))) (fun H1 => (True) ∧ ∀ j : Nat, H1[j]? = H[j]?) := by
  refine ex_s (am_nb (m := 1) (pc1 := 1) (ls1 := [(0, .ref 116), (1, .int x0)]) (st1 := [.int x0]) (H1 := H) (k1 := 0) (n1 := 0) (by with_unfolding_all rfl)) ?_
  refine ex_s (st_tsw rfl) ?_
  refine ex_pc (if_neg c1) ?_
  refine ex_pc (if_neg c2) ?_
  refine ex_pc (if_neg c3) ?_
  refine ex_pc (if_neg c4) ?_
  refine ex_pc (if_neg c5) ?_
  refine ex_pc (if_neg c6) ?_
  refine ex_pc (if_neg c7) ?_
  refine ex_pc (if_pos c8) ?_
  refine ex_s (am_nb (m := 1) (pc1 := 130) (ls1 := [(0, .ref 116), (1, .int x0)]) (st1 := [.int (-1)]) (H1 := H) (k1 := 0) (n1 := 0) (by with_unfolding_all rfl)) ?_
  exact ex_r (st_iret rfl rfl rfl) ⟨trivial, fun j => rfl⟩

set_option maxRecDepth 100000 in
theorem fx_count_2_8 {sL : Nat} {sx : Nat → Int32} {cs : Nat → Nat → Option Int32} {H : am_H} {x0 : Int32} (h116 : am_is H 116 (.inr (1, [.ref 117, .ref 119, .ref 121, .int 127, .int 0, .int 0, .int 0, .int 0, .int 0, .int 0]))) (h117 : am_is H 117 (.inr (0, [.ref 118, .int 0, .int 0]))) (h119 : am_is H 119 (.inr (0, [.ref 120, .int 0, .int 0]))) (h121 : am_is H 121 (.inr (0, [.ref 122, .int 0, .int 0]))) (c1 : ¬ x0 = 5) (c2 : ¬ x0 = 6) (c3 : ¬ x0 = 7) (c4 : ¬ x0 = 8) (c5 : ¬ x0 = 9) (c6 : ¬ x0 = 10) (c7 : ¬ x0 = 11) (c8 : ¬ x0 = 12) (c9 : x0 = 13)  :
    am_E sL sx cs 256 0 [(0, .ref 116), (1, .int x0)] [] H (some (.int (-1))) (fun H1 => (True) ∧ ∀ j : Nat, H1[j]? = H[j]?) := by
  refine ex_s (am_nb (m := 1) (pc1 := 1) (ls1 := [(0, .ref 116), (1, .int x0)]) (st1 := [.int x0]) (H1 := H) (k1 := 0) (n1 := 0) (by with_unfolding_all rfl)) ?_
  refine ex_s (st_tsw rfl) ?_
  refine ex_pc (if_neg c1) ?_
  refine ex_pc (if_neg c2) ?_
  refine ex_pc (if_neg c3) ?_
  refine ex_pc (if_neg c4) ?_
  refine ex_pc (if_neg c5) ?_
  refine ex_pc (if_neg c6) ?_
  refine ex_pc (if_neg c7) ?_
  refine ex_pc (if_neg c8) ?_
  refine ex_pc (if_pos c9) ?_
  refine ex_s (am_nb (m := 1) (pc1 := 130) (ls1 := [(0, .ref 116), (1, .int x0)]) (st1 := [.int (-1)]) (H1 := H) (k1 := 0) (n1 := 0) (by with_unfolding_all rfl)) ?_
  exact ex_r (st_iret rfl rfl rfl) ⟨trivial, fun j => rfl⟩

set_option maxRecDepth 100000 in
theorem fx_count_2_9 {sL : Nat} {sx : Nat → Int32} {cs : Nat → Nat → Option Int32} {H : am_H} {x0 : Int32} (h116 : am_is H 116 (.inr (1, [.ref 117, .ref 119, .ref 121, .int 127, .int 0, .int 0, .int 0, .int 0, .int 0, .int 0]))) (h117 : am_is H 117 (.inr (0, [.ref 118, .int 0, .int 0]))) (h119 : am_is H 119 (.inr (0, [.ref 120, .int 0, .int 0]))) (h121 : am_is H 121 (.inr (0, [.ref 122, .int 0, .int 0]))) (c1 : ¬ x0 = 5) (c2 : ¬ x0 = 6) (c3 : ¬ x0 = 7) (c4 : ¬ x0 = 8) (c5 : ¬ x0 = 9) (c6 : ¬ x0 = 10) (c7 : ¬ x0 = 11) (c8 : ¬ x0 = 12) (c9 : ¬ x0 = 13) (c10 : x0 = 14)  :
    am_E sL sx cs 256 0 [(0, .ref 116), (1, .int x0)] [] H (some (.int (-1))) (fun H1 => (True) ∧ ∀ j : Nat, H1[j]? = H[j]?) := by
  refine ex_s (am_nb (m := 1) (pc1 := 1) (ls1 := [(0, .ref 116), (1, .int x0)]) (st1 := [.int x0]) (H1 := H) (k1 := 0) (n1 := 0) (by with_unfolding_all rfl)) ?_
  refine ex_s (st_tsw rfl) ?_
  refine ex_pc (if_neg c1) ?_
  refine ex_pc (if_neg c2) ?_
  refine ex_pc (if_neg c3) ?_
  refine ex_pc (if_neg c4) ?_
  refine ex_pc (if_neg c5) ?_
  refine ex_pc (if_neg c6) ?_
  refine ex_pc (if_neg c7) ?_
  refine ex_pc (if_neg c8) ?_
  refine ex_pc (if_neg c9) ?_
  refine ex_pc (if_pos c10) ?_
  refine ex_s (am_nb (m := 1) (pc1 := 130) (ls1 := [(0, .ref 116), (1, .int x0)]) (st1 := [.int (-1)]) (H1 := H) (k1 := 0) (n1 := 0) (by with_unfolding_all rfl)) ?_
  exact ex_r (st_iret rfl rfl rfl) ⟨trivial, fun j => rfl⟩

set_option maxRecDepth 100000 in
theorem fx_count_2_10 {sL : Nat} {sx : Nat → Int32} {cs : Nat → Nat → Option Int32} {H : am_H} {x0 : Int32} (h116 : am_is H 116 (.inr (1, [.ref 117, .ref 119, .ref 121, .int 127, .int 0, .int 0, .int 0, .int 0, .int 0, .int 0]))) (h117 : am_is H 117 (.inr (0, [.ref 118, .int 0, .int 0]))) (h119 : am_is H 119 (.inr (0, [.ref 120, .int 0, .int 0]))) (h121 : am_is H 121 (.inr (0, [.ref 122, .int 0, .int 0]))) (c1 : ¬ x0 = 5) (c2 : ¬ x0 = 6) (c3 : ¬ x0 = 7) (c4 : ¬ x0 = 8) (c5 : ¬ x0 = 9) (c6 : ¬ x0 = 10) (c7 : ¬ x0 = 11) (c8 : ¬ x0 = 12) (c9 : ¬ x0 = 13) (c10 : ¬ x0 = 14) (c11 : x0 = 15)  :
    am_E sL sx cs 256 0 [(0, .ref 116), (1, .int x0)] [] H (some (.int (-1))) (fun H1 => (True) ∧ ∀ j : Nat, H1[j]? = H[j]?) := by
  refine ex_s (am_nb (m := 1) (pc1 := 1) (ls1 := [(0, .ref 116), (1, .int x0)]) (st1 := [.int x0]) (H1 := H) (k1 := 0) (n1 := 0) (by with_unfolding_all rfl)) ?_
  refine ex_s (st_tsw rfl) ?_
  refine ex_pc (if_neg c1) ?_
  refine ex_pc (if_neg c2) ?_
  refine ex_pc (if_neg c3) ?_
  refine ex_pc (if_neg c4) ?_
  refine ex_pc (if_neg c5) ?_
  refine ex_pc (if_neg c6) ?_
  refine ex_pc (if_neg c7) ?_
  refine ex_pc (if_neg c8) ?_
  refine ex_pc (if_neg c9) ?_
  refine ex_pc (if_neg c10) ?_
  refine ex_pc (if_pos c11) ?_
  refine ex_s (am_nb (m := 1) (pc1 := 130) (ls1 := [(0, .ref 116), (1, .int x0)]) (st1 := [.int (-1)]) (H1 := H) (k1 := 0) (n1 := 0) (by with_unfolding_all rfl)) ?_
  exact ex_r (st_iret rfl rfl rfl) ⟨trivial, fun j => rfl⟩

set_option maxRecDepth 100000 in
theorem fx_count_2_11 {sL : Nat} {sx : Nat → Int32} {cs : Nat → Nat → Option Int32} {H : am_H} {x0 : Int32} (h116 : am_is H 116 (.inr (1, [.ref 117, .ref 119, .ref 121, .int 127, .int 0, .int 0, .int 0, .int 0, .int 0, .int 0]))) (h117 : am_is H 117 (.inr (0, [.ref 118, .int 0, .int 0]))) (h119 : am_is H 119 (.inr (0, [.ref 120, .int 0, .int 0]))) (h121 : am_is H 121 (.inr (0, [.ref 122, .int 0, .int 0]))) (c1 : ¬ x0 = 5) (c2 : ¬ x0 = 6) (c3 : ¬ x0 = 7) (c4 : ¬ x0 = 8) (c5 : ¬ x0 = 9) (c6 : ¬ x0 = 10) (c7 : ¬ x0 = 11) (c8 : ¬ x0 = 12) (c9 : ¬ x0 = 13) (c10 : ¬ x0 = 14) (c11 : ¬ x0 = 15) (c12 : x0 = 16)  :
    am_E sL sx cs 256 0 [(0, .ref 116), (1, .int x0)] [] H (some (.int (-1))) (fun H1 => (True) ∧ ∀ j : Nat, H1[j]? = H[j]?) := by
  refine ex_s (am_nb (m := 1) (pc1 := 1) (ls1 := [(0, .ref 116), (1, .int x0)]) (st1 := [.int x0]) (H1 := H) (k1 := 0) (n1 := 0) (by with_unfolding_all rfl)) ?_
  refine ex_s (st_tsw rfl) ?_
  refine ex_pc (if_neg c1) ?_
  refine ex_pc (if_neg c2) ?_
  refine ex_pc (if_neg c3) ?_
  refine ex_pc (if_neg c4) ?_
  refine ex_pc (if_neg c5) ?_
  refine ex_pc (if_neg c6) ?_
  refine ex_pc (if_neg c7) ?_
  refine ex_pc (if_neg c8) ?_
  refine ex_pc (if_neg c9) ?_
  refine ex_pc (if_neg c10) ?_
  refine ex_pc (if_neg c11) ?_
  refine ex_pc (if_pos c12) ?_
  refine ex_s (am_nb (m := 1) (pc1 := 130) (ls1 := [(0, .ref 116), (1, .int x0)]) (st1 := [.int (-1)]) (H1 := H) (k1 := 0) (n1 := 0) (by with_unfolding_all rfl)) ?_
  exact ex_r (st_iret rfl rfl rfl) ⟨trivial, fun j => rfl⟩

set_option maxRecDepth 100000 in
theorem fx_count_2_12 {sL : Nat} {sx : Nat → Int32} {cs : Nat → Nat → Option Int32} {H : am_H} {x0 : Int32} (h116 : am_is H 116 (.inr (1, [.ref 117, .ref 119, .ref 121, .int 127, .int 0, .int 0, .int 0, .int 0, .int 0, .int 0]))) (h117 : am_is H 117 (.inr (0, [.ref 118, .int 0, .int 0]))) (h119 : am_is H 119 (.inr (0, [.ref 120, .int 0, .int 0]))) (h121 : am_is H 121 (.inr (0, [.ref 122, .int 0, .int 0]))) (c1 : ¬ x0 = 5) (c2 : ¬ x0 = 6) (c3 : ¬ x0 = 7) (c4 : ¬ x0 = 8) (c5 : ¬ x0 = 9) (c6 : ¬ x0 = 10) (c7 : ¬ x0 = 11) (c8 : ¬ x0 = 12) (c9 : ¬ x0 = 13) (c10 : ¬ x0 = 14) (c11 : ¬ x0 = 15) (c12 : ¬ x0 = 16) (c13 : x0 = 17)  :
    am_E sL sx cs 256 0 [(0, .ref 116), (1, .int x0)] [] H (some (.int 127)) (fun H1 => (True) ∧ ∀ j : Nat, H1[j]? = H[j]?) := by
  refine ex_s (am_nb (m := 1) (pc1 := 1) (ls1 := [(0, .ref 116), (1, .int x0)]) (st1 := [.int x0]) (H1 := H) (k1 := 0) (n1 := 0) (by with_unfolding_all rfl)) ?_
  refine ex_s (st_tsw rfl) ?_
  refine ex_pc (if_neg c1) ?_
  refine ex_pc (if_neg c2) ?_
  refine ex_pc (if_neg c3) ?_
  refine ex_pc (if_neg c4) ?_
  refine ex_pc (if_neg c5) ?_
  refine ex_pc (if_neg c6) ?_
  refine ex_pc (if_neg c7) ?_
  refine ex_pc (if_neg c8) ?_
  refine ex_pc (if_neg c9) ?_
  refine ex_pc (if_neg c10) ?_
  refine ex_pc (if_neg c11) ?_
  refine ex_pc (if_neg c12) ?_
  refine ex_pc (if_pos c13) ?_
  refine ex_s (am_nb (m := 1) (pc1 := 120) (ls1 := [(0, .ref 116), (1, .int x0)]) (st1 := [.ref 116]) (H1 := H) (k1 := 0) (n1 := 0) (by with_unfolding_all rfl)) ?_
  refine ex_s (st_get rfl h116 rfl) ?_
  exact ex_r (st_iret rfl rfl rfl) ⟨trivial, fun j => rfl⟩

set_option maxRecDepth 100000 in
theorem fx_count_2_13 {sL : Nat} {sx : Nat → Int32} {cs : Nat → Nat → Option Int32} {H : am_H} {x0 : Int32} (h116 : am_is H 116 (.inr (1, [.ref 117, .ref 119, .ref 121, .int 127, .int 0, .int 0, .int 0, .int 0, .int 0, .int 0]))) (h117 : am_is H 117 (.inr (0, [.ref 118, .int 0, .int 0]))) (h119 : am_is H 119 (.inr (0, [.ref 120, .int 0, .int 0]))) (h121 : am_is H 121 (.inr (0, [.ref 122, .int 0, .int 0]))) (c1 : ¬ x0 = 5) (c2 : ¬ x0 = 6) (c3 : ¬ x0 = 7) (c4 : ¬ x0 = 8) (c5 : ¬ x0 = 9) (c6 : ¬ x0 = 10) (c7 : ¬ x0 = 11) (c8 : ¬ x0 = 12) (c9 : ¬ x0 = 13) (c10 : ¬ x0 = 14) (c11 : ¬ x0 = 15) (c12 : ¬ x0 = 16) (c13 : ¬ x0 = 17) (c14 : x0 = 18)  :
    am_E sL sx cs 256 0 [(0, .ref 116), (1, .int x0)] [] H (some (.int 0)) (fun H1 => (True) ∧ ∀ j : Nat, H1[j]? = H[j]?) := by
  refine ex_s (am_nb (m := 1) (pc1 := 1) (ls1 := [(0, .ref 116), (1, .int x0)]) (st1 := [.int x0]) (H1 := H) (k1 := 0) (n1 := 0) (by with_unfolding_all rfl)) ?_
  refine ex_s (st_tsw rfl) ?_
  refine ex_pc (if_neg c1) ?_
  refine ex_pc (if_neg c2) ?_
  refine ex_pc (if_neg c3) ?_
  refine ex_pc (if_neg c4) ?_
  refine ex_pc (if_neg c5) ?_
  refine ex_pc (if_neg c6) ?_
  refine ex_pc (if_neg c7) ?_
  refine ex_pc (if_neg c8) ?_
  refine ex_pc (if_neg c9) ?_
  refine ex_pc (if_neg c10) ?_
  refine ex_pc (if_neg c11) ?_
  refine ex_pc (if_neg c12) ?_
  refine ex_pc (if_neg c13) ?_
  refine ex_pc (if_pos c14) ?_
  refine ex_s (am_nb (m := 1) (pc1 := 125) (ls1 := [(0, .ref 116), (1, .int x0)]) (st1 := [.ref 116]) (H1 := H) (k1 := 0) (n1 := 0) (by with_unfolding_all rfl)) ?_
  refine ex_s (st_get rfl h116 rfl) ?_
  exact ex_r (st_iret rfl rfl rfl) ⟨trivial, fun j => rfl⟩

set_option maxRecDepth 100000 in
theorem fx_count_2_14 {sL : Nat} {sx : Nat → Int32} {cs : Nat → Nat → Option Int32} {H : am_H} {x0 : Int32} (h116 : am_is H 116 (.inr (1, [.ref 117, .ref 119, .ref 121, .int 127, .int 0, .int 0, .int 0, .int 0, .int 0, .int 0]))) (h117 : am_is H 117 (.inr (0, [.ref 118, .int 0, .int 0]))) (h119 : am_is H 119 (.inr (0, [.ref 120, .int 0, .int 0]))) (h121 : am_is H 121 (.inr (0, [.ref 122, .int 0, .int 0]))) (c1 : ¬ x0 = 5) (c2 : ¬ x0 = 6) (c3 : ¬ x0 = 7) (c4 : ¬ x0 = 8) (c5 : ¬ x0 = 9) (c6 : ¬ x0 = 10) (c7 : ¬ x0 = 11) (c8 : ¬ x0 = 12) (c9 : ¬ x0 = 13) (c10 : ¬ x0 = 14) (c11 : ¬ x0 = 15) (c12 : ¬ x0 = 16) (c13 : ¬ x0 = 17) (c14 : ¬ x0 = 18)  :
    am_E sL sx cs 256 0 [(0, .ref 116), (1, .int x0)] [] H (some (.int (-1))) (fun H1 => (True) ∧ ∀ j : Nat, H1[j]? = H[j]?) := by
  refine ex_s (am_nb (m := 1) (pc1 := 1) (ls1 := [(0, .ref 116), (1, .int x0)]) (st1 := [.int x0]) (H1 := H) (k1 := 0) (n1 := 0) (by with_unfolding_all rfl)) ?_
  refine ex_s (st_tsw rfl) ?_
  refine ex_pc (if_neg c1) ?_
  refine ex_pc (if_neg c2) ?_
  refine ex_pc (if_neg c3) ?_
  refine ex_pc (if_neg c4) ?_
  refine ex_pc (if_neg c5) ?_
  refine ex_pc (if_neg c6) ?_
  refine ex_pc (if_neg c7) ?_
  refine ex_pc (if_neg c8) ?_
  refine ex_pc (if_neg c9) ?_
  refine ex_pc (if_neg c10) ?_
  refine ex_pc (if_neg c11) ?_
  refine ex_pc (if_neg c12) ?_
  refine ex_pc (if_neg c13) ?_
  refine ex_pc (if_neg c14) ?_
  refine ex_pc (pc1 := 129) rfl ?_
  refine ex_s (am_nb (m := 1) (pc1 := 130) (ls1 := [(0, .ref 116), (1, .int x0)]) (st1 := [.int (-1)]) (H1 := H) (k1 := 0) (n1 := 0) (by with_unfolding_all rfl)) ?_
  exact ex_r (st_iret rfl rfl rfl) ⟨trivial, fun j => rfl⟩

set_option maxRecDepth 100000 in
theorem fx_count_0 {sL : Nat} {sx : Nat → Int32} {cs : Nat → Nat → Option Int32} {H : am_H} {v0_13 : Int32} {x0 : Int32} (h0 : am_is H 0 (.inr (11, [.ref 1, .int 0, .ref 2, .int 0, .ref 3, .ref 93, .ref 97, .ref 115, .ref 116, .ref 129, .ref 123, .ref 127, .ref 128, .int v0_13, .null, .int 0]))) (h3 : am_is H 3 (.inr (7, [.ref 4, .int 0, .int 0, .int (-1), .ref 5, .int 0, .int 0, .int 0, .null, .ref 6, .ref 7, .int 0, .ref 8, .int 0]))) (h115 : am_is H 115 (.inl ((.object "TerminalHouse$Window"), (8, .inr (.inr (.inr (.inr am_q115))))))) (h141 : am_is H 141 (.inr (9, [.ref 142, .int 0, .int 0, .int 0, .int 0, .int 0, .int 0, .int 0, .int 0, .int 0]))) (h143 : am_is H 143 (.inr (9, [.ref 144, .int 0, .int 0, .int 0, .int 0, .int 0, .int 0, .int 0, .int 0, .int 0]))) (h145 : am_is H 145 (.inr (9, [.ref 146, .int 0, .int 0, .int 0, .int 0, .int 0, .int 0, .int 0, .int 0, .int 0]))) (h147 : am_is H 147 (.inr (9, [.ref 148, .int 0, .int 0, .int 0, .int 0, .int 0, .int 0, .int 0, .int 0, .int 0]))) (h149 : am_is H 149 (.inr (9, [.ref 150, .int 0, .int 0, .int 0, .int 0, .int 0, .int 0, .int 0, .int 0, .int 0]))) (h151 : am_is H 151 (.inr (9, [.ref 152, .int 0, .int 0, .int 0, .int 0, .int 0, .int 0, .int 0, .int 0, .int 0]))) (h153 : am_is H 153 (.inr (9, [.ref 154, .int 0, .int 0, .int 0, .int 0, .int 0, .int 0, .int 0, .int 0, .int 0]))) (h155 : am_is H 155 (.inr (9, [.ref 156, .int 0, .int 0, .int 0, .int 0, .int 0, .int 0, .int 0, .int 0, .int 0]))) (h116 : am_is H 116 (.inr (1, [.ref 117, .ref 119, .ref 121, .int 127, .int 0, .int 0, .int 0, .int 0, .int 0, .int 0]))) (h117 : am_is H 117 (.inr (0, [.ref 118, .int 0, .int 0]))) (h119 : am_is H 119 (.inr (0, [.ref 120, .int 0, .int 0]))) (h121 : am_is H 121 (.inr (0, [.ref 122, .int 0, .int 0]))) (h127 : am_is H 127 (.inr (10, [.int (-1), .int 0, .int 0, .int 0]))) (h128 : am_is H 128 (.inr (10, [.int (-1), .int 0, .int 0, .int 0]))) (c1 : x0 = 0)  :
    am_E sL sx cs 254 0 [(0, .ref 0), (1, .int x0)] [] H (some (.int 0)) (fun H1 => (True) ∧ ∀ j : Nat, H1[j]? = H[j]?) := by
  refine ex_s (am_nb (m := 1) (pc1 := 1) (ls1 := [(0, .ref 0), (1, .int x0)]) (st1 := [.int x0]) (H1 := H) (k1 := 0) (n1 := 0) (by with_unfolding_all rfl)) ?_
  refine ex_s (st_tsw rfl) ?_
  refine ex_pc (if_pos c1) ?_
  refine ex_s (am_nb (m := 1) (pc1 := 85) (ls1 := [(0, .ref 0), (1, .int x0)]) (st1 := [.ref 0]) (H1 := H) (k1 := 0) (n1 := 0) (by with_unfolding_all rfl)) ?_
  refine ex_s (st_get rfl h0 rfl) ?_
  exact ex_r (st_iret rfl rfl rfl) ⟨trivial, fun j => rfl⟩

set_option maxRecDepth 100000 in
theorem fx_count_1 {sL : Nat} {sx : Nat → Int32} {cs : Nat → Nat → Option Int32} {H : am_H} {v0_13 : Int32} {x0 : Int32} (h0 : am_is H 0 (.inr (11, [.ref 1, .int 0, .ref 2, .int 0, .ref 3, .ref 93, .ref 97, .ref 115, .ref 116, .ref 129, .ref 123, .ref 127, .ref 128, .int v0_13, .null, .int 0]))) (h3 : am_is H 3 (.inr (7, [.ref 4, .int 0, .int 0, .int (-1), .ref 5, .int 0, .int 0, .int 0, .null, .ref 6, .ref 7, .int 0, .ref 8, .int 0]))) (h115 : am_is H 115 (.inl ((.object "TerminalHouse$Window"), (8, .inr (.inr (.inr (.inr am_q115))))))) (h141 : am_is H 141 (.inr (9, [.ref 142, .int 0, .int 0, .int 0, .int 0, .int 0, .int 0, .int 0, .int 0, .int 0]))) (h143 : am_is H 143 (.inr (9, [.ref 144, .int 0, .int 0, .int 0, .int 0, .int 0, .int 0, .int 0, .int 0, .int 0]))) (h145 : am_is H 145 (.inr (9, [.ref 146, .int 0, .int 0, .int 0, .int 0, .int 0, .int 0, .int 0, .int 0, .int 0]))) (h147 : am_is H 147 (.inr (9, [.ref 148, .int 0, .int 0, .int 0, .int 0, .int 0, .int 0, .int 0, .int 0, .int 0]))) (h149 : am_is H 149 (.inr (9, [.ref 150, .int 0, .int 0, .int 0, .int 0, .int 0, .int 0, .int 0, .int 0, .int 0]))) (h151 : am_is H 151 (.inr (9, [.ref 152, .int 0, .int 0, .int 0, .int 0, .int 0, .int 0, .int 0, .int 0, .int 0]))) (h153 : am_is H 153 (.inr (9, [.ref 154, .int 0, .int 0, .int 0, .int 0, .int 0, .int 0, .int 0, .int 0, .int 0]))) (h155 : am_is H 155 (.inr (9, [.ref 156, .int 0, .int 0, .int 0, .int 0, .int 0, .int 0, .int 0, .int 0, .int 0]))) (h116 : am_is H 116 (.inr (1, [.ref 117, .ref 119, .ref 121, .int 127, .int 0, .int 0, .int 0, .int 0, .int 0, .int 0]))) (h117 : am_is H 117 (.inr (0, [.ref 118, .int 0, .int 0]))) (h119 : am_is H 119 (.inr (0, [.ref 120, .int 0, .int 0]))) (h121 : am_is H 121 (.inr (0, [.ref 122, .int 0, .int 0]))) (h127 : am_is H 127 (.inr (10, [.int (-1), .int 0, .int 0, .int 0]))) (h128 : am_is H 128 (.inr (10, [.int (-1), .int 0, .int 0, .int 0]))) (c1 : ¬ x0 = 0) (c2 : x0 = 1)  :
    am_E sL sx cs 254 0 [(0, .ref 0), (1, .int x0)] [] H (some (.int 0)) (fun H1 => (True) ∧ ∀ j : Nat, H1[j]? = H[j]?) := by
  refine ex_s (am_nb (m := 1) (pc1 := 1) (ls1 := [(0, .ref 0), (1, .int x0)]) (st1 := [.int x0]) (H1 := H) (k1 := 0) (n1 := 0) (by with_unfolding_all rfl)) ?_
  refine ex_s (st_tsw rfl) ?_
  refine ex_pc (if_neg c1) ?_
  refine ex_pc (if_pos c2) ?_
  refine ex_s (am_nb (m := 1) (pc1 := 90) (ls1 := [(0, .ref 0), (1, .int x0)]) (st1 := [.ref 0]) (H1 := H) (k1 := 0) (n1 := 0) (by with_unfolding_all rfl)) ?_
  refine ex_s (st_get rfl h0 rfl) ?_
  refine ex_s (st_get rfl h3 rfl) ?_
  exact ex_r (st_iret rfl rfl rfl) ⟨trivial, fun j => rfl⟩

set_option maxRecDepth 100000 in
theorem fx_count_2 {sL : Nat} {sx : Nat → Int32} {cs : Nat → Nat → Option Int32} {H : am_H} {v0_13 : Int32} {x0 : Int32} (h0 : am_is H 0 (.inr (11, [.ref 1, .int 0, .ref 2, .int 0, .ref 3, .ref 93, .ref 97, .ref 115, .ref 116, .ref 129, .ref 123, .ref 127, .ref 128, .int v0_13, .null, .int 0]))) (h3 : am_is H 3 (.inr (7, [.ref 4, .int 0, .int 0, .int (-1), .ref 5, .int 0, .int 0, .int 0, .null, .ref 6, .ref 7, .int 0, .ref 8, .int 0]))) (h115 : am_is H 115 (.inl ((.object "TerminalHouse$Window"), (8, .inr (.inr (.inr (.inr am_q115))))))) (h141 : am_is H 141 (.inr (9, [.ref 142, .int 0, .int 0, .int 0, .int 0, .int 0, .int 0, .int 0, .int 0, .int 0]))) (h143 : am_is H 143 (.inr (9, [.ref 144, .int 0, .int 0, .int 0, .int 0, .int 0, .int 0, .int 0, .int 0, .int 0]))) (h145 : am_is H 145 (.inr (9, [.ref 146, .int 0, .int 0, .int 0, .int 0, .int 0, .int 0, .int 0, .int 0, .int 0]))) (h147 : am_is H 147 (.inr (9, [.ref 148, .int 0, .int 0, .int 0, .int 0, .int 0, .int 0, .int 0, .int 0, .int 0]))) (h149 : am_is H 149 (.inr (9, [.ref 150, .int 0, .int 0, .int 0, .int 0, .int 0, .int 0, .int 0, .int 0, .int 0]))) (h151 : am_is H 151 (.inr (9, [.ref 152, .int 0, .int 0, .int 0, .int 0, .int 0, .int 0, .int 0, .int 0, .int 0]))) (h153 : am_is H 153 (.inr (9, [.ref 154, .int 0, .int 0, .int 0, .int 0, .int 0, .int 0, .int 0, .int 0, .int 0]))) (h155 : am_is H 155 (.inr (9, [.ref 156, .int 0, .int 0, .int 0, .int 0, .int 0, .int 0, .int 0, .int 0, .int 0]))) (h116 : am_is H 116 (.inr (1, [.ref 117, .ref 119, .ref 121, .int 127, .int 0, .int 0, .int 0, .int 0, .int 0, .int 0]))) (h117 : am_is H 117 (.inr (0, [.ref 118, .int 0, .int 0]))) (h119 : am_is H 119 (.inr (0, [.ref 120, .int 0, .int 0]))) (h121 : am_is H 121 (.inr (0, [.ref 122, .int 0, .int 0]))) (h127 : am_is H 127 (.inr (10, [.int (-1), .int 0, .int 0, .int 0]))) (h128 : am_is H 128 (.inr (10, [.int (-1), .int 0, .int 0, .int 0]))) (c1 : ¬ x0 = 0) (c2 : ¬ x0 = 1) (c3 : x0 = 2)  :
    am_E sL sx cs 254 0 [(0, .ref 0), (1, .int x0)] [] H (some (.int 0)) (fun H1 => (True) ∧ ∀ j : Nat, H1[j]? = H[j]?) := by
  refine ex_s (am_nb (m := 1) (pc1 := 1) (ls1 := [(0, .ref 0), (1, .int x0)]) (st1 := [.int x0]) (H1 := H) (k1 := 0) (n1 := 0) (by with_unfolding_all rfl)) ?_
  refine ex_s (st_tsw rfl) ?_
  refine ex_pc (if_neg c1) ?_
  refine ex_pc (if_neg c2) ?_
  refine ex_pc (if_pos c3) ?_
  refine ex_s (am_nb (m := 1) (pc1 := 98) (ls1 := [(0, .ref 0), (1, .int x0)]) (st1 := [.ref 0]) (H1 := H) (k1 := 0) (n1 := 0) (by with_unfolding_all rfl)) ?_
  refine ex_s (st_get rfl h0 rfl) ?_
  refine ex_s (am_nb (m := 3) (pc1 := 118) (ls1 := [(0, .ref 0), (1, .int x0)]) (st1 := [.int 0]) (H1 := H) (k1 := 0) (n1 := 0) (by with_unfolding_all rfl)) ?_
  exact ex_r (st_iret rfl rfl rfl) ⟨trivial, fun j => rfl⟩

set_option maxRecDepth 100000 in
theorem fx_count_3 {sL : Nat} {sx : Nat → Int32} {cs : Nat → Nat → Option Int32} {H : am_H} {v0_13 : Int32} {x0 : Int32} (h0 : am_is H 0 (.inr (11, [.ref 1, .int 0, .ref 2, .int 0, .ref 3, .ref 93, .ref 97, .ref 115, .ref 116, .ref 129, .ref 123, .ref 127, .ref 128, .int v0_13, .null, .int 0]))) (h3 : am_is H 3 (.inr (7, [.ref 4, .int 0, .int 0, .int (-1), .ref 5, .int 0, .int 0, .int 0, .null, .ref 6, .ref 7, .int 0, .ref 8, .int 0]))) (h115 : am_is H 115 (.inl ((.object "TerminalHouse$Window"), (8, .inr (.inr (.inr (.inr am_q115))))))) (h141 : am_is H 141 (.inr (9, [.ref 142, .int 0, .int 0, .int 0, .int 0, .int 0, .int 0, .int 0, .int 0, .int 0]))) (h143 : am_is H 143 (.inr (9, [.ref 144, .int 0, .int 0, .int 0, .int 0, .int 0, .int 0, .int 0, .int 0, .int 0]))) (h145 : am_is H 145 (.inr (9, [.ref 146, .int 0, .int 0, .int 0, .int 0, .int 0, .int 0, .int 0, .int 0, .int 0]))) (h147 : am_is H 147 (.inr (9, [.ref 148, .int 0, .int 0, .int 0, .int 0, .int 0, .int 0, .int 0, .int 0, .int 0]))) (h149 : am_is H 149 (.inr (9, [.ref 150, .int 0, .int 0, .int 0, .int 0, .int 0, .int 0, .int 0, .int 0, .int 0]))) (h151 : am_is H 151 (.inr (9, [.ref 152, .int 0, .int 0, .int 0, .int 0, .int 0, .int 0, .int 0, .int 0, .int 0]))) (h153 : am_is H 153 (.inr (9, [.ref 154, .int 0, .int 0, .int 0, .int 0, .int 0, .int 0, .int 0, .int 0, .int 0]))) (h155 : am_is H 155 (.inr (9, [.ref 156, .int 0, .int 0, .int 0, .int 0, .int 0, .int 0, .int 0, .int 0, .int 0]))) (h116 : am_is H 116 (.inr (1, [.ref 117, .ref 119, .ref 121, .int 127, .int 0, .int 0, .int 0, .int 0, .int 0, .int 0]))) (h117 : am_is H 117 (.inr (0, [.ref 118, .int 0, .int 0]))) (h119 : am_is H 119 (.inr (0, [.ref 120, .int 0, .int 0]))) (h121 : am_is H 121 (.inr (0, [.ref 122, .int 0, .int 0]))) (h127 : am_is H 127 (.inr (10, [.int (-1), .int 0, .int 0, .int 0]))) (h128 : am_is H 128 (.inr (10, [.int (-1), .int 0, .int 0, .int 0]))) (c1 : ¬ x0 = 0) (c2 : ¬ x0 = 1) (c3 : ¬ x0 = 2) (c4 : x0 = 3)  :
    am_E sL sx cs 254 0 [(0, .ref 0), (1, .int x0)] [] H (some (.int 0)) (fun H1 => (True) ∧ ∀ j : Nat, H1[j]? = H[j]?) := by
  refine ex_s (am_nb (m := 1) (pc1 := 1) (ls1 := [(0, .ref 0), (1, .int x0)]) (st1 := [.int x0]) (H1 := H) (k1 := 0) (n1 := 0) (by with_unfolding_all rfl)) ?_
  refine ex_s (st_tsw rfl) ?_
  refine ex_pc (if_neg c1) ?_
  refine ex_pc (if_neg c2) ?_
  refine ex_pc (if_neg c3) ?_
  refine ex_pc (if_pos c4) ?_
  refine ex_s (am_nb (m := 1) (pc1 := 120) (ls1 := [(0, .ref 0), (1, .int x0)]) (st1 := [.ref 0]) (H1 := H) (k1 := 0) (n1 := 0) (by with_unfolding_all rfl)) ?_
  refine ex_s (st_get rfl h0 rfl) ?_
  refine ex_s (am_nb (m := 3) (pc1 := 140) (ls1 := [(0, .ref 0), (1, .int x0)]) (st1 := [.int 0]) (H1 := H) (k1 := 0) (n1 := 0) (by with_unfolding_all rfl)) ?_
  exact ex_r (st_iret rfl rfl rfl) ⟨trivial, fun j => rfl⟩

set_option maxRecDepth 100000 in
theorem fx_count_4 {sL : Nat} {sx : Nat → Int32} {cs : Nat → Nat → Option Int32} {H : am_H} {v0_13 : Int32} {x0 : Int32} (h0 : am_is H 0 (.inr (11, [.ref 1, .int 0, .ref 2, .int 0, .ref 3, .ref 93, .ref 97, .ref 115, .ref 116, .ref 129, .ref 123, .ref 127, .ref 128, .int v0_13, .null, .int 0]))) (h3 : am_is H 3 (.inr (7, [.ref 4, .int 0, .int 0, .int (-1), .ref 5, .int 0, .int 0, .int 0, .null, .ref 6, .ref 7, .int 0, .ref 8, .int 0]))) (h115 : am_is H 115 (.inl ((.object "TerminalHouse$Window"), (8, .inr (.inr (.inr (.inr am_q115))))))) (h141 : am_is H 141 (.inr (9, [.ref 142, .int 0, .int 0, .int 0, .int 0, .int 0, .int 0, .int 0, .int 0, .int 0]))) (h143 : am_is H 143 (.inr (9, [.ref 144, .int 0, .int 0, .int 0, .int 0, .int 0, .int 0, .int 0, .int 0, .int 0]))) (h145 : am_is H 145 (.inr (9, [.ref 146, .int 0, .int 0, .int 0, .int 0, .int 0, .int 0, .int 0, .int 0, .int 0]))) (h147 : am_is H 147 (.inr (9, [.ref 148, .int 0, .int 0, .int 0, .int 0, .int 0, .int 0, .int 0, .int 0, .int 0]))) (h149 : am_is H 149 (.inr (9, [.ref 150, .int 0, .int 0, .int 0, .int 0, .int 0, .int 0, .int 0, .int 0, .int 0]))) (h151 : am_is H 151 (.inr (9, [.ref 152, .int 0, .int 0, .int 0, .int 0, .int 0, .int 0, .int 0, .int 0, .int 0]))) (h153 : am_is H 153 (.inr (9, [.ref 154, .int 0, .int 0, .int 0, .int 0, .int 0, .int 0, .int 0, .int 0, .int 0]))) (h155 : am_is H 155 (.inr (9, [.ref 156, .int 0, .int 0, .int 0, .int 0, .int 0, .int 0, .int 0, .int 0, .int 0]))) (h116 : am_is H 116 (.inr (1, [.ref 117, .ref 119, .ref 121, .int 127, .int 0, .int 0, .int 0, .int 0, .int 0, .int 0]))) (h117 : am_is H 117 (.inr (0, [.ref 118, .int 0, .int 0]))) (h119 : am_is H 119 (.inr (0, [.ref 120, .int 0, .int 0]))) (h121 : am_is H 121 (.inr (0, [.ref 122, .int 0, .int 0]))) (h127 : am_is H 127 (.inr (10, [.int (-1), .int 0, .int 0, .int 0]))) (h128 : am_is H 128 (.inr (10, [.int (-1), .int 0, .int 0, .int 0]))) (c1 : ¬ x0 = 0) (c2 : ¬ x0 = 1) (c3 : ¬ x0 = 2) (c4 : ¬ x0 = 3) (c5 : x0 = 4)  :
    am_E sL sx cs 254 0 [(0, .ref 0), (1, .int x0)] [] H (some (.int 0)) (fun H1 => (True) ∧ ∀ j : Nat, H1[j]? = H[j]?) := by
  refine ex_s (am_nb (m := 1) (pc1 := 1) (ls1 := [(0, .ref 0), (1, .int x0)]) (st1 := [.int x0]) (H1 := H) (k1 := 0) (n1 := 0) (by with_unfolding_all rfl)) ?_
  refine ex_s (st_tsw rfl) ?_
  refine ex_pc (if_neg c1) ?_
  refine ex_pc (if_neg c2) ?_
  refine ex_pc (if_neg c3) ?_
  refine ex_pc (if_neg c4) ?_
  refine ex_pc (if_pos c5) ?_
  refine ex_s (am_nb (m := 1) (pc1 := 142) (ls1 := [(0, .ref 0), (1, .int x0)]) (st1 := [.ref 0]) (H1 := H) (k1 := 0) (n1 := 0) (by with_unfolding_all rfl)) ?_
  refine ex_cv1 (as := []) (rest := []) rfl rfl rfl rfl h0 rfl (by with_unfolding_all rfl) (by with_unfolding_all rfl) (fx_count_1_0 h0 h115 h141 h143 h145 h147 h149 h151 h153 h155) ?_
  rintro H313 ⟨-, k313⟩
  exact ex_r (st_iret rfl rfl rfl) ⟨trivial, fun j => (k313 j)⟩

set_option maxRecDepth 100000 in
theorem fx_count_5 {sL : Nat} {sx : Nat → Int32} {cs : Nat → Nat → Option Int32} {H : am_H} {v0_13 : Int32} {x0 : Int32} (h0 : am_is H 0 (.inr (11, [.ref 1, .int 0, .ref 2, .int 0, .ref 3, .ref 93, .ref 97, .ref 115, .ref 116, .ref 129, .ref 123, .ref 127, .ref 128, .int v0_13, .null, .int 0]))) (h3 : am_is H 3 (.inr (7, [.ref 4, .int 0, .int 0, .int (-1), .ref 5, .int 0, .int 0, .int 0, .null, .ref 6, .ref 7, .int 0, .ref 8, .int 0]))) (h115 : am_is H 115 (.inl ((.object "TerminalHouse$Window"), (8, .inr (.inr (.inr (.inr am_q115))))))) (h141 : am_is H 141 (.inr (9, [.ref 142, .int 0, .int 0, .int 0, .int 0, .int 0, .int 0, .int 0, .int 0, .int 0]))) (h143 : am_is H 143 (.inr (9, [.ref 144, .int 0, .int 0, .int 0, .int 0, .int 0, .int 0, .int 0, .int 0, .int 0]))) (h145 : am_is H 145 (.inr (9, [.ref 146, .int 0, .int 0, .int 0, .int 0, .int 0, .int 0, .int 0, .int 0, .int 0]))) (h147 : am_is H 147 (.inr (9, [.ref 148, .int 0, .int 0, .int 0, .int 0, .int 0, .int 0, .int 0, .int 0, .int 0]))) (h149 : am_is H 149 (.inr (9, [.ref 150, .int 0, .int 0, .int 0, .int 0, .int 0, .int 0, .int 0, .int 0, .int 0]))) (h151 : am_is H 151 (.inr (9, [.ref 152, .int 0, .int 0, .int 0, .int 0, .int 0, .int 0, .int 0, .int 0, .int 0]))) (h153 : am_is H 153 (.inr (9, [.ref 154, .int 0, .int 0, .int 0, .int 0, .int 0, .int 0, .int 0, .int 0, .int 0]))) (h155 : am_is H 155 (.inr (9, [.ref 156, .int 0, .int 0, .int 0, .int 0, .int 0, .int 0, .int 0, .int 0, .int 0]))) (h116 : am_is H 116 (.inr (1, [.ref 117, .ref 119, .ref 121, .int 127, .int 0, .int 0, .int 0, .int 0, .int 0, .int 0]))) (h117 : am_is H 117 (.inr (0, [.ref 118, .int 0, .int 0]))) (h119 : am_is H 119 (.inr (0, [.ref 120, .int 0, .int 0]))) (h121 : am_is H 121 (.inr (0, [.ref 122, .int 0, .int 0]))) (h127 : am_is H 127 (.inr (10, [.int (-1), .int 0, .int 0, .int 0]))) (h128 : am_is H 128 (.inr (10, [.int (-1), .int 0, .int 0, .int 0]))) (c1 : ¬ x0 = 0) (c2 : ¬ x0 = 1) (c3 : ¬ x0 = 2) (c4 : ¬ x0 = 3) (c5 : ¬ x0 = 4) (c6 : x0 = 5)  :
    am_E sL sx cs 254 0 [(0, .ref 0), (1, .int x0)] [] H (some (.int 0)) (fun H1 => (True) ∧ ∀ j : Nat, H1[j]? = H[j]?) := by
  refine ex_s (am_nb (m := 1) (pc1 := 1) (ls1 := [(0, .ref 0), (1, .int x0)]) (st1 := [.int x0]) (H1 := H) (k1 := 0) (n1 := 0) (by with_unfolding_all rfl)) ?_
  refine ex_s (st_tsw rfl) ?_
  refine ex_pc (if_neg c1) ?_
  refine ex_pc (if_neg c2) ?_
  refine ex_pc (if_neg c3) ?_
  refine ex_pc (if_neg c4) ?_
  refine ex_pc (if_neg c5) ?_
  refine ex_pc (if_pos c6) ?_
  refine ex_s (am_nb (m := 1) (pc1 := 254) (ls1 := [(0, .ref 0), (1, .int x0)]) (st1 := [.ref 0]) (H1 := H) (k1 := 0) (n1 := 0) (by with_unfolding_all rfl)) ?_
  refine ex_s (st_get rfl h0 rfl) ?_
  refine ex_s (am_nb (m := 1) (pc1 := 258) (ls1 := [(0, .ref 0), (1, .int x0)]) (st1 := [.int x0, .ref 116]) (H1 := H) (k1 := 0) (n1 := 0) (by with_unfolding_all rfl)) ?_
  refine ex_cv1 (as := [.int x0]) (rest := []) rfl rfl rfl rfl h116 rfl (by with_unfolding_all rfl) (by with_unfolding_all rfl) (fx_count_2_0 h116 h117 h119 h121 c6) ?_
  rintro H317 ⟨-, k317⟩
  exact ex_r (st_iret rfl rfl rfl) ⟨trivial, fun j => (k317 j)⟩

set_option maxRecDepth 100000 in
theorem fx_count_6 {sL : Nat} {sx : Nat → Int32} {cs : Nat → Nat → Option Int32} {H : am_H} {v0_13 : Int32} {x0 : Int32} (h0 : am_is H 0 (.inr (11, [.ref 1, .int 0, .ref 2, .int 0, .ref 3, .ref 93, .ref 97, .ref 115, .ref 116, .ref 129, .ref 123, .ref 127, .ref 128, .int v0_13, .null, .int 0]))) (h3 : am_is H 3 (.inr (7, [.ref 4, .int 0, .int 0, .int (-1), .ref 5, .int 0, .int 0, .int 0, .null, .ref 6, .ref 7, .int 0, .ref 8, .int 0]))) (h115 : am_is H 115 (.inl ((.object "TerminalHouse$Window"), (8, .inr (.inr (.inr (.inr am_q115))))))) (h141 : am_is H 141 (.inr (9, [.ref 142, .int 0, .int 0, .int 0, .int 0, .int 0, .int 0, .int 0, .int 0, .int 0]))) (h143 : am_is H 143 (.inr (9, [.ref 144, .int 0, .int 0, .int 0, .int 0, .int 0, .int 0, .int 0, .int 0, .int 0]))) (h145 : am_is H 145 (.inr (9, [.ref 146, .int 0, .int 0, .int 0, .int 0, .int 0, .int 0, .int 0, .int 0, .int 0]))) (h147 : am_is H 147 (.inr (9, [.ref 148, .int 0, .int 0, .int 0, .int 0, .int 0, .int 0, .int 0, .int 0, .int 0]))) (h149 : am_is H 149 (.inr (9, [.ref 150, .int 0, .int 0, .int 0, .int 0, .int 0, .int 0, .int 0, .int 0, .int 0]))) (h151 : am_is H 151 (.inr (9, [.ref 152, .int 0, .int 0, .int 0, .int 0, .int 0, .int 0, .int 0, .int 0, .int 0]))) (h153 : am_is H 153 (.inr (9, [.ref 154, .int 0, .int 0, .int 0, .int 0, .int 0, .int 0, .int 0, .int 0, .int 0]))) (h155 : am_is H 155 (.inr (9, [.ref 156, .int 0, .int 0, .int 0, .int 0, .int 0, .int 0, .int 0, .int 0, .int 0]))) (h116 : am_is H 116 (.inr (1, [.ref 117, .ref 119, .ref 121, .int 127, .int 0, .int 0, .int 0, .int 0, .int 0, .int 0]))) (h117 : am_is H 117 (.inr (0, [.ref 118, .int 0, .int 0]))) (h119 : am_is H 119 (.inr (0, [.ref 120, .int 0, .int 0]))) (h121 : am_is H 121 (.inr (0, [.ref 122, .int 0, .int 0]))) (h127 : am_is H 127 (.inr (10, [.int (-1), .int 0, .int 0, .int 0]))) (h128 : am_is H 128 (.inr (10, [.int (-1), .int 0, .int 0, .int 0]))) (c1 : ¬ x0 = 0) (c2 : ¬ x0 = 1) (c3 : ¬ x0 = 2) (c4 : ¬ x0 = 3) (c5 : ¬ x0 = 4) (c6 : ¬ x0 = 5) (c7 : x0 = 6)  :
    am_E sL sx cs 254 0 [(0, .ref 0), (1, .int x0)] [] H (some (.int 0)) (fun H1 => (True) ∧ ∀ j : Nat, H1[j]? = H[j]?) := by
  refine ex_s (am_nb (m := 1) (pc1 := 1) (ls1 := [(0, .ref 0), (1, .int x0)]) (st1 := [.int x0]) (H1 := H) (k1 := 0) (n1 := 0) (by with_unfolding_all rfl)) ?_
  refine ex_s (st_tsw rfl) ?_
  refine ex_pc (if_neg c1) ?_
  refine ex_pc (if_neg c2) ?_
  refine ex_pc (if_neg c3) ?_
  refine ex_pc (if_neg c4) ?_
  refine ex_pc (if_neg c5) ?_
  refine ex_pc (if_neg c6) ?_
  refine ex_pc (if_pos c7) ?_
  refine ex_s (am_nb (m := 1) (pc1 := 254) (ls1 := [(0, .ref 0), (1, .int x0)]) (st1 := [.ref 0]) (H1 := H) (k1 := 0) (n1 := 0) (by with_unfolding_all rfl)) ?_
  refine ex_s (st_get rfl h0 rfl) ?_
  refine ex_s (am_nb (m := 1) (pc1 := 258) (ls1 := [(0, .ref 0), (1, .int x0)]) (st1 := [.int x0, .ref 116]) (H1 := H) (k1 := 0) (n1 := 0) (by with_unfolding_all rfl)) ?_
  refine ex_cv1 (as := [.int x0]) (rest := []) rfl rfl rfl rfl h116 rfl (by with_unfolding_all rfl) (by with_unfolding_all rfl) (fx_count_2_1 h116 h117 h119 h121 c6 c7) ?_
  rintro H318 ⟨-, k318⟩
  exact ex_r (st_iret rfl rfl rfl) ⟨trivial, fun j => (k318 j)⟩

set_option maxRecDepth 100000 in
theorem fx_count_7 {sL : Nat} {sx : Nat → Int32} {cs : Nat → Nat → Option Int32} {H : am_H} {v0_13 : Int32} {x0 : Int32} (h0 : am_is H 0 (.inr (11, [.ref 1, .int 0, .ref 2, .int 0, .ref 3, .ref 93, .ref 97, .ref 115, .ref 116, .ref 129, .ref 123, .ref 127, .ref 128, .int v0_13, .null, .int 0]))) (h3 : am_is H 3 (.inr (7, [.ref 4, .int 0, .int 0, .int (-1), .ref 5, .int 0, .int 0, .int 0, .null, .ref 6, .ref 7, .int 0, .ref 8, .int 0]))) (h115 : am_is H 115 (.inl ((.object "TerminalHouse$Window"), (8, .inr (.inr (.inr (.inr am_q115))))))) (h141 : am_is H 141 (.inr (9, [.ref 142, .int 0, .int 0, .int 0, .int 0, .int 0, .int 0, .int 0, .int 0, .int 0]))) (h143 : am_is H 143 (.inr (9, [.ref 144, .int 0, .int 0, .int 0, .int 0, .int 0, .int 0, .int 0, .int 0, .int 0]))) (h145 : am_is H 145 (.inr (9, [.ref 146, .int 0, .int 0, .int 0, .int 0, .int 0, .int 0, .int 0, .int 0, .int 0]))) (h147 : am_is H 147 (.inr (9, [.ref 148, .int 0, .int 0, .int 0, .int 0, .int 0, .int 0, .int 0, .int 0, .int 0]))) (h149 : am_is H 149 (.inr (9, [.ref 150, .int 0, .int 0, .int 0, .int 0, .int 0, .int 0, .int 0, .int 0, .int 0]))) (h151 : am_is H 151 (.inr (9, [.ref 152, .int 0, .int 0, .int 0, .int 0, .int 0, .int 0, .int 0, .int 0, .int 0]))) (h153 : am_is H 153 (.inr (9, [.ref 154, .int 0, .int 0, .int 0, .int 0, .int 0, .int 0, .int 0, .int 0, .int 0]))) (h155 : am_is H 155 (.inr (9, [.ref 156, .int 0, .int 0, .int 0, .int 0, .int 0, .int 0, .int 0, .int 0, .int 0]))) (h116 : am_is H 116 (.inr (1, [.ref 117, .ref 119, .ref 121, .int 127, .int 0, .int 0, .int 0, .int 0, .int 0, .int 0]))) (h117 : am_is H 117 (.inr (0, [.ref 118, .int 0, .int 0]))) (h119 : am_is H 119 (.inr (0, [.ref 120, .int 0, .int 0]))) (h121 : am_is H 121 (.inr (0, [.ref 122, .int 0, .int 0]))) (h127 : am_is H 127 (.inr (10, [.int (-1), .int 0, .int 0, .int 0]))) (h128 : am_is H 128 (.inr (10, [.int (-1), .int 0, .int 0, .int 0]))) (c1 : ¬ x0 = 0) (c2 : ¬ x0 = 1) (c3 : ¬ x0 = 2) (c4 : ¬ x0 = 3) (c5 : ¬ x0 = 4) (c6 : ¬ x0 = 5) (c7 : ¬ x0 = 6) (c8 : x0 = 7)  :
    am_E sL sx cs 254 0 [(0, .ref 0), (1, .int x0)] [] H (some (.int 0)) (fun H1 => (True) ∧ ∀ j : Nat, H1[j]? = H[j]?) := by
  refine ex_s (am_nb (m := 1) (pc1 := 1) (ls1 := [(0, .ref 0), (1, .int x0)]) (st1 := [.int x0]) (H1 := H) (k1 := 0) (n1 := 0) (by with_unfolding_all rfl)) ?_
  refine ex_s (st_tsw rfl) ?_
  refine ex_pc (if_neg c1) ?_
  refine ex_pc (if_neg c2) ?_
  refine ex_pc (if_neg c3) ?_
  refine ex_pc (if_neg c4) ?_
  refine ex_pc (if_neg c5) ?_
  refine ex_pc (if_neg c6) ?_
  refine ex_pc (if_neg c7) ?_
  refine ex_pc (if_pos c8) ?_
  refine ex_s (am_nb (m := 1) (pc1 := 254) (ls1 := [(0, .ref 0), (1, .int x0)]) (st1 := [.ref 0]) (H1 := H) (k1 := 0) (n1 := 0) (by with_unfolding_all rfl)) ?_
  refine ex_s (st_get rfl h0 rfl) ?_
  refine ex_s (am_nb (m := 1) (pc1 := 258) (ls1 := [(0, .ref 0), (1, .int x0)]) (st1 := [.int x0, .ref 116]) (H1 := H) (k1 := 0) (n1 := 0) (by with_unfolding_all rfl)) ?_
  refine ex_cv1 (as := [.int x0]) (rest := []) rfl rfl rfl rfl h116 rfl (by with_unfolding_all rfl) (by with_unfolding_all rfl) (fx_count_2_2 h116 h117 h119 h121 c6 c7 c8) ?_
  rintro H319 ⟨-, k319⟩
  exact ex_r (st_iret rfl rfl rfl) ⟨trivial, fun j => (k319 j)⟩

set_option maxRecDepth 100000 in
theorem fx_count_8 {sL : Nat} {sx : Nat → Int32} {cs : Nat → Nat → Option Int32} {H : am_H} {v0_13 : Int32} {x0 : Int32} (h0 : am_is H 0 (.inr (11, [.ref 1, .int 0, .ref 2, .int 0, .ref 3, .ref 93, .ref 97, .ref 115, .ref 116, .ref 129, .ref 123, .ref 127, .ref 128, .int v0_13, .null, .int 0]))) (h3 : am_is H 3 (.inr (7, [.ref 4, .int 0, .int 0, .int (-1), .ref 5, .int 0, .int 0, .int 0, .null, .ref 6, .ref 7, .int 0, .ref 8, .int 0]))) (h115 : am_is H 115 (.inl ((.object "TerminalHouse$Window"), (8, .inr (.inr (.inr (.inr am_q115))))))) (h141 : am_is H 141 (.inr (9, [.ref 142, .int 0, .int 0, .int 0, .int 0, .int 0, .int 0, .int 0, .int 0, .int 0]))) (h143 : am_is H 143 (.inr (9, [.ref 144, .int 0, .int 0, .int 0, .int 0, .int 0, .int 0, .int 0, .int 0, .int 0]))) (h145 : am_is H 145 (.inr (9, [.ref 146, .int 0, .int 0, .int 0, .int 0, .int 0, .int 0, .int 0, .int 0, .int 0]))) (h147 : am_is H 147 (.inr (9, [.ref 148, .int 0, .int 0, .int 0, .int 0, .int 0, .int 0, .int 0, .int 0, .int 0]))) (h149 : am_is H 149 (.inr (9, [.ref 150, .int 0, .int 0, .int 0, .int 0, .int 0, .int 0, .int 0, .int 0, .int 0]))) (h151 : am_is H 151 (.inr (9, [.ref 152, .int 0, .int 0, .int 0, .int 0, .int 0, .int 0, .int 0, .int 0, .int 0]))) (h153 : am_is H 153 (.inr (9, [.ref 154, .int 0, .int 0, .int 0, .int 0, .int 0, .int 0, .int 0, .int 0, .int 0]))) (h155 : am_is H 155 (.inr (9, [.ref 156, .int 0, .int 0, .int 0, .int 0, .int 0, .int 0, .int 0, .int 0, .int 0]))) (h116 : am_is H 116 (.inr (1, [.ref 117, .ref 119, .ref 121, .int 127, .int 0, .int 0, .int 0, .int 0, .int 0, .int 0]))) (h117 : am_is H 117 (.inr (0, [.ref 118, .int 0, .int 0]))) (h119 : am_is H 119 (.inr (0, [.ref 120, .int 0, .int 0]))) (h121 : am_is H 121 (.inr (0, [.ref 122, .int 0, .int 0]))) (h127 : am_is H 127 (.inr (10, [.int (-1), .int 0, .int 0, .int 0]))) (h128 : am_is H 128 (.inr (10, [.int (-1), .int 0, .int 0, .int 0]))) (c1 : ¬ x0 = 0) (c2 : ¬ x0 = 1) (c3 : ¬ x0 = 2) (c4 : ¬ x0 = 3) (c5 : ¬ x0 = 4) (c6 : ¬ x0 = 5) (c7 : ¬ x0 = 6) (c8 : ¬ x0 = 7) (c9 : x0 = 8)  :
    am_E sL sx cs 254 0 [(0, .ref 0), (1, .int x0)] [] H (some (.int 0)) (fun H1 => (True) ∧ ∀ j : Nat, H1[j]? = H[j]?) := by
  refine ex_s (am_nb (m := 1) (pc1 := 1) (ls1 := [(0, .ref 0), (1, .int x0)]) (st1 := [.int x0]) (H1 := H) (k1 := 0) (n1 := 0) (by with_unfolding_all rfl)) ?_
  refine ex_s (st_tsw rfl) ?_
  refine ex_pc (if_neg c1) ?_
  refine ex_pc (if_neg c2) ?_
  refine ex_pc (if_neg c3) ?_
  refine ex_pc (if_neg c4) ?_
  refine ex_pc (if_neg c5) ?_
  refine ex_pc (if_neg c6) ?_
  refine ex_pc (if_neg c7) ?_
  refine ex_pc (if_neg c8) ?_
  refine ex_pc (if_pos c9) ?_
  refine ex_s (am_nb (m := 1) (pc1 := 254) (ls1 := [(0, .ref 0), (1, .int x0)]) (st1 := [.ref 0]) (H1 := H) (k1 := 0) (n1 := 0) (by with_unfolding_all rfl)) ?_
  refine ex_s (st_get rfl h0 rfl) ?_
  refine ex_s (am_nb (m := 1) (pc1 := 258) (ls1 := [(0, .ref 0), (1, .int x0)]) (st1 := [.int x0, .ref 116]) (H1 := H) (k1 := 0) (n1 := 0) (by with_unfolding_all rfl)) ?_
  refine ex_cv1 (as := [.int x0]) (rest := []) rfl rfl rfl rfl h116 rfl (by with_unfolding_all rfl) (by with_unfolding_all rfl) (fx_count_2_3 h116 h117 h119 h121 c6 c7 c8 c9) ?_
  rintro H320 ⟨-, k320⟩
  exact ex_r (st_iret rfl rfl rfl) ⟨trivial, fun j => (k320 j)⟩

set_option maxRecDepth 100000 in
theorem fx_count_9 {sL : Nat} {sx : Nat → Int32} {cs : Nat → Nat → Option Int32} {H : am_H} {v0_13 : Int32} {x0 : Int32} (h0 : am_is H 0 (.inr (11, [.ref 1, .int 0, .ref 2, .int 0, .ref 3, .ref 93, .ref 97, .ref 115, .ref 116, .ref 129, .ref 123, .ref 127, .ref 128, .int v0_13, .null, .int 0]))) (h3 : am_is H 3 (.inr (7, [.ref 4, .int 0, .int 0, .int (-1), .ref 5, .int 0, .int 0, .int 0, .null, .ref 6, .ref 7, .int 0, .ref 8, .int 0]))) (h115 : am_is H 115 (.inl ((.object "TerminalHouse$Window"), (8, .inr (.inr (.inr (.inr am_q115))))))) (h141 : am_is H 141 (.inr (9, [.ref 142, .int 0, .int 0, .int 0, .int 0, .int 0, .int 0, .int 0, .int 0, .int 0]))) (h143 : am_is H 143 (.inr (9, [.ref 144, .int 0, .int 0, .int 0, .int 0, .int 0, .int 0, .int 0, .int 0, .int 0]))) (h145 : am_is H 145 (.inr (9, [.ref 146, .int 0, .int 0, .int 0, .int 0, .int 0, .int 0, .int 0, .int 0, .int 0]))) (h147 : am_is H 147 (.inr (9, [.ref 148, .int 0, .int 0, .int 0, .int 0, .int 0, .int 0, .int 0, .int 0, .int 0]))) (h149 : am_is H 149 (.inr (9, [.ref 150, .int 0, .int 0, .int 0, .int 0, .int 0, .int 0, .int 0, .int 0, .int 0]))) (h151 : am_is H 151 (.inr (9, [.ref 152, .int 0, .int 0, .int 0, .int 0, .int 0, .int 0, .int 0, .int 0, .int 0]))) (h153 : am_is H 153 (.inr (9, [.ref 154, .int 0, .int 0, .int 0, .int 0, .int 0, .int 0, .int 0, .int 0, .int 0]))) (h155 : am_is H 155 (.inr (9, [.ref 156, .int 0, .int 0, .int 0, .int 0, .int 0, .int 0, .int 0, .int 0, .int 0]))) (h116 : am_is H 116 (.inr (1, [.ref 117, .ref 119, .ref 121, .int 127, .int 0, .int 0, .int 0, .int 0, .int 0, .int 0]))) (h117 : am_is H 117 (.inr (0, [.ref 118, .int 0, .int 0]))) (h119 : am_is H 119 (.inr (0, [.ref 120, .int 0, .int 0]))) (h121 : am_is H 121 (.inr (0, [.ref 122, .int 0, .int 0]))) (h127 : am_is H 127 (.inr (10, [.int (-1), .int 0, .int 0, .int 0]))) (h128 : am_is H 128 (.inr (10, [.int (-1), .int 0, .int 0, .int 0]))) (c1 : ¬ x0 = 0) (c2 : ¬ x0 = 1) (c3 : ¬ x0 = 2) (c4 : ¬ x0 = 3) (c5 : ¬ x0 = 4) (c6 : ¬ x0 = 5) (c7 : ¬ x0 = 6) (c8 : ¬ x0 = 7) (c9 : ¬ x0 = 8) (c10 : x0 = 9)  :
    am_E sL sx cs 254 0 [(0, .ref 0), (1, .int x0)] [] H (some (.int 0)) (fun H1 => (True) ∧ ∀ j : Nat, H1[j]? = H[j]?) := by
  refine ex_s (am_nb (m := 1) (pc1 := 1) (ls1 := [(0, .ref 0), (1, .int x0)]) (st1 := [.int x0]) (H1 := H) (k1 := 0) (n1 := 0) (by with_unfolding_all rfl)) ?_
  refine ex_s (st_tsw rfl) ?_
  refine ex_pc (if_neg c1) ?_
  refine ex_pc (if_neg c2) ?_
  refine ex_pc (if_neg c3) ?_
  refine ex_pc (if_neg c4) ?_
  refine ex_pc (if_neg c5) ?_
  refine ex_pc (if_neg c6) ?_
  refine ex_pc (if_neg c7) ?_
  refine ex_pc (if_neg c8) ?_
  refine ex_pc (if_neg c9) ?_
  refine ex_pc (if_pos c10) ?_
  refine ex_s (am_nb (m := 1) (pc1 := 254) (ls1 := [(0, .ref 0), (1, .int x0)]) (st1 := [.ref 0]) (H1 := H) (k1 := 0) (n1 := 0) (by with_unfolding_all rfl)) ?_
  refine ex_s (st_get rfl h0 rfl) ?_
  refine ex_s (am_nb (m := 1) (pc1 := 258) (ls1 := [(0, .ref 0), (1, .int x0)]) (st1 := [.int x0, .ref 116]) (H1 := H) (k1 := 0) (n1 := 0) (by with_unfolding_all rfl)) ?_
  refine ex_cv1 (as := [.int x0]) (rest := []) rfl rfl rfl rfl h116 rfl (by with_unfolding_all rfl) (by with_unfolding_all rfl) (fx_count_2_4 h116 h117 h119 h121 c6 c7 c8 c9 c10) ?_
  rintro H321 ⟨-, k321⟩
  exact ex_r (st_iret rfl rfl rfl) ⟨trivial, fun j => (k321 j)⟩

set_option maxRecDepth 100000 in
theorem fx_count_10 {sL : Nat} {sx : Nat → Int32} {cs : Nat → Nat → Option Int32} {H : am_H} {v0_13 : Int32} {x0 : Int32} (h0 : am_is H 0 (.inr (11, [.ref 1, .int 0, .ref 2, .int 0, .ref 3, .ref 93, .ref 97, .ref 115, .ref 116, .ref 129, .ref 123, .ref 127, .ref 128, .int v0_13, .null, .int 0]))) (h3 : am_is H 3 (.inr (7, [.ref 4, .int 0, .int 0, .int (-1), .ref 5, .int 0, .int 0, .int 0, .null, .ref 6, .ref 7, .int 0, .ref 8, .int 0]))) (h115 : am_is H 115 (.inl ((.object "TerminalHouse$Window"), (8, .inr (.inr (.inr (.inr am_q115))))))) (h141 : am_is H 141 (.inr (9, [.ref 142, .int 0, .int 0, .int 0, .int 0, .int 0, .int 0, .int 0, .int 0, .int 0]))) (h143 : am_is H 143 (.inr (9, [.ref 144, .int 0, .int 0, .int 0, .int 0, .int 0, .int 0, .int 0, .int 0, .int 0]))) (h145 : am_is H 145 (.inr (9, [.ref 146, .int 0, .int 0, .int 0, .int 0, .int 0, .int 0, .int 0, .int 0, .int 0]))) (h147 : am_is H 147 (.inr (9, [.ref 148, .int 0, .int 0, .int 0, .int 0, .int 0, .int 0, .int 0, .int 0, .int 0]))) (h149 : am_is H 149 (.inr (9, [.ref 150, .int 0, .int 0, .int 0, .int 0, .int 0, .int 0, .int 0, .int 0, .int 0]))) (h151 : am_is H 151 (.inr (9, [.ref 152, .int 0, .int 0, .int 0, .int 0, .int 0, .int 0, .int 0, .int 0, .int 0]))) (h153 : am_is H 153 (.inr (9, [.ref 154, .int 0, .int 0, .int 0, .int 0, .int 0, .int 0, .int 0, .int 0, .int 0]))) (h155 : am_is H 155 (.inr (9, [.ref 156, .int 0, .int 0, .int 0, .int 0, .int 0, .int 0, .int 0, .int 0, .int 0]))) (h116 : am_is H 116 (.inr (1, [.ref 117, .ref 119, .ref 121, .int 127, .int 0, .int 0, .int 0, .int 0, .int 0, .int 0]))) (h117 : am_is H 117 (.inr (0, [.ref 118, .int 0, .int 0]))) (h119 : am_is H 119 (.inr (0, [.ref 120, .int 0, .int 0]))) (h121 : am_is H 121 (.inr (0, [.ref 122, .int 0, .int 0]))) (h127 : am_is H 127 (.inr (10, [.int (-1), .int 0, .int 0, .int 0]))) (h128 : am_is H 128 (.inr (10, [.int (-1), .int 0, .int 0, .int 0]))) (c1 : ¬ x0 = 0) (c2 : ¬ x0 = 1) (c3 : ¬ x0 = 2) (c4 : ¬ x0 = 3) (c5 : ¬ x0 = 4) (c6 : ¬ x0 = 5) (c7 : ¬ x0 = 6) (c8 : ¬ x0 = 7) (c9 : ¬ x0 = 8) (c10 : ¬ x0 = 9) (c11 : x0 = 10)  :
    am_E sL sx cs 254 0 [(0, .ref 0), (1, .int x0)] [] H (some (.int 0)) (fun H1 => (True) ∧ ∀ j : Nat, H1[j]? = H[j]?) := by
  refine ex_s (am_nb (m := 1) (pc1 := 1) (ls1 := [(0, .ref 0), (1, .int x0)]) (st1 := [.int x0]) (H1 := H) (k1 := 0) (n1 := 0) (by with_unfolding_all rfl)) ?_
  refine ex_s (st_tsw rfl) ?_
  refine ex_pc (if_neg c1) ?_
  refine ex_pc (if_neg c2) ?_
  refine ex_pc (if_neg c3) ?_
  refine ex_pc (if_neg c4) ?_
  refine ex_pc (if_neg c5) ?_
  refine ex_pc (if_neg c6) ?_
  refine ex_pc (if_neg c7) ?_
  refine ex_pc (if_neg c8) ?_
  refine ex_pc (if_neg c9) ?_
  refine ex_pc (if_neg c10) ?_
  refine ex_pc (if_pos c11) ?_
  refine ex_s (am_nb (m := 1) (pc1 := 254) (ls1 := [(0, .ref 0), (1, .int x0)]) (st1 := [.ref 0]) (H1 := H) (k1 := 0) (n1 := 0) (by with_unfolding_all rfl)) ?_
  refine ex_s (st_get rfl h0 rfl) ?_
  refine ex_s (am_nb (m := 1) (pc1 := 258) (ls1 := [(0, .ref 0), (1, .int x0)]) (st1 := [.int x0, .ref 116]) (H1 := H) (k1 := 0) (n1 := 0) (by with_unfolding_all rfl)) ?_
  refine ex_cv1 (as := [.int x0]) (rest := []) rfl rfl rfl rfl h116 rfl (by with_unfolding_all rfl) (by with_unfolding_all rfl) (fx_count_2_5 h116 h117 h119 h121 c6 c7 c8 c9 c10 c11) ?_
  rintro H322 ⟨-, k322⟩
  exact ex_r (st_iret rfl rfl rfl) ⟨trivial, fun j => (k322 j)⟩

set_option maxRecDepth 100000 in
theorem fx_count_11 {sL : Nat} {sx : Nat → Int32} {cs : Nat → Nat → Option Int32} {H : am_H} {v0_13 : Int32} {x0 : Int32} (h0 : am_is H 0 (.inr (11, [.ref 1, .int 0, .ref 2, .int 0, .ref 3, .ref 93, .ref 97, .ref 115, .ref 116, .ref 129, .ref 123, .ref 127, .ref 128, .int v0_13, .null, .int 0]))) (h3 : am_is H 3 (.inr (7, [.ref 4, .int 0, .int 0, .int (-1), .ref 5, .int 0, .int 0, .int 0, .null, .ref 6, .ref 7, .int 0, .ref 8, .int 0]))) (h115 : am_is H 115 (.inl ((.object "TerminalHouse$Window"), (8, .inr (.inr (.inr (.inr am_q115))))))) (h141 : am_is H 141 (.inr (9, [.ref 142, .int 0, .int 0, .int 0, .int 0, .int 0, .int 0, .int 0, .int 0, .int 0]))) (h143 : am_is H 143 (.inr (9, [.ref 144, .int 0, .int 0, .int 0, .int 0, .int 0, .int 0, .int 0, .int 0, .int 0]))) (h145 : am_is H 145 (.inr (9, [.ref 146, .int 0, .int 0, .int 0, .int 0, .int 0, .int 0, .int 0, .int 0, .int 0]))) (h147 : am_is H 147 (.inr (9, [.ref 148, .int 0, .int 0, .int 0, .int 0, .int 0, .int 0, .int 0, .int 0, .int 0]))) (h149 : am_is H 149 (.inr (9, [.ref 150, .int 0, .int 0, .int 0, .int 0, .int 0, .int 0, .int 0, .int 0, .int 0]))) (h151 : am_is H 151 (.inr (9, [.ref 152, .int 0, .int 0, .int 0, .int 0, .int 0, .int 0, .int 0, .int 0, .int 0]))) (h153 : am_is H 153 (.inr (9, [.ref 154, .int 0, .int 0, .int 0, .int 0, .int 0, .int 0, .int 0, .int 0, .int 0]))) (h155 : am_is H 155 (.inr (9, [.ref 156, .int 0, .int 0, .int 0, .int 0, .int 0, .int 0, .int 0, .int 0, .int 0]))) (h116 : am_is H 116 (.inr (1, [.ref 117, .ref 119, .ref 121, .int 127, .int 0, .int 0, .int 0, .int 0, .int 0, .int 0]))) (h117 : am_is H 117 (.inr (0, [.ref 118, .int 0, .int 0]))) (h119 : am_is H 119 (.inr (0, [.ref 120, .int 0, .int 0]))) (h121 : am_is H 121 (.inr (0, [.ref 122, .int 0, .int 0]))) (h127 : am_is H 127 (.inr (10, [.int (-1), .int 0, .int 0, .int 0]))) (h128 : am_is H 128 (.inr (10, [.int (-1), .int 0, .int 0, .int 0]))) (c1 : ¬ x0 = 0) (c2 : ¬ x0 = 1) (c3 : ¬ x0 = 2) (c4 : ¬ x0 = 3) (c5 : ¬ x0 = 4) (c6 : ¬ x0 = 5) (c7 : ¬ x0 = 6) (c8 : ¬ x0 = 7) (c9 : ¬ x0 = 8) (c10 : ¬ x0 = 9) (c11 : ¬ x0 = 10) (c12 : x0 = 11)  :
    am_E sL sx cs 254 0 [(0, .ref 0), (1, .int x0)] [] H (some (.int 0)) (fun H1 => (True) ∧ ∀ j : Nat, H1[j]? = H[j]?) := by
  refine ex_s (am_nb (m := 1) (pc1 := 1) (ls1 := [(0, .ref 0), (1, .int x0)]) (st1 := [.int x0]) (H1 := H) (k1 := 0) (n1 := 0) (by with_unfolding_all rfl)) ?_
  refine ex_s (st_tsw rfl) ?_
  refine ex_pc (if_neg c1) ?_
  refine ex_pc (if_neg c2) ?_
  refine ex_pc (if_neg c3) ?_
  refine ex_pc (if_neg c4) ?_
  refine ex_pc (if_neg c5) ?_
  refine ex_pc (if_neg c6) ?_
  refine ex_pc (if_neg c7) ?_
  refine ex_pc (if_neg c8) ?_
  refine ex_pc (if_neg c9) ?_
  refine ex_pc (if_neg c10) ?_
  refine ex_pc (if_neg c11) ?_
  refine ex_pc (if_pos c12) ?_
  refine ex_s (am_nb (m := 1) (pc1 := 147) (ls1 := [(0, .ref 0), (1, .int x0)]) (st1 := [.ref 0]) (H1 := H) (k1 := 0) (n1 := 0) (by with_unfolding_all rfl)) ?_
  refine ex_s (st_get rfl h0 rfl) ?_
  refine ex_s (st_get rfl h127 rfl) ?_
  exact ex_r (st_iret rfl rfl rfl) ⟨trivial, fun j => rfl⟩

set_option maxRecDepth 100000 in
theorem fx_count_12 {sL : Nat} {sx : Nat → Int32} {cs : Nat → Nat → Option Int32} {H : am_H} {v0_13 : Int32} {x0 : Int32} (h0 : am_is H 0 (.inr (11, [.ref 1, .int 0, .ref 2, .int 0, .ref 3, .ref 93, .ref 97, .ref 115, .ref 116, .ref 129, .ref 123, .ref 127, .ref 128, .int v0_13, .null, .int 0]))) (h3 : am_is H 3 (.inr (7, [.ref 4, .int 0, .int 0, .int (-1), .ref 5, .int 0, .int 0, .int 0, .null, .ref 6, .ref 7, .int 0, .ref 8, .int 0]))) (h115 : am_is H 115 (.inl ((.object "TerminalHouse$Window"), (8, .inr (.inr (.inr (.inr am_q115))))))) (h141 : am_is H 141 (.inr (9, [.ref 142, .int 0, .int 0, .int 0, .int 0, .int 0, .int 0, .int 0, .int 0, .int 0]))) (h143 : am_is H 143 (.inr (9, [.ref 144, .int 0, .int 0, .int 0, .int 0, .int 0, .int 0, .int 0, .int 0, .int 0]))) (h145 : am_is H 145 (.inr (9, [.ref 146, .int 0, .int 0, .int 0, .int 0, .int 0, .int 0, .int 0, .int 0, .int 0]))) (h147 : am_is H 147 (.inr (9, [.ref 148, .int 0, .int 0, .int 0, .int 0, .int 0, .int 0, .int 0, .int 0, .int 0]))) (h149 : am_is H 149 (.inr (9, [.ref 150, .int 0, .int 0, .int 0, .int 0, .int 0, .int 0, .int 0, .int 0, .int 0]))) (h151 : am_is H 151 (.inr (9, [.ref 152, .int 0, .int 0, .int 0, .int 0, .int 0, .int 0, .int 0, .int 0, .int 0]))) (h153 : am_is H 153 (.inr (9, [.ref 154, .int 0, .int 0, .int 0, .int 0, .int 0, .int 0, .int 0, .int 0, .int 0]))) (h155 : am_is H 155 (.inr (9, [.ref 156, .int 0, .int 0, .int 0, .int 0, .int 0, .int 0, .int 0, .int 0, .int 0]))) (h116 : am_is H 116 (.inr (1, [.ref 117, .ref 119, .ref 121, .int 127, .int 0, .int 0, .int 0, .int 0, .int 0, .int 0]))) (h117 : am_is H 117 (.inr (0, [.ref 118, .int 0, .int 0]))) (h119 : am_is H 119 (.inr (0, [.ref 120, .int 0, .int 0]))) (h121 : am_is H 121 (.inr (0, [.ref 122, .int 0, .int 0]))) (h127 : am_is H 127 (.inr (10, [.int (-1), .int 0, .int 0, .int 0]))) (h128 : am_is H 128 (.inr (10, [.int (-1), .int 0, .int 0, .int 0]))) (c1 : ¬ x0 = 0) (c2 : ¬ x0 = 1) (c3 : ¬ x0 = 2) (c4 : ¬ x0 = 3) (c5 : ¬ x0 = 4) (c6 : ¬ x0 = 5) (c7 : ¬ x0 = 6) (c8 : ¬ x0 = 7) (c9 : ¬ x0 = 8) (c10 : ¬ x0 = 9) (c11 : ¬ x0 = 10) (c12 : ¬ x0 = 11) (c13 : x0 = 12)  :
    am_E sL sx cs 254 0 [(0, .ref 0), (1, .int x0)] [] H (some (.int 0)) (fun H1 => (True) ∧ ∀ j : Nat, H1[j]? = H[j]?) := by
  refine ex_s (am_nb (m := 1) (pc1 := 1) (ls1 := [(0, .ref 0), (1, .int x0)]) (st1 := [.int x0]) (H1 := H) (k1 := 0) (n1 := 0) (by with_unfolding_all rfl)) ?_
  refine ex_s (st_tsw rfl) ?_
  refine ex_pc (if_neg c1) ?_
  refine ex_pc (if_neg c2) ?_
  refine ex_pc (if_neg c3) ?_
  refine ex_pc (if_neg c4) ?_
  refine ex_pc (if_neg c5) ?_
  refine ex_pc (if_neg c6) ?_
  refine ex_pc (if_neg c7) ?_
  refine ex_pc (if_neg c8) ?_
  refine ex_pc (if_neg c9) ?_
  refine ex_pc (if_neg c10) ?_
  refine ex_pc (if_neg c11) ?_
  refine ex_pc (if_neg c12) ?_
  refine ex_pc (if_pos c13) ?_
  refine ex_s (am_nb (m := 1) (pc1 := 155) (ls1 := [(0, .ref 0), (1, .int x0)]) (st1 := [.ref 0]) (H1 := H) (k1 := 0) (n1 := 0) (by with_unfolding_all rfl)) ?_
  refine ex_s (st_get rfl h0 rfl) ?_
  refine ex_s (st_get rfl h128 rfl) ?_
  exact ex_r (st_iret rfl rfl rfl) ⟨trivial, fun j => rfl⟩

set_option maxRecDepth 100000 in
theorem fx_count_13 {sL : Nat} {sx : Nat → Int32} {cs : Nat → Nat → Option Int32} {H : am_H} {v0_13 : Int32} {x0 : Int32} (h0 : am_is H 0 (.inr (11, [.ref 1, .int 0, .ref 2, .int 0, .ref 3, .ref 93, .ref 97, .ref 115, .ref 116, .ref 129, .ref 123, .ref 127, .ref 128, .int v0_13, .null, .int 0]))) (h3 : am_is H 3 (.inr (7, [.ref 4, .int 0, .int 0, .int (-1), .ref 5, .int 0, .int 0, .int 0, .null, .ref 6, .ref 7, .int 0, .ref 8, .int 0]))) (h115 : am_is H 115 (.inl ((.object "TerminalHouse$Window"), (8, .inr (.inr (.inr (.inr am_q115))))))) (h141 : am_is H 141 (.inr (9, [.ref 142, .int 0, .int 0, .int 0, .int 0, .int 0, .int 0, .int 0, .int 0, .int 0]))) (h143 : am_is H 143 (.inr (9, [.ref 144, .int 0, .int 0, .int 0, .int 0, .int 0, .int 0, .int 0, .int 0, .int 0]))) (h145 : am_is H 145 (.inr (9, [.ref 146, .int 0, .int 0, .int 0, .int 0, .int 0, .int 0, .int 0, .int 0, .int 0]))) (h147 : am_is H 147 (.inr (9, [.ref 148, .int 0, .int 0, .int 0, .int 0, .int 0, .int 0, .int 0, .int 0, .int 0]))) (h149 : am_is H 149 (.inr (9, [.ref 150, .int 0, .int 0, .int 0, .int 0, .int 0, .int 0, .int 0, .int 0, .int 0]))) (h151 : am_is H 151 (.inr (9, [.ref 152, .int 0, .int 0, .int 0, .int 0, .int 0, .int 0, .int 0, .int 0, .int 0]))) (h153 : am_is H 153 (.inr (9, [.ref 154, .int 0, .int 0, .int 0, .int 0, .int 0, .int 0, .int 0, .int 0, .int 0]))) (h155 : am_is H 155 (.inr (9, [.ref 156, .int 0, .int 0, .int 0, .int 0, .int 0, .int 0, .int 0, .int 0, .int 0]))) (h116 : am_is H 116 (.inr (1, [.ref 117, .ref 119, .ref 121, .int 127, .int 0, .int 0, .int 0, .int 0, .int 0, .int 0]))) (h117 : am_is H 117 (.inr (0, [.ref 118, .int 0, .int 0]))) (h119 : am_is H 119 (.inr (0, [.ref 120, .int 0, .int 0]))) (h121 : am_is H 121 (.inr (0, [.ref 122, .int 0, .int 0]))) (h127 : am_is H 127 (.inr (10, [.int (-1), .int 0, .int 0, .int 0]))) (h128 : am_is H 128 (.inr (10, [.int (-1), .int 0, .int 0, .int 0]))) (c1 : ¬ x0 = 0) (c2 : ¬ x0 = 1) (c3 : ¬ x0 = 2) (c4 : ¬ x0 = 3) (c5 : ¬ x0 = 4) (c6 : ¬ x0 = 5) (c7 : ¬ x0 = 6) (c8 : ¬ x0 = 7) (c9 : ¬ x0 = 8) (c10 : ¬ x0 = 9) (c11 : ¬ x0 = 10) (c12 : ¬ x0 = 11) (c13 : ¬ x0 = 12) (c14 : x0 = 13)  :
    am_E sL sx cs 254 0 [(0, .ref 0), (1, .int x0)] [] H (some (.int 0)) (fun H1 => (True) ∧ ∀ j : Nat, H1[j]? = H[j]?) := by
  refine ex_s (am_nb (m := 1) (pc1 := 1) (ls1 := [(0, .ref 0), (1, .int x0)]) (st1 := [.int x0]) (H1 := H) (k1 := 0) (n1 := 0) (by with_unfolding_all rfl)) ?_
  refine ex_s (st_tsw rfl) ?_
  refine ex_pc (if_neg c1) ?_
  refine ex_pc (if_neg c2) ?_
  refine ex_pc (if_neg c3) ?_
  refine ex_pc (if_neg c4) ?_
  refine ex_pc (if_neg c5) ?_
  refine ex_pc (if_neg c6) ?_
  refine ex_pc (if_neg c7) ?_
  refine ex_pc (if_neg c8) ?_
  refine ex_pc (if_neg c9) ?_
  refine ex_pc (if_neg c10) ?_
  refine ex_pc (if_neg c11) ?_
  refine ex_pc (if_neg c12) ?_
  refine ex_pc (if_neg c13) ?_
  refine ex_pc (if_pos c14) ?_
  refine ex_s (am_nb (m := 1) (pc1 := 163) (ls1 := [(0, .ref 0), (1, .int x0)]) (st1 := [.ref 0]) (H1 := H) (k1 := 0) (n1 := 0) (by with_unfolding_all rfl)) ?_
  refine ex_s (st_get rfl h0 rfl) ?_
  exact ex_r (st_iret rfl rfl rfl) ⟨trivial, fun j => rfl⟩

set_option maxRecDepth 100000 in
theorem fx_count_14 {sL : Nat} {sx : Nat → Int32} {cs : Nat → Nat → Option Int32} {H : am_H} {v0_13 : Int32} {x0 : Int32} (h0 : am_is H 0 (.inr (11, [.ref 1, .int 0, .ref 2, .int 0, .ref 3, .ref 93, .ref 97, .ref 115, .ref 116, .ref 129, .ref 123, .ref 127, .ref 128, .int v0_13, .null, .int 0]))) (h3 : am_is H 3 (.inr (7, [.ref 4, .int 0, .int 0, .int (-1), .ref 5, .int 0, .int 0, .int 0, .null, .ref 6, .ref 7, .int 0, .ref 8, .int 0]))) (h115 : am_is H 115 (.inl ((.object "TerminalHouse$Window"), (8, .inr (.inr (.inr (.inr am_q115))))))) (h141 : am_is H 141 (.inr (9, [.ref 142, .int 0, .int 0, .int 0, .int 0, .int 0, .int 0, .int 0, .int 0, .int 0]))) (h143 : am_is H 143 (.inr (9, [.ref 144, .int 0, .int 0, .int 0, .int 0, .int 0, .int 0, .int 0, .int 0, .int 0]))) (h145 : am_is H 145 (.inr (9, [.ref 146, .int 0, .int 0, .int 0, .int 0, .int 0, .int 0, .int 0, .int 0, .int 0]))) (h147 : am_is H 147 (.inr (9, [.ref 148, .int 0, .int 0, .int 0, .int 0, .int 0, .int 0, .int 0, .int 0, .int 0]))) (h149 : am_is H 149 (.inr (9, [.ref 150, .int 0, .int 0, .int 0, .int 0, .int 0, .int 0, .int 0, .int 0, .int 0]))) (h151 : am_is H 151 (.inr (9, [.ref 152, .int 0, .int 0, .int 0, .int 0, .int 0, .int 0, .int 0, .int 0, .int 0]))) (h153 : am_is H 153 (.inr (9, [.ref 154, .int 0, .int 0, .int 0, .int 0, .int 0, .int 0, .int 0, .int 0, .int 0]))) (h155 : am_is H 155 (.inr (9, [.ref 156, .int 0, .int 0, .int 0, .int 0, .int 0, .int 0, .int 0, .int 0, .int 0]))) (h116 : am_is H 116 (.inr (1, [.ref 117, .ref 119, .ref 121, .int 127, .int 0, .int 0, .int 0, .int 0, .int 0, .int 0]))) (h117 : am_is H 117 (.inr (0, [.ref 118, .int 0, .int 0]))) (h119 : am_is H 119 (.inr (0, [.ref 120, .int 0, .int 0]))) (h121 : am_is H 121 (.inr (0, [.ref 122, .int 0, .int 0]))) (h127 : am_is H 127 (.inr (10, [.int (-1), .int 0, .int 0, .int 0]))) (h128 : am_is H 128 (.inr (10, [.int (-1), .int 0, .int 0, .int 0]))) (c1 : ¬ x0 = 0) (c2 : ¬ x0 = 1) (c3 : ¬ x0 = 2) (c4 : ¬ x0 = 3) (c5 : ¬ x0 = 4) (c6 : ¬ x0 = 5) (c7 : ¬ x0 = 6) (c8 : ¬ x0 = 7) (c9 : ¬ x0 = 8) (c10 : ¬ x0 = 9) (c11 : ¬ x0 = 10) (c12 : ¬ x0 = 11) (c13 : ¬ x0 = 12) (c14 : ¬ x0 = 13) (c15 : x0 = 14)  :
    am_E sL sx cs 254 0 [(0, .ref 0), (1, .int x0)] [] H (some (.int 0)) (fun H1 => (True) ∧ ∀ j : Nat, H1[j]? = H[j]?) := by
  refine ex_s (am_nb (m := 1) (pc1 := 1) (ls1 := [(0, .ref 0), (1, .int x0)]) (st1 := [.int x0]) (H1 := H) (k1 := 0) (n1 := 0) (by with_unfolding_all rfl)) ?_
  refine ex_s (st_tsw rfl) ?_
  refine ex_pc (if_neg c1) ?_
  refine ex_pc (if_neg c2) ?_
  refine ex_pc (if_neg c3) ?_
  refine ex_pc (if_neg c4) ?_
  refine ex_pc (if_neg c5) ?_
  refine ex_pc (if_neg c6) ?_
  refine ex_pc (if_neg c7) ?_
  refine ex_pc (if_neg c8) ?_
  refine ex_pc (if_neg c9) ?_
  refine ex_pc (if_neg c10) ?_
  refine ex_pc (if_neg c11) ?_
  refine ex_pc (if_neg c12) ?_
  refine ex_pc (if_neg c13) ?_
  refine ex_pc (if_neg c14) ?_
  refine ex_pc (if_pos c15) ?_
  refine ex_s (am_nb (m := 1) (pc1 := 168) (ls1 := [(0, .ref 0), (1, .int x0)]) (st1 := [.ref 0]) (H1 := H) (k1 := 0) (n1 := 0) (by with_unfolding_all rfl)) ?_
  refine ex_s (st_get rfl h0 rfl) ?_
  refine ex_s (am_nb (m := 3) (pc1 := 188) (ls1 := [(0, .ref 0), (1, .int x0)]) (st1 := [.int 0]) (H1 := H) (k1 := 0) (n1 := 0) (by with_unfolding_all rfl)) ?_
  exact ex_r (st_iret rfl rfl rfl) ⟨trivial, fun j => rfl⟩

set_option maxRecDepth 100000 in
theorem fx_count_15 {sL : Nat} {sx : Nat → Int32} {cs : Nat → Nat → Option Int32} {H : am_H} {v0_13 : Int32} {x0 : Int32} (h0 : am_is H 0 (.inr (11, [.ref 1, .int 0, .ref 2, .int 0, .ref 3, .ref 93, .ref 97, .ref 115, .ref 116, .ref 129, .ref 123, .ref 127, .ref 128, .int v0_13, .null, .int 0]))) (h3 : am_is H 3 (.inr (7, [.ref 4, .int 0, .int 0, .int (-1), .ref 5, .int 0, .int 0, .int 0, .null, .ref 6, .ref 7, .int 0, .ref 8, .int 0]))) (h115 : am_is H 115 (.inl ((.object "TerminalHouse$Window"), (8, .inr (.inr (.inr (.inr am_q115))))))) (h141 : am_is H 141 (.inr (9, [.ref 142, .int 0, .int 0, .int 0, .int 0, .int 0, .int 0, .int 0, .int 0, .int 0]))) (h143 : am_is H 143 (.inr (9, [.ref 144, .int 0, .int 0, .int 0, .int 0, .int 0, .int 0, .int 0, .int 0, .int 0]))) (h145 : am_is H 145 (.inr (9, [.ref 146, .int 0, .int 0, .int 0, .int 0, .int 0, .int 0, .int 0, .int 0, .int 0]))) (h147 : am_is H 147 (.inr (9, [.ref 148, .int 0, .int 0, .int 0, .int 0, .int 0, .int 0, .int 0, .int 0, .int 0]))) (h149 : am_is H 149 (.inr (9, [.ref 150, .int 0, .int 0, .int 0, .int 0, .int 0, .int 0, .int 0, .int 0, .int 0]))) (h151 : am_is H 151 (.inr (9, [.ref 152, .int 0, .int 0, .int 0, .int 0, .int 0, .int 0, .int 0, .int 0, .int 0]))) (h153 : am_is H 153 (.inr (9, [.ref 154, .int 0, .int 0, .int 0, .int 0, .int 0, .int 0, .int 0, .int 0, .int 0]))) (h155 : am_is H 155 (.inr (9, [.ref 156, .int 0, .int 0, .int 0, .int 0, .int 0, .int 0, .int 0, .int 0, .int 0]))) (h116 : am_is H 116 (.inr (1, [.ref 117, .ref 119, .ref 121, .int 127, .int 0, .int 0, .int 0, .int 0, .int 0, .int 0]))) (h117 : am_is H 117 (.inr (0, [.ref 118, .int 0, .int 0]))) (h119 : am_is H 119 (.inr (0, [.ref 120, .int 0, .int 0]))) (h121 : am_is H 121 (.inr (0, [.ref 122, .int 0, .int 0]))) (h127 : am_is H 127 (.inr (10, [.int (-1), .int 0, .int 0, .int 0]))) (h128 : am_is H 128 (.inr (10, [.int (-1), .int 0, .int 0, .int 0]))) (c1 : ¬ x0 = 0) (c2 : ¬ x0 = 1) (c3 : ¬ x0 = 2) (c4 : ¬ x0 = 3) (c5 : ¬ x0 = 4) (c6 : ¬ x0 = 5) (c7 : ¬ x0 = 6) (c8 : ¬ x0 = 7) (c9 : ¬ x0 = 8) (c10 : ¬ x0 = 9) (c11 : ¬ x0 = 10) (c12 : ¬ x0 = 11) (c13 : ¬ x0 = 12) (c14 : ¬ x0 = 13) (c15 : ¬ x0 = 14) (c16 : x0 = 15)  :
    am_E sL sx cs 254 0 [(0, .ref 0), (1, .int x0)] [] H (some (.int (-1))) (fun H1 => (True) ∧ ∀ j : Nat, H1[j]? = H[j]?) := by
  refine ex_s (am_nb (m := 1) (pc1 := 1) (ls1 := [(0, .ref 0), (1, .int x0)]) (st1 := [.int x0]) (H1 := H) (k1 := 0) (n1 := 0) (by with_unfolding_all rfl)) ?_
  refine ex_s (st_tsw rfl) ?_
  refine ex_pc (if_neg c1) ?_
  refine ex_pc (if_neg c2) ?_
  refine ex_pc (if_neg c3) ?_
  refine ex_pc (if_neg c4) ?_
  refine ex_pc (if_neg c5) ?_
  refine ex_pc (if_neg c6) ?_
  refine ex_pc (if_neg c7) ?_
  refine ex_pc (if_neg c8) ?_
  refine ex_pc (if_neg c9) ?_
  refine ex_pc (if_neg c10) ?_
  refine ex_pc (if_neg c11) ?_
  refine ex_pc (if_neg c12) ?_
  refine ex_pc (if_neg c13) ?_
  refine ex_pc (if_neg c14) ?_
  refine ex_pc (if_neg c15) ?_
  refine ex_pc (if_pos c16) ?_
  refine ex_s (am_nb (m := 1) (pc1 := 190) (ls1 := [(0, .ref 0), (1, .int x0)]) (st1 := [.ref 0]) (H1 := H) (k1 := 0) (n1 := 0) (by with_unfolding_all rfl)) ?_
  refine ex_s (st_get rfl h0 rfl) ?_
  refine ex_s (am_nb (m := 3) (pc1 := 220) (ls1 := [(0, .ref 0), (1, .int x0)]) (st1 := [.int (-1)]) (H1 := H) (k1 := 0) (n1 := 0) (by with_unfolding_all rfl)) ?_
  exact ex_r (st_iret rfl rfl rfl) ⟨trivial, fun j => rfl⟩

set_option maxRecDepth 100000 in
theorem fx_count_16 {sL : Nat} {sx : Nat → Int32} {cs : Nat → Nat → Option Int32} {H : am_H} {v0_13 : Int32} {x0 : Int32} (h0 : am_is H 0 (.inr (11, [.ref 1, .int 0, .ref 2, .int 0, .ref 3, .ref 93, .ref 97, .ref 115, .ref 116, .ref 129, .ref 123, .ref 127, .ref 128, .int v0_13, .null, .int 0]))) (h3 : am_is H 3 (.inr (7, [.ref 4, .int 0, .int 0, .int (-1), .ref 5, .int 0, .int 0, .int 0, .null, .ref 6, .ref 7, .int 0, .ref 8, .int 0]))) (h115 : am_is H 115 (.inl ((.object "TerminalHouse$Window"), (8, .inr (.inr (.inr (.inr am_q115))))))) (h141 : am_is H 141 (.inr (9, [.ref 142, .int 0, .int 0, .int 0, .int 0, .int 0, .int 0, .int 0, .int 0, .int 0]))) (h143 : am_is H 143 (.inr (9, [.ref 144, .int 0, .int 0, .int 0, .int 0, .int 0, .int 0, .int 0, .int 0, .int 0]))) (h145 : am_is H 145 (.inr (9, [.ref 146, .int 0, .int 0, .int 0, .int 0, .int 0, .int 0, .int 0, .int 0, .int 0]))) (h147 : am_is H 147 (.inr (9, [.ref 148, .int 0, .int 0, .int 0, .int 0, .int 0, .int 0, .int 0, .int 0, .int 0]))) (h149 : am_is H 149 (.inr (9, [.ref 150, .int 0, .int 0, .int 0, .int 0, .int 0, .int 0, .int 0, .int 0, .int 0]))) (h151 : am_is H 151 (.inr (9, [.ref 152, .int 0, .int 0, .int 0, .int 0, .int 0, .int 0, .int 0, .int 0, .int 0]))) (h153 : am_is H 153 (.inr (9, [.ref 154, .int 0, .int 0, .int 0, .int 0, .int 0, .int 0, .int 0, .int 0, .int 0]))) (h155 : am_is H 155 (.inr (9, [.ref 156, .int 0, .int 0, .int 0, .int 0, .int 0, .int 0, .int 0, .int 0, .int 0]))) (h116 : am_is H 116 (.inr (1, [.ref 117, .ref 119, .ref 121, .int 127, .int 0, .int 0, .int 0, .int 0, .int 0, .int 0]))) (h117 : am_is H 117 (.inr (0, [.ref 118, .int 0, .int 0]))) (h119 : am_is H 119 (.inr (0, [.ref 120, .int 0, .int 0]))) (h121 : am_is H 121 (.inr (0, [.ref 122, .int 0, .int 0]))) (h127 : am_is H 127 (.inr (10, [.int (-1), .int 0, .int 0, .int 0]))) (h128 : am_is H 128 (.inr (10, [.int (-1), .int 0, .int 0, .int 0]))) (c1 : ¬ x0 = 0) (c2 : ¬ x0 = 1) (c3 : ¬ x0 = 2) (c4 : ¬ x0 = 3) (c5 : ¬ x0 = 4) (c6 : ¬ x0 = 5) (c7 : ¬ x0 = 6) (c8 : ¬ x0 = 7) (c9 : ¬ x0 = 8) (c10 : ¬ x0 = 9) (c11 : ¬ x0 = 10) (c12 : ¬ x0 = 11) (c13 : ¬ x0 = 12) (c14 : ¬ x0 = 13) (c15 : ¬ x0 = 14) (c16 : ¬ x0 = 15) (c17 : x0 = 16)  :
    am_E sL sx cs 254 0 [(0, .ref 0), (1, .int x0)] [] H (some (.int (-1))) (fun H1 => (True) ∧ ∀ j : Nat, H1[j]? = H[j]?) := by
  refine ex_s (am_nb (m := 1) (pc1 := 1) (ls1 := [(0, .ref 0), (1, .int x0)]) (st1 := [.int x0]) (H1 := H) (k1 := 0) (n1 := 0) (by with_unfolding_all rfl)) ?_
  refine ex_s (st_tsw rfl) ?_
  refine ex_pc (if_neg c1) ?_
  refine ex_pc (if_neg c2) ?_
  refine ex_pc (if_neg c3) ?_
  refine ex_pc (if_neg c4) ?_
  refine ex_pc (if_neg c5) ?_
  refine ex_pc (if_neg c6) ?_
  refine ex_pc (if_neg c7) ?_
  refine ex_pc (if_neg c8) ?_
  refine ex_pc (if_neg c9) ?_
  refine ex_pc (if_neg c10) ?_
  refine ex_pc (if_neg c11) ?_
  refine ex_pc (if_neg c12) ?_
  refine ex_pc (if_neg c13) ?_
  refine ex_pc (if_neg c14) ?_
  refine ex_pc (if_neg c15) ?_
  refine ex_pc (if_neg c16) ?_
  refine ex_pc (if_pos c17) ?_
  refine ex_s (am_nb (m := 1) (pc1 := 222) (ls1 := [(0, .ref 0), (1, .int x0)]) (st1 := [.ref 0]) (H1 := H) (k1 := 0) (n1 := 0) (by with_unfolding_all rfl)) ?_
  refine ex_s (st_get rfl h0 rfl) ?_
  refine ex_s (am_nb (m := 3) (pc1 := 252) (ls1 := [(0, .ref 0), (1, .int x0)]) (st1 := [.int (-1)]) (H1 := H) (k1 := 0) (n1 := 0) (by with_unfolding_all rfl)) ?_
  exact ex_r (st_iret rfl rfl rfl) ⟨trivial, fun j => rfl⟩

set_option maxRecDepth 100000 in
theorem fx_count_17 {sL : Nat} {sx : Nat → Int32} {cs : Nat → Nat → Option Int32} {H : am_H} {v0_13 : Int32} {x0 : Int32} (h0 : am_is H 0 (.inr (11, [.ref 1, .int 0, .ref 2, .int 0, .ref 3, .ref 93, .ref 97, .ref 115, .ref 116, .ref 129, .ref 123, .ref 127, .ref 128, .int v0_13, .null, .int 0]))) (h3 : am_is H 3 (.inr (7, [.ref 4, .int 0, .int 0, .int (-1), .ref 5, .int 0, .int 0, .int 0, .null, .ref 6, .ref 7, .int 0, .ref 8, .int 0]))) (h115 : am_is H 115 (.inl ((.object "TerminalHouse$Window"), (8, .inr (.inr (.inr (.inr am_q115))))))) (h141 : am_is H 141 (.inr (9, [.ref 142, .int 0, .int 0, .int 0, .int 0, .int 0, .int 0, .int 0, .int 0, .int 0]))) (h143 : am_is H 143 (.inr (9, [.ref 144, .int 0, .int 0, .int 0, .int 0, .int 0, .int 0, .int 0, .int 0, .int 0]))) (h145 : am_is H 145 (.inr (9, [.ref 146, .int 0, .int 0, .int 0, .int 0, .int 0, .int 0, .int 0, .int 0, .int 0]))) (h147 : am_is H 147 (.inr (9, [.ref 148, .int 0, .int 0, .int 0, .int 0, .int 0, .int 0, .int 0, .int 0, .int 0]))) (h149 : am_is H 149 (.inr (9, [.ref 150, .int 0, .int 0, .int 0, .int 0, .int 0, .int 0, .int 0, .int 0, .int 0]))) (h151 : am_is H 151 (.inr (9, [.ref 152, .int 0, .int 0, .int 0, .int 0, .int 0, .int 0, .int 0, .int 0, .int 0]))) (h153 : am_is H 153 (.inr (9, [.ref 154, .int 0, .int 0, .int 0, .int 0, .int 0, .int 0, .int 0, .int 0, .int 0]))) (h155 : am_is H 155 (.inr (9, [.ref 156, .int 0, .int 0, .int 0, .int 0, .int 0, .int 0, .int 0, .int 0, .int 0]))) (h116 : am_is H 116 (.inr (1, [.ref 117, .ref 119, .ref 121, .int 127, .int 0, .int 0, .int 0, .int 0, .int 0, .int 0]))) (h117 : am_is H 117 (.inr (0, [.ref 118, .int 0, .int 0]))) (h119 : am_is H 119 (.inr (0, [.ref 120, .int 0, .int 0]))) (h121 : am_is H 121 (.inr (0, [.ref 122, .int 0, .int 0]))) (h127 : am_is H 127 (.inr (10, [.int (-1), .int 0, .int 0, .int 0]))) (h128 : am_is H 128 (.inr (10, [.int (-1), .int 0, .int 0, .int 0]))) (c1 : ¬ x0 = 0) (c2 : ¬ x0 = 1) (c3 : ¬ x0 = 2) (c4 : ¬ x0 = 3) (c5 : ¬ x0 = 4) (c6 : ¬ x0 = 5) (c7 : ¬ x0 = 6) (c8 : ¬ x0 = 7) (c9 : ¬ x0 = 8) (c10 : ¬ x0 = 9) (c11 : ¬ x0 = 10) (c12 : ¬ x0 = 11) (c13 : ¬ x0 = 12) (c14 : ¬ x0 = 13) (c15 : ¬ x0 = 14) (c16 : ¬ x0 = 15) (c17 : ¬ x0 = 16) (c18 : x0 = 17)  :
    am_E sL sx cs 254 0 [(0, .ref 0), (1, .int x0)] [] H (some (.int 127)) (fun H1 => (True) ∧ ∀ j : Nat, H1[j]? = H[j]?) := by
  refine ex_s (am_nb (m := 1) (pc1 := 1) (ls1 := [(0, .ref 0), (1, .int x0)]) (st1 := [.int x0]) (H1 := H) (k1 := 0) (n1 := 0) (by with_unfolding_all rfl)) ?_
  refine ex_s (st_tsw rfl) ?_
  refine ex_pc (if_neg c1) ?_
  refine ex_pc (if_neg c2) ?_
  refine ex_pc (if_neg c3) ?_
  refine ex_pc (if_neg c4) ?_
  refine ex_pc (if_neg c5) ?_
  refine ex_pc (if_neg c6) ?_
  refine ex_pc (if_neg c7) ?_
  refine ex_pc (if_neg c8) ?_
  refine ex_pc (if_neg c9) ?_
  refine ex_pc (if_neg c10) ?_
  refine ex_pc (if_neg c11) ?_
  refine ex_pc (if_neg c12) ?_
  refine ex_pc (if_neg c13) ?_
  refine ex_pc (if_neg c14) ?_
  refine ex_pc (if_neg c15) ?_
  refine ex_pc (if_neg c16) ?_
  refine ex_pc (if_neg c17) ?_
  refine ex_pc (pc1 := 253) rfl ?_
  refine ex_s (am_nb (m := 1) (pc1 := 254) (ls1 := [(0, .ref 0), (1, .int x0)]) (st1 := [.ref 0]) (H1 := H) (k1 := 0) (n1 := 0) (by with_unfolding_all rfl)) ?_
  refine ex_s (st_get rfl h0 rfl) ?_
  refine ex_s (am_nb (m := 1) (pc1 := 258) (ls1 := [(0, .ref 0), (1, .int x0)]) (st1 := [.int x0, .ref 116]) (H1 := H) (k1 := 0) (n1 := 0) (by with_unfolding_all rfl)) ?_
  refine ex_cv1 (as := [.int x0]) (rest := []) rfl rfl rfl rfl h116 rfl (by with_unfolding_all rfl) (by with_unfolding_all rfl) (fx_count_2_12 h116 h117 h119 h121 c6 c7 c8 c9 c10 c11 c12 c13 c14 c15 c16 c17 c18) ?_
  rintro H323 ⟨-, k323⟩
  exact ex_r (st_iret rfl rfl rfl) ⟨trivial, fun j => (k323 j)⟩

set_option maxRecDepth 100000 in
theorem fx_count_18 {sL : Nat} {sx : Nat → Int32} {cs : Nat → Nat → Option Int32} {H : am_H} {v0_13 : Int32} {x0 : Int32} (h0 : am_is H 0 (.inr (11, [.ref 1, .int 0, .ref 2, .int 0, .ref 3, .ref 93, .ref 97, .ref 115, .ref 116, .ref 129, .ref 123, .ref 127, .ref 128, .int v0_13, .null, .int 0]))) (h3 : am_is H 3 (.inr (7, [.ref 4, .int 0, .int 0, .int (-1), .ref 5, .int 0, .int 0, .int 0, .null, .ref 6, .ref 7, .int 0, .ref 8, .int 0]))) (h115 : am_is H 115 (.inl ((.object "TerminalHouse$Window"), (8, .inr (.inr (.inr (.inr am_q115))))))) (h141 : am_is H 141 (.inr (9, [.ref 142, .int 0, .int 0, .int 0, .int 0, .int 0, .int 0, .int 0, .int 0, .int 0]))) (h143 : am_is H 143 (.inr (9, [.ref 144, .int 0, .int 0, .int 0, .int 0, .int 0, .int 0, .int 0, .int 0, .int 0]))) (h145 : am_is H 145 (.inr (9, [.ref 146, .int 0, .int 0, .int 0, .int 0, .int 0, .int 0, .int 0, .int 0, .int 0]))) (h147 : am_is H 147 (.inr (9, [.ref 148, .int 0, .int 0, .int 0, .int 0, .int 0, .int 0, .int 0, .int 0, .int 0]))) (h149 : am_is H 149 (.inr (9, [.ref 150, .int 0, .int 0, .int 0, .int 0, .int 0, .int 0, .int 0, .int 0, .int 0]))) (h151 : am_is H 151 (.inr (9, [.ref 152, .int 0, .int 0, .int 0, .int 0, .int 0, .int 0, .int 0, .int 0, .int 0]))) (h153 : am_is H 153 (.inr (9, [.ref 154, .int 0, .int 0, .int 0, .int 0, .int 0, .int 0, .int 0, .int 0, .int 0]))) (h155 : am_is H 155 (.inr (9, [.ref 156, .int 0, .int 0, .int 0, .int 0, .int 0, .int 0, .int 0, .int 0, .int 0]))) (h116 : am_is H 116 (.inr (1, [.ref 117, .ref 119, .ref 121, .int 127, .int 0, .int 0, .int 0, .int 0, .int 0, .int 0]))) (h117 : am_is H 117 (.inr (0, [.ref 118, .int 0, .int 0]))) (h119 : am_is H 119 (.inr (0, [.ref 120, .int 0, .int 0]))) (h121 : am_is H 121 (.inr (0, [.ref 122, .int 0, .int 0]))) (h127 : am_is H 127 (.inr (10, [.int (-1), .int 0, .int 0, .int 0]))) (h128 : am_is H 128 (.inr (10, [.int (-1), .int 0, .int 0, .int 0]))) (c1 : ¬ x0 = 0) (c2 : ¬ x0 = 1) (c3 : ¬ x0 = 2) (c4 : ¬ x0 = 3) (c5 : ¬ x0 = 4) (c6 : ¬ x0 = 5) (c7 : ¬ x0 = 6) (c8 : ¬ x0 = 7) (c9 : ¬ x0 = 8) (c10 : ¬ x0 = 9) (c11 : ¬ x0 = 10) (c12 : ¬ x0 = 11) (c13 : ¬ x0 = 12) (c14 : ¬ x0 = 13) (c15 : ¬ x0 = 14) (c16 : ¬ x0 = 15) (c17 : ¬ x0 = 16) (c18 : ¬ x0 = 17) (c19 : x0 = 18)  :
    am_E sL sx cs 254 0 [(0, .ref 0), (1, .int x0)] [] H (some (.int 0)) (fun H1 => (True) ∧ ∀ j : Nat, H1[j]? = H[j]?) := by
  refine ex_s (am_nb (m := 1) (pc1 := 1) (ls1 := [(0, .ref 0), (1, .int x0)]) (st1 := [.int x0]) (H1 := H) (k1 := 0) (n1 := 0) (by with_unfolding_all rfl)) ?_
  refine ex_s (st_tsw rfl) ?_
  refine ex_pc (if_neg c1) ?_
  refine ex_pc (if_neg c2) ?_
  refine ex_pc (if_neg c3) ?_
  refine ex_pc (if_neg c4) ?_
  refine ex_pc (if_neg c5) ?_
  refine ex_pc (if_neg c6) ?_
  refine ex_pc (if_neg c7) ?_
  refine ex_pc (if_neg c8) ?_
  refine ex_pc (if_neg c9) ?_
  refine ex_pc (if_neg c10) ?_
  refine ex_pc (if_neg c11) ?_
  refine ex_pc (if_neg c12) ?_
  refine ex_pc (if_neg c13) ?_
  refine ex_pc (if_neg c14) ?_
  refine ex_pc (if_neg c15) ?_
  refine ex_pc (if_neg c16) ?_
  refine ex_pc (if_neg c17) ?_
  refine ex_pc (pc1 := 253) rfl ?_
  refine ex_s (am_nb (m := 1) (pc1 := 254) (ls1 := [(0, .ref 0), (1, .int x0)]) (st1 := [.ref 0]) (H1 := H) (k1 := 0) (n1 := 0) (by with_unfolding_all rfl)) ?_
  refine ex_s (st_get rfl h0 rfl) ?_
  refine ex_s (am_nb (m := 1) (pc1 := 258) (ls1 := [(0, .ref 0), (1, .int x0)]) (st1 := [.int x0, .ref 116]) (H1 := H) (k1 := 0) (n1 := 0) (by with_unfolding_all rfl)) ?_
  refine ex_cv1 (as := [.int x0]) (rest := []) rfl rfl rfl rfl h116 rfl (by with_unfolding_all rfl) (by with_unfolding_all rfl) (fx_count_2_13 h116 h117 h119 h121 c6 c7 c8 c9 c10 c11 c12 c13 c14 c15 c16 c17 c18 c19) ?_
  rintro H324 ⟨-, k324⟩
  exact ex_r (st_iret rfl rfl rfl) ⟨trivial, fun j => (k324 j)⟩

set_option maxRecDepth 100000 in
theorem fx_count_19 {sL : Nat} {sx : Nat → Int32} {cs : Nat → Nat → Option Int32} {H : am_H} {v0_13 : Int32} {x0 : Int32} (h0 : am_is H 0 (.inr (11, [.ref 1, .int 0, .ref 2, .int 0, .ref 3, .ref 93, .ref 97, .ref 115, .ref 116, .ref 129, .ref 123, .ref 127, .ref 128, .int v0_13, .null, .int 0]))) (h3 : am_is H 3 (.inr (7, [.ref 4, .int 0, .int 0, .int (-1), .ref 5, .int 0, .int 0, .int 0, .null, .ref 6, .ref 7, .int 0, .ref 8, .int 0]))) (h115 : am_is H 115 (.inl ((.object "TerminalHouse$Window"), (8, .inr (.inr (.inr (.inr am_q115))))))) (h141 : am_is H 141 (.inr (9, [.ref 142, .int 0, .int 0, .int 0, .int 0, .int 0, .int 0, .int 0, .int 0, .int 0]))) (h143 : am_is H 143 (.inr (9, [.ref 144, .int 0, .int 0, .int 0, .int 0, .int 0, .int 0, .int 0, .int 0, .int 0]))) (h145 : am_is H 145 (.inr (9, [.ref 146, .int 0, .int 0, .int 0, .int 0, .int 0, .int 0, .int 0, .int 0, .int 0]))) (h147 : am_is H 147 (.inr (9, [.ref 148, .int 0, .int 0, .int 0, .int 0, .int 0, .int 0, .int 0, .int 0, .int 0]))) (h149 : am_is H 149 (.inr (9, [.ref 150, .int 0, .int 0, .int 0, .int 0, .int 0, .int 0, .int 0, .int 0, .int 0]))) (h151 : am_is H 151 (.inr (9, [.ref 152, .int 0, .int 0, .int 0, .int 0, .int 0, .int 0, .int 0, .int 0, .int 0]))) (h153 : am_is H 153 (.inr (9, [.ref 154, .int 0, .int 0, .int 0, .int 0, .int 0, .int 0, .int 0, .int 0, .int 0]))) (h155 : am_is H 155 (.inr (9, [.ref 156, .int 0, .int 0, .int 0, .int 0, .int 0, .int 0, .int 0, .int 0, .int 0]))) (h116 : am_is H 116 (.inr (1, [.ref 117, .ref 119, .ref 121, .int 127, .int 0, .int 0, .int 0, .int 0, .int 0, .int 0]))) (h117 : am_is H 117 (.inr (0, [.ref 118, .int 0, .int 0]))) (h119 : am_is H 119 (.inr (0, [.ref 120, .int 0, .int 0]))) (h121 : am_is H 121 (.inr (0, [.ref 122, .int 0, .int 0]))) (h127 : am_is H 127 (.inr (10, [.int (-1), .int 0, .int 0, .int 0]))) (h128 : am_is H 128 (.inr (10, [.int (-1), .int 0, .int 0, .int 0]))) (c1 : ¬ x0 = 0) (c2 : ¬ x0 = 1) (c3 : ¬ x0 = 2) (c4 : ¬ x0 = 3) (c5 : ¬ x0 = 4) (c6 : ¬ x0 = 5) (c7 : ¬ x0 = 6) (c8 : ¬ x0 = 7) (c9 : ¬ x0 = 8) (c10 : ¬ x0 = 9) (c11 : ¬ x0 = 10) (c12 : ¬ x0 = 11) (c13 : ¬ x0 = 12) (c14 : ¬ x0 = 13) (c15 : ¬ x0 = 14) (c16 : ¬ x0 = 15) (c17 : ¬ x0 = 16) (c18 : ¬ x0 = 17) (c19 : ¬ x0 = 18)  :
    am_E sL sx cs 254 0 [(0, .ref 0), (1, .int x0)] [] H (some (.int (-1))) (fun H1 => (True) ∧ ∀ j : Nat, H1[j]? = H[j]?) := by
  refine ex_s (am_nb (m := 1) (pc1 := 1) (ls1 := [(0, .ref 0), (1, .int x0)]) (st1 := [.int x0]) (H1 := H) (k1 := 0) (n1 := 0) (by with_unfolding_all rfl)) ?_
  refine ex_s (st_tsw rfl) ?_
  refine ex_pc (if_neg c1) ?_
  refine ex_pc (if_neg c2) ?_
  refine ex_pc (if_neg c3) ?_
  refine ex_pc (if_neg c4) ?_
  refine ex_pc (if_neg c5) ?_
  refine ex_pc (if_neg c6) ?_
  refine ex_pc (if_neg c7) ?_
  refine ex_pc (if_neg c8) ?_
  refine ex_pc (if_neg c9) ?_
  refine ex_pc (if_neg c10) ?_
  refine ex_pc (if_neg c11) ?_
  refine ex_pc (if_neg c12) ?_
  refine ex_pc (if_neg c13) ?_
  refine ex_pc (if_neg c14) ?_
  refine ex_pc (if_neg c15) ?_
  refine ex_pc (if_neg c16) ?_
  refine ex_pc (if_neg c17) ?_
  refine ex_pc (pc1 := 253) rfl ?_
  refine ex_s (am_nb (m := 1) (pc1 := 254) (ls1 := [(0, .ref 0), (1, .int x0)]) (st1 := [.ref 0]) (H1 := H) (k1 := 0) (n1 := 0) (by with_unfolding_all rfl)) ?_
  refine ex_s (st_get rfl h0 rfl) ?_
  refine ex_s (am_nb (m := 1) (pc1 := 258) (ls1 := [(0, .ref 0), (1, .int x0)]) (st1 := [.int x0, .ref 116]) (H1 := H) (k1 := 0) (n1 := 0) (by with_unfolding_all rfl)) ?_
  refine ex_cv1 (as := [.int x0]) (rest := []) rfl rfl rfl rfl h116 rfl (by with_unfolding_all rfl) (by with_unfolding_all rfl) (fx_count_2_14 h116 h117 h119 h121 c6 c7 c8 c9 c10 c11 c12 c13 c14 c15 c16 c17 c18 c19) ?_
  rintro H325 ⟨-, k325⟩
  exact ex_r (st_iret rfl rfl rfl) ⟨trivial, fun j => (k325 j)⟩

set_option maxRecDepth 100000 in
theorem fx_stop_1_0 {sL : Nat} {sx : Nat → Int32} {cs : Nat → Nat → Option Int32} {H : am_H} {v136_0 : Int32} {v136_1 : Int32} {v136_9 : Int32} {x0 : Int32} {x1 : Int32} (h136 : am_is H 136 (.inr (3, [.int v136_0, .int v136_1, .ref 138, .ref 139, .ref 140, .int 0, .int 0, .int 0, .int 0, .int v136_9, .int 96, .int 0, .int 0, .int 0, .int 0, .int 0, .int 0, .ref 137]))) (c1 : x0 < 0)  :
    am_E sL sx cs 249 0 [(0, .ref 136), (1, .int x0), (2, .int x1)] [] H (some (.int 0)) (fun H1 => (True) ∧ ∀ j : Nat, H1[j]? = H[j]?) := by
  refine ex_s (am_nb (m := 1) (pc1 := 1) (ls1 := [(0, .ref 136), (1, .int x0), (2, .int x1)]) (st1 := [.int x0]) (H1 := H) (k1 := 0) (n1 := 0) (by with_unfolding_all rfl)) ?_
  refine ex_s (st_if rfl) ?_
  refine ex_pc (if_pos c1) ?_
  refine ex_s (am_nb (m := 1) (pc1 := 29) (ls1 := [(0, .ref 136), (1, .int x0), (2, .int x1)]) (st1 := [.int 0]) (H1 := H) (k1 := 0) (n1 := 0) (by with_unfolding_all rfl)) ?_
  exact ex_r (st_iret rfl rfl rfl) ⟨trivial, fun j => rfl⟩

set_option maxRecDepth 100000 in
theorem fx_stop_1_1 {sL : Nat} {sx : Nat → Int32} {cs : Nat → Nat → Option Int32} {H : am_H} {v136_0 : Int32} {v136_1 : Int32} {v136_9 : Int32} {x0 : Int32} {x1 : Int32} (h136 : am_is H 136 (.inr (3, [.int v136_0, .int v136_1, .ref 138, .ref 139, .ref 140, .int 0, .int 0, .int 0, .int 0, .int v136_9, .int 96, .int 0, .int 0, .int 0, .int 0, .int 0, .int 0, .ref 137]))) (c1 : ¬ x0 < 0) (c2 : v136_0 ≤ x0)  :
    am_E sL sx cs 249 0 [(0, .ref 136), (1, .int x0), (2, .int x1)] [] H (some (.int 0)) (fun H1 => (True) ∧ ∀ j : Nat, H1[j]? = H[j]?) := by
  refine ex_s (am_nb (m := 1) (pc1 := 1) (ls1 := [(0, .ref 136), (1, .int x0), (2, .int x1)]) (st1 := [.int x0]) (H1 := H) (k1 := 0) (n1 := 0) (by with_unfolding_all rfl)) ?_
  refine ex_s (st_if rfl) ?_
  refine ex_pc (if_neg c1) ?_
  refine ex_s (am_nb (m := 2) (pc1 := 6) (ls1 := [(0, .ref 136), (1, .int x0), (2, .int x1)]) (st1 := [.ref 136, .int x0]) (H1 := H) (k1 := 0) (n1 := 0) (by with_unfolding_all rfl)) ?_
  refine ex_s (st_get rfl h136 rfl) ?_
  refine ex_s (st_icmp rfl) ?_
  refine ex_pc (if_pos c2) ?_
  refine ex_s (am_nb (m := 1) (pc1 := 29) (ls1 := [(0, .ref 136), (1, .int x0), (2, .int x1)]) (st1 := [.int 0]) (H1 := H) (k1 := 0) (n1 := 0) (by with_unfolding_all rfl)) ?_
  exact ex_r (st_iret rfl rfl rfl) ⟨trivial, fun j => rfl⟩

set_option maxRecDepth 100000 in
theorem fx_stop_1_2 {sL : Nat} {sx : Nat → Int32} {cs : Nat → Nat → Option Int32} {H : am_H} {v136_0 : Int32} {v136_1 : Int32} {v136_9 : Int32} {x0 : Int32} {x1 : Int32} (h136 : am_is H 136 (.inr (3, [.int v136_0, .int v136_1, .ref 138, .ref 139, .ref 140, .int 0, .int 0, .int 0, .int 0, .int v136_9, .int 96, .int 0, .int 0, .int 0, .int 0, .int 0, .int 0, .ref 137]))) (c1 : ¬ x0 < 0) (c2 : ¬ v136_0 ≤ x0) (c3 : x1 < 0)  :
    am_E sL sx cs 249 0 [(0, .ref 136), (1, .int x0), (2, .int x1)] [] H (some (.int 0)) (fun H1 => (True) ∧ ∀ j : Nat, H1[j]? = H[j]?) := by
  refine ex_s (am_nb (m := 1) (pc1 := 1) (ls1 := [(0, .ref 136), (1, .int x0), (2, .int x1)]) (st1 := [.int x0]) (H1 := H) (k1 := 0) (n1 := 0) (by with_unfolding_all rfl)) ?_
  refine ex_s (st_if rfl) ?_
  refine ex_pc (if_neg c1) ?_
  refine ex_s (am_nb (m := 2) (pc1 := 6) (ls1 := [(0, .ref 136), (1, .int x0), (2, .int x1)]) (st1 := [.ref 136, .int x0]) (H1 := H) (k1 := 0) (n1 := 0) (by with_unfolding_all rfl)) ?_
  refine ex_s (st_get rfl h136 rfl) ?_
  refine ex_s (st_icmp rfl) ?_
  refine ex_pc (if_neg c2) ?_
  refine ex_s (am_nb (m := 1) (pc1 := 13) (ls1 := [(0, .ref 136), (1, .int x0), (2, .int x1)]) (st1 := [.int x1]) (H1 := H) (k1 := 0) (n1 := 0) (by with_unfolding_all rfl)) ?_
  refine ex_s (st_if rfl) ?_
  refine ex_pc (if_pos c3) ?_
  refine ex_s (am_nb (m := 1) (pc1 := 29) (ls1 := [(0, .ref 136), (1, .int x0), (2, .int x1)]) (st1 := [.int 0]) (H1 := H) (k1 := 0) (n1 := 0) (by with_unfolding_all rfl)) ?_
  exact ex_r (st_iret rfl rfl rfl) ⟨trivial, fun j => rfl⟩

set_option maxRecDepth 100000 in
theorem fx_stop_1_3 {sL : Nat} {sx : Nat → Int32} {cs : Nat → Nat → Option Int32} {H : am_H} {v136_0 : Int32} {v136_1 : Int32} {v136_9 : Int32} {x0 : Int32} {x1 : Int32} (h136 : am_is H 136 (.inr (3, [.int v136_0, .int v136_1, .ref 138, .ref 139, .ref 140, .int 0, .int 0, .int 0, .int 0, .int v136_9, .int 96, .int 0, .int 0, .int 0, .int 0, .int 0, .int 0, .ref 137]))) (c1 : ¬ x0 < 0) (c2 : ¬ v136_0 ≤ x0) (c3 : ¬ x1 < 0) (c4 : v136_1 ≤ x1)  :
    am_E sL sx cs 249 0 [(0, .ref 136), (1, .int x0), (2, .int x1)] [] H (some (.int 0)) (fun H1 => (True) ∧ ∀ j : Nat, H1[j]? = H[j]?) := by
  refine ex_s (am_nb (m := 1) (pc1 := 1) (ls1 := [(0, .ref 136), (1, .int x0), (2, .int x1)]) (st1 := [.int x0]) (H1 := H) (k1 := 0) (n1 := 0) (by with_unfolding_all rfl)) ?_
  refine ex_s (st_if rfl) ?_
  refine ex_pc (if_neg c1) ?_
  refine ex_s (am_nb (m := 2) (pc1 := 6) (ls1 := [(0, .ref 136), (1, .int x0), (2, .int x1)]) (st1 := [.ref 136, .int x0]) (H1 := H) (k1 := 0) (n1 := 0) (by with_unfolding_all rfl)) ?_
  refine ex_s (st_get rfl h136 rfl) ?_
  refine ex_s (st_icmp rfl) ?_
  refine ex_pc (if_neg c2) ?_
  refine ex_s (am_nb (m := 1) (pc1 := 13) (ls1 := [(0, .ref 136), (1, .int x0), (2, .int x1)]) (st1 := [.int x1]) (H1 := H) (k1 := 0) (n1 := 0) (by with_unfolding_all rfl)) ?_
  refine ex_s (st_if rfl) ?_
  refine ex_pc (if_neg c3) ?_
  refine ex_s (am_nb (m := 2) (pc1 := 18) (ls1 := [(0, .ref 136), (1, .int x0), (2, .int x1)]) (st1 := [.ref 136, .int x1]) (H1 := H) (k1 := 0) (n1 := 0) (by with_unfolding_all rfl)) ?_
  refine ex_s (st_get rfl h136 rfl) ?_
  refine ex_s (st_icmp rfl) ?_
  refine ex_pc (if_pos c4) ?_
  refine ex_s (am_nb (m := 1) (pc1 := 29) (ls1 := [(0, .ref 136), (1, .int x0), (2, .int x1)]) (st1 := [.int 0]) (H1 := H) (k1 := 0) (n1 := 0) (by with_unfolding_all rfl)) ?_
  exact ex_r (st_iret rfl rfl rfl) ⟨trivial, fun j => rfl⟩

set_option maxRecDepth 100000 in
theorem fx_stop_1_4 {sL : Nat} {sx : Nat → Int32} {cs : Nat → Nat → Option Int32} {H : am_H} {v136_0 : Int32} {v136_1 : Int32} {v136_9 : Int32} {x0 : Int32} {x1 : Int32} (h136 : am_is H 136 (.inr (3, [.int v136_0, .int v136_1, .ref 138, .ref 139, .ref 140, .int 0, .int 0, .int 0, .int 0, .int v136_9, .int 96, .int 0, .int 0, .int 0, .int 0, .int 0, .int 0, .ref 137]))) (c1 : ¬ x0 < 0) (c2 : ¬ v136_0 ≤ x0) (c3 : ¬ x1 < 0) (c4 : ¬ v136_1 ≤ x1)  :
    am_E sL sx cs 249 0 [(0, .ref 136), (1, .int x0), (2, .int x1)] [] H (some (.int 1)) (fun H1 => (True) ∧ ∀ j : Nat, H1[j]? = H[j]?) := by
  refine ex_s (am_nb (m := 1) (pc1 := 1) (ls1 := [(0, .ref 136), (1, .int x0), (2, .int x1)]) (st1 := [.int x0]) (H1 := H) (k1 := 0) (n1 := 0) (by with_unfolding_all rfl)) ?_
  refine ex_s (st_if rfl) ?_
  refine ex_pc (if_neg c1) ?_
  refine ex_s (am_nb (m := 2) (pc1 := 6) (ls1 := [(0, .ref 136), (1, .int x0), (2, .int x1)]) (st1 := [.ref 136, .int x0]) (H1 := H) (k1 := 0) (n1 := 0) (by with_unfolding_all rfl)) ?_
  refine ex_s (st_get rfl h136 rfl) ?_
  refine ex_s (st_icmp rfl) ?_
  refine ex_pc (if_neg c2) ?_
  refine ex_s (am_nb (m := 1) (pc1 := 13) (ls1 := [(0, .ref 136), (1, .int x0), (2, .int x1)]) (st1 := [.int x1]) (H1 := H) (k1 := 0) (n1 := 0) (by with_unfolding_all rfl)) ?_
  refine ex_s (st_if rfl) ?_
  refine ex_pc (if_neg c3) ?_
  refine ex_s (am_nb (m := 2) (pc1 := 18) (ls1 := [(0, .ref 136), (1, .int x0), (2, .int x1)]) (st1 := [.ref 136, .int x1]) (H1 := H) (k1 := 0) (n1 := 0) (by with_unfolding_all rfl)) ?_
  refine ex_s (st_get rfl h136 rfl) ?_
  refine ex_s (st_icmp rfl) ?_
  refine ex_pc (if_neg c4) ?_
  refine ex_s (am_nb (m := 2) (pc1 := 29) (ls1 := [(0, .ref 136), (1, .int x0), (2, .int x1)]) (st1 := [.int 1]) (H1 := H) (k1 := 0) (n1 := 0) (by with_unfolding_all rfl)) ?_
  exact ex_r (st_iret rfl rfl rfl) ⟨trivial, fun j => rfl⟩

set_option maxRecDepth 100000 in
theorem fx_stop_0 {sL : Nat} {sx : Nat → Int32} {cs : Nat → Nat → Option Int32} {H : am_H} {v0_13 : Int32} {v136_0 : Int32} {v136_1 : Int32} {v136_9 : Int32} {m140 : Nat} {g140 : Nat → Int32} {x0 : Int32} {x1 : Int32} (h0 : am_is H 0 (.inr (11, [.ref 1, .int 0, .ref 2, .int 0, .ref 3, .ref 93, .ref 97, .ref 115, .ref 116, .ref 129, .ref 123, .ref 127, .ref 128, .int v0_13, .null, .int 0]))) (h129 : am_is H 129 (.inr (8, [.ref 136, .ref 130, .ref 132, .ref 134, .int 0, .int 0, .int 0, .int 0, .int 0, .int 0, .int 0, .ref 135, .int 0, .int 0, .int 0]))) (h136 : am_is H 136 (.inr (3, [.int v136_0, .int v136_1, .ref 138, .ref 139, .ref 140, .int 0, .int 0, .int 0, .int 0, .int v136_9, .int 96, .int 0, .int 0, .int 0, .int 0, .int 0, .int 0, .ref 137]))) (h140 : am_is H 140 (.inl (.boolean, (m140, .inl g140)))) (c1 : x0 < 0)  :
    am_E sL sx cs 257 0 [(0, .ref 0), (1, .int x0), (2, .int x1)] [] H (some (.int (-1))) (fun H1 => (True) ∧ ∀ j : Nat, H1[j]? = H[j]?) := by
  refine ex_s (am_nb (m := 1) (pc1 := 1) (ls1 := [(0, .ref 0), (1, .int x0), (2, .int x1)]) (st1 := [.ref 0]) (H1 := H) (k1 := 0) (n1 := 0) (by with_unfolding_all rfl)) ?_
  refine ex_s (st_get rfl h0 rfl) ?_
  refine ex_s (st_get rfl h129 rfl) ?_
  refine ex_s (am_nb (m := 4) (pc1 := 11) (ls1 := [(3, .ref 136), (0, .ref 0), (1, .int x0), (2, .int x1)]) (st1 := [.int x1, .int x0, .ref 136]) (H1 := H) (k1 := 0) (n1 := 0) (by with_unfolding_all rfl)) ?_
  refine ex_cv1 (as := [.int x0, .int x1]) (rest := []) rfl rfl rfl rfl h136 rfl (by with_unfolding_all rfl) (by with_unfolding_all rfl) (fx_stop_1_0 h136 c1) ?_
  rintro H326 ⟨-, k326⟩
  refine ex_s (am_nb (m := 2) (pc1 := 18) (ls1 := [(3, .ref 136), (0, .ref 0), (1, .int x0), (2, .int x1)]) (st1 := [.int (-1)]) (H1 := H326) (k1 := 0) (n1 := 0) (by with_unfolding_all rfl)) ?_
  exact ex_r (st_iret rfl rfl rfl) ⟨trivial, fun j => (k326 j)⟩

set_option maxRecDepth 100000 in
theorem fx_stop_1 {sL : Nat} {sx : Nat → Int32} {cs : Nat → Nat → Option Int32} {H : am_H} {v0_13 : Int32} {v136_0 : Int32} {v136_1 : Int32} {v136_9 : Int32} {m140 : Nat} {g140 : Nat → Int32} {x0 : Int32} {x1 : Int32} (h0 : am_is H 0 (.inr (11, [.ref 1, .int 0, .ref 2, .int 0, .ref 3, .ref 93, .ref 97, .ref 115, .ref 116, .ref 129, .ref 123, .ref 127, .ref 128, .int v0_13, .null, .int 0]))) (h129 : am_is H 129 (.inr (8, [.ref 136, .ref 130, .ref 132, .ref 134, .int 0, .int 0, .int 0, .int 0, .int 0, .int 0, .int 0, .ref 135, .int 0, .int 0, .int 0]))) (h136 : am_is H 136 (.inr (3, [.int v136_0, .int v136_1, .ref 138, .ref 139, .ref 140, .int 0, .int 0, .int 0, .int 0, .int v136_9, .int 96, .int 0, .int 0, .int 0, .int 0, .int 0, .int 0, .ref 137]))) (h140 : am_is H 140 (.inl (.boolean, (m140, .inl g140)))) (c1 : ¬ x0 < 0) (c2 : v136_0 ≤ x0)  :
    am_E sL sx cs 257 0 [(0, .ref 0), (1, .int x0), (2, .int x1)] [] H (some (.int (-1))) (fun H1 => (True) ∧ ∀ j : Nat, H1[j]? = H[j]?) := by
  refine ex_s (am_nb (m := 1) (pc1 := 1) (ls1 := [(0, .ref 0), (1, .int x0), (2, .int x1)]) (st1 := [.ref 0]) (H1 := H) (k1 := 0) (n1 := 0) (by with_unfolding_all rfl)) ?_
  refine ex_s (st_get rfl h0 rfl) ?_
  refine ex_s (st_get rfl h129 rfl) ?_
  refine ex_s (am_nb (m := 4) (pc1 := 11) (ls1 := [(3, .ref 136), (0, .ref 0), (1, .int x0), (2, .int x1)]) (st1 := [.int x1, .int x0, .ref 136]) (H1 := H) (k1 := 0) (n1 := 0) (by with_unfolding_all rfl)) ?_
  refine ex_cv1 (as := [.int x0, .int x1]) (rest := []) rfl rfl rfl rfl h136 rfl (by with_unfolding_all rfl) (by with_unfolding_all rfl) (fx_stop_1_1 h136 c1 c2) ?_
  rintro H327 ⟨-, k327⟩
  refine ex_s (am_nb (m := 2) (pc1 := 18) (ls1 := [(3, .ref 136), (0, .ref 0), (1, .int x0), (2, .int x1)]) (st1 := [.int (-1)]) (H1 := H327) (k1 := 0) (n1 := 0) (by with_unfolding_all rfl)) ?_
  exact ex_r (st_iret rfl rfl rfl) ⟨trivial, fun j => (k327 j)⟩

set_option maxRecDepth 100000 in
theorem fx_stop_2 {sL : Nat} {sx : Nat → Int32} {cs : Nat → Nat → Option Int32} {H : am_H} {v0_13 : Int32} {v136_0 : Int32} {v136_1 : Int32} {v136_9 : Int32} {m140 : Nat} {g140 : Nat → Int32} {x0 : Int32} {x1 : Int32} (h0 : am_is H 0 (.inr (11, [.ref 1, .int 0, .ref 2, .int 0, .ref 3, .ref 93, .ref 97, .ref 115, .ref 116, .ref 129, .ref 123, .ref 127, .ref 128, .int v0_13, .null, .int 0]))) (h129 : am_is H 129 (.inr (8, [.ref 136, .ref 130, .ref 132, .ref 134, .int 0, .int 0, .int 0, .int 0, .int 0, .int 0, .int 0, .ref 135, .int 0, .int 0, .int 0]))) (h136 : am_is H 136 (.inr (3, [.int v136_0, .int v136_1, .ref 138, .ref 139, .ref 140, .int 0, .int 0, .int 0, .int 0, .int v136_9, .int 96, .int 0, .int 0, .int 0, .int 0, .int 0, .int 0, .ref 137]))) (h140 : am_is H 140 (.inl (.boolean, (m140, .inl g140)))) (c1 : ¬ x0 < 0) (c2 : ¬ v136_0 ≤ x0) (c3 : x1 < 0)  :
    am_E sL sx cs 257 0 [(0, .ref 0), (1, .int x0), (2, .int x1)] [] H (some (.int (-1))) (fun H1 => (True) ∧ ∀ j : Nat, H1[j]? = H[j]?) := by
  refine ex_s (am_nb (m := 1) (pc1 := 1) (ls1 := [(0, .ref 0), (1, .int x0), (2, .int x1)]) (st1 := [.ref 0]) (H1 := H) (k1 := 0) (n1 := 0) (by with_unfolding_all rfl)) ?_
  refine ex_s (st_get rfl h0 rfl) ?_
  refine ex_s (st_get rfl h129 rfl) ?_
  refine ex_s (am_nb (m := 4) (pc1 := 11) (ls1 := [(3, .ref 136), (0, .ref 0), (1, .int x0), (2, .int x1)]) (st1 := [.int x1, .int x0, .ref 136]) (H1 := H) (k1 := 0) (n1 := 0) (by with_unfolding_all rfl)) ?_
  refine ex_cv1 (as := [.int x0, .int x1]) (rest := []) rfl rfl rfl rfl h136 rfl (by with_unfolding_all rfl) (by with_unfolding_all rfl) (fx_stop_1_2 h136 c1 c2 c3) ?_
  rintro H328 ⟨-, k328⟩
  refine ex_s (am_nb (m := 2) (pc1 := 18) (ls1 := [(3, .ref 136), (0, .ref 0), (1, .int x0), (2, .int x1)]) (st1 := [.int (-1)]) (H1 := H328) (k1 := 0) (n1 := 0) (by with_unfolding_all rfl)) ?_
  exact ex_r (st_iret rfl rfl rfl) ⟨trivial, fun j => (k328 j)⟩

set_option maxRecDepth 100000 in
theorem fx_stop_3 {sL : Nat} {sx : Nat → Int32} {cs : Nat → Nat → Option Int32} {H : am_H} {v0_13 : Int32} {v136_0 : Int32} {v136_1 : Int32} {v136_9 : Int32} {m140 : Nat} {g140 : Nat → Int32} {x0 : Int32} {x1 : Int32} (h0 : am_is H 0 (.inr (11, [.ref 1, .int 0, .ref 2, .int 0, .ref 3, .ref 93, .ref 97, .ref 115, .ref 116, .ref 129, .ref 123, .ref 127, .ref 128, .int v0_13, .null, .int 0]))) (h129 : am_is H 129 (.inr (8, [.ref 136, .ref 130, .ref 132, .ref 134, .int 0, .int 0, .int 0, .int 0, .int 0, .int 0, .int 0, .ref 135, .int 0, .int 0, .int 0]))) (h136 : am_is H 136 (.inr (3, [.int v136_0, .int v136_1, .ref 138, .ref 139, .ref 140, .int 0, .int 0, .int 0, .int 0, .int v136_9, .int 96, .int 0, .int 0, .int 0, .int 0, .int 0, .int 0, .ref 137]))) (h140 : am_is H 140 (.inl (.boolean, (m140, .inl g140)))) (c1 : ¬ x0 < 0) (c2 : ¬ v136_0 ≤ x0) (c3 : ¬ x1 < 0) (c4 : v136_1 ≤ x1)  :
    am_E sL sx cs 257 0 [(0, .ref 0), (1, .int x0), (2, .int x1)] [] H (some (.int (-1))) (fun H1 => (True) ∧ ∀ j : Nat, H1[j]? = H[j]?) := by
  refine ex_s (am_nb (m := 1) (pc1 := 1) (ls1 := [(0, .ref 0), (1, .int x0), (2, .int x1)]) (st1 := [.ref 0]) (H1 := H) (k1 := 0) (n1 := 0) (by with_unfolding_all rfl)) ?_
  refine ex_s (st_get rfl h0 rfl) ?_
  refine ex_s (st_get rfl h129 rfl) ?_
  refine ex_s (am_nb (m := 4) (pc1 := 11) (ls1 := [(3, .ref 136), (0, .ref 0), (1, .int x0), (2, .int x1)]) (st1 := [.int x1, .int x0, .ref 136]) (H1 := H) (k1 := 0) (n1 := 0) (by with_unfolding_all rfl)) ?_
  refine ex_cv1 (as := [.int x0, .int x1]) (rest := []) rfl rfl rfl rfl h136 rfl (by with_unfolding_all rfl) (by with_unfolding_all rfl) (fx_stop_1_3 h136 c1 c2 c3 c4) ?_
  rintro H329 ⟨-, k329⟩
  refine ex_s (am_nb (m := 2) (pc1 := 18) (ls1 := [(3, .ref 136), (0, .ref 0), (1, .int x0), (2, .int x1)]) (st1 := [.int (-1)]) (H1 := H329) (k1 := 0) (n1 := 0) (by with_unfolding_all rfl)) ?_
  exact ex_r (st_iret rfl rfl rfl) ⟨trivial, fun j => (k329 j)⟩

set_option maxRecDepth 100000 in
theorem fx_stop_4 {sL : Nat} {sx : Nat → Int32} {cs : Nat → Nat → Option Int32} {H : am_H} {v0_13 : Int32} {v136_0 : Int32} {v136_1 : Int32} {v136_9 : Int32} {m140 : Nat} {g140 : Nat → Int32} {x0 : Int32} {x1 : Int32} (h0 : am_is H 0 (.inr (11, [.ref 1, .int 0, .ref 2, .int 0, .ref 3, .ref 93, .ref 97, .ref 115, .ref 116, .ref 129, .ref 123, .ref 127, .ref 128, .int v0_13, .null, .int 0]))) (h129 : am_is H 129 (.inr (8, [.ref 136, .ref 130, .ref 132, .ref 134, .int 0, .int 0, .int 0, .int 0, .int 0, .int 0, .int 0, .ref 135, .int 0, .int 0, .int 0]))) (h136 : am_is H 136 (.inr (3, [.int v136_0, .int v136_1, .ref 138, .ref 139, .ref 140, .int 0, .int 0, .int 0, .int 0, .int v136_9, .int 96, .int 0, .int 0, .int 0, .int 0, .int 0, .int 0, .ref 137]))) (h140 : am_is H 140 (.inl (.boolean, (m140, .inl g140)))) (c1 : ¬ x0 < 0) (c2 : ¬ v136_0 ≤ x0) (c3 : ¬ x1 < 0) (c4 : ¬ v136_1 ≤ x1) (c5 : (g140 x1.toNatClampNeg) = 0) (s1 : ¬ (x1 < 0 ∨ m140 ≤ x1.toNatClampNeg)) :
    am_E sL sx cs 257 0 [(0, .ref 0), (1, .int x0), (2, .int x1)] [] H (some (.int 0)) (fun H1 => (True) ∧ ∀ j : Nat, H1[j]? = H[j]?) := by
  refine ex_s (am_nb (m := 1) (pc1 := 1) (ls1 := [(0, .ref 0), (1, .int x0), (2, .int x1)]) (st1 := [.ref 0]) (H1 := H) (k1 := 0) (n1 := 0) (by with_unfolding_all rfl)) ?_
  refine ex_s (st_get rfl h0 rfl) ?_
  refine ex_s (st_get rfl h129 rfl) ?_
  refine ex_s (am_nb (m := 4) (pc1 := 11) (ls1 := [(3, .ref 136), (0, .ref 0), (1, .int x0), (2, .int x1)]) (st1 := [.int x1, .int x0, .ref 136]) (H1 := H) (k1 := 0) (n1 := 0) (by with_unfolding_all rfl)) ?_
  refine ex_cv1 (as := [.int x0, .int x1]) (rest := []) rfl rfl rfl rfl h136 rfl (by with_unfolding_all rfl) (by with_unfolding_all rfl) (fx_stop_1_4 h136 c1 c2 c3 c4) ?_
  rintro H330 ⟨-, k330⟩
  refine ex_s (am_nb (m := 2) (pc1 := 20) (ls1 := [(3, .ref 136), (0, .ref 0), (1, .int x0), (2, .int x1)]) (st1 := [.ref 136]) (H1 := H330) (k1 := 0) (n1 := 0) (by with_unfolding_all rfl)) ?_
  refine ex_s (st_get rfl ((k330 136).trans h136) rfl) ?_
  refine ex_s (am_nb (m := 1) (pc1 := 24) (ls1 := [(3, .ref 136), (0, .ref 0), (1, .int x0), (2, .int x1)]) (st1 := [.int x1, .ref 140]) (H1 := H330) (k1 := 0) (n1 := 0) (by with_unfolding_all rfl)) ?_
  refine ex_s (st_zald rfl ((k330 140).trans h140) s1) ?_
  refine ex_s (st_if rfl) ?_
  refine ex_pc (if_pos c5) ?_
  refine ex_s (am_nb (m := 1) (pc1 := 33) (ls1 := [(3, .ref 136), (0, .ref 0), (1, .int x0), (2, .int x1)]) (st1 := [.int 0]) (H1 := H330) (k1 := 0) (n1 := 0) (by with_unfolding_all rfl)) ?_
  exact ex_r (st_iret rfl rfl rfl) ⟨trivial, fun j => (k330 j)⟩

set_option maxRecDepth 100000 in
theorem fx_stop_5 {sL : Nat} {sx : Nat → Int32} {cs : Nat → Nat → Option Int32} {H : am_H} {v0_13 : Int32} {v136_0 : Int32} {v136_1 : Int32} {v136_9 : Int32} {m140 : Nat} {g140 : Nat → Int32} {x0 : Int32} {x1 : Int32} (h0 : am_is H 0 (.inr (11, [.ref 1, .int 0, .ref 2, .int 0, .ref 3, .ref 93, .ref 97, .ref 115, .ref 116, .ref 129, .ref 123, .ref 127, .ref 128, .int v0_13, .null, .int 0]))) (h129 : am_is H 129 (.inr (8, [.ref 136, .ref 130, .ref 132, .ref 134, .int 0, .int 0, .int 0, .int 0, .int 0, .int 0, .int 0, .ref 135, .int 0, .int 0, .int 0]))) (h136 : am_is H 136 (.inr (3, [.int v136_0, .int v136_1, .ref 138, .ref 139, .ref 140, .int 0, .int 0, .int 0, .int 0, .int v136_9, .int 96, .int 0, .int 0, .int 0, .int 0, .int 0, .int 0, .ref 137]))) (h140 : am_is H 140 (.inl (.boolean, (m140, .inl g140)))) (c1 : ¬ x0 < 0) (c2 : ¬ v136_0 ≤ x0) (c3 : ¬ x1 < 0) (c4 : ¬ v136_1 ≤ x1) (c5 : ¬ (g140 x1.toNatClampNeg) = 0) (s1 : ¬ (x1 < 0 ∨ m140 ≤ x1.toNatClampNeg)) :
    am_E sL sx cs 257 0 [(0, .ref 0), (1, .int x0), (2, .int x1)] [] H (some (.int 1)) (fun H1 => (True) ∧ ∀ j : Nat, H1[j]? = H[j]?) := by
  refine ex_s (am_nb (m := 1) (pc1 := 1) (ls1 := [(0, .ref 0), (1, .int x0), (2, .int x1)]) (st1 := [.ref 0]) (H1 := H) (k1 := 0) (n1 := 0) (by with_unfolding_all rfl)) ?_
  refine ex_s (st_get rfl h0 rfl) ?_
  refine ex_s (st_get rfl h129 rfl) ?_
  refine ex_s (am_nb (m := 4) (pc1 := 11) (ls1 := [(3, .ref 136), (0, .ref 0), (1, .int x0), (2, .int x1)]) (st1 := [.int x1, .int x0, .ref 136]) (H1 := H) (k1 := 0) (n1 := 0) (by with_unfolding_all rfl)) ?_
  refine ex_cv1 (as := [.int x0, .int x1]) (rest := []) rfl rfl rfl rfl h136 rfl (by with_unfolding_all rfl) (by with_unfolding_all rfl) (fx_stop_1_4 h136 c1 c2 c3 c4) ?_
  rintro H330 ⟨-, k330⟩
  refine ex_s (am_nb (m := 2) (pc1 := 20) (ls1 := [(3, .ref 136), (0, .ref 0), (1, .int x0), (2, .int x1)]) (st1 := [.ref 136]) (H1 := H330) (k1 := 0) (n1 := 0) (by with_unfolding_all rfl)) ?_
  refine ex_s (st_get rfl ((k330 136).trans h136) rfl) ?_
  refine ex_s (am_nb (m := 1) (pc1 := 24) (ls1 := [(3, .ref 136), (0, .ref 0), (1, .int x0), (2, .int x1)]) (st1 := [.int x1, .ref 140]) (H1 := H330) (k1 := 0) (n1 := 0) (by with_unfolding_all rfl)) ?_
  refine ex_s (st_zald rfl ((k330 140).trans h140) s1) ?_
  refine ex_s (st_if rfl) ?_
  refine ex_pc (if_neg c5) ?_
  refine ex_s (am_nb (m := 2) (pc1 := 33) (ls1 := [(3, .ref 136), (0, .ref 0), (1, .int x0), (2, .int x1)]) (st1 := [.int 1]) (H1 := H330) (k1 := 0) (n1 := 0) (by with_unfolding_all rfl)) ?_
  exact ex_r (st_iret rfl rfl rfl) ⟨trivial, fun j => (k330 j)⟩

set_option maxRecDepth 100000 in
theorem fm_feed_0 {sL : Nat} {sx : Nat → Int32} {cs : Nat → Nat → Option Int32} {H : am_H} {v157_68 : Int32} {v157_69 : Int32} {v157_70 : Int32} {v157_96 : Int32} {x0 : Int32} {x1 : Int32} {x2 : Int32} {x3 : Int32} {x4 : Int32} (h157 : am_is H 157 (.inr (12, [.int 0, .ref 158, .int 0, .ref 159, .int 0, .int 0, .ref 160, .ref 161, .ref 162, .ref 163, .ref 164, .ref 165, .ref 166, .int 0, .int (-1), .int 0, .int 0, .int 0, .ref 167, .int 0, .int 0, .int (-1), .ref 168, .int 0, .ref 169, .int 0, .int 0, .int 0, .ref 170, .ref 171, .int 0, .int 0, .int (-1), .int (-1), .int 0, .int 0, .int 0, .ref 172, .ref 173, .ref 174, .ref 175, .ref 176, .ref 177, .ref 178, .ref 179, .ref 180, .ref 181, .ref 182, .ref 183, .int 0, .int 0, .int 0, .int 0, .int 0, .ref 184, .int 0, .int 0, .int 0, .int 127, .int 0, .int 0, .int 0, .int 0, .int 0, .ref 185, .int 0, .ref 186, .int 0, .int v157_68, .int v157_69, .int v157_70, .int 0, .int 0, .int 0, .int (-1), .int (-1), .int 0, .int 0, .ref 187, .int 0, .int 0, .int 0, .int 0, .int 0, .int 0, .int 0, .ref 188, .int 0, .ref 189, .int 0, .ref 190, .ref 191, .ref 192, .int 0, .int 0, .int 0, .int v157_96, .int 0, .int 96, .int 0, .int 0, .int 0, .int 0, .int 0, .int 0, .int 0, .int 0, .int 0, .int 0, .int 0, .int 0, .int 0, .int 0, .int 0, .ref 193, .int 0, .int 0, .int 0, .ref 194, .ref 195, .int (-1), .int 0]))) (h158 : am_is H 158 (.inl (.byte, (3000, .inl (fun _ => 0)))))   :
    am_E sL sx cs 261 0 [(0, .ref 157), (1, .int x0), (2, .int x1), (3, .int x2), (4, .int x3), (5, .int x4)] [] H (some (.int 1)) (fun H1 => (am_is H1 157 (.inr (12, [.int 0, .ref 158, .int 20, .ref 159, .int 0, .int 0, .ref 160, .ref 161, .ref 162, .ref 163, .ref 164, .ref 165, .ref 166, .int 0, .int (-1), .int 0, .int 0, .int 0, .ref 167, .int 0, .int 0, .int (-1), .ref 168, .int 0, .ref 169, .int 0, .int 0, .int 0, .ref 170, .ref 171, .int 0, .int 0, .int (-1), .int (-1), .int 0, .int 0, .int 0, .ref 172, .ref 173, .ref 174, .ref 175, .ref 176, .ref 177, .ref 178, .ref 179, .ref 180, .ref 181, .ref 182, .ref 183, .int 0, .int 0, .int 0, .int 0, .int 0, .ref 184, .int 0, .int 0, .int 0, .int 127, .int 0, .int 0, .int 0, .int 0, .int 0, .ref 185, .int 0, .ref 186, .int 0, .int v157_68, .int v157_69, .int v157_70, .int 0, .int 0, .int 0, .int (-1), .int (-1), .int 0, .int 0, .ref 187, .int 0, .int 0, .int 0, .int 0, .int 0, .int 0, .int 0, .ref 188, .int 0, .ref 189, .int 0, .ref 190, .ref 191, .ref 192, .int 0, .int 0, .int 0, .int v157_96, .int 0, .int 96, .int 0, .int 0, .int 0, .int 0, .int 0, .int 0, .int 0, .int 0, .int 0, .int 0, .int 0, .int 0, .int 0, .int 0, .int 0, .ref 193, .int 0, .int 0, .int 0, .ref 194, .ref 195, .int (-1), .int 0])) ∧ am_is H1 158 (.inl (.byte, (3000, .inl (upd (upd (upd (upd (upd (upd (upd (upd (upd (upd (upd (upd (upd (upd (upd (upd (upd (upd (upd (upd (fun _ => 0) ((0 : Int32).toNatClampNeg) (vp_nar .byte ((x0 >>> (24 &&& 31)).toInt8.toInt32))) ((1 : Int32).toNatClampNeg) (vp_nar .byte ((x0 >>> (16 &&& 31)).toInt8.toInt32))) ((2 : Int32).toNatClampNeg) (vp_nar .byte ((x0 >>> (8 &&& 31)).toInt8.toInt32))) ((3 : Int32).toNatClampNeg) (vp_nar .byte ((x0 >>> (0 &&& 31)).toInt8.toInt32))) ((4 : Int32).toNatClampNeg) (vp_nar .byte ((x1 >>> (24 &&& 31)).toInt8.toInt32))) ((5 : Int32).toNatClampNeg) (vp_nar .byte ((x1 >>> (16 &&& 31)).toInt8.toInt32))) ((6 : Int32).toNatClampNeg) (vp_nar .byte ((x1 >>> (8 &&& 31)).toInt8.toInt32))) ((7 : Int32).toNatClampNeg) (vp_nar .byte ((x1 >>> (0 &&& 31)).toInt8.toInt32))) ((8 : Int32).toNatClampNeg) (vp_nar .byte ((x2 >>> (24 &&& 31)).toInt8.toInt32))) ((9 : Int32).toNatClampNeg) (vp_nar .byte ((x2 >>> (16 &&& 31)).toInt8.toInt32))) ((10 : Int32).toNatClampNeg) (vp_nar .byte ((x2 >>> (8 &&& 31)).toInt8.toInt32))) ((11 : Int32).toNatClampNeg) (vp_nar .byte ((x2 >>> (0 &&& 31)).toInt8.toInt32))) ((12 : Int32).toNatClampNeg) (vp_nar .byte ((x3 >>> (24 &&& 31)).toInt8.toInt32))) ((13 : Int32).toNatClampNeg) (vp_nar .byte ((x3 >>> (16 &&& 31)).toInt8.toInt32))) ((14 : Int32).toNatClampNeg) (vp_nar .byte ((x3 >>> (8 &&& 31)).toInt8.toInt32))) ((15 : Int32).toNatClampNeg) (vp_nar .byte ((x3 >>> (0 &&& 31)).toInt8.toInt32))) ((16 : Int32).toNatClampNeg) (vp_nar .byte ((x4 >>> (24 &&& 31)).toInt8.toInt32))) ((17 : Int32).toNatClampNeg) (vp_nar .byte ((x4 >>> (16 &&& 31)).toInt8.toInt32))) ((18 : Int32).toNatClampNeg) (vp_nar .byte ((x4 >>> (8 &&& 31)).toInt8.toInt32))) ((19 : Int32).toNatClampNeg) (vp_nar .byte ((x4 >>> (0 &&& 31)).toInt8.toInt32)))))) ∧ True) ∧ ∀ j : Nat, j ≠ 157 → j ≠ 158 → H1[j]? = H[j]?) := by
  refine ex_s (am_nb (m := 2) (pc1 := 2) (ls1 := [(0, .ref 157), (1, .int x0), (2, .int x1), (3, .int x2), (4, .int x3), (5, .int x4)]) (st1 := [.int 0, .ref 157]) (H1 := H) (k1 := 0) (n1 := 0) (by with_unfolding_all rfl)) ?_
  refine ex_put rfl h157 rfl rfl rfl ?_
  intro H331 f331 k331
  refine ex_s (am_nb (m := 1) (pc1 := 6) (ls1 := [(0, .ref 157), (1, .int x0), (2, .int x1), (3, .int x2), (4, .int x3), (5, .int x4)]) (st1 := [.ref 157]) (H1 := H331) (k1 := 0) (n1 := 0) (by with_unfolding_all rfl)) ?_
  refine ex_s (st_get rfl f331 rfl) ?_
  refine ex_s (am_nb (m := 16) (pc1 := 79) (ls1 := [(7, .int x0), (6, .int 0), (0, .ref 157), (1, .int x0), (2, .int x1), (3, .int x2), (4, .int x3), (5, .int x4)]) (st1 := [.ref 157]) (H1 := H331) (k1 := 0) (n1 := 0) (by with_unfolding_all rfl)) ?_
  refine ex_s (st_get rfl f331 rfl) ?_
  refine ex_s (am_nb (m := 1) (pc1 := 83) (ls1 := [(7, .int x0), (6, .int 0), (0, .ref 157), (1, .int x0), (2, .int x1), (3, .int x2), (4, .int x3), (5, .int x4)]) (st1 := [.ref 157, .ref 158]) (H1 := H331) (k1 := 0) (n1 := 0) (by with_unfolding_all rfl)) ?_
  refine ex_s (st_get rfl f331 rfl) ?_
  refine ex_s (am_nb (m := 12) (pc1 := 102) (ls1 := [(7, .int x0), (6, .int 0), (0, .ref 157), (1, .int x0), (2, .int x1), (3, .int x2), (4, .int x3), (5, .int x4)]) (st1 := [.int ((x0 >>> (24 &&& 31)).toInt8.toInt32), .int 0, .ref 158]) (H1 := H331) (k1 := 0) (n1 := 0) (by with_unfolding_all rfl)) ?_
  refine ex_bast rfl ((k331 158 (by decide)).trans h158) (by decide) ?_
  intro H332 f332 k332
  refine ex_s (am_nb (m := 12) (pc1 := 79) (ls1 := [(7, .int x0), (6, .int 1), (0, .ref 157), (1, .int x0), (2, .int x1), (3, .int x2), (4, .int x3), (5, .int x4)]) (st1 := [.ref 157]) (H1 := H332) (k1 := 0) (n1 := 0) (by with_unfolding_all rfl)) ?_
  refine ex_s (st_get rfl ((k332 157 (by decide)).trans f331) rfl) ?_
  refine ex_s (am_nb (m := 1) (pc1 := 83) (ls1 := [(7, .int x0), (6, .int 1), (0, .ref 157), (1, .int x0), (2, .int x1), (3, .int x2), (4, .int x3), (5, .int x4)]) (st1 := [.ref 157, .ref 158]) (H1 := H332) (k1 := 0) (n1 := 0) (by with_unfolding_all rfl)) ?_
  refine ex_s (st_get rfl ((k332 157 (by decide)).trans f331) rfl) ?_
  refine ex_s (am_nb (m := 12) (pc1 := 102) (ls1 := [(7, .int x0), (6, .int 1), (0, .ref 157), (1, .int x0), (2, .int x1), (3, .int x2), (4, .int x3), (5, .int x4)]) (st1 := [.int ((x0 >>> (16 &&& 31)).toInt8.toInt32), .int 1, .ref 158]) (H1 := H332) (k1 := 0) (n1 := 0) (by with_unfolding_all rfl)) ?_
  refine ex_bast rfl f332 (by decide) ?_
  intro H333 f333 k333
  refine ex_s (am_nb (m := 12) (pc1 := 79) (ls1 := [(7, .int x0), (6, .int 2), (0, .ref 157), (1, .int x0), (2, .int x1), (3, .int x2), (4, .int x3), (5, .int x4)]) (st1 := [.ref 157]) (H1 := H333) (k1 := 0) (n1 := 0) (by with_unfolding_all rfl)) ?_
  refine ex_s (st_get rfl ((k333 157 (by decide)).trans ((k332 157 (by decide)).trans f331)) rfl) ?_
  refine ex_s (am_nb (m := 1) (pc1 := 83) (ls1 := [(7, .int x0), (6, .int 2), (0, .ref 157), (1, .int x0), (2, .int x1), (3, .int x2), (4, .int x3), (5, .int x4)]) (st1 := [.ref 157, .ref 158]) (H1 := H333) (k1 := 0) (n1 := 0) (by with_unfolding_all rfl)) ?_
  refine ex_s (st_get rfl ((k333 157 (by decide)).trans ((k332 157 (by decide)).trans f331)) rfl) ?_
  refine ex_s (am_nb (m := 12) (pc1 := 102) (ls1 := [(7, .int x0), (6, .int 2), (0, .ref 157), (1, .int x0), (2, .int x1), (3, .int x2), (4, .int x3), (5, .int x4)]) (st1 := [.int ((x0 >>> (8 &&& 31)).toInt8.toInt32), .int 2, .ref 158]) (H1 := H333) (k1 := 0) (n1 := 0) (by with_unfolding_all rfl)) ?_
  refine ex_bast rfl f333 (by decide) ?_
  intro H334 f334 k334
  refine ex_s (am_nb (m := 12) (pc1 := 79) (ls1 := [(7, .int x0), (6, .int 3), (0, .ref 157), (1, .int x0), (2, .int x1), (3, .int x2), (4, .int x3), (5, .int x4)]) (st1 := [.ref 157]) (H1 := H334) (k1 := 0) (n1 := 0) (by with_unfolding_all rfl)) ?_
  refine ex_s (st_get rfl ((k334 157 (by decide)).trans ((k333 157 (by decide)).trans ((k332 157 (by decide)).trans f331))) rfl) ?_
  refine ex_s (am_nb (m := 1) (pc1 := 83) (ls1 := [(7, .int x0), (6, .int 3), (0, .ref 157), (1, .int x0), (2, .int x1), (3, .int x2), (4, .int x3), (5, .int x4)]) (st1 := [.ref 157, .ref 158]) (H1 := H334) (k1 := 0) (n1 := 0) (by with_unfolding_all rfl)) ?_
  refine ex_s (st_get rfl ((k334 157 (by decide)).trans ((k333 157 (by decide)).trans ((k332 157 (by decide)).trans f331))) rfl) ?_
  refine ex_s (am_nb (m := 12) (pc1 := 102) (ls1 := [(7, .int x0), (6, .int 3), (0, .ref 157), (1, .int x0), (2, .int x1), (3, .int x2), (4, .int x3), (5, .int x4)]) (st1 := [.int ((x0 >>> (0 &&& 31)).toInt8.toInt32), .int 3, .ref 158]) (H1 := H334) (k1 := 0) (n1 := 0) (by with_unfolding_all rfl)) ?_
  refine ex_bast rfl f334 (by decide) ?_
  intro H335 f335 k335
  refine ex_s (am_nb (m := 15) (pc1 := 79) (ls1 := [(7, .int x1), (6, .int 4), (0, .ref 157), (1, .int x0), (2, .int x1), (3, .int x2), (4, .int x3), (5, .int x4)]) (st1 := [.ref 157]) (H1 := H335) (k1 := 0) (n1 := 0) (by with_unfolding_all rfl)) ?_
  refine ex_s (st_get rfl ((k335 157 (by decide)).trans ((k334 157 (by decide)).trans ((k333 157 (by decide)).trans ((k332 157 (by decide)).trans f331)))) rfl) ?_
  refine ex_s (am_nb (m := 1) (pc1 := 83) (ls1 := [(7, .int x1), (6, .int 4), (0, .ref 157), (1, .int x0), (2, .int x1), (3, .int x2), (4, .int x3), (5, .int x4)]) (st1 := [.ref 157, .ref 158]) (H1 := H335) (k1 := 0) (n1 := 0) (by with_unfolding_all rfl)) ?_
  refine ex_s (st_get rfl ((k335 157 (by decide)).trans ((k334 157 (by decide)).trans ((k333 157 (by decide)).trans ((k332 157 (by decide)).trans f331)))) rfl) ?_
  refine ex_s (am_nb (m := 12) (pc1 := 102) (ls1 := [(7, .int x1), (6, .int 4), (0, .ref 157), (1, .int x0), (2, .int x1), (3, .int x2), (4, .int x3), (5, .int x4)]) (st1 := [.int ((x1 >>> (24 &&& 31)).toInt8.toInt32), .int 4, .ref 158]) (H1 := H335) (k1 := 0) (n1 := 0) (by with_unfolding_all rfl)) ?_
  refine ex_bast rfl f335 (by decide) ?_
  intro H336 f336 k336
  refine ex_s (am_nb (m := 15) (pc1 := 79) (ls1 := [(7, .int x1), (6, .int 5), (0, .ref 157), (1, .int x0), (2, .int x1), (3, .int x2), (4, .int x3), (5, .int x4)]) (st1 := [.ref 157]) (H1 := H336) (k1 := 0) (n1 := 0) (by with_unfolding_all rfl)) ?_
  refine ex_s (st_get rfl ((k336 157 (by decide)).trans ((k335 157 (by decide)).trans ((k334 157 (by decide)).trans ((k333 157 (by decide)).trans ((k332 157 (by decide)).trans f331))))) rfl) ?_
  refine ex_s (am_nb (m := 1) (pc1 := 83) (ls1 := [(7, .int x1), (6, .int 5), (0, .ref 157), (1, .int x0), (2, .int x1), (3, .int x2), (4, .int x3), (5, .int x4)]) (st1 := [.ref 157, .ref 158]) (H1 := H336) (k1 := 0) (n1 := 0) (by with_unfolding_all rfl)) ?_
  refine ex_s (st_get rfl ((k336 157 (by decide)).trans ((k335 157 (by decide)).trans ((k334 157 (by decide)).trans ((k333 157 (by decide)).trans ((k332 157 (by decide)).trans f331))))) rfl) ?_
  refine ex_s (am_nb (m := 12) (pc1 := 102) (ls1 := [(7, .int x1), (6, .int 5), (0, .ref 157), (1, .int x0), (2, .int x1), (3, .int x2), (4, .int x3), (5, .int x4)]) (st1 := [.int ((x1 >>> (16 &&& 31)).toInt8.toInt32), .int 5, .ref 158]) (H1 := H336) (k1 := 0) (n1 := 0) (by with_unfolding_all rfl)) ?_
  refine ex_bast rfl f336 (by decide) ?_
  intro H337 f337 k337
  refine ex_s (am_nb (m := 15) (pc1 := 79) (ls1 := [(7, .int x1), (6, .int 6), (0, .ref 157), (1, .int x0), (2, .int x1), (3, .int x2), (4, .int x3), (5, .int x4)]) (st1 := [.ref 157]) (H1 := H337) (k1 := 0) (n1 := 0) (by with_unfolding_all rfl)) ?_
  refine ex_s (st_get rfl ((k337 157 (by decide)).trans ((k336 157 (by decide)).trans ((k335 157 (by decide)).trans ((k334 157 (by decide)).trans ((k333 157 (by decide)).trans ((k332 157 (by decide)).trans f331)))))) rfl) ?_
  refine ex_s (am_nb (m := 1) (pc1 := 83) (ls1 := [(7, .int x1), (6, .int 6), (0, .ref 157), (1, .int x0), (2, .int x1), (3, .int x2), (4, .int x3), (5, .int x4)]) (st1 := [.ref 157, .ref 158]) (H1 := H337) (k1 := 0) (n1 := 0) (by with_unfolding_all rfl)) ?_
  refine ex_s (st_get rfl ((k337 157 (by decide)).trans ((k336 157 (by decide)).trans ((k335 157 (by decide)).trans ((k334 157 (by decide)).trans ((k333 157 (by decide)).trans ((k332 157 (by decide)).trans f331)))))) rfl) ?_
  refine ex_s (am_nb (m := 12) (pc1 := 102) (ls1 := [(7, .int x1), (6, .int 6), (0, .ref 157), (1, .int x0), (2, .int x1), (3, .int x2), (4, .int x3), (5, .int x4)]) (st1 := [.int ((x1 >>> (8 &&& 31)).toInt8.toInt32), .int 6, .ref 158]) (H1 := H337) (k1 := 0) (n1 := 0) (by with_unfolding_all rfl)) ?_
  refine ex_bast rfl f337 (by decide) ?_
  intro H338 f338 k338
  refine ex_s (am_nb (m := 15) (pc1 := 79) (ls1 := [(7, .int x1), (6, .int 7), (0, .ref 157), (1, .int x0), (2, .int x1), (3, .int x2), (4, .int x3), (5, .int x4)]) (st1 := [.ref 157]) (H1 := H338) (k1 := 0) (n1 := 0) (by with_unfolding_all rfl)) ?_
  refine ex_s (st_get rfl ((k338 157 (by decide)).trans ((k337 157 (by decide)).trans ((k336 157 (by decide)).trans ((k335 157 (by decide)).trans ((k334 157 (by decide)).trans ((k333 157 (by decide)).trans ((k332 157 (by decide)).trans f331))))))) rfl) ?_
  refine ex_s (am_nb (m := 1) (pc1 := 83) (ls1 := [(7, .int x1), (6, .int 7), (0, .ref 157), (1, .int x0), (2, .int x1), (3, .int x2), (4, .int x3), (5, .int x4)]) (st1 := [.ref 157, .ref 158]) (H1 := H338) (k1 := 0) (n1 := 0) (by with_unfolding_all rfl)) ?_
  refine ex_s (st_get rfl ((k338 157 (by decide)).trans ((k337 157 (by decide)).trans ((k336 157 (by decide)).trans ((k335 157 (by decide)).trans ((k334 157 (by decide)).trans ((k333 157 (by decide)).trans ((k332 157 (by decide)).trans f331))))))) rfl) ?_
  refine ex_s (am_nb (m := 12) (pc1 := 102) (ls1 := [(7, .int x1), (6, .int 7), (0, .ref 157), (1, .int x0), (2, .int x1), (3, .int x2), (4, .int x3), (5, .int x4)]) (st1 := [.int ((x1 >>> (0 &&& 31)).toInt8.toInt32), .int 7, .ref 158]) (H1 := H338) (k1 := 0) (n1 := 0) (by with_unfolding_all rfl)) ?_
  refine ex_bast rfl f338 (by decide) ?_
  intro H339 f339 k339
  refine ex_s (am_nb (m := 18) (pc1 := 79) (ls1 := [(7, .int x2), (6, .int 8), (0, .ref 157), (1, .int x0), (2, .int x1), (3, .int x2), (4, .int x3), (5, .int x4)]) (st1 := [.ref 157]) (H1 := H339) (k1 := 0) (n1 := 0) (by with_unfolding_all rfl)) ?_
  refine ex_s (st_get rfl ((k339 157 (by decide)).trans ((k338 157 (by decide)).trans ((k337 157 (by decide)).trans ((k336 157 (by decide)).trans ((k335 157 (by decide)).trans ((k334 157 (by decide)).trans ((k333 157 (by decide)).trans ((k332 157 (by decide)).trans f331)))))))) rfl) ?_
  refine ex_s (am_nb (m := 1) (pc1 := 83) (ls1 := [(7, .int x2), (6, .int 8), (0, .ref 157), (1, .int x0), (2, .int x1), (3, .int x2), (4, .int x3), (5, .int x4)]) (st1 := [.ref 157, .ref 158]) (H1 := H339) (k1 := 0) (n1 := 0) (by with_unfolding_all rfl)) ?_
  refine ex_s (st_get rfl ((k339 157 (by decide)).trans ((k338 157 (by decide)).trans ((k337 157 (by decide)).trans ((k336 157 (by decide)).trans ((k335 157 (by decide)).trans ((k334 157 (by decide)).trans ((k333 157 (by decide)).trans ((k332 157 (by decide)).trans f331)))))))) rfl) ?_
  refine ex_s (am_nb (m := 12) (pc1 := 102) (ls1 := [(7, .int x2), (6, .int 8), (0, .ref 157), (1, .int x0), (2, .int x1), (3, .int x2), (4, .int x3), (5, .int x4)]) (st1 := [.int ((x2 >>> (24 &&& 31)).toInt8.toInt32), .int 8, .ref 158]) (H1 := H339) (k1 := 0) (n1 := 0) (by with_unfolding_all rfl)) ?_
  refine ex_bast rfl f339 (by decide) ?_
  intro H340 f340 k340
  refine ex_s (am_nb (m := 18) (pc1 := 79) (ls1 := [(7, .int x2), (6, .int 9), (0, .ref 157), (1, .int x0), (2, .int x1), (3, .int x2), (4, .int x3), (5, .int x4)]) (st1 := [.ref 157]) (H1 := H340) (k1 := 0) (n1 := 0) (by with_unfolding_all rfl)) ?_
  refine ex_s (st_get rfl ((k340 157 (by decide)).trans ((k339 157 (by decide)).trans ((k338 157 (by decide)).trans ((k337 157 (by decide)).trans ((k336 157 (by decide)).trans ((k335 157 (by decide)).trans ((k334 157 (by decide)).trans ((k333 157 (by decide)).trans ((k332 157 (by decide)).trans f331))))))))) rfl) ?_
  refine ex_s (am_nb (m := 1) (pc1 := 83) (ls1 := [(7, .int x2), (6, .int 9), (0, .ref 157), (1, .int x0), (2, .int x1), (3, .int x2), (4, .int x3), (5, .int x4)]) (st1 := [.ref 157, .ref 158]) (H1 := H340) (k1 := 0) (n1 := 0) (by with_unfolding_all rfl)) ?_
  refine ex_s (st_get rfl ((k340 157 (by decide)).trans ((k339 157 (by decide)).trans ((k338 157 (by decide)).trans ((k337 157 (by decide)).trans ((k336 157 (by decide)).trans ((k335 157 (by decide)).trans ((k334 157 (by decide)).trans ((k333 157 (by decide)).trans ((k332 157 (by decide)).trans f331))))))))) rfl) ?_
  refine ex_s (am_nb (m := 12) (pc1 := 102) (ls1 := [(7, .int x2), (6, .int 9), (0, .ref 157), (1, .int x0), (2, .int x1), (3, .int x2), (4, .int x3), (5, .int x4)]) (st1 := [.int ((x2 >>> (16 &&& 31)).toInt8.toInt32), .int 9, .ref 158]) (H1 := H340) (k1 := 0) (n1 := 0) (by with_unfolding_all rfl)) ?_
  refine ex_bast rfl f340 (by decide) ?_
  intro H341 f341 k341
  refine ex_s (am_nb (m := 18) (pc1 := 79) (ls1 := [(7, .int x2), (6, .int 10), (0, .ref 157), (1, .int x0), (2, .int x1), (3, .int x2), (4, .int x3), (5, .int x4)]) (st1 := [.ref 157]) (H1 := H341) (k1 := 0) (n1 := 0) (by with_unfolding_all rfl)) ?_
  refine ex_s (st_get rfl ((k341 157 (by decide)).trans ((k340 157 (by decide)).trans ((k339 157 (by decide)).trans ((k338 157 (by decide)).trans ((k337 157 (by decide)).trans ((k336 157 (by decide)).trans ((k335 157 (by decide)).trans ((k334 157 (by decide)).trans ((k333 157 (by decide)).trans ((k332 157 (by decide)).trans f331)))))))))) rfl) ?_
  refine ex_s (am_nb (m := 1) (pc1 := 83) (ls1 := [(7, .int x2), (6, .int 10), (0, .ref 157), (1, .int x0), (2, .int x1), (3, .int x2), (4, .int x3), (5, .int x4)]) (st1 := [.ref 157, .ref 158]) (H1 := H341) (k1 := 0) (n1 := 0) (by with_unfolding_all rfl)) ?_
  refine ex_s (st_get rfl ((k341 157 (by decide)).trans ((k340 157 (by decide)).trans ((k339 157 (by decide)).trans ((k338 157 (by decide)).trans ((k337 157 (by decide)).trans ((k336 157 (by decide)).trans ((k335 157 (by decide)).trans ((k334 157 (by decide)).trans ((k333 157 (by decide)).trans ((k332 157 (by decide)).trans f331)))))))))) rfl) ?_
  refine ex_s (am_nb (m := 12) (pc1 := 102) (ls1 := [(7, .int x2), (6, .int 10), (0, .ref 157), (1, .int x0), (2, .int x1), (3, .int x2), (4, .int x3), (5, .int x4)]) (st1 := [.int ((x2 >>> (8 &&& 31)).toInt8.toInt32), .int 10, .ref 158]) (H1 := H341) (k1 := 0) (n1 := 0) (by with_unfolding_all rfl)) ?_
  refine ex_bast rfl f341 (by decide) ?_
  intro H342 f342 k342
  refine ex_s (am_nb (m := 18) (pc1 := 79) (ls1 := [(7, .int x2), (6, .int 11), (0, .ref 157), (1, .int x0), (2, .int x1), (3, .int x2), (4, .int x3), (5, .int x4)]) (st1 := [.ref 157]) (H1 := H342) (k1 := 0) (n1 := 0) (by with_unfolding_all rfl)) ?_
  refine ex_s (st_get rfl ((k342 157 (by decide)).trans ((k341 157 (by decide)).trans ((k340 157 (by decide)).trans ((k339 157 (by decide)).trans ((k338 157 (by decide)).trans ((k337 157 (by decide)).trans ((k336 157 (by decide)).trans ((k335 157 (by decide)).trans ((k334 157 (by decide)).trans ((k333 157 (by decide)).trans ((k332 157 (by decide)).trans f331))))))))))) rfl) ?_
  refine ex_s (am_nb (m := 1) (pc1 := 83) (ls1 := [(7, .int x2), (6, .int 11), (0, .ref 157), (1, .int x0), (2, .int x1), (3, .int x2), (4, .int x3), (5, .int x4)]) (st1 := [.ref 157, .ref 158]) (H1 := H342) (k1 := 0) (n1 := 0) (by with_unfolding_all rfl)) ?_
  refine ex_s (st_get rfl ((k342 157 (by decide)).trans ((k341 157 (by decide)).trans ((k340 157 (by decide)).trans ((k339 157 (by decide)).trans ((k338 157 (by decide)).trans ((k337 157 (by decide)).trans ((k336 157 (by decide)).trans ((k335 157 (by decide)).trans ((k334 157 (by decide)).trans ((k333 157 (by decide)).trans ((k332 157 (by decide)).trans f331))))))))))) rfl) ?_
  refine ex_s (am_nb (m := 12) (pc1 := 102) (ls1 := [(7, .int x2), (6, .int 11), (0, .ref 157), (1, .int x0), (2, .int x1), (3, .int x2), (4, .int x3), (5, .int x4)]) (st1 := [.int ((x2 >>> (0 &&& 31)).toInt8.toInt32), .int 11, .ref 158]) (H1 := H342) (k1 := 0) (n1 := 0) (by with_unfolding_all rfl)) ?_
  refine ex_bast rfl f342 (by decide) ?_
  intro H343 f343 k343
  refine ex_s (am_nb (m := 21) (pc1 := 79) (ls1 := [(7, .int x3), (6, .int 12), (0, .ref 157), (1, .int x0), (2, .int x1), (3, .int x2), (4, .int x3), (5, .int x4)]) (st1 := [.ref 157]) (H1 := H343) (k1 := 0) (n1 := 0) (by with_unfolding_all rfl)) ?_
  refine ex_s (st_get rfl ((k343 157 (by decide)).trans ((k342 157 (by decide)).trans ((k341 157 (by decide)).trans ((k340 157 (by decide)).trans ((k339 157 (by decide)).trans ((k338 157 (by decide)).trans ((k337 157 (by decide)).trans ((k336 157 (by decide)).trans ((k335 157 (by decide)).trans ((k334 157 (by decide)).trans ((k333 157 (by decide)).trans ((k332 157 (by decide)).trans f331)))))))))))) rfl) ?_
  refine ex_s (am_nb (m := 1) (pc1 := 83) (ls1 := [(7, .int x3), (6, .int 12), (0, .ref 157), (1, .int x0), (2, .int x1), (3, .int x2), (4, .int x3), (5, .int x4)]) (st1 := [.ref 157, .ref 158]) (H1 := H343) (k1 := 0) (n1 := 0) (by with_unfolding_all rfl)) ?_
  refine ex_s (st_get rfl ((k343 157 (by decide)).trans ((k342 157 (by decide)).trans ((k341 157 (by decide)).trans ((k340 157 (by decide)).trans ((k339 157 (by decide)).trans ((k338 157 (by decide)).trans ((k337 157 (by decide)).trans ((k336 157 (by decide)).trans ((k335 157 (by decide)).trans ((k334 157 (by decide)).trans ((k333 157 (by decide)).trans ((k332 157 (by decide)).trans f331)))))))))))) rfl) ?_
  refine ex_s (am_nb (m := 12) (pc1 := 102) (ls1 := [(7, .int x3), (6, .int 12), (0, .ref 157), (1, .int x0), (2, .int x1), (3, .int x2), (4, .int x3), (5, .int x4)]) (st1 := [.int ((x3 >>> (24 &&& 31)).toInt8.toInt32), .int 12, .ref 158]) (H1 := H343) (k1 := 0) (n1 := 0) (by with_unfolding_all rfl)) ?_
  refine ex_bast rfl f343 (by decide) ?_
  intro H344 f344 k344
  refine ex_s (am_nb (m := 21) (pc1 := 79) (ls1 := [(7, .int x3), (6, .int 13), (0, .ref 157), (1, .int x0), (2, .int x1), (3, .int x2), (4, .int x3), (5, .int x4)]) (st1 := [.ref 157]) (H1 := H344) (k1 := 0) (n1 := 0) (by with_unfolding_all rfl)) ?_
  refine ex_s (st_get rfl ((k344 157 (by decide)).trans ((k343 157 (by decide)).trans ((k342 157 (by decide)).trans ((k341 157 (by decide)).trans ((k340 157 (by decide)).trans ((k339 157 (by decide)).trans ((k338 157 (by decide)).trans ((k337 157 (by decide)).trans ((k336 157 (by decide)).trans ((k335 157 (by decide)).trans ((k334 157 (by decide)).trans ((k333 157 (by decide)).trans ((k332 157 (by decide)).trans f331))))))))))))) rfl) ?_
  refine ex_s (am_nb (m := 1) (pc1 := 83) (ls1 := [(7, .int x3), (6, .int 13), (0, .ref 157), (1, .int x0), (2, .int x1), (3, .int x2), (4, .int x3), (5, .int x4)]) (st1 := [.ref 157, .ref 158]) (H1 := H344) (k1 := 0) (n1 := 0) (by with_unfolding_all rfl)) ?_
  refine ex_s (st_get rfl ((k344 157 (by decide)).trans ((k343 157 (by decide)).trans ((k342 157 (by decide)).trans ((k341 157 (by decide)).trans ((k340 157 (by decide)).trans ((k339 157 (by decide)).trans ((k338 157 (by decide)).trans ((k337 157 (by decide)).trans ((k336 157 (by decide)).trans ((k335 157 (by decide)).trans ((k334 157 (by decide)).trans ((k333 157 (by decide)).trans ((k332 157 (by decide)).trans f331))))))))))))) rfl) ?_
  refine ex_s (am_nb (m := 12) (pc1 := 102) (ls1 := [(7, .int x3), (6, .int 13), (0, .ref 157), (1, .int x0), (2, .int x1), (3, .int x2), (4, .int x3), (5, .int x4)]) (st1 := [.int ((x3 >>> (16 &&& 31)).toInt8.toInt32), .int 13, .ref 158]) (H1 := H344) (k1 := 0) (n1 := 0) (by with_unfolding_all rfl)) ?_
  refine ex_bast rfl f344 (by decide) ?_
  intro H345 f345 k345
  refine ex_s (am_nb (m := 21) (pc1 := 79) (ls1 := [(7, .int x3), (6, .int 14), (0, .ref 157), (1, .int x0), (2, .int x1), (3, .int x2), (4, .int x3), (5, .int x4)]) (st1 := [.ref 157]) (H1 := H345) (k1 := 0) (n1 := 0) (by with_unfolding_all rfl)) ?_
  refine ex_s (st_get rfl ((k345 157 (by decide)).trans ((k344 157 (by decide)).trans ((k343 157 (by decide)).trans ((k342 157 (by decide)).trans ((k341 157 (by decide)).trans ((k340 157 (by decide)).trans ((k339 157 (by decide)).trans ((k338 157 (by decide)).trans ((k337 157 (by decide)).trans ((k336 157 (by decide)).trans ((k335 157 (by decide)).trans ((k334 157 (by decide)).trans ((k333 157 (by decide)).trans ((k332 157 (by decide)).trans f331)))))))))))))) rfl) ?_
  refine ex_s (am_nb (m := 1) (pc1 := 83) (ls1 := [(7, .int x3), (6, .int 14), (0, .ref 157), (1, .int x0), (2, .int x1), (3, .int x2), (4, .int x3), (5, .int x4)]) (st1 := [.ref 157, .ref 158]) (H1 := H345) (k1 := 0) (n1 := 0) (by with_unfolding_all rfl)) ?_
  refine ex_s (st_get rfl ((k345 157 (by decide)).trans ((k344 157 (by decide)).trans ((k343 157 (by decide)).trans ((k342 157 (by decide)).trans ((k341 157 (by decide)).trans ((k340 157 (by decide)).trans ((k339 157 (by decide)).trans ((k338 157 (by decide)).trans ((k337 157 (by decide)).trans ((k336 157 (by decide)).trans ((k335 157 (by decide)).trans ((k334 157 (by decide)).trans ((k333 157 (by decide)).trans ((k332 157 (by decide)).trans f331)))))))))))))) rfl) ?_
  refine ex_s (am_nb (m := 12) (pc1 := 102) (ls1 := [(7, .int x3), (6, .int 14), (0, .ref 157), (1, .int x0), (2, .int x1), (3, .int x2), (4, .int x3), (5, .int x4)]) (st1 := [.int ((x3 >>> (8 &&& 31)).toInt8.toInt32), .int 14, .ref 158]) (H1 := H345) (k1 := 0) (n1 := 0) (by with_unfolding_all rfl)) ?_
  refine ex_bast rfl f345 (by decide) ?_
  intro H346 f346 k346
  refine ex_s (am_nb (m := 21) (pc1 := 79) (ls1 := [(7, .int x3), (6, .int 15), (0, .ref 157), (1, .int x0), (2, .int x1), (3, .int x2), (4, .int x3), (5, .int x4)]) (st1 := [.ref 157]) (H1 := H346) (k1 := 0) (n1 := 0) (by with_unfolding_all rfl)) ?_
  refine ex_s (st_get rfl ((k346 157 (by decide)).trans ((k345 157 (by decide)).trans ((k344 157 (by decide)).trans ((k343 157 (by decide)).trans ((k342 157 (by decide)).trans ((k341 157 (by decide)).trans ((k340 157 (by decide)).trans ((k339 157 (by decide)).trans ((k338 157 (by decide)).trans ((k337 157 (by decide)).trans ((k336 157 (by decide)).trans ((k335 157 (by decide)).trans ((k334 157 (by decide)).trans ((k333 157 (by decide)).trans ((k332 157 (by decide)).trans f331))))))))))))))) rfl) ?_
  refine ex_s (am_nb (m := 1) (pc1 := 83) (ls1 := [(7, .int x3), (6, .int 15), (0, .ref 157), (1, .int x0), (2, .int x1), (3, .int x2), (4, .int x3), (5, .int x4)]) (st1 := [.ref 157, .ref 158]) (H1 := H346) (k1 := 0) (n1 := 0) (by with_unfolding_all rfl)) ?_
  refine ex_s (st_get rfl ((k346 157 (by decide)).trans ((k345 157 (by decide)).trans ((k344 157 (by decide)).trans ((k343 157 (by decide)).trans ((k342 157 (by decide)).trans ((k341 157 (by decide)).trans ((k340 157 (by decide)).trans ((k339 157 (by decide)).trans ((k338 157 (by decide)).trans ((k337 157 (by decide)).trans ((k336 157 (by decide)).trans ((k335 157 (by decide)).trans ((k334 157 (by decide)).trans ((k333 157 (by decide)).trans ((k332 157 (by decide)).trans f331))))))))))))))) rfl) ?_
  refine ex_s (am_nb (m := 12) (pc1 := 102) (ls1 := [(7, .int x3), (6, .int 15), (0, .ref 157), (1, .int x0), (2, .int x1), (3, .int x2), (4, .int x3), (5, .int x4)]) (st1 := [.int ((x3 >>> (0 &&& 31)).toInt8.toInt32), .int 15, .ref 158]) (H1 := H346) (k1 := 0) (n1 := 0) (by with_unfolding_all rfl)) ?_
  refine ex_bast rfl f346 (by decide) ?_
  intro H347 f347 k347
  refine ex_s (am_nb (m := 20) (pc1 := 79) (ls1 := [(7, .int x4), (6, .int 16), (0, .ref 157), (1, .int x0), (2, .int x1), (3, .int x2), (4, .int x3), (5, .int x4)]) (st1 := [.ref 157]) (H1 := H347) (k1 := 0) (n1 := 0) (by with_unfolding_all rfl)) ?_
  refine ex_s (st_get rfl ((k347 157 (by decide)).trans ((k346 157 (by decide)).trans ((k345 157 (by decide)).trans ((k344 157 (by decide)).trans ((k343 157 (by decide)).trans ((k342 157 (by decide)).trans ((k341 157 (by decide)).trans ((k340 157 (by decide)).trans ((k339 157 (by decide)).trans ((k338 157 (by decide)).trans ((k337 157 (by decide)).trans ((k336 157 (by decide)).trans ((k335 157 (by decide)).trans ((k334 157 (by decide)).trans ((k333 157 (by decide)).trans ((k332 157 (by decide)).trans f331)))))))))))))))) rfl) ?_
  refine ex_s (am_nb (m := 1) (pc1 := 83) (ls1 := [(7, .int x4), (6, .int 16), (0, .ref 157), (1, .int x0), (2, .int x1), (3, .int x2), (4, .int x3), (5, .int x4)]) (st1 := [.ref 157, .ref 158]) (H1 := H347) (k1 := 0) (n1 := 0) (by with_unfolding_all rfl)) ?_
  refine ex_s (st_get rfl ((k347 157 (by decide)).trans ((k346 157 (by decide)).trans ((k345 157 (by decide)).trans ((k344 157 (by decide)).trans ((k343 157 (by decide)).trans ((k342 157 (by decide)).trans ((k341 157 (by decide)).trans ((k340 157 (by decide)).trans ((k339 157 (by decide)).trans ((k338 157 (by decide)).trans ((k337 157 (by decide)).trans ((k336 157 (by decide)).trans ((k335 157 (by decide)).trans ((k334 157 (by decide)).trans ((k333 157 (by decide)).trans ((k332 157 (by decide)).trans f331)))))))))))))))) rfl) ?_
  refine ex_s (am_nb (m := 12) (pc1 := 102) (ls1 := [(7, .int x4), (6, .int 16), (0, .ref 157), (1, .int x0), (2, .int x1), (3, .int x2), (4, .int x3), (5, .int x4)]) (st1 := [.int ((x4 >>> (24 &&& 31)).toInt8.toInt32), .int 16, .ref 158]) (H1 := H347) (k1 := 0) (n1 := 0) (by with_unfolding_all rfl)) ?_
  refine ex_bast rfl f347 (by decide) ?_
  intro H348 f348 k348
  refine ex_s (am_nb (m := 20) (pc1 := 79) (ls1 := [(7, .int x4), (6, .int 17), (0, .ref 157), (1, .int x0), (2, .int x1), (3, .int x2), (4, .int x3), (5, .int x4)]) (st1 := [.ref 157]) (H1 := H348) (k1 := 0) (n1 := 0) (by with_unfolding_all rfl)) ?_
  refine ex_s (st_get rfl ((k348 157 (by decide)).trans ((k347 157 (by decide)).trans ((k346 157 (by decide)).trans ((k345 157 (by decide)).trans ((k344 157 (by decide)).trans ((k343 157 (by decide)).trans ((k342 157 (by decide)).trans ((k341 157 (by decide)).trans ((k340 157 (by decide)).trans ((k339 157 (by decide)).trans ((k338 157 (by decide)).trans ((k337 157 (by decide)).trans ((k336 157 (by decide)).trans ((k335 157 (by decide)).trans ((k334 157 (by decide)).trans ((k333 157 (by decide)).trans ((k332 157 (by decide)).trans f331))))))))))))))))) rfl) ?_
  refine ex_s (am_nb (m := 1) (pc1 := 83) (ls1 := [(7, .int x4), (6, .int 17), (0, .ref 157), (1, .int x0), (2, .int x1), (3, .int x2), (4, .int x3), (5, .int x4)]) (st1 := [.ref 157, .ref 158]) (H1 := H348) (k1 := 0) (n1 := 0) (by with_unfolding_all rfl)) ?_
  refine ex_s (st_get rfl ((k348 157 (by decide)).trans ((k347 157 (by decide)).trans ((k346 157 (by decide)).trans ((k345 157 (by decide)).trans ((k344 157 (by decide)).trans ((k343 157 (by decide)).trans ((k342 157 (by decide)).trans ((k341 157 (by decide)).trans ((k340 157 (by decide)).trans ((k339 157 (by decide)).trans ((k338 157 (by decide)).trans ((k337 157 (by decide)).trans ((k336 157 (by decide)).trans ((k335 157 (by decide)).trans ((k334 157 (by decide)).trans ((k333 157 (by decide)).trans ((k332 157 (by decide)).trans f331))))))))))))))))) rfl) ?_
  refine ex_s (am_nb (m := 12) (pc1 := 102) (ls1 := [(7, .int x4), (6, .int 17), (0, .ref 157), (1, .int x0), (2, .int x1), (3, .int x2), (4, .int x3), (5, .int x4)]) (st1 := [.int ((x4 >>> (16 &&& 31)).toInt8.toInt32), .int 17, .ref 158]) (H1 := H348) (k1 := 0) (n1 := 0) (by with_unfolding_all rfl)) ?_
  refine ex_bast rfl f348 (by decide) ?_
  intro H349 f349 k349
  refine ex_s (am_nb (m := 20) (pc1 := 79) (ls1 := [(7, .int x4), (6, .int 18), (0, .ref 157), (1, .int x0), (2, .int x1), (3, .int x2), (4, .int x3), (5, .int x4)]) (st1 := [.ref 157]) (H1 := H349) (k1 := 0) (n1 := 0) (by with_unfolding_all rfl)) ?_
  refine ex_s (st_get rfl ((k349 157 (by decide)).trans ((k348 157 (by decide)).trans ((k347 157 (by decide)).trans ((k346 157 (by decide)).trans ((k345 157 (by decide)).trans ((k344 157 (by decide)).trans ((k343 157 (by decide)).trans ((k342 157 (by decide)).trans ((k341 157 (by decide)).trans ((k340 157 (by decide)).trans ((k339 157 (by decide)).trans ((k338 157 (by decide)).trans ((k337 157 (by decide)).trans ((k336 157 (by decide)).trans ((k335 157 (by decide)).trans ((k334 157 (by decide)).trans ((k333 157 (by decide)).trans ((k332 157 (by decide)).trans f331)))))))))))))))))) rfl) ?_
  refine ex_s (am_nb (m := 1) (pc1 := 83) (ls1 := [(7, .int x4), (6, .int 18), (0, .ref 157), (1, .int x0), (2, .int x1), (3, .int x2), (4, .int x3), (5, .int x4)]) (st1 := [.ref 157, .ref 158]) (H1 := H349) (k1 := 0) (n1 := 0) (by with_unfolding_all rfl)) ?_
  refine ex_s (st_get rfl ((k349 157 (by decide)).trans ((k348 157 (by decide)).trans ((k347 157 (by decide)).trans ((k346 157 (by decide)).trans ((k345 157 (by decide)).trans ((k344 157 (by decide)).trans ((k343 157 (by decide)).trans ((k342 157 (by decide)).trans ((k341 157 (by decide)).trans ((k340 157 (by decide)).trans ((k339 157 (by decide)).trans ((k338 157 (by decide)).trans ((k337 157 (by decide)).trans ((k336 157 (by decide)).trans ((k335 157 (by decide)).trans ((k334 157 (by decide)).trans ((k333 157 (by decide)).trans ((k332 157 (by decide)).trans f331)))))))))))))))))) rfl) ?_
  refine ex_s (am_nb (m := 12) (pc1 := 102) (ls1 := [(7, .int x4), (6, .int 18), (0, .ref 157), (1, .int x0), (2, .int x1), (3, .int x2), (4, .int x3), (5, .int x4)]) (st1 := [.int ((x4 >>> (8 &&& 31)).toInt8.toInt32), .int 18, .ref 158]) (H1 := H349) (k1 := 0) (n1 := 0) (by with_unfolding_all rfl)) ?_
  refine ex_bast rfl f349 (by decide) ?_
  intro H350 f350 k350
  refine ex_s (am_nb (m := 20) (pc1 := 79) (ls1 := [(7, .int x4), (6, .int 19), (0, .ref 157), (1, .int x0), (2, .int x1), (3, .int x2), (4, .int x3), (5, .int x4)]) (st1 := [.ref 157]) (H1 := H350) (k1 := 0) (n1 := 0) (by with_unfolding_all rfl)) ?_
  refine ex_s (st_get rfl ((k350 157 (by decide)).trans ((k349 157 (by decide)).trans ((k348 157 (by decide)).trans ((k347 157 (by decide)).trans ((k346 157 (by decide)).trans ((k345 157 (by decide)).trans ((k344 157 (by decide)).trans ((k343 157 (by decide)).trans ((k342 157 (by decide)).trans ((k341 157 (by decide)).trans ((k340 157 (by decide)).trans ((k339 157 (by decide)).trans ((k338 157 (by decide)).trans ((k337 157 (by decide)).trans ((k336 157 (by decide)).trans ((k335 157 (by decide)).trans ((k334 157 (by decide)).trans ((k333 157 (by decide)).trans ((k332 157 (by decide)).trans f331))))))))))))))))))) rfl) ?_
  refine ex_s (am_nb (m := 1) (pc1 := 83) (ls1 := [(7, .int x4), (6, .int 19), (0, .ref 157), (1, .int x0), (2, .int x1), (3, .int x2), (4, .int x3), (5, .int x4)]) (st1 := [.ref 157, .ref 158]) (H1 := H350) (k1 := 0) (n1 := 0) (by with_unfolding_all rfl)) ?_
  refine ex_s (st_get rfl ((k350 157 (by decide)).trans ((k349 157 (by decide)).trans ((k348 157 (by decide)).trans ((k347 157 (by decide)).trans ((k346 157 (by decide)).trans ((k345 157 (by decide)).trans ((k344 157 (by decide)).trans ((k343 157 (by decide)).trans ((k342 157 (by decide)).trans ((k341 157 (by decide)).trans ((k340 157 (by decide)).trans ((k339 157 (by decide)).trans ((k338 157 (by decide)).trans ((k337 157 (by decide)).trans ((k336 157 (by decide)).trans ((k335 157 (by decide)).trans ((k334 157 (by decide)).trans ((k333 157 (by decide)).trans ((k332 157 (by decide)).trans f331))))))))))))))))))) rfl) ?_
  refine ex_s (am_nb (m := 12) (pc1 := 102) (ls1 := [(7, .int x4), (6, .int 19), (0, .ref 157), (1, .int x0), (2, .int x1), (3, .int x2), (4, .int x3), (5, .int x4)]) (st1 := [.int ((x4 >>> (0 &&& 31)).toInt8.toInt32), .int 19, .ref 158]) (H1 := H350) (k1 := 0) (n1 := 0) (by with_unfolding_all rfl)) ?_
  refine ex_bast rfl f350 (by decide) ?_
  intro H351 f351 k351
  refine ex_s (am_nb (m := 7) (pc1 := 111) (ls1 := [(6, .int 20), (7, .int x4), (0, .ref 157), (1, .int x0), (2, .int x1), (3, .int x2), (4, .int x3), (5, .int x4)]) (st1 := [.ref 157, .ref 157]) (H1 := H351) (k1 := 0) (n1 := 0) (by with_unfolding_all rfl)) ?_
  refine ex_s (st_get rfl ((k351 157 (by decide)).trans ((k350 157 (by decide)).trans ((k349 157 (by decide)).trans ((k348 157 (by decide)).trans ((k347 157 (by decide)).trans ((k346 157 (by decide)).trans ((k345 157 (by decide)).trans ((k344 157 (by decide)).trans ((k343 157 (by decide)).trans ((k342 157 (by decide)).trans ((k341 157 (by decide)).trans ((k340 157 (by decide)).trans ((k339 157 (by decide)).trans ((k338 157 (by decide)).trans ((k337 157 (by decide)).trans ((k336 157 (by decide)).trans ((k335 157 (by decide)).trans ((k334 157 (by decide)).trans ((k333 157 (by decide)).trans ((k332 157 (by decide)).trans f331)))))))))))))))))))) rfl) ?_
  refine ex_s (am_nb (m := 2) (pc1 := 117) (ls1 := [(6, .int 20), (7, .int x4), (0, .ref 157), (1, .int x0), (2, .int x1), (3, .int x2), (4, .int x3), (5, .int x4)]) (st1 := [.int 20, .ref 157]) (H1 := H351) (k1 := 0) (n1 := 0) (by with_unfolding_all rfl)) ?_
  refine ex_put rfl ((k351 157 (by decide)).trans ((k350 157 (by decide)).trans ((k349 157 (by decide)).trans ((k348 157 (by decide)).trans ((k347 157 (by decide)).trans ((k346 157 (by decide)).trans ((k345 157 (by decide)).trans ((k344 157 (by decide)).trans ((k343 157 (by decide)).trans ((k342 157 (by decide)).trans ((k341 157 (by decide)).trans ((k340 157 (by decide)).trans ((k339 157 (by decide)).trans ((k338 157 (by decide)).trans ((k337 157 (by decide)).trans ((k336 157 (by decide)).trans ((k335 157 (by decide)).trans ((k334 157 (by decide)).trans ((k333 157 (by decide)).trans ((k332 157 (by decide)).trans f331)))))))))))))))))))) rfl rfl rfl ?_
  intro H352 f352 k352
  refine ex_s (am_nb (m := 1) (pc1 := 121) (ls1 := [(6, .int 20), (7, .int x4), (0, .ref 157), (1, .int x0), (2, .int x1), (3, .int x2), (4, .int x3), (5, .int x4)]) (st1 := [.int 1]) (H1 := H352) (k1 := 0) (n1 := 0) (by with_unfolding_all rfl)) ?_
  exact ex_r (st_iret rfl rfl rfl) ⟨⟨f352, ((k352 158 (by decide)).trans f351), trivial⟩, fun j n157 n158 => ((k352 j n157).trans ((k351 j n158).trans ((k350 j n158).trans ((k349 j n158).trans ((k348 j n158).trans ((k347 j n158).trans ((k346 j n158).trans ((k345 j n158).trans ((k344 j n158).trans ((k343 j n158).trans ((k342 j n158).trans ((k341 j n158).trans ((k340 j n158).trans ((k339 j n158).trans ((k338 j n158).trans ((k337 j n158).trans ((k336 j n158).trans ((k335 j n158).trans ((k334 j n158).trans ((k333 j n158).trans ((k332 j n158).trans (k331 j n157))))))))))))))))))))))⟩

set_option maxRecDepth 100000 in
theorem fm_end_0 {sL : Nat} {sx : Nat → Int32} {cs : Nat → Nat → Option Int32} {H : am_H} {v157_68 : Int32} {v157_69 : Int32} {v157_70 : Int32} {v157_96 : Int32} {x0 : Int32} (h157 : am_is H 157 (.inr (12, [.int 0, .ref 158, .int 0, .ref 159, .int 0, .int 0, .ref 160, .ref 161, .ref 162, .ref 163, .ref 164, .ref 165, .ref 166, .int 0, .int (-1), .int 0, .int 0, .int 0, .ref 167, .int 0, .int 0, .int (-1), .ref 168, .int 0, .ref 169, .int 0, .int 0, .int 0, .ref 170, .ref 171, .int 0, .int 0, .int (-1), .int (-1), .int 0, .int 0, .int 0, .ref 172, .ref 173, .ref 174, .ref 175, .ref 176, .ref 177, .ref 178, .ref 179, .ref 180, .ref 181, .ref 182, .ref 183, .int 0, .int 0, .int 0, .int 0, .int 0, .ref 184, .int 0, .int 0, .int 0, .int 127, .int 0, .int 0, .int 0, .int 0, .int 0, .ref 185, .int 0, .ref 186, .int 0, .int v157_68, .int v157_69, .int v157_70, .int 0, .int 0, .int 0, .int (-1), .int (-1), .int 0, .int 0, .ref 187, .int 0, .int 0, .int 0, .int 0, .int 0, .int 0, .int 0, .ref 188, .int 0, .ref 189, .int 0, .ref 190, .ref 191, .ref 192, .int 0, .int 0, .int 0, .int v157_96, .int 0, .int 96, .int 0, .int 0, .int 0, .int 0, .int 0, .int 0, .int 0, .int 0, .int 0, .int 0, .int 0, .int 0, .int 0, .int 0, .int 0, .ref 193, .int 0, .int 0, .int 0, .ref 194, .ref 195, .int (-1), .int 0]))) (c1 : x0 < 0)  :
    am_E sL sx cs 262 0 [(0, .ref 157), (1, .int x0)] [] H (some (.int 0)) (fun H1 => (am_is H1 157 (.inr (12, [.int 0, .ref 158, .int 0, .ref 159, .int 0, .int 0, .ref 160, .ref 161, .ref 162, .ref 163, .ref 164, .ref 165, .ref 166, .int 0, .int (-1), .int 0, .int 0, .int 0, .ref 167, .int 0, .int 0, .int (-1), .ref 168, .int 0, .ref 169, .int 0, .int 0, .int 0, .ref 170, .ref 171, .int 0, .int 0, .int (-1), .int (-1), .int 0, .int 0, .int 0, .ref 172, .ref 173, .ref 174, .ref 175, .ref 176, .ref 177, .ref 178, .ref 179, .ref 180, .ref 181, .ref 182, .ref 183, .int 0, .int 0, .int 0, .int 0, .int 0, .ref 184, .int 0, .int 0, .int 0, .int 127, .int 0, .int 0, .int 0, .int 0, .int 0, .ref 185, .int 0, .ref 186, .int 0, .int v157_68, .int v157_69, .int v157_70, .int 0, .int 0, .int 0, .int (-1), .int (-1), .int 0, .int 0, .ref 187, .int 0, .int 0, .int 0, .int 0, .int 0, .int 0, .int 0, .ref 188, .int 0, .ref 189, .int 0, .ref 190, .ref 191, .ref 192, .int 0, .int 0, .int 0, .int v157_96, .int 0, .int 96, .int 0, .int 0, .int 0, .int 0, .int 0, .int 0, .int 0, .int 0, .int 0, .int 0, .int 0, .int 0, .int 0, .int 0, .int 0, .ref 193, .int 0, .int 0, .int 0, .ref 194, .ref 195, .int (-1), .int 0])) ∧ True) ∧ ∀ j : Nat, j ≠ 157 → H1[j]? = H[j]?) := by
  refine ex_s (am_nb (m := 2) (pc1 := 2) (ls1 := [(0, .ref 157), (1, .int x0)]) (st1 := [.int 0, .ref 157]) (H1 := H) (k1 := 0) (n1 := 0) (by with_unfolding_all rfl)) ?_
  refine ex_put rfl h157 rfl rfl rfl ?_
  intro H353 f353 k353
  refine ex_s (am_nb (m := 1) (pc1 := 6) (ls1 := [(0, .ref 157), (1, .int x0)]) (st1 := [.int x0]) (H1 := H353) (k1 := 0) (n1 := 0) (by with_unfolding_all rfl)) ?_
  refine ex_s (st_if rfl) ?_
  refine ex_pc (if_pos c1) ?_
  refine ex_s (am_nb (m := 1) (pc1 := 18) (ls1 := [(0, .ref 157), (1, .int x0)]) (st1 := [.int 0]) (H1 := H353) (k1 := 0) (n1 := 0) (by with_unfolding_all rfl)) ?_
  exact ex_r (st_iret rfl rfl rfl) ⟨⟨f353, trivial⟩, fun j n157 => (k353 j n157)⟩

set_option maxRecDepth 100000 in
theorem fm_end_1 {sL : Nat} {sx : Nat → Int32} {cs : Nat → Nat → Option Int32} {H : am_H} {v157_68 : Int32} {v157_69 : Int32} {v157_70 : Int32} {v157_96 : Int32} {x0 : Int32} (h157 : am_is H 157 (.inr (12, [.int 0, .ref 158, .int 0, .ref 159, .int 0, .int 0, .ref 160, .ref 161, .ref 162, .ref 163, .ref 164, .ref 165, .ref 166, .int 0, .int (-1), .int 0, .int 0, .int 0, .ref 167, .int 0, .int 0, .int (-1), .ref 168, .int 0, .ref 169, .int 0, .int 0, .int 0, .ref 170, .ref 171, .int 0, .int 0, .int (-1), .int (-1), .int 0, .int 0, .int 0, .ref 172, .ref 173, .ref 174, .ref 175, .ref 176, .ref 177, .ref 178, .ref 179, .ref 180, .ref 181, .ref 182, .ref 183, .int 0, .int 0, .int 0, .int 0, .int 0, .ref 184, .int 0, .int 0, .int 0, .int 127, .int 0, .int 0, .int 0, .int 0, .int 0, .ref 185, .int 0, .ref 186, .int 0, .int v157_68, .int v157_69, .int v157_70, .int 0, .int 0, .int 0, .int (-1), .int (-1), .int 0, .int 0, .ref 187, .int 0, .int 0, .int 0, .int 0, .int 0, .int 0, .int 0, .ref 188, .int 0, .ref 189, .int 0, .ref 190, .ref 191, .ref 192, .int 0, .int 0, .int 0, .int v157_96, .int 0, .int 96, .int 0, .int 0, .int 0, .int 0, .int 0, .int 0, .int 0, .int 0, .int 0, .int 0, .int 0, .int 0, .int 0, .int 0, .int 0, .ref 193, .int 0, .int 0, .int 0, .ref 194, .ref 195, .int (-1), .int 0]))) (c1 : ¬ x0 < 0) (c2 : x0 ≤ 0)  :
    am_E sL sx cs 262 0 [(0, .ref 157), (1, .int x0)] [] H (some (.int 1)) (fun H1 => (am_is H1 157 (.inr (12, [.int 0, .ref 158, .int x0, .ref 159, .int 0, .int 0, .ref 160, .ref 161, .ref 162, .ref 163, .ref 164, .ref 165, .ref 166, .int 0, .int (-1), .int 0, .int 0, .int 0, .ref 167, .int 0, .int 0, .int (-1), .ref 168, .int 0, .ref 169, .int 0, .int 0, .int 0, .ref 170, .ref 171, .int 0, .int 0, .int (-1), .int (-1), .int 0, .int 0, .int 0, .ref 172, .ref 173, .ref 174, .ref 175, .ref 176, .ref 177, .ref 178, .ref 179, .ref 180, .ref 181, .ref 182, .ref 183, .int 0, .int 0, .int 0, .int 0, .int 0, .ref 184, .int 0, .int 0, .int 0, .int 127, .int 0, .int 0, .int 0, .int 0, .int 0, .ref 185, .int 0, .ref 186, .int 0, .int v157_68, .int v157_69, .int v157_70, .int 0, .int 0, .int 0, .int (-1), .int (-1), .int 0, .int 0, .ref 187, .int 0, .int 0, .int 0, .int 0, .int 0, .int 0, .int 0, .ref 188, .int 0, .ref 189, .int 0, .ref 190, .ref 191, .ref 192, .int 0, .int 0, .int 0, .int v157_96, .int 0, .int 96, .int 0, .int 0, .int 0, .int 0, .int 0, .int 0, .int 0, .int 0, .int 0, .int 0, .int 0, .int 0, .int 0, .int 0, .int 0, .ref 193, .int 0, .int 0, .int 0, .ref 194, .ref 195, .int (-1), .int 0])) ∧ True) ∧ ∀ j : Nat, j ≠ 157 → H1[j]? = H[j]?) := by
  refine ex_s (am_nb (m := 2) (pc1 := 2) (ls1 := [(0, .ref 157), (1, .int x0)]) (st1 := [.int 0, .ref 157]) (H1 := H) (k1 := 0) (n1 := 0) (by with_unfolding_all rfl)) ?_
  refine ex_put rfl h157 rfl rfl rfl ?_
  intro H353 f353 k353
  refine ex_s (am_nb (m := 1) (pc1 := 6) (ls1 := [(0, .ref 157), (1, .int x0)]) (st1 := [.int x0]) (H1 := H353) (k1 := 0) (n1 := 0) (by with_unfolding_all rfl)) ?_
  refine ex_s (st_if rfl) ?_
  refine ex_pc (if_neg c1) ?_
  refine ex_s (am_nb (m := 2) (pc1 := 11) (ls1 := [(0, .ref 157), (1, .int x0)]) (st1 := [.ref 157, .int x0]) (H1 := H353) (k1 := 0) (n1 := 0) (by with_unfolding_all rfl)) ?_
  refine ex_s (st_get rfl f353 rfl) ?_
  refine ex_s (st_icmp rfl) ?_
  refine ex_pc (if_pos c2) ?_
  refine ex_s (am_nb (m := 2) (pc1 := 21) (ls1 := [(0, .ref 157), (1, .int x0)]) (st1 := [.int x0, .ref 157]) (H1 := H353) (k1 := 0) (n1 := 0) (by with_unfolding_all rfl)) ?_
  refine ex_put rfl f353 rfl rfl rfl ?_
  intro H354 f354 k354
  refine ex_s (am_nb (m := 1) (pc1 := 25) (ls1 := [(0, .ref 157), (1, .int x0)]) (st1 := [.int 1]) (H1 := H354) (k1 := 0) (n1 := 0) (by with_unfolding_all rfl)) ?_
  exact ex_r (st_iret rfl rfl rfl) ⟨⟨f354, trivial⟩, fun j n157 => ((k354 j n157).trans (k353 j n157))⟩

set_option maxRecDepth 100000 in
theorem fm_end_2 {sL : Nat} {sx : Nat → Int32} {cs : Nat → Nat → Option Int32} {H : am_H} {v157_68 : Int32} {v157_69 : Int32} {v157_70 : Int32} {v157_96 : Int32} {x0 : Int32} (h157 : am_is H 157 (.inr (12, [.int 0, .ref 158, .int 0, .ref 159, .int 0, .int 0, .ref 160, .ref 161, .ref 162, .ref 163, .ref 164, .ref 165, .ref 166, .int 0, .int (-1), .int 0, .int 0, .int 0, .ref 167, .int 0, .int 0, .int (-1), .ref 168, .int 0, .ref 169, .int 0, .int 0, .int 0, .ref 170, .ref 171, .int 0, .int 0, .int (-1), .int (-1), .int 0, .int 0, .int 0, .ref 172, .ref 173, .ref 174, .ref 175, .ref 176, .ref 177, .ref 178, .ref 179, .ref 180, .ref 181, .ref 182, .ref 183, .int 0, .int 0, .int 0, .int 0, .int 0, .ref 184, .int 0, .int 0, .int 0, .int 127, .int 0, .int 0, .int 0, .int 0, .int 0, .ref 185, .int 0, .ref 186, .int 0, .int v157_68, .int v157_69, .int v157_70, .int 0, .int 0, .int 0, .int (-1), .int (-1), .int 0, .int 0, .ref 187, .int 0, .int 0, .int 0, .int 0, .int 0, .int 0, .int 0, .ref 188, .int 0, .ref 189, .int 0, .ref 190, .ref 191, .ref 192, .int 0, .int 0, .int 0, .int v157_96, .int 0, .int 96, .int 0, .int 0, .int 0, .int 0, .int 0, .int 0, .int 0, .int 0, .int 0, .int 0, .int 0, .int 0, .int 0, .int 0, .int 0, .ref 193, .int 0, .int 0, .int 0, .ref 194, .ref 195, .int (-1), .int 0]))) (c1 : ¬ x0 < 0) (c2 : ¬ x0 ≤ 0)  :
    am_E sL sx cs 262 0 [(0, .ref 157), (1, .int x0)] [] H (some (.int 0)) (fun H1 => (am_is H1 157 (.inr (12, [.int 0, .ref 158, .int 0, .ref 159, .int 0, .int 0, .ref 160, .ref 161, .ref 162, .ref 163, .ref 164, .ref 165, .ref 166, .int 0, .int (-1), .int 0, .int 0, .int 0, .ref 167, .int 0, .int 0, .int (-1), .ref 168, .int 0, .ref 169, .int 0, .int 0, .int 0, .ref 170, .ref 171, .int 0, .int 0, .int (-1), .int (-1), .int 0, .int 0, .int 0, .ref 172, .ref 173, .ref 174, .ref 175, .ref 176, .ref 177, .ref 178, .ref 179, .ref 180, .ref 181, .ref 182, .ref 183, .int 0, .int 0, .int 0, .int 0, .int 0, .ref 184, .int 0, .int 0, .int 0, .int 127, .int 0, .int 0, .int 0, .int 0, .int 0, .ref 185, .int 0, .ref 186, .int 0, .int v157_68, .int v157_69, .int v157_70, .int 0, .int 0, .int 0, .int (-1), .int (-1), .int 0, .int 0, .ref 187, .int 0, .int 0, .int 0, .int 0, .int 0, .int 0, .int 0, .ref 188, .int 0, .ref 189, .int 0, .ref 190, .ref 191, .ref 192, .int 0, .int 0, .int 0, .int v157_96, .int 0, .int 96, .int 0, .int 0, .int 0, .int 0, .int 0, .int 0, .int 0, .int 0, .int 0, .int 0, .int 0, .int 0, .int 0, .int 0, .int 0, .ref 193, .int 0, .int 0, .int 0, .ref 194, .ref 195, .int (-1), .int 0])) ∧ True) ∧ ∀ j : Nat, j ≠ 157 → H1[j]? = H[j]?) := by
  refine ex_s (am_nb (m := 2) (pc1 := 2) (ls1 := [(0, .ref 157), (1, .int x0)]) (st1 := [.int 0, .ref 157]) (H1 := H) (k1 := 0) (n1 := 0) (by with_unfolding_all rfl)) ?_
  refine ex_put rfl h157 rfl rfl rfl ?_
  intro H353 f353 k353
  refine ex_s (am_nb (m := 1) (pc1 := 6) (ls1 := [(0, .ref 157), (1, .int x0)]) (st1 := [.int x0]) (H1 := H353) (k1 := 0) (n1 := 0) (by with_unfolding_all rfl)) ?_
  refine ex_s (st_if rfl) ?_
  refine ex_pc (if_neg c1) ?_
  refine ex_s (am_nb (m := 2) (pc1 := 11) (ls1 := [(0, .ref 157), (1, .int x0)]) (st1 := [.ref 157, .int x0]) (H1 := H353) (k1 := 0) (n1 := 0) (by with_unfolding_all rfl)) ?_
  refine ex_s (st_get rfl f353 rfl) ?_
  refine ex_s (st_icmp rfl) ?_
  refine ex_pc (if_neg c2) ?_
  refine ex_s (am_nb (m := 1) (pc1 := 18) (ls1 := [(0, .ref 157), (1, .int x0)]) (st1 := [.int 0]) (H1 := H353) (k1 := 0) (n1 := 0) (by with_unfolding_all rfl)) ?_
  exact ex_r (st_iret rfl rfl rfl) ⟨⟨f353, trivial⟩, fun j n157 => (k353 j n157)⟩

set_option maxRecDepth 100000 in
theorem fm_octet_0 {sL : Nat} {sx : Nat → Int32} {cs : Nat → Nat → Option Int32} {H : am_H} {v157_68 : Int32} {v157_69 : Int32} {v157_70 : Int32} {v157_96 : Int32} {x0 : Int32} (h157 : am_is H 157 (.inr (12, [.int 0, .ref 158, .int 0, .ref 159, .int 0, .int 0, .ref 160, .ref 161, .ref 162, .ref 163, .ref 164, .ref 165, .ref 166, .int 0, .int (-1), .int 0, .int 0, .int 0, .ref 167, .int 0, .int 0, .int (-1), .ref 168, .int 0, .ref 169, .int 0, .int 0, .int 0, .ref 170, .ref 171, .int 0, .int 0, .int (-1), .int (-1), .int 0, .int 0, .int 0, .ref 172, .ref 173, .ref 174, .ref 175, .ref 176, .ref 177, .ref 178, .ref 179, .ref 180, .ref 181, .ref 182, .ref 183, .int 0, .int 0, .int 0, .int 0, .int 0, .ref 184, .int 0, .int 0, .int 0, .int 127, .int 0, .int 0, .int 0, .int 0, .int 0, .ref 185, .int 0, .ref 186, .int 0, .int v157_68, .int v157_69, .int v157_70, .int 0, .int 0, .int 0, .int (-1), .int (-1), .int 0, .int 0, .ref 187, .int 0, .int 0, .int 0, .int 0, .int 0, .int 0, .int 0, .ref 188, .int 0, .ref 189, .int 0, .ref 190, .ref 191, .ref 192, .int 0, .int 0, .int 0, .int v157_96, .int 0, .int 96, .int 0, .int 0, .int 0, .int 0, .int 0, .int 0, .int 0, .int 0, .int 0, .int 0, .int 0, .int 0, .int 0, .int 0, .int 0, .ref 193, .int 0, .int 0, .int 0, .ref 194, .ref 195, .int (-1), .int 0]))) (c1 : x0 < 0)  :
    am_E sL sx cs 263 0 [(0, .ref 157), (1, .int x0)] [] H (some (.int 0)) (fun H1 => (am_is H1 157 (.inr (12, [.int 1, .ref 158, .int 0, .ref 159, .int 0, .int 0, .ref 160, .ref 161, .ref 162, .ref 163, .ref 164, .ref 165, .ref 166, .int 0, .int (-1), .int 0, .int 0, .int 0, .ref 167, .int 0, .int 0, .int (-1), .ref 168, .int 0, .ref 169, .int 0, .int 0, .int 0, .ref 170, .ref 171, .int 0, .int 0, .int (-1), .int (-1), .int 0, .int 0, .int 0, .ref 172, .ref 173, .ref 174, .ref 175, .ref 176, .ref 177, .ref 178, .ref 179, .ref 180, .ref 181, .ref 182, .ref 183, .int 0, .int 0, .int 0, .int 0, .int 0, .ref 184, .int 0, .int 0, .int 0, .int 127, .int 0, .int 0, .int 0, .int 0, .int 0, .ref 185, .int 0, .ref 186, .int 0, .int v157_68, .int v157_69, .int v157_70, .int 0, .int 0, .int 0, .int (-1), .int (-1), .int 0, .int 0, .ref 187, .int 0, .int 0, .int 0, .int 0, .int 0, .int 0, .int 0, .ref 188, .int 0, .ref 189, .int 0, .ref 190, .ref 191, .ref 192, .int 0, .int 0, .int 0, .int v157_96, .int 0, .int 96, .int 0, .int 0, .int 0, .int 0, .int 0, .int 0, .int 0, .int 0, .int 0, .int 0, .int 0, .int 0, .int 0, .int 0, .int 0, .ref 193, .int 0, .int 0, .int 0, .ref 194, .ref 195, .int (-1), .int 0])) ∧ True) ∧ ∀ j : Nat, j ≠ 157 → H1[j]? = H[j]?) := by
  refine ex_s (am_nb (m := 2) (pc1 := 2) (ls1 := [(0, .ref 157), (1, .int x0)]) (st1 := [.int x0, .ref 157]) (H1 := H) (k1 := 0) (n1 := 0) (by with_unfolding_all rfl)) ?_
  refine ex_s (st_if rfl) ?_
  refine ex_pc (if_pos c1) ?_
  refine ex_s (am_nb (m := 2) (pc1 := 18) (ls1 := [(0, .ref 157), (1, .int x0)]) (st1 := [.int 1, .ref 157]) (H1 := H) (k1 := 0) (n1 := 0) (by with_unfolding_all rfl)) ?_
  refine ex_put rfl h157 rfl rfl rfl ?_
  intro H355 f355 k355
  refine ex_s (am_nb (m := 1) (pc1 := 22) (ls1 := [(0, .ref 157), (1, .int x0)]) (st1 := [.ref 157]) (H1 := H355) (k1 := 0) (n1 := 0) (by with_unfolding_all rfl)) ?_
  refine ex_s (st_get rfl f355 rfl) ?_
  refine ex_s (am_nb (m := 3) (pc1 := 42) (ls1 := [(0, .ref 157), (1, .int x0)]) (st1 := [.int 0]) (H1 := H355) (k1 := 0) (n1 := 0) (by with_unfolding_all rfl)) ?_
  exact ex_r (st_iret rfl rfl rfl) ⟨⟨f355, trivial⟩, fun j n157 => (k355 j n157)⟩

set_option maxRecDepth 100000 in
theorem fm_octet_1 {sL : Nat} {sx : Nat → Int32} {cs : Nat → Nat → Option Int32} {H : am_H} {v157_68 : Int32} {v157_69 : Int32} {v157_70 : Int32} {v157_96 : Int32} {x0 : Int32} (h157 : am_is H 157 (.inr (12, [.int 0, .ref 158, .int 0, .ref 159, .int 0, .int 0, .ref 160, .ref 161, .ref 162, .ref 163, .ref 164, .ref 165, .ref 166, .int 0, .int (-1), .int 0, .int 0, .int 0, .ref 167, .int 0, .int 0, .int (-1), .ref 168, .int 0, .ref 169, .int 0, .int 0, .int 0, .ref 170, .ref 171, .int 0, .int 0, .int (-1), .int (-1), .int 0, .int 0, .int 0, .ref 172, .ref 173, .ref 174, .ref 175, .ref 176, .ref 177, .ref 178, .ref 179, .ref 180, .ref 181, .ref 182, .ref 183, .int 0, .int 0, .int 0, .int 0, .int 0, .ref 184, .int 0, .int 0, .int 0, .int 127, .int 0, .int 0, .int 0, .int 0, .int 0, .ref 185, .int 0, .ref 186, .int 0, .int v157_68, .int v157_69, .int v157_70, .int 0, .int 0, .int 0, .int (-1), .int (-1), .int 0, .int 0, .ref 187, .int 0, .int 0, .int 0, .int 0, .int 0, .int 0, .int 0, .ref 188, .int 0, .ref 189, .int 0, .ref 190, .ref 191, .ref 192, .int 0, .int 0, .int 0, .int v157_96, .int 0, .int 96, .int 0, .int 0, .int 0, .int 0, .int 0, .int 0, .int 0, .int 0, .int 0, .int 0, .int 0, .int 0, .int 0, .int 0, .int 0, .ref 193, .int 0, .int 0, .int 0, .ref 194, .ref 195, .int (-1), .int 0]))) (c1 : ¬ x0 < 0)  :
    am_E sL sx cs 263 0 [(0, .ref 157), (1, .int x0)] [] H (some (.int 0)) (fun H1 => (am_is H1 157 (.inr (12, [.int 1, .ref 158, .int 0, .ref 159, .int 0, .int 0, .ref 160, .ref 161, .ref 162, .ref 163, .ref 164, .ref 165, .ref 166, .int 0, .int (-1), .int 0, .int 0, .int 0, .ref 167, .int 0, .int 0, .int (-1), .ref 168, .int 0, .ref 169, .int 0, .int 0, .int 0, .ref 170, .ref 171, .int 0, .int 0, .int (-1), .int (-1), .int 0, .int 0, .int 0, .ref 172, .ref 173, .ref 174, .ref 175, .ref 176, .ref 177, .ref 178, .ref 179, .ref 180, .ref 181, .ref 182, .ref 183, .int 0, .int 0, .int 0, .int 0, .int 0, .ref 184, .int 0, .int 0, .int 0, .int 127, .int 0, .int 0, .int 0, .int 0, .int 0, .ref 185, .int 0, .ref 186, .int 0, .int v157_68, .int v157_69, .int v157_70, .int 0, .int 0, .int 0, .int (-1), .int (-1), .int 0, .int 0, .ref 187, .int 0, .int 0, .int 0, .int 0, .int 0, .int 0, .int 0, .ref 188, .int 0, .ref 189, .int 0, .ref 190, .ref 191, .ref 192, .int 0, .int 0, .int 0, .int v157_96, .int 0, .int 96, .int 0, .int 0, .int 0, .int 0, .int 0, .int 0, .int 0, .int 0, .int 0, .int 0, .int 0, .int 0, .int 0, .int 0, .int 0, .ref 193, .int 0, .int 0, .int 0, .ref 194, .ref 195, .int (-1), .int 0])) ∧ True) ∧ ∀ j : Nat, j ≠ 157 → H1[j]? = H[j]?) := by
  refine ex_s (am_nb (m := 2) (pc1 := 2) (ls1 := [(0, .ref 157), (1, .int x0)]) (st1 := [.int x0, .ref 157]) (H1 := H) (k1 := 0) (n1 := 0) (by with_unfolding_all rfl)) ?_
  refine ex_s (st_if rfl) ?_
  refine ex_pc (if_neg c1) ?_
  refine ex_s (am_nb (m := 2) (pc1 := 7) (ls1 := [(0, .ref 157), (1, .int x0)]) (st1 := [.ref 157, .int x0, .ref 157]) (H1 := H) (k1 := 0) (n1 := 0) (by with_unfolding_all rfl)) ?_
  refine ex_s (st_get rfl h157 rfl) ?_
  refine ex_s (st_icmp rfl) ?_
  refine ex_pc (if_neg c1) ?_
  refine ex_s (am_nb (m := 2) (pc1 := 18) (ls1 := [(0, .ref 157), (1, .int x0)]) (st1 := [.int 1, .ref 157]) (H1 := H) (k1 := 0) (n1 := 0) (by with_unfolding_all rfl)) ?_
  refine ex_put rfl h157 rfl rfl rfl ?_
  intro H356 f356 k356
  refine ex_s (am_nb (m := 1) (pc1 := 22) (ls1 := [(0, .ref 157), (1, .int x0)]) (st1 := [.ref 157]) (H1 := H356) (k1 := 0) (n1 := 0) (by with_unfolding_all rfl)) ?_
  refine ex_s (st_get rfl f356 rfl) ?_
  refine ex_s (am_nb (m := 3) (pc1 := 42) (ls1 := [(0, .ref 157), (1, .int x0)]) (st1 := [.int 0]) (H1 := H356) (k1 := 0) (n1 := 0) (by with_unfolding_all rfl)) ?_
  exact ex_r (st_iret rfl rfl rfl) ⟨⟨f356, trivial⟩, fun j n157 => (k356 j n157)⟩

set_option maxRecDepth 100000 in
theorem fm_describe_0 {sL : Nat} {sx : Nat → Int32} {cs : Nat → Nat → Option Int32} {H : am_H} {v157_68 : Int32} {v157_69 : Int32} {v157_70 : Int32} {v157_96 : Int32} (h157 : am_is H 157 (.inr (12, [.int 0, .ref 158, .int 0, .ref 159, .int 0, .int 0, .ref 160, .ref 161, .ref 162, .ref 163, .ref 164, .ref 165, .ref 166, .int 0, .int (-1), .int 0, .int 0, .int 0, .ref 167, .int 0, .int 0, .int (-1), .ref 168, .int 0, .ref 169, .int 0, .int 0, .int 0, .ref 170, .ref 171, .int 0, .int 0, .int (-1), .int (-1), .int 0, .int 0, .int 0, .ref 172, .ref 173, .ref 174, .ref 175, .ref 176, .ref 177, .ref 178, .ref 179, .ref 180, .ref 181, .ref 182, .ref 183, .int 0, .int 0, .int 0, .int 0, .int 0, .ref 184, .int 0, .int 0, .int 0, .int 127, .int 0, .int 0, .int 0, .int 0, .int 0, .ref 185, .int 0, .ref 186, .int 0, .int v157_68, .int v157_69, .int v157_70, .int 0, .int 0, .int 0, .int (-1), .int (-1), .int 0, .int 0, .ref 187, .int 0, .int 0, .int 0, .int 0, .int 0, .int 0, .int 0, .ref 188, .int 0, .ref 189, .int 0, .ref 190, .ref 191, .ref 192, .int 0, .int 0, .int 0, .int v157_96, .int 0, .int 96, .int 0, .int 0, .int 0, .int 0, .int 0, .int 0, .int 0, .int 0, .int 0, .int 0, .int 0, .int 0, .int 0, .int 0, .int 0, .ref 193, .int 0, .int 0, .int 0, .ref 194, .ref 195, .int (-1), .int 0])))   :
    am_E sL sx cs 264 0 [(0, .ref 157)] [] H (some (.int 0)) (fun H1 => (am_is H1 157 (.inr (12, [.int 0, .ref 158, .int 0, .ref 159, .int 0, .int 0, .ref 160, .ref 161, .ref 162, .ref 163, .ref 164, .ref 165, .ref 166, .int 0, .int (-1), .int 0, .int 0, .int (-1), .ref 167, .int 0, .int 0, .int (-1), .ref 168, .int 0, .ref 169, .int 0, .int 0, .int 0, .ref 170, .ref 171, .int 0, .int 0, .int (-1), .int (-1), .int 0, .int 0, .int 0, .ref 172, .ref 173, .ref 174, .ref 175, .ref 176, .ref 177, .ref 178, .ref 179, .ref 180, .ref 181, .ref 182, .ref 183, .int 0, .int 0, .int 0, .int 0, .int 0, .ref 184, .int 0, .int 0, .int 0, .int 127, .int 0, .int 0, .int 0, .int 0, .int 0, .ref 185, .int 0, .ref 186, .int 0, .int v157_68, .int v157_69, .int v157_70, .int 0, .int 0, .int 0, .int (-1), .int (-1), .int 0, .int 0, .ref 187, .int 0, .int 0, .int 0, .int 0, .int 0, .int 0, .int 0, .ref 188, .int 0, .ref 189, .int 0, .ref 190, .ref 191, .ref 192, .int 0, .int 0, .int 0, .int v157_96, .int 0, .int 96, .int 0, .int 0, .int 0, .int 0, .int 0, .int 0, .int 0, .int 0, .int 0, .int 0, .int 0, .int 0, .int 0, .int 0, .int 0, .ref 193, .int 0, .int 0, .int 0, .ref 194, .ref 195, .int (-1), .int 0])) ∧ True) ∧ ∀ j : Nat, j ≠ 157 → H1[j]? = H[j]?) := by
  refine ex_s (am_nb (m := 2) (pc1 := 2) (ls1 := [(0, .ref 157)]) (st1 := [.int 0, .ref 157]) (H1 := H) (k1 := 0) (n1 := 0) (by with_unfolding_all rfl)) ?_
  refine ex_put rfl h157 rfl rfl rfl ?_
  intro H357 f357 k357
  refine ex_s (am_nb (m := 2) (pc1 := 7) (ls1 := [(0, .ref 157)]) (st1 := [.ref 157, .ref 157]) (H1 := H357) (k1 := 0) (n1 := 0) (by with_unfolding_all rfl)) ?_
  refine ex_s (st_get rfl f357 rfl) ?_
  refine ex_put rfl f357 rfl rfl rfl ?_
  intro H358 f358 k358
  refine ex_s (am_nb (m := 2) (pc1 := 15) (ls1 := [(0, .ref 157)]) (st1 := [.int 0, .ref 157]) (H1 := H358) (k1 := 0) (n1 := 0) (by with_unfolding_all rfl)) ?_
  refine ex_put rfl f358 rfl rfl rfl ?_
  intro H359 f359 k359
  refine ex_s (am_nb (m := 2) (pc1 := 20) (ls1 := [(0, .ref 157)]) (st1 := [.int 0, .ref 157]) (H1 := H359) (k1 := 0) (n1 := 0) (by with_unfolding_all rfl)) ?_
  refine ex_put rfl f359 rfl rfl rfl ?_
  intro H360 f360 k360
  refine ex_s (am_nb (m := 2) (pc1 := 25) (ls1 := [(0, .ref 157)]) (st1 := [.int 0, .ref 157]) (H1 := H360) (k1 := 0) (n1 := 0) (by with_unfolding_all rfl)) ?_
  refine ex_put rfl f360 rfl rfl rfl ?_
  intro H361 f361 k361
  refine ex_s (am_nb (m := 2) (pc1 := 30) (ls1 := [(0, .ref 157)]) (st1 := [.int (-1), .ref 157]) (H1 := H361) (k1 := 0) (n1 := 0) (by with_unfolding_all rfl)) ?_
  refine ex_put rfl f361 rfl rfl rfl ?_
  intro H362 f362 k362
  refine ex_s (am_nb (m := 2) (pc1 := 35) (ls1 := [(0, .ref 157)]) (st1 := [.ref 157, .ref 157]) (H1 := H362) (k1 := 0) (n1 := 0) (by with_unfolding_all rfl)) ?_
  refine ex_s (st_get rfl f362 rfl) ?_
  refine ex_s (am_nb (m := 2) (pc1 := 40) (ls1 := [(0, .ref 157)]) (st1 := [.int (-1), .ref 157]) (H1 := H362) (k1 := 0) (n1 := 0) (by with_unfolding_all rfl)) ?_
  refine ex_put rfl f362 rfl rfl rfl ?_
  intro H363 f363 k363
  refine ex_s (am_nb (m := 1) (pc1 := 44) (ls1 := [(0, .ref 157)]) (st1 := [.ref 157]) (H1 := H363) (k1 := 0) (n1 := 0) (by with_unfolding_all rfl)) ?_
  refine ex_s (st_get rfl f363 rfl) ?_
  refine ex_s (am_nb (m := 6) (pc1 := 55) (ls1 := [(2, .int 1), (1, .int 0), (0, .ref 157)]) (st1 := [.ref 157]) (H1 := H363) (k1 := 0) (n1 := 0) (by with_unfolding_all rfl)) ?_
  refine ex_s (st_get rfl f363 rfl) ?_
  refine ex_s (am_nb (m := 1) (pc1 := 59) (ls1 := [(2, .int 1), (1, .int 0), (0, .ref 157)]) (st1 := [.ref 157, .int 0]) (H1 := H363) (k1 := 0) (n1 := 0) (by with_unfolding_all rfl)) ?_
  refine ex_s (st_get rfl f363 rfl) ?_
  refine ex_s (am_nb (m := 4) (pc1 := 81) (ls1 := [(2, .int 1), (1, .int 0), (0, .ref 157)]) (st1 := [.ref 157]) (H1 := H363) (k1 := 0) (n1 := 0) (by with_unfolding_all rfl)) ?_
  refine ex_s (st_get rfl f363 rfl) ?_
  refine ex_s (am_nb (m := 4) (pc1 := 94) (ls1 := [(2, .int 1), (1, .int 0), (0, .ref 157)]) (st1 := [.ref 157, .ref 157]) (H1 := H363) (k1 := 0) (n1 := 0) (by with_unfolding_all rfl)) ?_
  refine ex_s (st_get rfl f363 rfl) ?_
  refine ex_s (am_nb (m := 2) (pc1 := 99) (ls1 := [(2, .int 1), (1, .int 0), (0, .ref 157)]) (st1 := [.int 0, .ref 157]) (H1 := H363) (k1 := 0) (n1 := 0) (by with_unfolding_all rfl)) ?_
  refine ex_put rfl f363 rfl rfl rfl ?_
  intro H364 f364 k364
  refine ex_s (am_nb (m := 1) (pc1 := 103) (ls1 := [(2, .int 1), (1, .int 0), (0, .ref 157)]) (st1 := [.ref 157]) (H1 := H364) (k1 := 0) (n1 := 0) (by with_unfolding_all rfl)) ?_
  refine ex_s (st_get rfl f364 rfl) ?_
  exact ex_r (st_iret rfl rfl rfl) ⟨⟨f364, trivial⟩, fun j n157 => ((k364 j n157).trans ((k363 j n157).trans ((k362 j n157).trans ((k361 j n157).trans ((k360 j n157).trans ((k359 j n157).trans ((k358 j n157).trans (k357 j n157))))))))⟩

set_option maxRecDepth 100000 in
theorem fm_fault_0 {sL : Nat} {sx : Nat → Int32} {cs : Nat → Nat → Option Int32} {H : am_H} {v157_68 : Int32} {v157_69 : Int32} {v157_70 : Int32} {v157_96 : Int32} {x0 : Int32} (h157 : am_is H 157 (.inr (12, [.int 0, .ref 158, .int 0, .ref 159, .int 0, .int 0, .ref 160, .ref 161, .ref 162, .ref 163, .ref 164, .ref 165, .ref 166, .int 0, .int (-1), .int 0, .int 0, .int 0, .ref 167, .int 0, .int 0, .int (-1), .ref 168, .int 0, .ref 169, .int 0, .int 0, .int 0, .ref 170, .ref 171, .int 0, .int 0, .int (-1), .int (-1), .int 0, .int 0, .int 0, .ref 172, .ref 173, .ref 174, .ref 175, .ref 176, .ref 177, .ref 178, .ref 179, .ref 180, .ref 181, .ref 182, .ref 183, .int 0, .int 0, .int 0, .int 0, .int 0, .ref 184, .int 0, .int 0, .int 0, .int 127, .int 0, .int 0, .int 0, .int 0, .int 0, .ref 185, .int 0, .ref 186, .int 0, .int v157_68, .int v157_69, .int v157_70, .int 0, .int 0, .int 0, .int (-1), .int (-1), .int 0, .int 0, .ref 187, .int 0, .int 0, .int 0, .int 0, .int 0, .int 0, .int 0, .ref 188, .int 0, .ref 189, .int 0, .ref 190, .ref 191, .ref 192, .int 0, .int 0, .int 0, .int v157_96, .int 0, .int 96, .int 0, .int 0, .int 0, .int 0, .int 0, .int 0, .int 0, .int 0, .int 0, .int 0, .int 0, .int 0, .int 0, .int 0, .int 0, .ref 193, .int 0, .int 0, .int 0, .ref 194, .ref 195, .int (-1), .int 0]))) (c1 : x0 = 0)  :
    am_E sL sx cs 292 0 [(0, .ref 157), (1, .int x0)] [] H (some (.int 0)) (fun H1 => (am_is H1 157 (.inr (12, [.int 0, .ref 158, .int 0, .ref 159, .int 0, .int 0, .ref 160, .ref 161, .ref 162, .ref 163, .ref 164, .ref 165, .ref 166, .int 0, .int (-1), .int 0, .int 0, .int 0, .ref 167, .int 0, .int 0, .int (-1), .ref 168, .int 0, .ref 169, .int 0, .int 0, .int 0, .ref 170, .ref 171, .int 0, .int 0, .int (-1), .int (-1), .int 0, .int 0, .int 0, .ref 172, .ref 173, .ref 174, .ref 175, .ref 176, .ref 177, .ref 178, .ref 179, .ref 180, .ref 181, .ref 182, .ref 183, .int 0, .int 0, .int 0, .int 0, .int 0, .ref 184, .int 0, .int 0, .int 0, .int 127, .int 0, .int 0, .int 0, .int 0, .int 0, .ref 185, .int 0, .ref 186, .int 0, .int v157_68, .int v157_69, .int v157_70, .int 0, .int 0, .int 0, .int (-1), .int (-1), .int 0, .int 0, .ref 187, .int 0, .int 0, .int 0, .int 0, .int 0, .int 0, .int 0, .ref 188, .int 0, .ref 189, .int 0, .ref 190, .ref 191, .ref 192, .int 0, .int 0, .int 0, .int v157_96, .int 0, .int 96, .int 0, .int 0, .int 0, .int 0, .int 0, .int 0, .int 0, .int 0, .int 0, .int 0, .int 0, .int 0, .int 0, .int 0, .int 0, .ref 193, .int 0, .int 0, .int 0, .ref 194, .ref 195, .int (-1), .int 0])) ∧ True) ∧ ∀ j : Nat, j ≠ 157 → H1[j]? = H[j]?) := by
  refine ex_s (am_nb (m := 2) (pc1 := 2) (ls1 := [(0, .ref 157), (1, .int x0)]) (st1 := [.int 0, .ref 157]) (H1 := H) (k1 := 0) (n1 := 0) (by with_unfolding_all rfl)) ?_
  refine ex_put rfl h157 rfl rfl rfl ?_
  intro H365 f365 k365
  refine ex_s (am_nb (m := 1) (pc1 := 6) (ls1 := [(0, .ref 157), (1, .int x0)]) (st1 := [.int x0]) (H1 := H365) (k1 := 0) (n1 := 0) (by with_unfolding_all rfl)) ?_
  refine ex_s (st_if rfl) ?_
  refine ex_pc (if_pos c1) ?_
  refine ex_s (am_nb (m := 1) (pc1 := 10) (ls1 := [(0, .ref 157), (1, .int x0)]) (st1 := [.ref 157]) (H1 := H365) (k1 := 0) (n1 := 0) (by with_unfolding_all rfl)) ?_
  refine ex_s (st_get rfl f365 rfl) ?_
  refine ex_s (am_nb (m := 1) (pc1 := 29) (ls1 := [(0, .ref 157), (1, .int x0)]) (st1 := [.int 0]) (H1 := H365) (k1 := 0) (n1 := 0) (by with_unfolding_all rfl)) ?_
  exact ex_r (st_iret rfl rfl rfl) ⟨⟨f365, trivial⟩, fun j n157 => (k365 j n157)⟩

set_option maxRecDepth 100000 in
theorem fm_fault_1 {sL : Nat} {sx : Nat → Int32} {cs : Nat → Nat → Option Int32} {H : am_H} {v157_68 : Int32} {v157_69 : Int32} {v157_70 : Int32} {v157_96 : Int32} {x0 : Int32} (h157 : am_is H 157 (.inr (12, [.int 0, .ref 158, .int 0, .ref 159, .int 0, .int 0, .ref 160, .ref 161, .ref 162, .ref 163, .ref 164, .ref 165, .ref 166, .int 0, .int (-1), .int 0, .int 0, .int 0, .ref 167, .int 0, .int 0, .int (-1), .ref 168, .int 0, .ref 169, .int 0, .int 0, .int 0, .ref 170, .ref 171, .int 0, .int 0, .int (-1), .int (-1), .int 0, .int 0, .int 0, .ref 172, .ref 173, .ref 174, .ref 175, .ref 176, .ref 177, .ref 178, .ref 179, .ref 180, .ref 181, .ref 182, .ref 183, .int 0, .int 0, .int 0, .int 0, .int 0, .ref 184, .int 0, .int 0, .int 0, .int 127, .int 0, .int 0, .int 0, .int 0, .int 0, .ref 185, .int 0, .ref 186, .int 0, .int v157_68, .int v157_69, .int v157_70, .int 0, .int 0, .int 0, .int (-1), .int (-1), .int 0, .int 0, .ref 187, .int 0, .int 0, .int 0, .int 0, .int 0, .int 0, .int 0, .ref 188, .int 0, .ref 189, .int 0, .ref 190, .ref 191, .ref 192, .int 0, .int 0, .int 0, .int v157_96, .int 0, .int 96, .int 0, .int 0, .int 0, .int 0, .int 0, .int 0, .int 0, .int 0, .int 0, .int 0, .int 0, .int 0, .int 0, .int 0, .int 0, .ref 193, .int 0, .int 0, .int 0, .ref 194, .ref 195, .int (-1), .int 0]))) (c1 : ¬ x0 = 0) (c2 : x0 = 1)  :
    am_E sL sx cs 292 0 [(0, .ref 157), (1, .int x0)] [] H (some (.int (-1))) (fun H1 => (am_is H1 157 (.inr (12, [.int 0, .ref 158, .int 0, .ref 159, .int 0, .int 0, .ref 160, .ref 161, .ref 162, .ref 163, .ref 164, .ref 165, .ref 166, .int 0, .int (-1), .int 0, .int 0, .int 0, .ref 167, .int 0, .int 0, .int (-1), .ref 168, .int 0, .ref 169, .int 0, .int 0, .int 0, .ref 170, .ref 171, .int 0, .int 0, .int (-1), .int (-1), .int 0, .int 0, .int 0, .ref 172, .ref 173, .ref 174, .ref 175, .ref 176, .ref 177, .ref 178, .ref 179, .ref 180, .ref 181, .ref 182, .ref 183, .int 0, .int 0, .int 0, .int 0, .int 0, .ref 184, .int 0, .int 0, .int 0, .int 127, .int 0, .int 0, .int 0, .int 0, .int 0, .ref 185, .int 0, .ref 186, .int 0, .int v157_68, .int v157_69, .int v157_70, .int 0, .int 0, .int 0, .int (-1), .int (-1), .int 0, .int 0, .ref 187, .int 0, .int 0, .int 0, .int 0, .int 0, .int 0, .int 0, .ref 188, .int 0, .ref 189, .int 0, .ref 190, .ref 191, .ref 192, .int 0, .int 0, .int 0, .int v157_96, .int 0, .int 96, .int 0, .int 0, .int 0, .int 0, .int 0, .int 0, .int 0, .int 0, .int 0, .int 0, .int 0, .int 0, .int 0, .int 0, .int 0, .ref 193, .int 0, .int 0, .int 0, .ref 194, .ref 195, .int (-1), .int 0])) ∧ True) ∧ ∀ j : Nat, j ≠ 157 → H1[j]? = H[j]?) := by
  refine ex_s (am_nb (m := 2) (pc1 := 2) (ls1 := [(0, .ref 157), (1, .int x0)]) (st1 := [.int 0, .ref 157]) (H1 := H) (k1 := 0) (n1 := 0) (by with_unfolding_all rfl)) ?_
  refine ex_put rfl h157 rfl rfl rfl ?_
  intro H365 f365 k365
  refine ex_s (am_nb (m := 1) (pc1 := 6) (ls1 := [(0, .ref 157), (1, .int x0)]) (st1 := [.int x0]) (H1 := H365) (k1 := 0) (n1 := 0) (by with_unfolding_all rfl)) ?_
  refine ex_s (st_if rfl) ?_
  refine ex_pc (if_neg c1) ?_
  refine ex_s (am_nb (m := 2) (pc1 := 18) (ls1 := [(0, .ref 157), (1, .int x0)]) (st1 := [.int 1, .int x0]) (H1 := H365) (k1 := 0) (n1 := 0) (by with_unfolding_all rfl)) ?_
  refine ex_s (st_icmp rfl) ?_
  refine ex_pc (if_pos c2) ?_
  refine ex_s (am_nb (m := 1) (pc1 := 22) (ls1 := [(0, .ref 157), (1, .int x0)]) (st1 := [.ref 157]) (H1 := H365) (k1 := 0) (n1 := 0) (by with_unfolding_all rfl)) ?_
  refine ex_s (st_get rfl f365 rfl) ?_
  refine ex_s (am_nb (m := 1) (pc1 := 29) (ls1 := [(0, .ref 157), (1, .int x0)]) (st1 := [.int (-1)]) (H1 := H365) (k1 := 0) (n1 := 0) (by with_unfolding_all rfl)) ?_
  exact ex_r (st_iret rfl rfl rfl) ⟨⟨f365, trivial⟩, fun j n157 => (k365 j n157)⟩

set_option maxRecDepth 100000 in
theorem fm_fault_2 {sL : Nat} {sx : Nat → Int32} {cs : Nat → Nat → Option Int32} {H : am_H} {v157_68 : Int32} {v157_69 : Int32} {v157_70 : Int32} {v157_96 : Int32} {x0 : Int32} (h157 : am_is H 157 (.inr (12, [.int 0, .ref 158, .int 0, .ref 159, .int 0, .int 0, .ref 160, .ref 161, .ref 162, .ref 163, .ref 164, .ref 165, .ref 166, .int 0, .int (-1), .int 0, .int 0, .int 0, .ref 167, .int 0, .int 0, .int (-1), .ref 168, .int 0, .ref 169, .int 0, .int 0, .int 0, .ref 170, .ref 171, .int 0, .int 0, .int (-1), .int (-1), .int 0, .int 0, .int 0, .ref 172, .ref 173, .ref 174, .ref 175, .ref 176, .ref 177, .ref 178, .ref 179, .ref 180, .ref 181, .ref 182, .ref 183, .int 0, .int 0, .int 0, .int 0, .int 0, .ref 184, .int 0, .int 0, .int 0, .int 127, .int 0, .int 0, .int 0, .int 0, .int 0, .ref 185, .int 0, .ref 186, .int 0, .int v157_68, .int v157_69, .int v157_70, .int 0, .int 0, .int 0, .int (-1), .int (-1), .int 0, .int 0, .ref 187, .int 0, .int 0, .int 0, .int 0, .int 0, .int 0, .int 0, .ref 188, .int 0, .ref 189, .int 0, .ref 190, .ref 191, .ref 192, .int 0, .int 0, .int 0, .int v157_96, .int 0, .int 96, .int 0, .int 0, .int 0, .int 0, .int 0, .int 0, .int 0, .int 0, .int 0, .int 0, .int 0, .int 0, .int 0, .int 0, .int 0, .ref 193, .int 0, .int 0, .int 0, .ref 194, .ref 195, .int (-1), .int 0]))) (c1 : ¬ x0 = 0) (c2 : ¬ x0 = 1)  :
    am_E sL sx cs 292 0 [(0, .ref 157), (1, .int x0)] [] H (some (.int (-1))) (fun H1 => (am_is H1 157 (.inr (12, [.int 0, .ref 158, .int 0, .ref 159, .int 0, .int 0, .ref 160, .ref 161, .ref 162, .ref 163, .ref 164, .ref 165, .ref 166, .int 0, .int (-1), .int 0, .int 0, .int 0, .ref 167, .int 0, .int 0, .int (-1), .ref 168, .int 0, .ref 169, .int 0, .int 0, .int 0, .ref 170, .ref 171, .int 0, .int 0, .int (-1), .int (-1), .int 0, .int 0, .int 0, .ref 172, .ref 173, .ref 174, .ref 175, .ref 176, .ref 177, .ref 178, .ref 179, .ref 180, .ref 181, .ref 182, .ref 183, .int 0, .int 0, .int 0, .int 0, .int 0, .ref 184, .int 0, .int 0, .int 0, .int 127, .int 0, .int 0, .int 0, .int 0, .int 0, .ref 185, .int 0, .ref 186, .int 0, .int v157_68, .int v157_69, .int v157_70, .int 0, .int 0, .int 0, .int (-1), .int (-1), .int 0, .int 0, .ref 187, .int 0, .int 0, .int 0, .int 0, .int 0, .int 0, .int 0, .ref 188, .int 0, .ref 189, .int 0, .ref 190, .ref 191, .ref 192, .int 0, .int 0, .int 0, .int v157_96, .int 0, .int 96, .int 0, .int 0, .int 0, .int 0, .int 0, .int 0, .int 0, .int 0, .int 0, .int 0, .int 0, .int 0, .int 0, .int 0, .int 0, .ref 193, .int 0, .int 0, .int 0, .ref 194, .ref 195, .int (-1), .int 0])) ∧ True) ∧ ∀ j : Nat, j ≠ 157 → H1[j]? = H[j]?) := by
  refine ex_s (am_nb (m := 2) (pc1 := 2) (ls1 := [(0, .ref 157), (1, .int x0)]) (st1 := [.int 0, .ref 157]) (H1 := H) (k1 := 0) (n1 := 0) (by with_unfolding_all rfl)) ?_
  refine ex_put rfl h157 rfl rfl rfl ?_
  intro H365 f365 k365
  refine ex_s (am_nb (m := 1) (pc1 := 6) (ls1 := [(0, .ref 157), (1, .int x0)]) (st1 := [.int x0]) (H1 := H365) (k1 := 0) (n1 := 0) (by with_unfolding_all rfl)) ?_
  refine ex_s (st_if rfl) ?_
  refine ex_pc (if_neg c1) ?_
  refine ex_s (am_nb (m := 2) (pc1 := 18) (ls1 := [(0, .ref 157), (1, .int x0)]) (st1 := [.int 1, .int x0]) (H1 := H365) (k1 := 0) (n1 := 0) (by with_unfolding_all rfl)) ?_
  refine ex_s (st_icmp rfl) ?_
  refine ex_pc (if_neg c2) ?_
  refine ex_s (am_nb (m := 1) (pc1 := 29) (ls1 := [(0, .ref 157), (1, .int x0)]) (st1 := [.int (-1)]) (H1 := H365) (k1 := 0) (n1 := 0) (by with_unfolding_all rfl)) ?_
  exact ex_r (st_iret rfl rfl rfl) ⟨⟨f365, trivial⟩, fun j n157 => (k365 j n157)⟩

set_option maxRecDepth 100000 in
theorem fm_use_1_0 {sL : Nat} {sx : Nat → Int32} {cs : Nat → Nat → Option Int32} {H : am_H}     :
    am_E sL sx cs 279 0 [(0, .ref 157), (1, .ref 158), (2, .int 0), (3, .int 0), (4, .int 0)] [] H (some (.int (-1))) (fun H1 => (True) ∧ ∀ j : Nat, H1[j]? = H[j]?) := by
  refine ex_s (am_nb (m := 6) (pc1 := 58) (ls1 := [(5, .int 0), (0, .ref 157), (1, .ref 158), (2, .int 0), (3, .int 0), (4, .int 0)]) (st1 := [.int (-1)]) (H1 := H) (k1 := 0) (n1 := 0) (by with_unfolding_all rfl)) ?_
  exact ex_r (st_iret rfl rfl rfl) ⟨trivial, fun j => rfl⟩

set_option maxRecDepth 100000 in
theorem fm_use_0 {sL : Nat} {sx : Nat → Int32} {cs : Nat → Nat → Option Int32} {H : am_H} {v157_68 : Int32} {v157_69 : Int32} {v157_70 : Int32} {v157_96 : Int32} (h157 : am_is H 157 (.inr (12, [.int 0, .ref 158, .int 0, .ref 159, .int 0, .int 0, .ref 160, .ref 161, .ref 162, .ref 163, .ref 164, .ref 165, .ref 166, .int 0, .int (-1), .int 0, .int 0, .int 0, .ref 167, .int 0, .int 0, .int (-1), .ref 168, .int 0, .ref 169, .int 0, .int 0, .int 0, .ref 170, .ref 171, .int 0, .int 0, .int (-1), .int (-1), .int 0, .int 0, .int 0, .ref 172, .ref 173, .ref 174, .ref 175, .ref 176, .ref 177, .ref 178, .ref 179, .ref 180, .ref 181, .ref 182, .ref 183, .int 0, .int 0, .int 0, .int 0, .int 0, .ref 184, .int 0, .int 0, .int 0, .int 127, .int 0, .int 0, .int 0, .int 0, .int 0, .ref 185, .int 0, .ref 186, .int 0, .int v157_68, .int v157_69, .int v157_70, .int 0, .int 0, .int 0, .int (-1), .int (-1), .int 0, .int 0, .ref 187, .int 0, .int 0, .int 0, .int 0, .int 0, .int 0, .int 0, .ref 188, .int 0, .ref 189, .int 0, .ref 190, .ref 191, .ref 192, .int 0, .int 0, .int 0, .int v157_96, .int 0, .int 96, .int 0, .int 0, .int 0, .int 0, .int 0, .int 0, .int 0, .int 0, .int 0, .int 0, .int 0, .int 0, .int 0, .int 0, .int 0, .ref 193, .int 0, .int 0, .int 0, .ref 194, .ref 195, .int (-1), .int 0])))   :
    am_E sL sx cs 293 0 [(0, .ref 157)] [] H (some (.int (-1))) (fun H1 => (am_is H1 157 (.inr (12, [.int 0, .ref 158, .int 0, .ref 159, .int 0, .int 0, .ref 160, .ref 161, .ref 162, .ref 163, .ref 164, .ref 165, .ref 166, .int 0, .int (-1), .int 0, .int 0, .int 0, .ref 167, .int 0, .int 0, .int (-1), .ref 168, .int 0, .ref 169, .int 0, .int 0, .int 0, .ref 170, .ref 171, .int 0, .int 0, .int (-1), .int (-1), .int 0, .int 0, .int 0, .ref 172, .ref 173, .ref 174, .ref 175, .ref 176, .ref 177, .ref 178, .ref 179, .ref 180, .ref 181, .ref 182, .ref 183, .int 0, .int 0, .int 0, .int 0, .int 0, .ref 184, .int 0, .int 0, .int 0, .int 127, .int 0, .int 0, .int 0, .int 0, .int 0, .ref 185, .int 0, .ref 186, .int 0, .int v157_68, .int v157_69, .int v157_70, .int 0, .int 0, .int 0, .int (-1), .int (-1), .int 0, .int 0, .ref 187, .int 0, .int 0, .int 0, .int 0, .int 0, .int 0, .int 0, .ref 188, .int 0, .ref 189, .int 0, .ref 190, .ref 191, .ref 192, .int 0, .int 0, .int 0, .int v157_96, .int 0, .int 96, .int 0, .int 0, .int 0, .int 0, .int 0, .int 0, .int 0, .int 0, .int 0, .int 0, .int 0, .int 0, .int 0, .int 0, .int 0, .ref 193, .int 0, .int 0, .int 0, .ref 194, .ref 195, .int (-1), .int 0])) ∧ True) ∧ ∀ j : Nat, j ≠ 157 → H1[j]? = H[j]?) := by
  refine ex_s (am_nb (m := 2) (pc1 := 2) (ls1 := [(0, .ref 157)]) (st1 := [.int 0, .ref 157]) (H1 := H) (k1 := 0) (n1 := 0) (by with_unfolding_all rfl)) ?_
  refine ex_put rfl h157 rfl rfl rfl ?_
  intro H366 f366 k366
  refine ex_s (am_nb (m := 1) (pc1 := 6) (ls1 := [(0, .ref 157)]) (st1 := [.ref 157]) (H1 := H366) (k1 := 0) (n1 := 0) (by with_unfolding_all rfl)) ?_
  refine ex_s (st_get rfl f366 rfl) ?_
  refine ex_s (am_nb (m := 3) (pc1 := 12) (ls1 := [(1, .int 0), (0, .ref 157)]) (st1 := [.int 0, .ref 157]) (H1 := H366) (k1 := 0) (n1 := 0) (by with_unfolding_all rfl)) ?_
  refine ex_put rfl f366 rfl rfl rfl ?_
  intro H367 f367 k367
  refine ex_s (am_nb (m := 2) (pc1 := 17) (ls1 := [(1, .int 0), (0, .ref 157)]) (st1 := [.ref 157, .ref 157]) (H1 := H367) (k1 := 0) (n1 := 0) (by with_unfolding_all rfl)) ?_
  refine ex_s (st_get rfl f367 rfl) ?_
  refine ex_s (am_nb (m := 3) (pc1 := 23) (ls1 := [(1, .int 0), (0, .ref 157)]) (st1 := [.ref 157, .int 0, .int 0, .ref 158, .ref 157]) (H1 := H367) (k1 := 0) (n1 := 0) (by with_unfolding_all rfl)) ?_
  refine ex_s (st_get rfl f367 rfl) ?_
  refine ex_cv1 (as := [.ref 158, .int 0, .int 0, .int 0]) (rest := []) rfl rfl rfl rfl f367 rfl (by with_unfolding_all rfl) (by with_unfolding_all rfl) (fm_use_1_0) ?_
  rintro H368 ⟨-, k368⟩
  refine ex_s (am_nb (m := 5) (pc1 := 36) (ls1 := [(2, .int (-1)), (1, .int 0), (0, .ref 157)]) (st1 := [.int (-1)]) (H1 := H368) (k1 := 0) (n1 := 0) (by with_unfolding_all rfl)) ?_
  exact ex_r (st_iret rfl rfl rfl) ⟨⟨((k368 157).trans f367), trivial⟩, fun j n157 => ((k368 j).trans ((k367 j n157).trans (k366 j n157)))⟩

set_option maxRecDepth 100000 in
theorem fm_empty_0 {sL : Nat} {sx : Nat → Int32} {cs : Nat → Nat → Option Int32} {H : am_H} {v157_68 : Int32} {v157_69 : Int32} {v157_70 : Int32} {v157_96 : Int32} (h157 : am_is H 157 (.inr (12, [.int 0, .ref 158, .int 0, .ref 159, .int 0, .int 0, .ref 160, .ref 161, .ref 162, .ref 163, .ref 164, .ref 165, .ref 166, .int 0, .int (-1), .int 0, .int 0, .int 0, .ref 167, .int 0, .int 0, .int (-1), .ref 168, .int 0, .ref 169, .int 0, .int 0, .int 0, .ref 170, .ref 171, .int 0, .int 0, .int (-1), .int (-1), .int 0, .int 0, .int 0, .ref 172, .ref 173, .ref 174, .ref 175, .ref 176, .ref 177, .ref 178, .ref 179, .ref 180, .ref 181, .ref 182, .ref 183, .int 0, .int 0, .int 0, .int 0, .int 0, .ref 184, .int 0, .int 0, .int 0, .int 127, .int 0, .int 0, .int 0, .int 0, .int 0, .ref 185, .int 0, .ref 186, .int 0, .int v157_68, .int v157_69, .int v157_70, .int 0, .int 0, .int 0, .int (-1), .int (-1), .int 0, .int 0, .ref 187, .int 0, .int 0, .int 0, .int 0, .int 0, .int 0, .int 0, .ref 188, .int 0, .ref 189, .int 0, .ref 190, .ref 191, .ref 192, .int 0, .int 0, .int 0, .int v157_96, .int 0, .int 96, .int 0, .int 0, .int 0, .int 0, .int 0, .int 0, .int 0, .int 0, .int 0, .int 0, .int 0, .int 0, .int 0, .int 0, .int 0, .ref 193, .int 0, .int 0, .int 0, .ref 194, .ref 195, .int (-1), .int 0]))) (h172 : am_is H 172 (.inl (.boolean, (8, .inl (fun _ => 0)))))   :
    am_E sL sx cs 294 0 [(0, .ref 157)] [] H none (fun H1 => (am_is H1 157 (.inr (12, [.int 0, .ref 158, .int 0, .ref 159, .int 0, .int 0, .ref 160, .ref 161, .ref 162, .ref 163, .ref 164, .ref 165, .ref 166, .int 0, .int (-1), .int 0, .int 0, .int 0, .ref 167, .int 0, .int 0, .int (-1), .ref 168, .int 0, .ref 169, .int 0, .int 0, .int 0, .ref 170, .ref 171, .int 0, .int 0, .int (-1), .int (-1), .int 0, .int 0, .int 0, .ref 172, .ref 173, .ref 174, .ref 175, .ref 176, .ref 177, .ref 178, .ref 179, .ref 180, .ref 181, .ref 182, .ref 183, .int 0, .int 0, .int 0, .int 0, .int 0, .ref 184, .int 0, .int 0, .int 0, .int 127, .int 0, .int 0, .int 0, .int 0, .int 0, .ref 185, .int 0, .ref 186, .int 0, .int v157_68, .int v157_69, .int v157_70, .int 0, .int 0, .int 0, .int (-1), .int (-1), .int 0, .int 0, .ref 187, .int 0, .int 0, .int 0, .int 0, .int 0, .int 0, .int 0, .ref 188, .int 0, .ref 189, .int 0, .ref 190, .ref 191, .ref 192, .int 0, .int 0, .int 0, .int v157_96, .int 0, .int 96, .int 0, .int 0, .int 0, .int 0, .int 0, .int 0, .int 0, .int 0, .int 0, .int 0, .int 0, .int 0, .int 0, .int 0, .int 0, .ref 193, .int 0, .int 0, .int 0, .ref 194, .ref 195, .int (-1), .int 0])) ∧ am_is H1 172 (.inl (.boolean, (8, .inl (upd (upd (upd (upd (upd (upd (upd (upd (fun _ => 0) ((0 : Int32).toNatClampNeg) (vp_nar .boolean 0)) ((1 : Int32).toNatClampNeg) (vp_nar .boolean 0)) ((2 : Int32).toNatClampNeg) (vp_nar .boolean 0)) ((3 : Int32).toNatClampNeg) (vp_nar .boolean 0)) ((4 : Int32).toNatClampNeg) (vp_nar .boolean 0)) ((5 : Int32).toNatClampNeg) (vp_nar .boolean 0)) ((6 : Int32).toNatClampNeg) (vp_nar .boolean 0)) ((7 : Int32).toNatClampNeg) (vp_nar .boolean 0))))) ∧ True) ∧ ∀ j : Nat, j ≠ 157 → j ≠ 172 → H1[j]? = H[j]?) := by
  refine ex_s (am_nb (m := 2) (pc1 := 2) (ls1 := [(0, .ref 157)]) (st1 := [.int 0, .ref 157]) (H1 := H) (k1 := 0) (n1 := 0) (by with_unfolding_all rfl)) ?_
  refine ex_put rfl h157 rfl rfl rfl ?_
  intro H369 f369 k369
  refine ex_s (am_nb (m := 2) (pc1 := 7) (ls1 := [(0, .ref 157)]) (st1 := [.int 0, .ref 157]) (H1 := H369) (k1 := 0) (n1 := 0) (by with_unfolding_all rfl)) ?_
  refine ex_put rfl f369 rfl rfl rfl ?_
  intro H370 f370 k370
  refine ex_s (am_nb (m := 2) (pc1 := 12) (ls1 := [(0, .ref 157)]) (st1 := [.int (-1), .ref 157]) (H1 := H370) (k1 := 0) (n1 := 0) (by with_unfolding_all rfl)) ?_
  refine ex_put rfl f370 rfl rfl rfl ?_
  intro H371 f371 k371
  refine ex_s (am_nb (m := 2) (pc1 := 17) (ls1 := [(0, .ref 157)]) (st1 := [.int 0, .ref 157]) (H1 := H371) (k1 := 0) (n1 := 0) (by with_unfolding_all rfl)) ?_
  refine ex_put rfl f371 rfl rfl rfl ?_
  intro H372 f372 k372
  refine ex_s (am_nb (m := 2) (pc1 := 22) (ls1 := [(0, .ref 157)]) (st1 := [.int (-1), .ref 157]) (H1 := H372) (k1 := 0) (n1 := 0) (by with_unfolding_all rfl)) ?_
  refine ex_put rfl f372 rfl rfl rfl ?_
  intro H373 f373 k373
  refine ex_s (am_nb (m := 2) (pc1 := 27) (ls1 := [(0, .ref 157)]) (st1 := [.int (-1), .ref 157]) (H1 := H373) (k1 := 0) (n1 := 0) (by with_unfolding_all rfl)) ?_
  refine ex_put rfl f373 rfl rfl rfl ?_
  intro H374 f374 k374
  refine ex_s (am_nb (m := 2) (pc1 := 32) (ls1 := [(0, .ref 157)]) (st1 := [.int 0, .ref 157]) (H1 := H374) (k1 := 0) (n1 := 0) (by with_unfolding_all rfl)) ?_
  refine ex_put rfl f374 rfl rfl rfl ?_
  intro H375 f375 k375
  refine ex_s (am_nb (m := 6) (pc1 := 44) (ls1 := [(1, .int 0), (0, .ref 157)]) (st1 := [.ref 157]) (H1 := H375) (k1 := 0) (n1 := 0) (by with_unfolding_all rfl)) ?_
  refine ex_s (st_get rfl f375 rfl) ?_
  refine ex_s (am_nb (m := 2) (pc1 := 49) (ls1 := [(1, .int 0), (0, .ref 157)]) (st1 := [.int 0, .int 0, .ref 172]) (H1 := H375) (k1 := 0) (n1 := 0) (by with_unfolding_all rfl)) ?_
  refine ex_zast rfl ((k375 172 (by decide)).trans ((k374 172 (by decide)).trans ((k373 172 (by decide)).trans ((k372 172 (by decide)).trans ((k371 172 (by decide)).trans ((k370 172 (by decide)).trans ((k369 172 (by decide)).trans h172))))))) (by decide) ?_
  intro H376 f376 k376
  refine ex_s (am_nb (m := 6) (pc1 := 44) (ls1 := [(1, .int 1), (0, .ref 157)]) (st1 := [.ref 157]) (H1 := H376) (k1 := 0) (n1 := 0) (by with_unfolding_all rfl)) ?_
  refine ex_s (st_get rfl ((k376 157 (by decide)).trans f375) rfl) ?_
  refine ex_s (am_nb (m := 2) (pc1 := 49) (ls1 := [(1, .int 1), (0, .ref 157)]) (st1 := [.int 0, .int 1, .ref 172]) (H1 := H376) (k1 := 0) (n1 := 0) (by with_unfolding_all rfl)) ?_
  refine ex_zast rfl f376 (by decide) ?_
  intro H377 f377 k377
  refine ex_s (am_nb (m := 6) (pc1 := 44) (ls1 := [(1, .int 2), (0, .ref 157)]) (st1 := [.ref 157]) (H1 := H377) (k1 := 0) (n1 := 0) (by with_unfolding_all rfl)) ?_
  refine ex_s (st_get rfl ((k377 157 (by decide)).trans ((k376 157 (by decide)).trans f375)) rfl) ?_
  refine ex_s (am_nb (m := 2) (pc1 := 49) (ls1 := [(1, .int 2), (0, .ref 157)]) (st1 := [.int 0, .int 2, .ref 172]) (H1 := H377) (k1 := 0) (n1 := 0) (by with_unfolding_all rfl)) ?_
  refine ex_zast rfl f377 (by decide) ?_
  intro H378 f378 k378
  refine ex_s (am_nb (m := 6) (pc1 := 44) (ls1 := [(1, .int 3), (0, .ref 157)]) (st1 := [.ref 157]) (H1 := H378) (k1 := 0) (n1 := 0) (by with_unfolding_all rfl)) ?_
  refine ex_s (st_get rfl ((k378 157 (by decide)).trans ((k377 157 (by decide)).trans ((k376 157 (by decide)).trans f375))) rfl) ?_
  refine ex_s (am_nb (m := 2) (pc1 := 49) (ls1 := [(1, .int 3), (0, .ref 157)]) (st1 := [.int 0, .int 3, .ref 172]) (H1 := H378) (k1 := 0) (n1 := 0) (by with_unfolding_all rfl)) ?_
  refine ex_zast rfl f378 (by decide) ?_
  intro H379 f379 k379
  refine ex_s (am_nb (m := 6) (pc1 := 44) (ls1 := [(1, .int 4), (0, .ref 157)]) (st1 := [.ref 157]) (H1 := H379) (k1 := 0) (n1 := 0) (by with_unfolding_all rfl)) ?_
  refine ex_s (st_get rfl ((k379 157 (by decide)).trans ((k378 157 (by decide)).trans ((k377 157 (by decide)).trans ((k376 157 (by decide)).trans f375)))) rfl) ?_
  refine ex_s (am_nb (m := 2) (pc1 := 49) (ls1 := [(1, .int 4), (0, .ref 157)]) (st1 := [.int 0, .int 4, .ref 172]) (H1 := H379) (k1 := 0) (n1 := 0) (by with_unfolding_all rfl)) ?_
  refine ex_zast rfl f379 (by decide) ?_
  intro H380 f380 k380
  refine ex_s (am_nb (m := 6) (pc1 := 44) (ls1 := [(1, .int 5), (0, .ref 157)]) (st1 := [.ref 157]) (H1 := H380) (k1 := 0) (n1 := 0) (by with_unfolding_all rfl)) ?_
  refine ex_s (st_get rfl ((k380 157 (by decide)).trans ((k379 157 (by decide)).trans ((k378 157 (by decide)).trans ((k377 157 (by decide)).trans ((k376 157 (by decide)).trans f375))))) rfl) ?_
  refine ex_s (am_nb (m := 2) (pc1 := 49) (ls1 := [(1, .int 5), (0, .ref 157)]) (st1 := [.int 0, .int 5, .ref 172]) (H1 := H380) (k1 := 0) (n1 := 0) (by with_unfolding_all rfl)) ?_
  refine ex_zast rfl f380 (by decide) ?_
  intro H381 f381 k381
  refine ex_s (am_nb (m := 6) (pc1 := 44) (ls1 := [(1, .int 6), (0, .ref 157)]) (st1 := [.ref 157]) (H1 := H381) (k1 := 0) (n1 := 0) (by with_unfolding_all rfl)) ?_
  refine ex_s (st_get rfl ((k381 157 (by decide)).trans ((k380 157 (by decide)).trans ((k379 157 (by decide)).trans ((k378 157 (by decide)).trans ((k377 157 (by decide)).trans ((k376 157 (by decide)).trans f375)))))) rfl) ?_
  refine ex_s (am_nb (m := 2) (pc1 := 49) (ls1 := [(1, .int 6), (0, .ref 157)]) (st1 := [.int 0, .int 6, .ref 172]) (H1 := H381) (k1 := 0) (n1 := 0) (by with_unfolding_all rfl)) ?_
  refine ex_zast rfl f381 (by decide) ?_
  intro H382 f382 k382
  refine ex_s (am_nb (m := 6) (pc1 := 44) (ls1 := [(1, .int 7), (0, .ref 157)]) (st1 := [.ref 157]) (H1 := H382) (k1 := 0) (n1 := 0) (by with_unfolding_all rfl)) ?_
  refine ex_s (st_get rfl ((k382 157 (by decide)).trans ((k381 157 (by decide)).trans ((k380 157 (by decide)).trans ((k379 157 (by decide)).trans ((k378 157 (by decide)).trans ((k377 157 (by decide)).trans ((k376 157 (by decide)).trans f375))))))) rfl) ?_
  refine ex_s (am_nb (m := 2) (pc1 := 49) (ls1 := [(1, .int 7), (0, .ref 157)]) (st1 := [.int 0, .int 7, .ref 172]) (H1 := H382) (k1 := 0) (n1 := 0) (by with_unfolding_all rfl)) ?_
  refine ex_zast rfl f382 (by decide) ?_
  intro H383 f383 k383
  refine ex_s (am_nb (m := 5) (pc1 := 56) (ls1 := [(1, .int 8), (0, .ref 157)]) (st1 := []) (H1 := H383) (k1 := 0) (n1 := 0) (by with_unfolding_all rfl)) ?_
  exact ex_r (st_vret rfl rfl) ⟨⟨((k383 157 (by decide)).trans ((k382 157 (by decide)).trans ((k381 157 (by decide)).trans ((k380 157 (by decide)).trans ((k379 157 (by decide)).trans ((k378 157 (by decide)).trans ((k377 157 (by decide)).trans ((k376 157 (by decide)).trans f375)))))))), f383, trivial⟩, fun j n157 n172 => ((k383 j n172).trans ((k382 j n172).trans ((k381 j n172).trans ((k380 j n172).trans ((k379 j n172).trans ((k378 j n172).trans ((k377 j n172).trans ((k376 j n172).trans ((k375 j n157).trans ((k374 j n157).trans ((k373 j n157).trans ((k372 j n157).trans ((k371 j n157).trans ((k370 j n157).trans (k369 j n157)))))))))))))))⟩

set_option maxRecDepth 100000 in
theorem fm_ability_1_0 {sL : Nat} {sx : Nat → Int32} {cs : Nat → Nat → Option Int32} {H : am_H} {v157_68 : Int32} {v157_69 : Int32} {v157_70 : Int32} {v157_96 : Int32} (h157 : am_is H 157 (.inr (12, [.int 0, .ref 158, .int 0, .ref 159, .int 0, .int 0, .ref 160, .ref 161, .ref 162, .ref 163, .ref 164, .ref 165, .ref 166, .int 0, .int (-1), .int 0, .int 0, .int 0, .ref 167, .int 0, .int 0, .int (-1), .ref 168, .int 0, .ref 169, .int 0, .int 0, .int 0, .ref 170, .ref 171, .int 0, .int 0, .int (-1), .int (-1), .int 0, .int 0, .int 0, .ref 172, .ref 173, .ref 174, .ref 175, .ref 176, .ref 177, .ref 178, .ref 179, .ref 180, .ref 181, .ref 182, .ref 183, .int 0, .int 0, .int 0, .int 0, .int 0, .ref 184, .int 0, .int 0, .int 0, .int 127, .int 0, .int 0, .int 0, .int 0, .int 0, .ref 185, .int 0, .ref 186, .int 0, .int v157_68, .int v157_69, .int v157_70, .int 0, .int 0, .int 0, .int (-1), .int (-1), .int 0, .int 0, .ref 187, .int 0, .int 0, .int 0, .int 0, .int 0, .int 0, .int 0, .ref 188, .int 0, .ref 189, .int 0, .ref 190, .ref 191, .ref 192, .int 0, .int 0, .int 0, .int v157_96, .int 0, .int 96, .int 0, .int 0, .int 0, .int 0, .int 0, .int 0, .int 0, .int 0, .int 0, .int 0, .int 0, .int 0, .int 0, .int 0, .int 0, .ref 193, .int 0, .int 0, .int 0, .ref 194, .ref 195, .int (-1), .int 0])))   :
    am_E sL sx cs 296 0 [(0, .ref 157)] [] H (some (.int (-1))) (fun H1 => (am_is H1 157 (.inr (12, [.int 0, .ref 158, .int 0, .ref 159, .int 0, .int 0, .ref 160, .ref 161, .ref 162, .ref 163, .ref 164, .ref 165, .ref 166, .int 0, .int (-1), .int 0, .int 0, .int 0, .ref 167, .int 0, .int 0, .int (-1), .ref 168, .int 0, .ref 169, .int 0, .int 0, .int 0, .ref 170, .ref 171, .int 0, .int 0, .int (-1), .int (-1), .int 0, .int 0, .int 0, .ref 172, .ref 173, .ref 174, .ref 175, .ref 176, .ref 177, .ref 178, .ref 179, .ref 180, .ref 181, .ref 182, .ref 183, .int 0, .int 0, .int 0, .int 0, .int 0, .ref 184, .int 0, .int 0, .int 0, .int 127, .int 0, .int 0, .int 0, .int 0, .int 0, .ref 185, .int 0, .ref 186, .int 0, .int v157_68, .int v157_69, .int v157_70, .int 0, .int 0, .int 0, .int (-1), .int (-1), .int 0, .int 0, .ref 187, .int 0, .int 0, .int 0, .int 0, .int 0, .int 0, .int 0, .ref 188, .int 0, .ref 189, .int 0, .ref 190, .ref 191, .ref 192, .int 0, .int 0, .int 0, .int v157_96, .int 0, .int 96, .int 0, .int 0, .int 0, .int 0, .int 0, .int 0, .int 0, .int 0, .int 0, .int 0, .int 0, .int 0, .int 0, .int 0, .int 0, .ref 193, .int 0, .int 0, .int 0, .ref 194, .ref 195, .int (-1), .int 0])) ∧ True) ∧ ∀ j : Nat, j ≠ 157 → H1[j]? = H[j]?) := by
  refine ex_s (am_nb (m := 1) (pc1 := 1) (ls1 := [(0, .ref 157)]) (st1 := [.ref 157]) (H1 := H) (k1 := 0) (n1 := 0) (by with_unfolding_all rfl)) ?_
  refine ex_s (st_get rfl h157 rfl) ?_
  refine ex_s (am_nb (m := 3) (pc1 := 7) (ls1 := [(1, .int 0), (0, .ref 157)]) (st1 := [.int 0, .ref 157]) (H1 := H) (k1 := 0) (n1 := 0) (by with_unfolding_all rfl)) ?_
  refine ex_put rfl h157 rfl rfl rfl ?_
  intro H385 f385 k385
  refine ex_s (am_nb (m := 1) (pc1 := 11) (ls1 := [(1, .int 0), (0, .ref 157)]) (st1 := [.ref 157]) (H1 := H385) (k1 := 0) (n1 := 0) (by with_unfolding_all rfl)) ?_
  refine ex_s (st_get rfl f385 rfl) ?_
  refine ex_s (am_nb (m := 10) (pc1 := 43) (ls1 := [(2, .int (-1)), (1, .int 0), (0, .ref 157)]) (st1 := [.int (-1)]) (H1 := H385) (k1 := 0) (n1 := 0) (by with_unfolding_all rfl)) ?_
  exact ex_r (st_iret rfl rfl rfl) ⟨⟨f385, trivial⟩, fun j n157 => (k385 j n157)⟩

set_option maxRecDepth 100000 in
theorem fm_ability_0 {sL : Nat} {sx : Nat → Int32} {cs : Nat → Nat → Option Int32} {H : am_H} {v157_68 : Int32} {v157_69 : Int32} {v157_70 : Int32} {v157_96 : Int32} (h157 : am_is H 157 (.inr (12, [.int 0, .ref 158, .int 0, .ref 159, .int 0, .int 0, .ref 160, .ref 161, .ref 162, .ref 163, .ref 164, .ref 165, .ref 166, .int 0, .int (-1), .int 0, .int 0, .int 0, .ref 167, .int 0, .int 0, .int (-1), .ref 168, .int 0, .ref 169, .int 0, .int 0, .int 0, .ref 170, .ref 171, .int 0, .int 0, .int (-1), .int (-1), .int 0, .int 0, .int 0, .ref 172, .ref 173, .ref 174, .ref 175, .ref 176, .ref 177, .ref 178, .ref 179, .ref 180, .ref 181, .ref 182, .ref 183, .int 0, .int 0, .int 0, .int 0, .int 0, .ref 184, .int 0, .int 0, .int 0, .int 127, .int 0, .int 0, .int 0, .int 0, .int 0, .ref 185, .int 0, .ref 186, .int 0, .int v157_68, .int v157_69, .int v157_70, .int 0, .int 0, .int 0, .int (-1), .int (-1), .int 0, .int 0, .ref 187, .int 0, .int 0, .int 0, .int 0, .int 0, .int 0, .int 0, .ref 188, .int 0, .ref 189, .int 0, .ref 190, .ref 191, .ref 192, .int 0, .int 0, .int 0, .int v157_96, .int 0, .int 96, .int 0, .int 0, .int 0, .int 0, .int 0, .int 0, .int 0, .int 0, .int 0, .int 0, .int 0, .int 0, .int 0, .int 0, .int 0, .ref 193, .int 0, .int 0, .int 0, .ref 194, .ref 195, .int (-1), .int 0])))   :
    am_E sL sx cs 295 0 [(0, .ref 157)] [] H (some (.int (-1))) (fun H1 => (am_is H1 157 (.inr (12, [.int 0, .ref 158, .int 0, .ref 159, .int 0, .int 0, .ref 160, .ref 161, .ref 162, .ref 163, .ref 164, .ref 165, .ref 166, .int 0, .int (-1), .int 0, .int 0, .int 0, .ref 167, .int 0, .int 0, .int (-1), .ref 168, .int 0, .ref 169, .int 0, .int 0, .int 0, .ref 170, .ref 171, .int 0, .int 0, .int (-1), .int (-1), .int 0, .int 0, .int 0, .ref 172, .ref 173, .ref 174, .ref 175, .ref 176, .ref 177, .ref 178, .ref 179, .ref 180, .ref 181, .ref 182, .ref 183, .int 0, .int 0, .int 0, .int 0, .int 0, .ref 184, .int 0, .int 0, .int 0, .int 127, .int 0, .int 0, .int 0, .int 0, .int 0, .ref 185, .int 0, .ref 186, .int 0, .int v157_68, .int v157_69, .int v157_70, .int 0, .int 0, .int 0, .int (-1), .int (-1), .int 0, .int 0, .ref 187, .int 0, .int 0, .int 0, .int 0, .int 0, .int 0, .int 0, .ref 188, .int 0, .ref 189, .int 0, .ref 190, .ref 191, .ref 192, .int 0, .int 0, .int 0, .int v157_96, .int 0, .int 96, .int 0, .int 0, .int 0, .int 0, .int 0, .int 0, .int 0, .int 0, .int 0, .int 0, .int 0, .int 0, .int 0, .int 0, .int 0, .ref 193, .int 0, .int 0, .int 0, .ref 194, .ref 195, .int (-1), .int 0])) ∧ True) ∧ ∀ j : Nat, j ≠ 157 → H1[j]? = H[j]?) := by
  refine ex_s (am_nb (m := 2) (pc1 := 2) (ls1 := [(0, .ref 157)]) (st1 := [.int 0, .ref 157]) (H1 := H) (k1 := 0) (n1 := 0) (by with_unfolding_all rfl)) ?_
  refine ex_put rfl h157 rfl rfl rfl ?_
  intro H384 f384 k384
  refine ex_s (am_nb (m := 1) (pc1 := 6) (ls1 := [(0, .ref 157)]) (st1 := [.ref 157]) (H1 := H384) (k1 := 0) (n1 := 0) (by with_unfolding_all rfl)) ?_
  refine ex_cv1 (as := []) (rest := []) rfl rfl rfl rfl f384 rfl (by with_unfolding_all rfl) (by with_unfolding_all rfl) (fm_ability_1_0 f384) ?_
  rintro H386 ⟨⟨f386_157, -⟩, k386⟩
  refine ex_s (am_nb (m := 5) (pc1 := 16) (ls1 := [(1, .int (-1)), (0, .ref 157)]) (st1 := [.int (-1)]) (H1 := H386) (k1 := 0) (n1 := 0) (by with_unfolding_all rfl)) ?_
  exact ex_r (st_iret rfl rfl rfl) ⟨⟨f386_157, trivial⟩, fun j n157 => ((k386 j n157).trans (k384 j n157))⟩
