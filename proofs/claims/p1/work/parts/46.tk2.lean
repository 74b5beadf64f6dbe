/-! p1: segments of the reference's ticks. -/
set_option maxRecDepth 100000 in
theorem tm_e_0 {sL : Nat} {sx : Nat → Int32} {cs : Nat → Nat → Option Int32} {H : am_H} {v157_68 : Int32} {v157_69 : Int32} {v157_70 : Int32} {v157_96 : Int32} {n : Int32} (h157 : am_is H 157 (.inr (12, [.int 0, .ref 158, .int 0, .ref 159, .int 0, .int 0, .ref 160, .ref 161, .ref 162, .ref 163, .ref 164, .ref 165, .ref 166, .int 0, .int (-1), .int 0, .int 0, .int 0, .ref 167, .int 0, .int 0, .int (-1), .ref 168, .int 0, .ref 169, .int 0, .int 0, .int 0, .ref 170, .ref 171, .int 0, .int 0, .int (-1), .int (-1), .int 0, .int 0, .int 0, .ref 172, .ref 173, .ref 174, .ref 175, .ref 176, .ref 177, .ref 178, .ref 179, .ref 180, .ref 181, .ref 182, .ref 183, .int 0, .int 0, .int 0, .int 0, .int 0, .ref 184, .int 0, .int 0, .int 0, .int 127, .int 0, .int 0, .int 0, .int 0, .int 0, .ref 185, .int 0, .ref 186, .int 0, .int v157_68, .int v157_69, .int v157_70, .int 0, .int 0, .int 0, .int (-1), .int (-1), .int 0, .int 0, .ref 187, .int 0, .int 0, .int 0, .int 0, .int 0, .int 0, .int 0, .ref 188, .int 0, .ref 189, .int 0, .ref 190, .ref 191, .ref 192, .int 0, .int 0, .int 0, .int v157_96, .int 0, .int 96, .int 0, .int 0, .int 0, .int 0, .int 0, .int 0, .int 0, .int 0, .int 0, .int 0, .int 0, .int 0, .int 0, .int 0, .int 0, .ref 193, .int 0, .int 0, .int 0, .ref 194, .ref 195, .int (-1), .int 0]))) (c1 : n < 1)  :
    am_E sL sx cs 365 0 [(0, .ref 157), (1, .int n)] [] H (some (.int (-1))) (fun H1 => (am_is H1 157 (.inr (12, [.int 0, .ref 158, .int 0, .ref 159, .int 0, .int 0, .ref 160, .ref 161, .ref 162, .ref 163, .ref 164, .ref 165, .ref 166, .int 0, .int (-1), .int 0, .int 0, .int 0, .ref 167, .int 0, .int 0, .int (-1), .ref 168, .int 0, .ref 169, .int 0, .int 0, .int 0, .ref 170, .ref 171, .int 0, .int 0, .int (-1), .int (-1), .int 0, .int 0, .int 0, .ref 172, .ref 173, .ref 174, .ref 175, .ref 176, .ref 177, .ref 178, .ref 179, .ref 180, .ref 181, .ref 182, .ref 183, .int 0, .int 0, .int 0, .int 0, .int 0, .ref 184, .int 0, .int 0, .int 0, .int 127, .int 0, .int 0, .int 0, .int 0, .int 0, .ref 185, .int 0, .ref 186, .int 0, .int v157_68, .int v157_69, .int v157_70, .int 0, .int 0, .int 0, .int (-1), .int (-1), .int 0, .int 0, .ref 187, .int 0, .int 0, .int 0, .int 0, .int 0, .int 0, .int 0, .ref 188, .int 0, .ref 189, .int 0, .ref 190, .ref 191, .ref 192, .int 0, .int 0, .int 0, .int v157_96, .int 0, .int 96, .int 0, .int 0, .int 0, .int 0, .int 0, .int 0, .int 0, .int 0, .int 0, .int 0, .int 0, .int 0, .int 0, .int 0, .int 0, .ref 193, .int 0, .int 0, .int 0, .ref 194, .ref 195, .int (-1), .int 0])) ∧ True) ∧ ∀ j : Nat, j ≠ 157 → H1[j]? = H[j]?) := by
  refine ex_s (am_nb (m := 2) (pc1 := 2) (ls1 := [(0, .ref 157), (1, .int n)]) (st1 := [.int 0, .ref 157]) (H1 := H) (k1 := 0) (n1 := 0) (by with_unfolding_all rfl)) ?_
  refine ex_put rfl h157 rfl rfl rfl ?_
  intro H60 f60 k60
  refine ex_s (am_nb (m := 2) (pc1 := 7) (ls1 := [(0, .ref 157), (1, .int n)]) (st1 := [.int 1, .int n]) (H1 := H60) (k1 := 0) (n1 := 0) (by with_unfolding_all rfl)) ?_
  refine ex_s (st_icmp rfl) ?_
  refine ex_pc (if_pos c1) ?_
  refine ex_s (am_nb (m := 1) (pc1 := 18) (ls1 := [(0, .ref 157), (1, .int n)]) (st1 := [.int (-1)]) (H1 := H60) (k1 := 0) (n1 := 0) (by with_unfolding_all rfl)) ?_
  exact ex_r (st_iret rfl rfl rfl) ⟨⟨f60, trivial⟩, fun j n157 => (k60 j n157)⟩

set_option maxRecDepth 100000 in
theorem tm_e_1 {sL : Nat} {sx : Nat → Int32} {cs : Nat → Nat → Option Int32} {H : am_H} {R : Option Value} {F : am_H → Prop} {v157_68 : Int32} {v157_69 : Int32} {v157_70 : Int32} {v157_96 : Int32} {n : Int32} (h157 : am_is H 157 (.inr (12, [.int 0, .ref 158, .int 0, .ref 159, .int 0, .int 0, .ref 160, .ref 161, .ref 162, .ref 163, .ref 164, .ref 165, .ref 166, .int 0, .int (-1), .int 0, .int 0, .int 0, .ref 167, .int 0, .int 0, .int (-1), .ref 168, .int 0, .ref 169, .int 0, .int 0, .int 0, .ref 170, .ref 171, .int 0, .int 0, .int (-1), .int (-1), .int 0, .int 0, .int 0, .ref 172, .ref 173, .ref 174, .ref 175, .ref 176, .ref 177, .ref 178, .ref 179, .ref 180, .ref 181, .ref 182, .ref 183, .int 0, .int 0, .int 0, .int 0, .int 0, .ref 184, .int 0, .int 0, .int 0, .int 127, .int 0, .int 0, .int 0, .int 0, .int 0, .ref 185, .int 0, .ref 186, .int 0, .int v157_68, .int v157_69, .int v157_70, .int 0, .int 0, .int 0, .int (-1), .int (-1), .int 0, .int 0, .ref 187, .int 0, .int 0, .int 0, .int 0, .int 0, .int 0, .int 0, .ref 188, .int 0, .ref 189, .int 0, .ref 190, .ref 191, .ref 192, .int 0, .int 0, .int 0, .int v157_96, .int 0, .int 96, .int 0, .int 0, .int 0, .int 0, .int 0, .int 0, .int 0, .int 0, .int 0, .int 0, .int 0, .int 0, .int 0, .int 0, .int 0, .ref 193, .int 0, .int 0, .int 0, .ref 194, .ref 195, .int (-1), .int 0]))) (c1 : ¬ n < 1) (c2 : n ≤ 2000)  (kk : ∀ H1 : am_H, ((am_is H1 157 (.inr (12, [.int 0, .ref 158, .int 0, .ref 159, .int 0, .int 0, .ref 160, .ref 161, .ref 162, .ref 163, .ref 164, .ref 165, .ref 166, .int 0, .int (-1), .int 0, .int 0, .int 0, .ref 167, .int 0, .int 0, .int (-1), .ref 168, .int 0, .ref 169, .int 0, .int 0, .int 0, .ref 170, .ref 171, .int 0, .int 0, .int (-1), .int (-1), .int 0, .int 0, .int 0, .ref 172, .ref 173, .ref 174, .ref 175, .ref 176, .ref 177, .ref 178, .ref 179, .ref 180, .ref 181, .ref 182, .ref 183, .int 0, .int 0, .int 0, .int 0, .int 0, .ref 184, .int 0, .int 0, .int 0, .int 127, .int 0, .int 0, .int 0, .int 0, .int 0, .ref 185, .int 0, .ref 186, .int 0, .int v157_68, .int v157_69, .int v157_70, .int 0, .int 0, .int 0, .int (-1), .int (-1), .int 0, .int 0, .ref 187, .int 0, .int 0, .int 0, .int 0, .int 0, .int 0, .int 0, .ref 188, .int 0, .ref 189, .int 0, .ref 190, .ref 191, .ref 192, .int 0, .int 0, .int 0, .int v157_96, .int 0, .int 96, .int 0, .int 0, .int 0, .int 0, .int 0, .int 0, .int 0, .int 0, .int 0, .int 0, .int 0, .int 0, .int 0, .int 0, .int 0, .ref 193, .int 0, .int 0, .int 0, .ref 194, .ref 195, .int (-1), .int 0])) ∧ True) ∧ ∀ j : Nat, j ≠ 157 → H1[j]? = H[j]?) → am_E sL sx cs 365 21 [(2, .int 0), (0, .ref 157), (1, .int n)] [] H1 R F) :
    am_E sL sx cs 365 0 [(0, .ref 157), (1, .int n)] [] H R F := by
  refine ex_s (am_nb (m := 2) (pc1 := 2) (ls1 := [(0, .ref 157), (1, .int n)]) (st1 := [.int 0, .ref 157]) (H1 := H) (k1 := 0) (n1 := 0) (by with_unfolding_all rfl)) ?_
  refine ex_put rfl h157 rfl rfl rfl ?_
  intro H60 f60 k60
  refine ex_s (am_nb (m := 2) (pc1 := 7) (ls1 := [(0, .ref 157), (1, .int n)]) (st1 := [.int 1, .int n]) (H1 := H60) (k1 := 0) (n1 := 0) (by with_unfolding_all rfl)) ?_
  refine ex_s (st_icmp rfl) ?_
  refine ex_pc (if_neg c1) ?_
  refine ex_s (am_nb (m := 2) (pc1 := 14) (ls1 := [(0, .ref 157), (1, .int n)]) (st1 := [.int 2000, .int n]) (H1 := H60) (k1 := 0) (n1 := 0) (by with_unfolding_all rfl)) ?_
  refine ex_s (st_icmp rfl) ?_
  refine ex_pc (if_pos c2) ?_
  refine ex_s (am_nb (m := 2) (pc1 := 21) (ls1 := [(2, .int 0), (0, .ref 157), (1, .int n)]) (st1 := []) (H1 := H60) (k1 := 0) (n1 := 0) (by with_unfolding_all rfl)) ?_
  exact kk _ ⟨⟨f60, trivial⟩, fun j n157 => (k60 j n157)⟩

set_option maxRecDepth 100000 in
theorem tm_e_2 {sL : Nat} {sx : Nat → Int32} {cs : Nat → Nat → Option Int32} {H : am_H} {v157_68 : Int32} {v157_69 : Int32} {v157_70 : Int32} {v157_96 : Int32} {n : Int32} (h157 : am_is H 157 (.inr (12, [.int 0, .ref 158, .int 0, .ref 159, .int 0, .int 0, .ref 160, .ref 161, .ref 162, .ref 163, .ref 164, .ref 165, .ref 166, .int 0, .int (-1), .int 0, .int 0, .int 0, .ref 167, .int 0, .int 0, .int (-1), .ref 168, .int 0, .ref 169, .int 0, .int 0, .int 0, .ref 170, .ref 171, .int 0, .int 0, .int (-1), .int (-1), .int 0, .int 0, .int 0, .ref 172, .ref 173, .ref 174, .ref 175, .ref 176, .ref 177, .ref 178, .ref 179, .ref 180, .ref 181, .ref 182, .ref 183, .int 0, .int 0, .int 0, .int 0, .int 0, .ref 184, .int 0, .int 0, .int 0, .int 127, .int 0, .int 0, .int 0, .int 0, .int 0, .ref 185, .int 0, .ref 186, .int 0, .int v157_68, .int v157_69, .int v157_70, .int 0, .int 0, .int 0, .int (-1), .int (-1), .int 0, .int 0, .ref 187, .int 0, .int 0, .int 0, .int 0, .int 0, .int 0, .int 0, .ref 188, .int 0, .ref 189, .int 0, .ref 190, .ref 191, .ref 192, .int 0, .int 0, .int 0, .int v157_96, .int 0, .int 96, .int 0, .int 0, .int 0, .int 0, .int 0, .int 0, .int 0, .int 0, .int 0, .int 0, .int 0, .int 0, .int 0, .int 0, .int 0, .ref 193, .int 0, .int 0, .int 0, .ref 194, .ref 195, .int (-1), .int 0]))) (c1 : ¬ n < 1) (c2 : ¬ n ≤ 2000)  :
    am_E sL sx cs 365 0 [(0, .ref 157), (1, .int n)] [] H (some (.int (-1))) (fun H1 => (am_is H1 157 (.inr (12, [.int 0, .ref 158, .int 0, .ref 159, .int 0, .int 0, .ref 160, .ref 161, .ref 162, .ref 163, .ref 164, .ref 165, .ref 166, .int 0, .int (-1), .int 0, .int 0, .int 0, .ref 167, .int 0, .int 0, .int (-1), .ref 168, .int 0, .ref 169, .int 0, .int 0, .int 0, .ref 170, .ref 171, .int 0, .int 0, .int (-1), .int (-1), .int 0, .int 0, .int 0, .ref 172, .ref 173, .ref 174, .ref 175, .ref 176, .ref 177, .ref 178, .ref 179, .ref 180, .ref 181, .ref 182, .ref 183, .int 0, .int 0, .int 0, .int 0, .int 0, .ref 184, .int 0, .int 0, .int 0, .int 127, .int 0, .int 0, .int 0, .int 0, .int 0, .ref 185, .int 0, .ref 186, .int 0, .int v157_68, .int v157_69, .int v157_70, .int 0, .int 0, .int 0, .int (-1), .int (-1), .int 0, .int 0, .ref 187, .int 0, .int 0, .int 0, .int 0, .int 0, .int 0, .int 0, .ref 188, .int 0, .ref 189, .int 0, .ref 190, .ref 191, .ref 192, .int 0, .int 0, .int 0, .int v157_96, .int 0, .int 96, .int 0, .int 0, .int 0, .int 0, .int 0, .int 0, .int 0, .int 0, .int 0, .int 0, .int 0, .int 0, .int 0, .int 0, .int 0, .ref 193, .int 0, .int 0, .int 0, .ref 194, .ref 195, .int (-1), .int 0])) ∧ True) ∧ ∀ j : Nat, j ≠ 157 → H1[j]? = H[j]?) := by
  refine ex_s (am_nb (m := 2) (pc1 := 2) (ls1 := [(0, .ref 157), (1, .int n)]) (st1 := [.int 0, .ref 157]) (H1 := H) (k1 := 0) (n1 := 0) (by with_unfolding_all rfl)) ?_
  refine ex_put rfl h157 rfl rfl rfl ?_
  intro H60 f60 k60
  refine ex_s (am_nb (m := 2) (pc1 := 7) (ls1 := [(0, .ref 157), (1, .int n)]) (st1 := [.int 1, .int n]) (H1 := H60) (k1 := 0) (n1 := 0) (by with_unfolding_all rfl)) ?_
  refine ex_s (st_icmp rfl) ?_
  refine ex_pc (if_neg c1) ?_
  refine ex_s (am_nb (m := 2) (pc1 := 14) (ls1 := [(0, .ref 157), (1, .int n)]) (st1 := [.int 2000, .int n]) (H1 := H60) (k1 := 0) (n1 := 0) (by with_unfolding_all rfl)) ?_
  refine ex_s (st_icmp rfl) ?_
  refine ex_pc (if_neg c2) ?_
  refine ex_s (am_nb (m := 1) (pc1 := 18) (ls1 := [(0, .ref 157), (1, .int n)]) (st1 := [.int (-1)]) (H1 := H60) (k1 := 0) (n1 := 0) (by with_unfolding_all rfl)) ?_
  exact ex_r (st_iret rfl rfl rfl) ⟨⟨f60, trivial⟩, fun j n157 => (k60 j n157)⟩

set_option maxRecDepth 100000 in
theorem tm_a_2_0 {sL : Nat} {sx : Nat → Int32} {cs : Nat → Nat → Option Int32} {H : am_H} {v157_68 : Int32} {v157_69 : Int32} {v157_70 : Int32} {v157_96 : Int32} {t : Int32} (h157 : am_is H 157 (.inr (12, [.int 0, .ref 158, .int 0, .ref 159, .int 0, .int 0, .ref 160, .ref 161, .ref 162, .ref 163, .ref 164, .ref 165, .ref 166, .int 0, .int (-1), .int 0, .int 0, .int 0, .ref 167, .int 0, .int 0, .int (-1), .ref 168, .int 0, .ref 169, .int 0, .int 0, .int 0, .ref 170, .ref 171, .int 0, .int 0, .int (-1), .int (-1), .int 0, .int 0, .int 0, .ref 172, .ref 173, .ref 174, .ref 175, .ref 176, .ref 177, .ref 178, .ref 179, .ref 180, .ref 181, .ref 182, .ref 183, .int 0, .int 0, .int 0, .int 0, .int 0, .ref 184, .int 0, .int 0, .int 0, .int 127, .int 0, .int 0, .int 0, .int 0, .int 0, .ref 185, .int 0, .ref 186, .int 0, .int v157_68, .int v157_69, .int v157_70, .int (t + 1), .int 0, .int 0, .int (-1), .int (-1), .int 0, .int 0, .ref 187, .int 0, .int 0, .int 0, .int 0, .int 0, .int 0, .int 0, .ref 188, .int 0, .ref 189, .int 0, .ref 190, .ref 191, .ref 192, .int 0, .int 0, .int 0, .int v157_96, .int 0, .int 96, .int 0, .int 0, .int 0, .int 0, .int 0, .int 0, .int 0, .int 0, .int 0, .int 0, .int 0, .int 0, .int 0, .int 0, .int 0, .ref 193, .int 0, .int 0, .int 0, .ref 194, .ref 195, .int (-1), .int 0])))   :
    am_E sL sx cs 410 0 [(0, .ref 157)] [] H none (fun H1 => (True) ∧ ∀ j : Nat, H1[j]? = H[j]?) := by
  refine ex_s (am_nb (m := 1) (pc1 := 1) (ls1 := [(0, .ref 157)]) (st1 := [.ref 157]) (H1 := H) (k1 := 0) (n1 := 0) (by with_unfolding_all rfl)) ?_
  refine ex_s (st_get rfl h157 rfl) ?_
  refine ex_s (am_nb (m := 2) (pc1 := 8) (ls1 := [(0, .ref 157)]) (st1 := [.ref 157]) (H1 := H) (k1 := 0) (n1 := 0) (by with_unfolding_all rfl)) ?_
  refine ex_s (st_get rfl h157 rfl) ?_
  refine ex_s (am_nb (m := 10) (pc1 := 46) (ls1 := [(2, .int (-1)), (1, .int 0), (0, .ref 157)]) (st1 := [.ref 157]) (H1 := H) (k1 := 0) (n1 := 0) (by with_unfolding_all rfl)) ?_
  refine ex_s (st_get rfl h157 rfl) ?_
  refine ex_s (am_nb (m := 6) (pc1 := 71) (ls1 := [(2, .int (-1)), (1, .int 0), (0, .ref 157)]) (st1 := [.ref 157]) (H1 := H) (k1 := 0) (n1 := 0) (by with_unfolding_all rfl)) ?_
  refine ex_s (st_get rfl h157 rfl) ?_
  refine ex_s (am_nb (m := 2) (pc1 := 78) (ls1 := [(2, .int (-1)), (1, .int 0), (0, .ref 157)]) (st1 := [.ref 157]) (H1 := H) (k1 := 0) (n1 := 0) (by with_unfolding_all rfl)) ?_
  refine ex_s (st_get rfl h157 rfl) ?_
  refine ex_s (am_nb (m := 4) (pc1 := 140) (ls1 := [(2, .int (-1)), (1, .int 0), (0, .ref 157)]) (st1 := []) (H1 := H) (k1 := 0) (n1 := 0) (by with_unfolding_all rfl)) ?_
  exact ex_r (st_vret rfl rfl) ⟨trivial, fun j => rfl⟩

set_option maxRecDepth 100000 in
theorem tm_a_1_0 {sL : Nat} {sx : Nat → Int32} {cs : Nat → Nat → Option Int32} {H : am_H} {v157_68 : Int32} {v157_69 : Int32} {v157_70 : Int32} {v157_96 : Int32} {t : Int32} (h157 : am_is H 157 (.inr (12, [.int 0, .ref 158, .int 0, .ref 159, .int 0, .int 0, .ref 160, .ref 161, .ref 162, .ref 163, .ref 164, .ref 165, .ref 166, .int 0, .int (-1), .int 0, .int 0, .int 0, .ref 167, .int 0, .int 0, .int (-1), .ref 168, .int 0, .ref 169, .int 0, .int 0, .int 0, .ref 170, .ref 171, .int 0, .int 0, .int (-1), .int (-1), .int 0, .int 0, .int 0, .ref 172, .ref 173, .ref 174, .ref 175, .ref 176, .ref 177, .ref 178, .ref 179, .ref 180, .ref 181, .ref 182, .ref 183, .int 0, .int 0, .int 0, .int 0, .int 0, .ref 184, .int 0, .int 0, .int 0, .int 127, .int 0, .int 0, .int 0, .int 0, .int 0, .ref 185, .int 0, .ref 186, .int 0, .int v157_68, .int v157_69, .int v157_70, .int t, .int 0, .int 0, .int (-1), .int (-1), .int 0, .int 0, .ref 187, .int 0, .int 0, .int 0, .int 0, .int 0, .int 0, .int 0, .ref 188, .int 0, .ref 189, .int 0, .ref 190, .ref 191, .ref 192, .int 0, .int 0, .int 0, .int v157_96, .int 0, .int 96, .int 0, .int 0, .int 0, .int 0, .int 0, .int 0, .int 0, .int 0, .int 0, .int 0, .int 0, .int 0, .int 0, .int 0, .int 0, .ref 193, .int 0, .int 0, .int 0, .ref 194, .ref 195, .int (-1), .int 0]))) (h194 : am_is H 194 (.inl (.boolean, (127, .inl (fun _ => 0))))) (h195 : am_is H 195 (.inl (.boolean, (127, .inl (fun _ => 0))))) (c1 : ((t + 1) - (t + 1) / 4 * 4) = 0)  :
    am_E sL sx cs 366 0 [(0, .ref 157)] [] H none (fun H1 => (am_is H1 157 (.inr (12, [.int 0, .ref 158, .int 0, .ref 159, .int 0, .int 0, .ref 160, .ref 161, .ref 162, .ref 163, .ref 164, .ref 165, .ref 166, .int 0, .int (-1), .int 0, .int 0, .int 0, .ref 167, .int 0, .int 0, .int (-1), .ref 168, .int 0, .ref 169, .int 0, .int 0, .int 0, .ref 170, .ref 171, .int 0, .int 0, .int (-1), .int (-1), .int 0, .int 0, .int 0, .ref 172, .ref 173, .ref 174, .ref 175, .ref 176, .ref 177, .ref 178, .ref 179, .ref 180, .ref 181, .ref 182, .ref 183, .int 0, .int 0, .int 0, .int 0, .int 0, .ref 184, .int 0, .int 0, .int 0, .int 127, .int 0, .int 0, .int 0, .int 0, .int 0, .ref 185, .int 0, .ref 186, .int 0, .int v157_68, .int v157_69, .int v157_70, .int (t + 1), .int 0, .int 0, .int (-1), .int (-1), .int 0, .int 0, .ref 187, .int 0, .int 0, .int 0, .int 0, .int 0, .int 0, .int 0, .ref 188, .int 0, .ref 189, .int 0, .ref 190, .ref 191, .ref 192, .int 0, .int 0, .int 0, .int v157_96, .int 0, .int 96, .int 0, .int 0, .int 0, .int 0, .int 0, .int 0, .int 0, .int 0, .int 0, .int 0, .int 0, .int 0, .int 0, .int 0, .int 0, .ref 193, .int 0, .int 0, .int 0, .ref 194, .ref 195, .int (-1), .int 0])) ∧ am_is H1 195 (.inl (.boolean, (127, .inl (fun _ => 0)))) ∧ True) ∧ ∀ j : Nat, j ≠ 157 → j ≠ 195 → H1[j]? = H[j]?) := by
  refine ex_s (am_nb (m := 2) (pc1 := 2) (ls1 := [(0, .ref 157)]) (st1 := [.ref 157, .ref 157]) (H1 := H) (k1 := 0) (n1 := 0) (by with_unfolding_all rfl)) ?_
  refine ex_s (st_get rfl h157 rfl) ?_
  refine ex_s (am_nb (m := 2) (pc1 := 7) (ls1 := [(0, .ref 157)]) (st1 := [.int (t + 1), .ref 157]) (H1 := H) (k1 := 0) (n1 := 0) (by with_unfolding_all rfl)) ?_
  refine ex_put rfl h157 rfl rfl rfl ?_
  intro H61 f61 k61
  refine ex_s (am_nb (m := 1) (pc1 := 11) (ls1 := [(0, .ref 157)]) (st1 := [.ref 157]) (H1 := H61) (k1 := 0) (n1 := 0) (by with_unfolding_all rfl)) ?_
  refine ex_s (st_get rfl f61 rfl) ?_
  refine ex_s (am_nb (m := 3) (pc1 := 45) (ls1 := [(0, .ref 157)]) (st1 := [.ref 157]) (H1 := H61) (k1 := 0) (n1 := 0) (by with_unfolding_all rfl)) ?_
  refine ex_s (st_get rfl f61 rfl) ?_
  refine ex_s (am_nb (m := 3) (pc1 := 86) (ls1 := [(0, .ref 157)]) (st1 := [.ref 157]) (H1 := H61) (k1 := 0) (n1 := 0) (by with_unfolding_all rfl)) ?_
  refine ex_s (st_get rfl f61 rfl) ?_
  refine ex_s (am_nb (m := 2) (pc1 := 91) (ls1 := [(0, .ref 157)]) (st1 := [.int ((t + 1) - (t + 1) / 4 * 4)]) (H1 := H61) (k1 := 0) (n1 := 0) (by with_unfolding_all rfl)) ?_
  refine ex_s (st_if rfl) ?_
  refine ex_pc (if_pos c1) ?_
  refine ex_s (am_nb (m := 1) (pc1 := 95) (ls1 := [(0, .ref 157)]) (st1 := [.ref 157]) (H1 := H61) (k1 := 0) (n1 := 0) (by with_unfolding_all rfl)) ?_
  refine ex_cv0 (as := []) (rest := []) rfl rfl rfl rfl f61 rfl (by with_unfolding_all rfl) (by with_unfolding_all rfl) (sc_ok f61 ((k61 194 (by decide)).trans h194) ((k61 195 (by decide)).trans h195)) ?_
  rintro H62 ⟨⟨f62_195, -⟩, k62⟩
  refine ex_s (am_nb (m := 1) (pc1 := 99) (ls1 := [(0, .ref 157)]) (st1 := [.ref 157]) (H1 := H62) (k1 := 0) (n1 := 0) (by with_unfolding_all rfl)) ?_
  refine ex_s (st_get rfl ((k62 157 (by decide)).trans f61) rfl) ?_
  refine ex_s (am_nb (m := 2) (pc1 := 119) (ls1 := [(0, .ref 157)]) (st1 := [.ref 157]) (H1 := H62) (k1 := 0) (n1 := 0) (by with_unfolding_all rfl)) ?_
  refine ex_s (st_get rfl ((k62 157 (by decide)).trans f61) rfl) ?_
  refine ex_s (am_nb (m := 2) (pc1 := 126) (ls1 := [(0, .ref 157)]) (st1 := [.ref 157]) (H1 := H62) (k1 := 0) (n1 := 0) (by with_unfolding_all rfl)) ?_
  refine ex_s (st_get rfl ((k62 157 (by decide)).trans f61) rfl) ?_
  refine ex_s (am_nb (m := 2) (pc1 := 210) (ls1 := [(0, .ref 157)]) (st1 := [.ref 157]) (H1 := H62) (k1 := 0) (n1 := 0) (by with_unfolding_all rfl)) ?_
  refine ex_s (st_get rfl ((k62 157 (by decide)).trans f61) rfl) ?_
  refine ex_s (am_nb (m := 3) (pc1 := 218) (ls1 := [(0, .ref 157)]) (st1 := [.ref 157]) (H1 := H62) (k1 := 0) (n1 := 0) (by with_unfolding_all rfl)) ?_
  refine ex_cv0 (as := []) (rest := []) rfl rfl rfl rfl ((k62 157 (by decide)).trans f61) rfl (by with_unfolding_all rfl) (by with_unfolding_all rfl) (tm_a_2_0 ((k62 157 (by decide)).trans f61)) ?_
  rintro H63 ⟨-, k63⟩
  refine ex_s (am_nb (m := 1) (pc1 := 222) (ls1 := [(0, .ref 157)]) (st1 := [.ref 157]) (H1 := H63) (k1 := 0) (n1 := 0) (by with_unfolding_all rfl)) ?_
  refine ex_s (st_get rfl ((k63 157).trans ((k62 157 (by decide)).trans f61)) rfl) ?_
  refine ex_s (am_nb (m := 3) (pc1 := 230) (ls1 := [(0, .ref 157)]) (st1 := [.ref 157]) (H1 := H63) (k1 := 0) (n1 := 0) (by with_unfolding_all rfl)) ?_
  refine ex_s (st_get rfl ((k63 157).trans ((k62 157 (by decide)).trans f61)) rfl) ?_
  refine ex_s (am_nb (m := 2) (pc1 := 237) (ls1 := [(0, .ref 157)]) (st1 := [.ref 157]) (H1 := H63) (k1 := 0) (n1 := 0) (by with_unfolding_all rfl)) ?_
  refine ex_s (st_get rfl ((k63 157).trans ((k62 157 (by decide)).trans f61)) rfl) ?_
  refine ex_s (am_nb (m := 1) (pc1 := 307) (ls1 := [(0, .ref 157)]) (st1 := []) (H1 := H63) (k1 := 0) (n1 := 0) (by with_unfolding_all rfl)) ?_
  exact ex_r (st_vret rfl rfl) ⟨⟨((k63 157).trans ((k62 157 (by decide)).trans f61)), ((k63 195).trans f62_195), trivial⟩, fun j n157 n195 => ((k63 j).trans ((k62 j n195).trans (k61 j n157)))⟩

set_option maxRecDepth 100000 in
theorem tm_a_1_1 {sL : Nat} {sx : Nat → Int32} {cs : Nat → Nat → Option Int32} {H : am_H} {v157_68 : Int32} {v157_69 : Int32} {v157_70 : Int32} {v157_96 : Int32} {t : Int32} (h157 : am_is H 157 (.inr (12, [.int 0, .ref 158, .int 0, .ref 159, .int 0, .int 0, .ref 160, .ref 161, .ref 162, .ref 163, .ref 164, .ref 165, .ref 166, .int 0, .int (-1), .int 0, .int 0, .int 0, .ref 167, .int 0, .int 0, .int (-1), .ref 168, .int 0, .ref 169, .int 0, .int 0, .int 0, .ref 170, .ref 171, .int 0, .int 0, .int (-1), .int (-1), .int 0, .int 0, .int 0, .ref 172, .ref 173, .ref 174, .ref 175, .ref 176, .ref 177, .ref 178, .ref 179, .ref 180, .ref 181, .ref 182, .ref 183, .int 0, .int 0, .int 0, .int 0, .int 0, .ref 184, .int 0, .int 0, .int 0, .int 127, .int 0, .int 0, .int 0, .int 0, .int 0, .ref 185, .int 0, .ref 186, .int 0, .int v157_68, .int v157_69, .int v157_70, .int t, .int 0, .int 0, .int (-1), .int (-1), .int 0, .int 0, .ref 187, .int 0, .int 0, .int 0, .int 0, .int 0, .int 0, .int 0, .ref 188, .int 0, .ref 189, .int 0, .ref 190, .ref 191, .ref 192, .int 0, .int 0, .int 0, .int v157_96, .int 0, .int 96, .int 0, .int 0, .int 0, .int 0, .int 0, .int 0, .int 0, .int 0, .int 0, .int 0, .int 0, .int 0, .int 0, .int 0, .int 0, .ref 193, .int 0, .int 0, .int 0, .ref 194, .ref 195, .int (-1), .int 0]))) (h194 : am_is H 194 (.inl (.boolean, (127, .inl (fun _ => 0))))) (h195 : am_is H 195 (.inl (.boolean, (127, .inl (fun _ => 0))))) (c1 : ¬ ((t + 1) - (t + 1) / 4 * 4) = 0)  :
    am_E sL sx cs 366 0 [(0, .ref 157)] [] H none (fun H1 => (am_is H1 157 (.inr (12, [.int 0, .ref 158, .int 0, .ref 159, .int 0, .int 0, .ref 160, .ref 161, .ref 162, .ref 163, .ref 164, .ref 165, .ref 166, .int 0, .int (-1), .int 0, .int 0, .int 0, .ref 167, .int 0, .int 0, .int (-1), .ref 168, .int 0, .ref 169, .int 0, .int 0, .int 0, .ref 170, .ref 171, .int 0, .int 0, .int (-1), .int (-1), .int 0, .int 0, .int 0, .ref 172, .ref 173, .ref 174, .ref 175, .ref 176, .ref 177, .ref 178, .ref 179, .ref 180, .ref 181, .ref 182, .ref 183, .int 0, .int 0, .int 0, .int 0, .int 0, .ref 184, .int 0, .int 0, .int 0, .int 127, .int 0, .int 0, .int 0, .int 0, .int 0, .ref 185, .int 0, .ref 186, .int 0, .int v157_68, .int v157_69, .int v157_70, .int (t + 1), .int 0, .int 0, .int (-1), .int (-1), .int 0, .int 0, .ref 187, .int 0, .int 0, .int 0, .int 0, .int 0, .int 0, .int 0, .ref 188, .int 0, .ref 189, .int 0, .ref 190, .ref 191, .ref 192, .int 0, .int 0, .int 0, .int v157_96, .int 0, .int 96, .int 0, .int 0, .int 0, .int 0, .int 0, .int 0, .int 0, .int 0, .int 0, .int 0, .int 0, .int 0, .int 0, .int 0, .int 0, .ref 193, .int 0, .int 0, .int 0, .ref 194, .ref 195, .int (-1), .int 0])) ∧ True) ∧ ∀ j : Nat, j ≠ 157 → H1[j]? = H[j]?) := by
  refine ex_s (am_nb (m := 2) (pc1 := 2) (ls1 := [(0, .ref 157)]) (st1 := [.ref 157, .ref 157]) (H1 := H) (k1 := 0) (n1 := 0) (by with_unfolding_all rfl)) ?_
  refine ex_s (st_get rfl h157 rfl) ?_
  refine ex_s (am_nb (m := 2) (pc1 := 7) (ls1 := [(0, .ref 157)]) (st1 := [.int (t + 1), .ref 157]) (H1 := H) (k1 := 0) (n1 := 0) (by with_unfolding_all rfl)) ?_
  refine ex_put rfl h157 rfl rfl rfl ?_
  intro H61 f61 k61
  refine ex_s (am_nb (m := 1) (pc1 := 11) (ls1 := [(0, .ref 157)]) (st1 := [.ref 157]) (H1 := H61) (k1 := 0) (n1 := 0) (by with_unfolding_all rfl)) ?_
  refine ex_s (st_get rfl f61 rfl) ?_
  refine ex_s (am_nb (m := 3) (pc1 := 45) (ls1 := [(0, .ref 157)]) (st1 := [.ref 157]) (H1 := H61) (k1 := 0) (n1 := 0) (by with_unfolding_all rfl)) ?_
  refine ex_s (st_get rfl f61 rfl) ?_
  refine ex_s (am_nb (m := 3) (pc1 := 86) (ls1 := [(0, .ref 157)]) (st1 := [.ref 157]) (H1 := H61) (k1 := 0) (n1 := 0) (by with_unfolding_all rfl)) ?_
  refine ex_s (st_get rfl f61 rfl) ?_
  refine ex_s (am_nb (m := 2) (pc1 := 91) (ls1 := [(0, .ref 157)]) (st1 := [.int ((t + 1) - (t + 1) / 4 * 4)]) (H1 := H61) (k1 := 0) (n1 := 0) (by with_unfolding_all rfl)) ?_
  refine ex_s (st_if rfl) ?_
  refine ex_pc (if_neg c1) ?_
  refine ex_s (am_nb (m := 1) (pc1 := 99) (ls1 := [(0, .ref 157)]) (st1 := [.ref 157]) (H1 := H61) (k1 := 0) (n1 := 0) (by with_unfolding_all rfl)) ?_
  refine ex_s (st_get rfl f61 rfl) ?_
  refine ex_s (am_nb (m := 2) (pc1 := 119) (ls1 := [(0, .ref 157)]) (st1 := [.ref 157]) (H1 := H61) (k1 := 0) (n1 := 0) (by with_unfolding_all rfl)) ?_
  refine ex_s (st_get rfl f61 rfl) ?_
  refine ex_s (am_nb (m := 2) (pc1 := 126) (ls1 := [(0, .ref 157)]) (st1 := [.ref 157]) (H1 := H61) (k1 := 0) (n1 := 0) (by with_unfolding_all rfl)) ?_
  refine ex_s (st_get rfl f61 rfl) ?_
  refine ex_s (am_nb (m := 2) (pc1 := 210) (ls1 := [(0, .ref 157)]) (st1 := [.ref 157]) (H1 := H61) (k1 := 0) (n1 := 0) (by with_unfolding_all rfl)) ?_
  refine ex_s (st_get rfl f61 rfl) ?_
  refine ex_s (am_nb (m := 3) (pc1 := 218) (ls1 := [(0, .ref 157)]) (st1 := [.ref 157]) (H1 := H61) (k1 := 0) (n1 := 0) (by with_unfolding_all rfl)) ?_
  refine ex_cv0 (as := []) (rest := []) rfl rfl rfl rfl f61 rfl (by with_unfolding_all rfl) (by with_unfolding_all rfl) (tm_a_2_0 f61) ?_
  rintro H64 ⟨-, k64⟩
  refine ex_s (am_nb (m := 1) (pc1 := 222) (ls1 := [(0, .ref 157)]) (st1 := [.ref 157]) (H1 := H64) (k1 := 0) (n1 := 0) (by with_unfolding_all rfl)) ?_
  refine ex_s (st_get rfl ((k64 157).trans f61) rfl) ?_
  refine ex_s (am_nb (m := 3) (pc1 := 230) (ls1 := [(0, .ref 157)]) (st1 := [.ref 157]) (H1 := H64) (k1 := 0) (n1 := 0) (by with_unfolding_all rfl)) ?_
  refine ex_s (st_get rfl ((k64 157).trans f61) rfl) ?_
  refine ex_s (am_nb (m := 2) (pc1 := 237) (ls1 := [(0, .ref 157)]) (st1 := [.ref 157]) (H1 := H64) (k1 := 0) (n1 := 0) (by with_unfolding_all rfl)) ?_
  refine ex_s (st_get rfl ((k64 157).trans f61) rfl) ?_
  refine ex_s (am_nb (m := 1) (pc1 := 307) (ls1 := [(0, .ref 157)]) (st1 := []) (H1 := H64) (k1 := 0) (n1 := 0) (by with_unfolding_all rfl)) ?_
  exact ex_r (st_vret rfl rfl) ⟨⟨((k64 157).trans f61), trivial⟩, fun j n157 => ((k64 j).trans (k61 j n157))⟩

set_option maxRecDepth 100000 in
theorem tm_a_0 {sL : Nat} {sx : Nat → Int32} {cs : Nat → Nat → Option Int32} {H : am_H} {v157_68 : Int32} {v157_69 : Int32} {v157_70 : Int32} {v157_96 : Int32} {t : Int32} {d : Int32} {n : Int32} (h157 : am_is H 157 (.inr (12, [.int 0, .ref 158, .int 0, .ref 159, .int 0, .int 0, .ref 160, .ref 161, .ref 162, .ref 163, .ref 164, .ref 165, .ref 166, .int 0, .int (-1), .int 0, .int 0, .int 0, .ref 167, .int 0, .int 0, .int (-1), .ref 168, .int 0, .ref 169, .int 0, .int 0, .int 0, .ref 170, .ref 171, .int 0, .int 0, .int (-1), .int (-1), .int 0, .int 0, .int 0, .ref 172, .ref 173, .ref 174, .ref 175, .ref 176, .ref 177, .ref 178, .ref 179, .ref 180, .ref 181, .ref 182, .ref 183, .int 0, .int 0, .int 0, .int 0, .int 0, .ref 184, .int 0, .int 0, .int 0, .int 127, .int 0, .int 0, .int 0, .int 0, .int 0, .ref 185, .int 0, .ref 186, .int 0, .int v157_68, .int v157_69, .int v157_70, .int t, .int 0, .int 0, .int (-1), .int (-1), .int 0, .int 0, .ref 187, .int 0, .int 0, .int 0, .int 0, .int 0, .int 0, .int 0, .ref 188, .int 0, .ref 189, .int 0, .ref 190, .ref 191, .ref 192, .int 0, .int 0, .int 0, .int v157_96, .int 0, .int 96, .int 0, .int 0, .int 0, .int 0, .int 0, .int 0, .int 0, .int 0, .int 0, .int 0, .int 0, .int 0, .int 0, .int 0, .int 0, .ref 193, .int 0, .int 0, .int 0, .ref 194, .ref 195, .int (-1), .int 0]))) (h194 : am_is H 194 (.inl (.boolean, (127, .inl (fun _ => 0))))) (h195 : am_is H 195 (.inl (.boolean, (127, .inl (fun _ => 0))))) (c1 : n ≤ d)  :
    am_E sL sx cs 365 21 [(2, .int d), (0, .ref 157), (1, .int n)] [] H (some (.int d)) (fun H1 => (True) ∧ ∀ j : Nat, H1[j]? = H[j]?) := by
  refine ex_s (am_nb (m := 2) (pc1 := 23) (ls1 := [(2, .int d), (0, .ref 157), (1, .int n)]) (st1 := [.int n, .int d]) (H1 := H) (k1 := 0) (n1 := 0) (by with_unfolding_all rfl)) ?_
  refine ex_s (st_icmp rfl) ?_
  refine ex_pc (if_pos c1) ?_
  refine ex_s (am_nb (m := 1) (pc1 := 47) (ls1 := [(2, .int d), (0, .ref 157), (1, .int n)]) (st1 := [.int d]) (H1 := H) (k1 := 0) (n1 := 0) (by with_unfolding_all rfl)) ?_
  exact ex_r (st_iret rfl rfl rfl) ⟨trivial, fun j => rfl⟩

set_option maxRecDepth 100000 in
theorem tm_a_1 {sL : Nat} {sx : Nat → Int32} {cs : Nat → Nat → Option Int32} {H : am_H} {v157_68 : Int32} {v157_69 : Int32} {v157_70 : Int32} {v157_96 : Int32} {t : Int32} {d : Int32} {n : Int32} (h157 : am_is H 157 (.inr (12, [.int 0, .ref 158, .int 0, .ref 159, .int 0, .int 0, .ref 160, .ref 161, .ref 162, .ref 163, .ref 164, .ref 165, .ref 166, .int 0, .int (-1), .int 0, .int 0, .int 0, .ref 167, .int 0, .int 0, .int (-1), .ref 168, .int 0, .ref 169, .int 0, .int 0, .int 0, .ref 170, .ref 171, .int 0, .int 0, .int (-1), .int (-1), .int 0, .int 0, .int 0, .ref 172, .ref 173, .ref 174, .ref 175, .ref 176, .ref 177, .ref 178, .ref 179, .ref 180, .ref 181, .ref 182, .ref 183, .int 0, .int 0, .int 0, .int 0, .int 0, .ref 184, .int 0, .int 0, .int 0, .int 127, .int 0, .int 0, .int 0, .int 0, .int 0, .ref 185, .int 0, .ref 186, .int 0, .int v157_68, .int v157_69, .int v157_70, .int t, .int 0, .int 0, .int (-1), .int (-1), .int 0, .int 0, .ref 187, .int 0, .int 0, .int 0, .int 0, .int 0, .int 0, .int 0, .ref 188, .int 0, .ref 189, .int 0, .ref 190, .ref 191, .ref 192, .int 0, .int 0, .int 0, .int v157_96, .int 0, .int 96, .int 0, .int 0, .int 0, .int 0, .int 0, .int 0, .int 0, .int 0, .int 0, .int 0, .int 0, .int 0, .int 0, .int 0, .int 0, .ref 193, .int 0, .int 0, .int 0, .ref 194, .ref 195, .int (-1), .int 0]))) (h194 : am_is H 194 (.inl (.boolean, (127, .inl (fun _ => 0))))) (h195 : am_is H 195 (.inl (.boolean, (127, .inl (fun _ => 0))))) (c1 : ¬ n ≤ d) (c2 : 1000000000 ≤ t)  :
    am_E sL sx cs 365 21 [(2, .int d), (0, .ref 157), (1, .int n)] [] H (some (.int d)) (fun H1 => (True) ∧ ∀ j : Nat, H1[j]? = H[j]?) := by
  refine ex_s (am_nb (m := 2) (pc1 := 23) (ls1 := [(2, .int d), (0, .ref 157), (1, .int n)]) (st1 := [.int n, .int d]) (H1 := H) (k1 := 0) (n1 := 0) (by with_unfolding_all rfl)) ?_
  refine ex_s (st_icmp rfl) ?_
  refine ex_pc (if_neg c1) ?_
  refine ex_s (am_nb (m := 1) (pc1 := 27) (ls1 := [(2, .int d), (0, .ref 157), (1, .int n)]) (st1 := [.ref 157]) (H1 := H) (k1 := 0) (n1 := 0) (by with_unfolding_all rfl)) ?_
  refine ex_s (st_get rfl h157 rfl) ?_
  refine ex_s (am_nb (m := 1) (pc1 := 33) (ls1 := [(2, .int d), (0, .ref 157), (1, .int n)]) (st1 := [.int 1000000000, .int t]) (H1 := H) (k1 := 0) (n1 := 0) (by with_unfolding_all rfl)) ?_
  refine ex_s (st_icmp rfl) ?_
  refine ex_pc (if_pos c2) ?_
  refine ex_s (am_nb (m := 1) (pc1 := 47) (ls1 := [(2, .int d), (0, .ref 157), (1, .int n)]) (st1 := [.int d]) (H1 := H) (k1 := 0) (n1 := 0) (by with_unfolding_all rfl)) ?_
  exact ex_r (st_iret rfl rfl rfl) ⟨trivial, fun j => rfl⟩

set_option maxRecDepth 100000 in
theorem tm_a_2 {sL : Nat} {sx : Nat → Int32} {cs : Nat → Nat → Option Int32} {H : am_H} {R : Option Value} {F : am_H → Prop} {v157_68 : Int32} {v157_69 : Int32} {v157_70 : Int32} {v157_96 : Int32} {t : Int32} {d : Int32} {n : Int32} (h157 : am_is H 157 (.inr (12, [.int 0, .ref 158, .int 0, .ref 159, .int 0, .int 0, .ref 160, .ref 161, .ref 162, .ref 163, .ref 164, .ref 165, .ref 166, .int 0, .int (-1), .int 0, .int 0, .int 0, .ref 167, .int 0, .int 0, .int (-1), .ref 168, .int 0, .ref 169, .int 0, .int 0, .int 0, .ref 170, .ref 171, .int 0, .int 0, .int (-1), .int (-1), .int 0, .int 0, .int 0, .ref 172, .ref 173, .ref 174, .ref 175, .ref 176, .ref 177, .ref 178, .ref 179, .ref 180, .ref 181, .ref 182, .ref 183, .int 0, .int 0, .int 0, .int 0, .int 0, .ref 184, .int 0, .int 0, .int 0, .int 127, .int 0, .int 0, .int 0, .int 0, .int 0, .ref 185, .int 0, .ref 186, .int 0, .int v157_68, .int v157_69, .int v157_70, .int t, .int 0, .int 0, .int (-1), .int (-1), .int 0, .int 0, .ref 187, .int 0, .int 0, .int 0, .int 0, .int 0, .int 0, .int 0, .ref 188, .int 0, .ref 189, .int 0, .ref 190, .ref 191, .ref 192, .int 0, .int 0, .int 0, .int v157_96, .int 0, .int 96, .int 0, .int 0, .int 0, .int 0, .int 0, .int 0, .int 0, .int 0, .int 0, .int 0, .int 0, .int 0, .int 0, .int 0, .int 0, .ref 193, .int 0, .int 0, .int 0, .ref 194, .ref 195, .int (-1), .int 0]))) (h194 : am_is H 194 (.inl (.boolean, (127, .inl (fun _ => 0))))) (h195 : am_is H 195 (.inl (.boolean, (127, .inl (fun _ => 0))))) (c1 : ¬ n ≤ d) (c2 : ¬ 1000000000 ≤ t) (c3 : ((t + 1) - (t + 1) / 4 * 4) = 0)  (kk : ∀ H1 : am_H, ((am_is H1 157 (.inr (12, [.int 0, .ref 158, .int 0, .ref 159, .int 0, .int 0, .ref 160, .ref 161, .ref 162, .ref 163, .ref 164, .ref 165, .ref 166, .int 0, .int (-1), .int 0, .int 0, .int 0, .ref 167, .int 0, .int 0, .int (-1), .ref 168, .int 0, .ref 169, .int 0, .int 0, .int 0, .ref 170, .ref 171, .int 0, .int 0, .int (-1), .int (-1), .int 0, .int 0, .int 0, .ref 172, .ref 173, .ref 174, .ref 175, .ref 176, .ref 177, .ref 178, .ref 179, .ref 180, .ref 181, .ref 182, .ref 183, .int 0, .int 0, .int 0, .int 0, .int 0, .ref 184, .int 0, .int 0, .int 0, .int 127, .int 0, .int 0, .int 0, .int 0, .int 0, .ref 185, .int 0, .ref 186, .int 0, .int v157_68, .int v157_69, .int v157_70, .int (t + 1), .int 0, .int 0, .int (-1), .int (-1), .int 0, .int 0, .ref 187, .int 0, .int 0, .int 0, .int 0, .int 0, .int 0, .int 0, .ref 188, .int 0, .ref 189, .int 0, .ref 190, .ref 191, .ref 192, .int 0, .int 0, .int 0, .int v157_96, .int 0, .int 96, .int 0, .int 0, .int 0, .int 0, .int 0, .int 0, .int 0, .int 0, .int 0, .int 0, .int 0, .int 0, .int 0, .int 0, .int 0, .ref 193, .int 0, .int 0, .int 0, .ref 194, .ref 195, .int (-1), .int 0])) ∧ am_is H1 195 (.inl (.boolean, (127, .inl (fun _ => 0)))) ∧ True) ∧ ∀ j : Nat, j ≠ 157 → j ≠ 195 → H1[j]? = H[j]?) → am_E sL sx cs 365 21 [(2, .int (d + 1)), (0, .ref 157), (1, .int n)] [] H1 R F) :
    am_E sL sx cs 365 21 [(2, .int d), (0, .ref 157), (1, .int n)] [] H R F := by
  refine ex_s (am_nb (m := 2) (pc1 := 23) (ls1 := [(2, .int d), (0, .ref 157), (1, .int n)]) (st1 := [.int n, .int d]) (H1 := H) (k1 := 0) (n1 := 0) (by with_unfolding_all rfl)) ?_
  refine ex_s (st_icmp rfl) ?_
  refine ex_pc (if_neg c1) ?_
  refine ex_s (am_nb (m := 1) (pc1 := 27) (ls1 := [(2, .int d), (0, .ref 157), (1, .int n)]) (st1 := [.ref 157]) (H1 := H) (k1 := 0) (n1 := 0) (by with_unfolding_all rfl)) ?_
  refine ex_s (st_get rfl h157 rfl) ?_
  refine ex_s (am_nb (m := 1) (pc1 := 33) (ls1 := [(2, .int d), (0, .ref 157), (1, .int n)]) (st1 := [.int 1000000000, .int t]) (H1 := H) (k1 := 0) (n1 := 0) (by with_unfolding_all rfl)) ?_
  refine ex_s (st_icmp rfl) ?_
  refine ex_pc (if_neg c2) ?_
  refine ex_s (am_nb (m := 1) (pc1 := 37) (ls1 := [(2, .int d), (0, .ref 157), (1, .int n)]) (st1 := [.ref 157]) (H1 := H) (k1 := 0) (n1 := 0) (by with_unfolding_all rfl)) ?_
  refine ex_cv0 (as := []) (rest := []) rfl rfl rfl rfl h157 rfl (by with_unfolding_all rfl) (by with_unfolding_all rfl) (tm_a_1_0 h157 h194 h195 c3) ?_
  rintro H65 ⟨⟨f65_157, f65_195, -⟩, k65⟩
  refine ex_s (am_nb (m := 2) (pc1 := 21) (ls1 := [(2, .int (d + 1)), (0, .ref 157), (1, .int n)]) (st1 := []) (H1 := H65) (k1 := 0) (n1 := 0) (by with_unfolding_all rfl)) ?_
  exact kk _ ⟨⟨f65_157, f65_195, trivial⟩, fun j n157 n195 => (k65 j n157 n195)⟩

set_option maxRecDepth 100000 in
theorem tm_a_3 {sL : Nat} {sx : Nat → Int32} {cs : Nat → Nat → Option Int32} {H : am_H} {R : Option Value} {F : am_H → Prop} {v157_68 : Int32} {v157_69 : Int32} {v157_70 : Int32} {v157_96 : Int32} {t : Int32} {d : Int32} {n : Int32} (h157 : am_is H 157 (.inr (12, [.int 0, .ref 158, .int 0, .ref 159, .int 0, .int 0, .ref 160, .ref 161, .ref 162, .ref 163, .ref 164, .ref 165, .ref 166, .int 0, .int (-1), .int 0, .int 0, .int 0, .ref 167, .int 0, .int 0, .int (-1), .ref 168, .int 0, .ref 169, .int 0, .int 0, .int 0, .ref 170, .ref 171, .int 0, .int 0, .int (-1), .int (-1), .int 0, .int 0, .int 0, .ref 172, .ref 173, .ref 174, .ref 175, .ref 176, .ref 177, .ref 178, .ref 179, .ref 180, .ref 181, .ref 182, .ref 183, .int 0, .int 0, .int 0, .int 0, .int 0, .ref 184, .int 0, .int 0, .int 0, .int 127, .int 0, .int 0, .int 0, .int 0, .int 0, .ref 185, .int 0, .ref 186, .int 0, .int v157_68, .int v157_69, .int v157_70, .int t, .int 0, .int 0, .int (-1), .int (-1), .int 0, .int 0, .ref 187, .int 0, .int 0, .int 0, .int 0, .int 0, .int 0, .int 0, .ref 188, .int 0, .ref 189, .int 0, .ref 190, .ref 191, .ref 192, .int 0, .int 0, .int 0, .int v157_96, .int 0, .int 96, .int 0, .int 0, .int 0, .int 0, .int 0, .int 0, .int 0, .int 0, .int 0, .int 0, .int 0, .int 0, .int 0, .int 0, .int 0, .ref 193, .int 0, .int 0, .int 0, .ref 194, .ref 195, .int (-1), .int 0]))) (h194 : am_is H 194 (.inl (.boolean, (127, .inl (fun _ => 0))))) (h195 : am_is H 195 (.inl (.boolean, (127, .inl (fun _ => 0))))) (c1 : ¬ n ≤ d) (c2 : ¬ 1000000000 ≤ t) (c3 : ¬ ((t + 1) - (t + 1) / 4 * 4) = 0)  (kk : ∀ H1 : am_H, ((am_is H1 157 (.inr (12, [.int 0, .ref 158, .int 0, .ref 159, .int 0, .int 0, .ref 160, .ref 161, .ref 162, .ref 163, .ref 164, .ref 165, .ref 166, .int 0, .int (-1), .int 0, .int 0, .int 0, .ref 167, .int 0, .int 0, .int (-1), .ref 168, .int 0, .ref 169, .int 0, .int 0, .int 0, .ref 170, .ref 171, .int 0, .int 0, .int (-1), .int (-1), .int 0, .int 0, .int 0, .ref 172, .ref 173, .ref 174, .ref 175, .ref 176, .ref 177, .ref 178, .ref 179, .ref 180, .ref 181, .ref 182, .ref 183, .int 0, .int 0, .int 0, .int 0, .int 0, .ref 184, .int 0, .int 0, .int 0, .int 127, .int 0, .int 0, .int 0, .int 0, .int 0, .ref 185, .int 0, .ref 186, .int 0, .int v157_68, .int v157_69, .int v157_70, .int (t + 1), .int 0, .int 0, .int (-1), .int (-1), .int 0, .int 0, .ref 187, .int 0, .int 0, .int 0, .int 0, .int 0, .int 0, .int 0, .ref 188, .int 0, .ref 189, .int 0, .ref 190, .ref 191, .ref 192, .int 0, .int 0, .int 0, .int v157_96, .int 0, .int 96, .int 0, .int 0, .int 0, .int 0, .int 0, .int 0, .int 0, .int 0, .int 0, .int 0, .int 0, .int 0, .int 0, .int 0, .int 0, .ref 193, .int 0, .int 0, .int 0, .ref 194, .ref 195, .int (-1), .int 0])) ∧ True) ∧ ∀ j : Nat, j ≠ 157 → H1[j]? = H[j]?) → am_E sL sx cs 365 21 [(2, .int (d + 1)), (0, .ref 157), (1, .int n)] [] H1 R F) :
    am_E sL sx cs 365 21 [(2, .int d), (0, .ref 157), (1, .int n)] [] H R F := by
  refine ex_s (am_nb (m := 2) (pc1 := 23) (ls1 := [(2, .int d), (0, .ref 157), (1, .int n)]) (st1 := [.int n, .int d]) (H1 := H) (k1 := 0) (n1 := 0) (by with_unfolding_all rfl)) ?_
  refine ex_s (st_icmp rfl) ?_
  refine ex_pc (if_neg c1) ?_
  refine ex_s (am_nb (m := 1) (pc1 := 27) (ls1 := [(2, .int d), (0, .ref 157), (1, .int n)]) (st1 := [.ref 157]) (H1 := H) (k1 := 0) (n1 := 0) (by with_unfolding_all rfl)) ?_
  refine ex_s (st_get rfl h157 rfl) ?_
  refine ex_s (am_nb (m := 1) (pc1 := 33) (ls1 := [(2, .int d), (0, .ref 157), (1, .int n)]) (st1 := [.int 1000000000, .int t]) (H1 := H) (k1 := 0) (n1 := 0) (by with_unfolding_all rfl)) ?_
  refine ex_s (st_icmp rfl) ?_
  refine ex_pc (if_neg c2) ?_
  refine ex_s (am_nb (m := 1) (pc1 := 37) (ls1 := [(2, .int d), (0, .ref 157), (1, .int n)]) (st1 := [.ref 157]) (H1 := H) (k1 := 0) (n1 := 0) (by with_unfolding_all rfl)) ?_
  refine ex_cv0 (as := []) (rest := []) rfl rfl rfl rfl h157 rfl (by with_unfolding_all rfl) (by with_unfolding_all rfl) (tm_a_1_1 h157 h194 h195 c3) ?_
  rintro H66 ⟨⟨f66_157, -⟩, k66⟩
  refine ex_s (am_nb (m := 2) (pc1 := 21) (ls1 := [(2, .int (d + 1)), (0, .ref 157), (1, .int n)]) (st1 := []) (H1 := H66) (k1 := 0) (n1 := 0) (by with_unfolding_all rfl)) ?_
  exact kk _ ⟨⟨f66_157, trivial⟩, fun j n157 => (k66 j n157)⟩
/-! p1: ticks, both sides. -/
theorem p1_t {n d r : Nat} (hn : n ≤ 2000) (h : d + (r + 1) = n) : ¬ Int32.ofNat n ≤ Int32.ofNat d ∧ ¬ (1000000000 : Int32) ≤ Int32.ofNat d := by
  constructor
  · intro q
    have := (Int32.ofNat_le_ofNat (by omega) (by omega)).mp q
    omega
  · intro q
    have := (Int32.ofNat_le_ofNat (k := 1000000000) (by omega) (by omega)).mp q
    omega
theorem tx_loop {sL : Nat} {sx : Nat → Int32} {cs : Nat → Nat → Option Int32} {v3 : Int32} {h b n : Nat} {H0 : am_H} (P : p1_P v3 h b H0) (hn : n ≤ 2000) : ∀ (r d : Nat) (H : am_H), d + r = n → am_is H 0 (.inr (11, [.ref 1, .int 0, .ref 2, .int 0, .ref 3, .ref 93, .ref 97, .ref 115, .ref 116, .ref 129, .ref 123, .ref 127, .ref 128, .int v3, .null, .int (Int32.ofNat d)])) → (∀ j : Nat, j ≠ 0 → H[j]? = H0[j]?) →
    am_E sL sx cs 177 16 [(3, .int (-1)), (2, .int (Int32.ofNat d)), (0, .ref 0), (1, .int (Int32.ofNat n))] [] H (some (.int (Int32.ofNat n))) (fun H1 => ∀ j : Nat, 157 ≤ j → H1[j]? = H0[j]?)
  | 0, d, H, hd, h0, q => by
    have e : d = n := by omega
    subst e
    exact (tx_b_0 h0 ((q 127 (by decide)).trans (p1_c127 P)) ((q 128 (by decide)).trans (p1_c128 P)) ((q 123 (by decide)).trans (p1_c123 P)) ((q 129 (by decide)).trans (p1_c129 P)) ((q 136 (by decide)).trans (p1_c136 P)) ((q 130 (by decide)).trans (p1_c130 P)) ((q 132 (by decide)).trans (p1_c132 P)) ((q 116 (by decide)).trans (p1_c116 P)) ((q 117 (by decide)).trans (p1_c117 P)) (Int32.le_refl _)).mono (fun H1 z j hj => (z.2 j).trans (q j (by omega)))
  | r + 1, d, H, hd, h0, q => by
    obtain ⟨c1, c2⟩ := p1_t hn hd
    have step : ∀ H1 : am_H, am_is H1 0 (.inr (11, [.ref 1, .int 0, .ref 2, .int 0, .ref 3, .ref 93, .ref 97, .ref 115, .ref 116, .ref 129, .ref 123, .ref 127, .ref 128, .int v3, .null, .int (Int32.ofNat d + 1)])) → (∀ j : Nat, j ≠ 0 → H1[j]? = H[j]?) → am_E sL sx cs 177 16 [(3, .int (-1)), (2, .int (Int32.ofNat d + 1)), (0, .ref 0), (1, .int (Int32.ofNat n))] [] H1 (some (.int (Int32.ofNat n))) (fun H1 => ∀ j : Nat, 157 ≤ j → H1[j]? = H0[j]?) := by
      intro H1 f k
      rw [← inc_ofNat] at f ⊢
      exact tx_loop P hn r (d + 1) H1 (by omega) f (fun j hj => (k j hj).trans (q j hj))
    by_cases c3 : ((Int32.ofNat d + 1) - (Int32.ofNat d + 1) / 4 * 4) = 0
    · exact tx_b_2 h0 ((q 127 (by decide)).trans (p1_c127 P)) ((q 128 (by decide)).trans (p1_c128 P)) ((q 123 (by decide)).trans (p1_c123 P)) ((q 129 (by decide)).trans (p1_c129 P)) ((q 136 (by decide)).trans (p1_c136 P)) ((q 130 (by decide)).trans (p1_c130 P)) ((q 132 (by decide)).trans (p1_c132 P)) ((q 116 (by decide)).trans (p1_c116 P)) ((q 117 (by decide)).trans (p1_c117 P)) c1 c2 c3 (fun H1 z => step H1 z.1.1 z.2)
    · exact tx_b_3 h0 ((q 127 (by decide)).trans (p1_c127 P)) ((q 128 (by decide)).trans (p1_c128 P)) ((q 123 (by decide)).trans (p1_c123 P)) ((q 129 (by decide)).trans (p1_c129 P)) ((q 136 (by decide)).trans (p1_c136 P)) ((q 130 (by decide)).trans (p1_c130 P)) ((q 132 (by decide)).trans (p1_c132 P)) ((q 116 (by decide)).trans (p1_c116 P)) ((q 117 (by decide)).trans (p1_c117 P)) c1 c2 c3 (fun H1 z => step H1 z.1.1 z.2)
theorem px_ticks {sL : Nat} {sx : Nat → Int32} {cs : Nat → Nat → Option Int32} {v3 : Int32} {h b : Nat} {H : am_H} {x0 : Int32} (P : p1_P v3 h b H) (dm : p1_D v3 h b) : ∃ H1 : am_H, aX sL sx cs 177 0 [(0, .ref 0), (1, .int x0)] [] H 0 0 = some (some (.int (if x0 < 1 then (-1 : Int32) else if x0 ≤ 2000 then x0 else (-1))), H1, 0, 0) ∧ ∀ j : Nat, 157 ≤ j → H1[j]? = H[j]? := by
  by_cases c1 : x0 < 1
  · rw [if_pos c1]
    obtain ⟨H1, e, f⟩ := tx_e_0 (sL := sL) (sx := sx) (cs := cs) (H := H) c1
    exact ⟨H1, e, fun j _ => f.2 j⟩
  · rw [if_neg c1]
    by_cases c2 : x0 ≤ 2000
    · rw [if_pos c2]
      have i1 := mt (p1_lt (x := x0) (y := 1) (m := x0.toInt) (n := 1) rfl (by decide)).mpr c1
      have i2 := (p1_le (x := x0) (y := 2000) (m := x0.toInt) (n := 2000) rfl (by decide)).mp c2
      obtain ⟨n, hn, en, -⟩ := p1_of (x := x0) (h := 2001) (by omega) (by omega)
      subst en
      have key : am_E sL sx cs 177 0 [(0, .ref 0), (1, .int (Int32.ofNat n))] [] H (some (.int (Int32.ofNat n))) (fun H1 => ∀ j : Nat, 157 ≤ j → H1[j]? = H[j]?) := by
        refine tx_e_1 c1 c2 (fun H1 z => ?_)
        obtain ⟨r, hr⟩ : ∃ r, n = r + 1 := ⟨n - 1, by
          rcases Nat.eq_zero_or_pos n with q | q
          · exact absurd (by rw [q]; decide) c1
          · omega⟩
        obtain ⟨u1, u2⟩ := p1_t (d := 0) (r := r) (n := n) (by omega) (by omega)
        have k0 : ∀ j : Nat, H1[j]? = H[j]? := z.2
        have step : ∀ H2 : am_H, am_is H2 0 (.inr (11, [.ref 1, .int 0, .ref 2, .int 0, .ref 3, .ref 93, .ref 97, .ref 115, .ref 116, .ref 129, .ref 123, .ref 127, .ref 128, .int v3, .null, .int (0 + 1)])) → (∀ j : Nat, j ≠ 0 → H2[j]? = H1[j]?) → am_E sL sx cs 177 16 [(3, .int (-1)), (2, .int (0 + 1)), (0, .ref 0), (1, .int (Int32.ofNat n))] [] H2 (some (.int (Int32.ofNat n))) (fun H3 => ∀ j : Nat, 157 ≤ j → H3[j]? = H[j]?) := by
          intro H2 f k
          exact tx_loop P (by omega) r 1 H2 (by omega) f (fun j hj => (k j hj).trans (k0 j))
        by_cases c3 : (((0 : Int32) + 1) - ((0 : Int32) + 1) / 4 * 4) = 0
        · exact tx_a_2 ((k0 0).trans (p1_c0 P)) ((k0 127).trans (p1_c127 P)) ((k0 128).trans (p1_c128 P)) ((k0 123).trans (p1_c123 P)) ((k0 129).trans (p1_c129 P)) ((k0 136).trans (p1_c136 P)) ((k0 130).trans (p1_c130 P)) ((k0 132).trans (p1_c132 P)) ((k0 116).trans (p1_c116 P)) ((k0 117).trans (p1_c117 P)) u1 u2 c3 (fun H2 y => step H2 y.1.1 y.2)
        · exact tx_a_3 ((k0 0).trans (p1_c0 P)) ((k0 127).trans (p1_c127 P)) ((k0 128).trans (p1_c128 P)) ((k0 123).trans (p1_c123 P)) ((k0 129).trans (p1_c129 P)) ((k0 136).trans (p1_c136 P)) ((k0 130).trans (p1_c130 P)) ((k0 132).trans (p1_c132 P)) ((k0 116).trans (p1_c116 P)) ((k0 117).trans (p1_c117 P)) u1 u2 c3 (fun H2 y => step H2 y.1.1 y.2)
      exact key
    · rw [if_neg c2]
      obtain ⟨H1, e, f⟩ := tx_e_2 (sL := sL) (sx := sx) (cs := cs) (H := H) c1 c2
      exact ⟨H1, e, fun j _ => f.2 j⟩
theorem tm_loop {sL : Nat} {sx : Nat → Int32} {cs : Nat → Nat → Option Int32} {v157_68 v157_69 v157_70 v157_96 : Int32} {n : Nat} (hn : n ≤ 2000) : ∀ (r d : Nat) (H : am_H), d + r = n → am_is H 157 (.inr (12, [.int 0, .ref 158, .int 0, .ref 159, .int 0, .int 0, .ref 160, .ref 161, .ref 162, .ref 163, .ref 164, .ref 165, .ref 166, .int 0, .int (-1), .int 0, .int 0, .int 0, .ref 167, .int 0, .int 0, .int (-1), .ref 168, .int 0, .ref 169, .int 0, .int 0, .int 0, .ref 170, .ref 171, .int 0, .int 0, .int (-1), .int (-1), .int 0, .int 0, .int 0, .ref 172, .ref 173, .ref 174, .ref 175, .ref 176, .ref 177, .ref 178, .ref 179, .ref 180, .ref 181, .ref 182, .ref 183, .int 0, .int 0, .int 0, .int 0, .int 0, .ref 184, .int 0, .int 0, .int 0, .int 127, .int 0, .int 0, .int 0, .int 0, .int 0, .ref 185, .int 0, .ref 186, .int 0, .int v157_68, .int v157_69, .int v157_70, .int (Int32.ofNat d), .int 0, .int 0, .int (-1), .int (-1), .int 0, .int 0, .ref 187, .int 0, .int 0, .int 0, .int 0, .int 0, .int 0, .int 0, .ref 188, .int 0, .ref 189, .int 0, .ref 190, .ref 191, .ref 192, .int 0, .int 0, .int 0, .int v157_96, .int 0, .int 96, .int 0, .int 0, .int 0, .int 0, .int 0, .int 0, .int 0, .int 0, .int 0, .int 0, .int 0, .int 0, .int 0, .int 0, .int 0, .ref 193, .int 0, .int 0, .int 0, .ref 194, .ref 195, .int (-1), .int 0])) → am_is H 194 (.inl (.boolean, (127, .inl (fun _ => 0)))) → am_is H 195 (.inl (.boolean, (127, .inl (fun _ => 0)))) →
    am_E sL sx cs 365 21 [(2, .int (Int32.ofNat d)), (0, .ref 157), (1, .int (Int32.ofNat n))] [] H (some (.int (Int32.ofNat n))) (fun _ => True)
  | 0, d, H, hd, h157, h194, h195 => by
    have e : d = n := by omega
    subst e
    exact (tm_a_0 h157 h194 h195 (Int32.le_refl _)).mono (fun H1 z => trivial)
  | r + 1, d, H, hd, h157, h194, h195 => by
    obtain ⟨c1, c2⟩ := p1_t hn hd
    by_cases c3 : ((Int32.ofNat d + 1) - (Int32.ofNat d + 1) / 4 * 4) = 0
    · refine tm_a_2 h157 h194 h195 c1 c2 c3 (fun H1 z => ?_)
      have f := z.1.1
      rw [← inc_ofNat] at f ⊢
      exact tm_loop hn r (d + 1) H1 (by omega) f ((z.2 194 (by decide) (by decide)).trans h194) z.1.2.1
    · refine tm_a_3 h157 h194 h195 c1 c2 c3 (fun H1 z => ?_)
      have f := z.1.1
      rw [← inc_ofNat] at f ⊢
      exact tm_loop hn r (d + 1) H1 (by omega) f ((z.2 194 (by decide)).trans h194) ((z.2 195 (by decide)).trans h195)
theorem pm_ticks {sL : Nat} {sx : Nat → Int32} {cs : Nat → Nat → Option Int32} {v3 : Int32} {h b : Nat} {H : am_H} {x0 : Int32} (P : p1_Pm v3 h b H) (dm : p1_D v3 h b) : ∃ H1 : am_H, aX sL sx cs 365 0 [(0, .ref 157), (1, .int x0)] [] H 0 0 = some (some (.int (if x0 < 1 then (-1 : Int32) else if x0 ≤ 2000 then x0 else (-1))), H1, 0, 0) := by
  by_cases c1 : x0 < 1
  · rw [if_pos c1]
    obtain ⟨H1, e, f⟩ := tm_e_0 (sL := sL) (sx := sx) (cs := cs) (H := H) (p1_c157 P) c1
    exact ⟨H1, e⟩
  · rw [if_neg c1]
    by_cases c2 : x0 ≤ 2000
    · rw [if_pos c2]
      have i1 := mt (p1_lt (x := x0) (y := 1) (m := x0.toInt) (n := 1) rfl (by decide)).mpr c1
      have i2 := (p1_le (x := x0) (y := 2000) (m := x0.toInt) (n := 2000) rfl (by decide)).mp c2
      obtain ⟨n, hn, en, -⟩ := p1_of (x := x0) (h := 2001) (by omega) (by omega)
      subst en
      have key : am_E sL sx cs 365 0 [(0, .ref 157), (1, .int (Int32.ofNat n))] [] H (some (.int (Int32.ofNat n))) (fun _ => True) := by
        refine tm_e_1 (p1_c157 P) c1 c2 (fun H1 z => ?_)
        exact tm_loop (by omega) n 0 H1 (by omega) z.1.1 ((z.2 194 (by decide)).trans (p1_c194 P)) ((z.2 195 (by decide)).trans (p1_c195 P))
      obtain ⟨H1, e, -⟩ := key
      exact ⟨H1, e⟩
    · rw [if_neg c2]
      obtain ⟨H1, e, f⟩ := tm_e_2 (sL := sL) (sx := sx) (cs := cs) (H := H) (p1_c157 P) c1 c2
      exact ⟨H1, e⟩
