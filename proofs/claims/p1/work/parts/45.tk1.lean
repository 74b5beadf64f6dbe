/-! p1: segments of ticks. -/
set_option maxRecDepth 100000 in
theorem tx_e_0 {sL : Nat} {sx : Nat → Int32} {cs : Nat → Nat → Option Int32} {H : am_H} {n : Int32}  (c1 : n < 1)  :
    am_E sL sx cs 177 0 [(0, .ref 0), (1, .int n)] [] H (some (.int (-1))) (fun H1 => (True) ∧ ∀ j : Nat, H1[j]? = H[j]?) := by
  refine ex_s (am_nb (m := 2) (pc1 := 2) (ls1 := [(0, .ref 0), (1, .int n)]) (st1 := [.int 1, .int n]) (H1 := H) (k1 := 0) (n1 := 0) (by with_unfolding_all rfl)) ?_
  refine ex_s (st_icmp rfl) ?_
  refine ex_pc (if_pos c1) ?_
  refine ex_s (am_nb (m := 1) (pc1 := 13) (ls1 := [(0, .ref 0), (1, .int n)]) (st1 := [.int (-1)]) (H1 := H) (k1 := 0) (n1 := 0) (by with_unfolding_all rfl)) ?_
  exact ex_r (st_iret rfl rfl rfl) ⟨trivial, fun j => rfl⟩

set_option maxRecDepth 100000 in
theorem tx_e_1 {sL : Nat} {sx : Nat → Int32} {cs : Nat → Nat → Option Int32} {H : am_H} {R : Option Value} {F : am_H → Prop} {n : Int32}  (c1 : ¬ n < 1) (c2 : n ≤ 2000)  (kk : ∀ H1 : am_H, ((True) ∧ ∀ j : Nat, H1[j]? = H[j]?) → am_E sL sx cs 177 16 [(2, .int 0), (0, .ref 0), (1, .int n)] [] H1 R F) :
    am_E sL sx cs 177 0 [(0, .ref 0), (1, .int n)] [] H R F := by
  refine ex_s (am_nb (m := 2) (pc1 := 2) (ls1 := [(0, .ref 0), (1, .int n)]) (st1 := [.int 1, .int n]) (H1 := H) (k1 := 0) (n1 := 0) (by with_unfolding_all rfl)) ?_
  refine ex_s (st_icmp rfl) ?_
  refine ex_pc (if_neg c1) ?_
  refine ex_s (am_nb (m := 2) (pc1 := 9) (ls1 := [(0, .ref 0), (1, .int n)]) (st1 := [.int 2000, .int n]) (H1 := H) (k1 := 0) (n1 := 0) (by with_unfolding_all rfl)) ?_
  refine ex_s (st_icmp rfl) ?_
  refine ex_pc (if_pos c2) ?_
  refine ex_s (am_nb (m := 2) (pc1 := 16) (ls1 := [(2, .int 0), (0, .ref 0), (1, .int n)]) (st1 := []) (H1 := H) (k1 := 0) (n1 := 0) (by with_unfolding_all rfl)) ?_
  exact kk _ ⟨trivial, fun j => rfl⟩

set_option maxRecDepth 100000 in
theorem tx_e_2 {sL : Nat} {sx : Nat → Int32} {cs : Nat → Nat → Option Int32} {H : am_H} {n : Int32}  (c1 : ¬ n < 1) (c2 : ¬ n ≤ 2000)  :
    am_E sL sx cs 177 0 [(0, .ref 0), (1, .int n)] [] H (some (.int (-1))) (fun H1 => (True) ∧ ∀ j : Nat, H1[j]? = H[j]?) := by
  refine ex_s (am_nb (m := 2) (pc1 := 2) (ls1 := [(0, .ref 0), (1, .int n)]) (st1 := [.int 1, .int n]) (H1 := H) (k1 := 0) (n1 := 0) (by with_unfolding_all rfl)) ?_
  refine ex_s (st_icmp rfl) ?_
  refine ex_pc (if_neg c1) ?_
  refine ex_s (am_nb (m := 2) (pc1 := 9) (ls1 := [(0, .ref 0), (1, .int n)]) (st1 := [.int 2000, .int n]) (H1 := H) (k1 := 0) (n1 := 0) (by with_unfolding_all rfl)) ?_
  refine ex_s (st_icmp rfl) ?_
  refine ex_pc (if_neg c2) ?_
  refine ex_s (am_nb (m := 1) (pc1 := 13) (ls1 := [(0, .ref 0), (1, .int n)]) (st1 := [.int (-1)]) (H1 := H) (k1 := 0) (n1 := 0) (by with_unfolding_all rfl)) ?_
  exact ex_r (st_iret rfl rfl rfl) ⟨trivial, fun j => rfl⟩

set_option maxRecDepth 100000 in
theorem tx_a_1_0 {sL : Nat} {sx : Nat → Int32} {cs : Nat → Nat → Option Int32} {H : am_H} {t : Int32} (h127 : am_is H 127 (.inr (10, [.int (-1), .int 0, .int 0, .int 0])))   :
    am_E sL sx cs 178 0 [(0, .ref 127), (1, .int (t + 1))] [] H (some (.int (-1))) (fun H1 => (True) ∧ ∀ j : Nat, H1[j]? = H[j]?) := by
  refine ex_s (am_nb (m := 1) (pc1 := 1) (ls1 := [(0, .ref 127), (1, .int (t + 1))]) (st1 := [.ref 127]) (H1 := H) (k1 := 0) (n1 := 0) (by with_unfolding_all rfl)) ?_
  refine ex_s (st_get rfl h127 rfl) ?_
  refine ex_s (am_nb (m := 3) (pc1 := 17) (ls1 := [(0, .ref 127), (1, .int (t + 1))]) (st1 := [.int (-1)]) (H1 := H) (k1 := 0) (n1 := 0) (by with_unfolding_all rfl)) ?_
  exact ex_r (st_iret rfl rfl rfl) ⟨trivial, fun j => rfl⟩

set_option maxRecDepth 100000 in
theorem tx_a_2_0 {sL : Nat} {sx : Nat → Int32} {cs : Nat → Nat → Option Int32} {H : am_H} {t : Int32} (h128 : am_is H 128 (.inr (10, [.int (-1), .int 0, .int 0, .int 0])))   :
    am_E sL sx cs 178 0 [(0, .ref 128), (1, .int (t + 1))] [] H (some (.int (-1))) (fun H1 => (True) ∧ ∀ j : Nat, H1[j]? = H[j]?) := by
  refine ex_s (am_nb (m := 1) (pc1 := 1) (ls1 := [(0, .ref 128), (1, .int (t + 1))]) (st1 := [.ref 128]) (H1 := H) (k1 := 0) (n1 := 0) (by with_unfolding_all rfl)) ?_
  refine ex_s (st_get rfl h128 rfl) ?_
  refine ex_s (am_nb (m := 3) (pc1 := 17) (ls1 := [(0, .ref 128), (1, .int (t + 1))]) (st1 := [.int (-1)]) (H1 := H) (k1 := 0) (n1 := 0) (by with_unfolding_all rfl)) ?_
  exact ex_r (st_iret rfl rfl rfl) ⟨trivial, fun j => rfl⟩

set_option maxRecDepth 100000 in
theorem tx_a_3_0 {sL : Nat} {sx : Nat → Int32} {cs : Nat → Nat → Option Int32} {H : am_H} {t : Int32} (h123 : am_is H 123 (.inr (4, [.ref 124, .ref 125, .int 0, .int (-1), .int 0, .ref 126])))   :
    am_E sL sx cs 193 0 [(0, .ref 123), (1, .int (t + 1)), (2, .ref 129)] [] H none (fun H1 => (True) ∧ ∀ j : Nat, H1[j]? = H[j]?) := by
  refine ex_s (am_nb (m := 1) (pc1 := 1) (ls1 := [(0, .ref 123), (1, .int (t + 1)), (2, .ref 129)]) (st1 := [.ref 123]) (H1 := H) (k1 := 0) (n1 := 0) (by with_unfolding_all rfl)) ?_
  refine ex_s (st_get rfl h123 rfl) ?_
  refine ex_s (am_nb (m := 1) (pc1 := 7) (ls1 := [(0, .ref 123), (1, .int (t + 1)), (2, .ref 129)]) (st1 := []) (H1 := H) (k1 := 0) (n1 := 0) (by with_unfolding_all rfl)) ?_
  exact ex_r (st_vret rfl rfl) ⟨trivial, fun j => rfl⟩

set_option maxRecDepth 100000 in
theorem tx_a_5_0 {sL : Nat} {sx : Nat → Int32} {cs : Nat → Nat → Option Int32} {H : am_H}  (h130 : am_is H 130 (.inr (0, [.ref 131, .int 0, .int 0])))   :
    am_E sL sx cs 163 0 [(0, .ref 130)] [] H (some (.int 0)) (fun H1 => (True) ∧ ∀ j : Nat, H1[j]? = H[j]?) := by
  refine ex_s (am_nb (m := 1) (pc1 := 1) (ls1 := [(0, .ref 130)]) (st1 := [.ref 130]) (H1 := H) (k1 := 0) (n1 := 0) (by with_unfolding_all rfl)) ?_
  refine ex_s (st_get rfl h130 rfl) ?_
  exact ex_r (st_iret rfl rfl rfl) ⟨trivial, fun j => rfl⟩

set_option maxRecDepth 100000 in
theorem tx_a_4_0 {sL : Nat} {sx : Nat → Int32} {cs : Nat → Nat → Option Int32} {H : am_H} {v136_0 : Int32} {v136_1 : Int32} {v136_9 : Int32} (h129 : am_is H 129 (.inr (8, [.ref 136, .ref 130, .ref 132, .ref 134, .int 0, .int 0, .int 0, .int 0, .int 0, .int 0, .int 0, .ref 135, .int 0, .int 0, .int 0]))) (h136 : am_is H 136 (.inr (3, [.int v136_0, .int v136_1, .ref 138, .ref 139, .ref 140, .int 0, .int 0, .int 0, .int 0, .int v136_9, .int 96, .int 0, .int 0, .int 0, .int 0, .int 0, .int 0, .ref 137]))) (h130 : am_is H 130 (.inr (0, [.ref 131, .int 0, .int 0])))   :
    am_E sL sx cs 203 0 [(0, .ref 129)] [] H none (fun H1 => (True) ∧ ∀ j : Nat, H1[j]? = H[j]?) := by
  refine ex_s (am_nb (m := 1) (pc1 := 1) (ls1 := [(0, .ref 129)]) (st1 := [.ref 129]) (H1 := H) (k1 := 0) (n1 := 0) (by with_unfolding_all rfl)) ?_
  refine ex_s (st_get rfl h129 rfl) ?_
  refine ex_s (st_get rfl h136 rfl) ?_
  refine ex_s (am_nb (m := 2) (pc1 := 27) (ls1 := [(0, .ref 129)]) (st1 := [.ref 129]) (H1 := H) (k1 := 0) (n1 := 0) (by with_unfolding_all rfl)) ?_
  refine ex_s (st_get rfl h129 rfl) ?_
  refine ex_s (am_nb (m := 2) (pc1 := 34) (ls1 := [(0, .ref 129)]) (st1 := [.ref 129]) (H1 := H) (k1 := 0) (n1 := 0) (by with_unfolding_all rfl)) ?_
  refine ex_s (st_get rfl h129 rfl) ?_
  refine ex_cv1 (as := []) (rest := []) rfl rfl rfl rfl h130 rfl (by with_unfolding_all rfl) (by with_unfolding_all rfl) (tx_a_5_0 h130) ?_
  rintro H5 ⟨-, k5⟩
  refine ex_s (am_nb (m := 1) (pc1 := 73) (ls1 := [(0, .ref 129)]) (st1 := []) (H1 := H5) (k1 := 0) (n1 := 0) (by with_unfolding_all rfl)) ?_
  exact ex_r (st_vret rfl rfl) ⟨trivial, fun j => (k5 j)⟩

set_option maxRecDepth 100000 in
theorem tx_a_6_0 {sL : Nat} {sx : Nat → Int32} {cs : Nat → Nat → Option Int32} {H : am_H}  (h128 : am_is H 128 (.inr (10, [.int (-1), .int 0, .int 0, .int 0])))   :
    am_E sL sx cs 244 0 [(0, .ref 128)] [] H (some (.int 1)) (fun H1 => (True) ∧ ∀ j : Nat, H1[j]? = H[j]?) := by
  refine ex_s (am_nb (m := 1) (pc1 := 1) (ls1 := [(0, .ref 128)]) (st1 := [.ref 128]) (H1 := H) (k1 := 0) (n1 := 0) (by with_unfolding_all rfl)) ?_
  refine ex_s (st_get rfl h128 rfl) ?_
  refine ex_s (am_nb (m := 4) (pc1 := 13) (ls1 := [(0, .ref 128)]) (st1 := [.int 1]) (H1 := H) (k1 := 0) (n1 := 0) (by with_unfolding_all rfl)) ?_
  exact ex_r (st_iret rfl rfl rfl) ⟨trivial, fun j => rfl⟩

set_option maxRecDepth 100000 in
theorem tx_a_9_0 {sL : Nat} {sx : Nat → Int32} {cs : Nat → Nat → Option Int32} {H : am_H}  (h132 : am_is H 132 (.inr (0, [.ref 133, .int 0, .int 0])))   :
    am_E sL sx cs 164 0 [(0, .ref 132), (1, .int 0)] [] H (some (.int (-1))) (fun H1 => (True) ∧ ∀ j : Nat, H1[j]? = H[j]?) := by
  refine ex_s (am_nb (m := 4) (pc1 := 6) (ls1 := [(0, .ref 132), (1, .int 0)]) (st1 := [.ref 132, .int 0]) (H1 := H) (k1 := 0) (n1 := 0) (by with_unfolding_all rfl)) ?_
  refine ex_s (st_get rfl h132 rfl) ?_
  refine ex_s (am_nb (m := 3) (pc1 := 33) (ls1 := [(0, .ref 132), (1, .int 0)]) (st1 := [.int (-1)]) (H1 := H) (k1 := 0) (n1 := 0) (by with_unfolding_all rfl)) ?_
  exact ex_r (st_iret rfl rfl rfl) ⟨trivial, fun j => rfl⟩

set_option maxRecDepth 100000 in
theorem tx_a_8_0 {sL : Nat} {sx : Nat → Int32} {cs : Nat → Nat → Option Int32} {H : am_H}  (h132 : am_is H 132 (.inr (0, [.ref 133, .int 0, .int 0])))   :
    am_E sL sx cs 172 0 [(0, .ref 132)] [] H (some (.int (-1))) (fun H1 => (True) ∧ ∀ j : Nat, H1[j]? = H[j]?) := by
  refine ex_s (am_nb (m := 2) (pc1 := 2) (ls1 := [(0, .ref 132)]) (st1 := [.int 0, .ref 132]) (H1 := H) (k1 := 0) (n1 := 0) (by with_unfolding_all rfl)) ?_
  refine ex_cv1 (as := [.int 0]) (rest := []) rfl rfl rfl rfl h132 rfl (by with_unfolding_all rfl) (by with_unfolding_all rfl) (tx_a_9_0 h132) ?_
  rintro H8 ⟨-, k8⟩
  refine ex_s (am_nb (m := 2) (pc1 := 7) (ls1 := [(1, .int (-1)), (0, .ref 132)]) (st1 := [.ref 132]) (H1 := H8) (k1 := 0) (n1 := 0) (by with_unfolding_all rfl)) ?_
  refine ex_s (st_get rfl ((k8 132).trans h132) rfl) ?_
  refine ex_s (am_nb (m := 2) (pc1 := 40) (ls1 := [(1, .int (-1)), (0, .ref 132)]) (st1 := [.int (-1)]) (H1 := H8) (k1 := 0) (n1 := 0) (by with_unfolding_all rfl)) ?_
  exact ex_r (st_iret rfl rfl rfl) ⟨trivial, fun j => (k8 j)⟩

set_option maxRecDepth 100000 in
theorem tx_a_7_0 {sL : Nat} {sx : Nat → Int32} {cs : Nat → Nat → Option Int32} {H : am_H}  (h129 : am_is H 129 (.inr (8, [.ref 136, .ref 130, .ref 132, .ref 134, .int 0, .int 0, .int 0, .int 0, .int 0, .int 0, .int 0, .ref 135, .int 0, .int 0, .int 0]))) (h132 : am_is H 132 (.inr (0, [.ref 133, .int 0, .int 0])))   :
    am_E sL sx cs 245 0 [(0, .ref 129)] [] H (some (.int (-1))) (fun H1 => (True) ∧ ∀ j : Nat, H1[j]? = H[j]?) := by
  refine ex_s (am_nb (m := 1) (pc1 := 1) (ls1 := [(0, .ref 129)]) (st1 := [.ref 129]) (H1 := H) (k1 := 0) (n1 := 0) (by with_unfolding_all rfl)) ?_
  refine ex_s (st_get rfl h129 rfl) ?_
  refine ex_s (am_nb (m := 2) (pc1 := 8) (ls1 := [(0, .ref 129)]) (st1 := [.ref 129]) (H1 := H) (k1 := 0) (n1 := 0) (by with_unfolding_all rfl)) ?_
  refine ex_s (st_get rfl h129 rfl) ?_
  refine ex_s (am_nb (m := 5) (pc1 := 22) (ls1 := [(1, .int 0), (0, .ref 129)]) (st1 := [.ref 129, .int 0]) (H1 := H) (k1 := 0) (n1 := 0) (by with_unfolding_all rfl)) ?_
  refine ex_s (st_get rfl h129 rfl) ?_
  refine ex_s (am_nb (m := 2) (pc1 := 46) (ls1 := [(1, .int 0), (0, .ref 129)]) (st1 := [.ref 129]) (H1 := H) (k1 := 0) (n1 := 0) (by with_unfolding_all rfl)) ?_
  refine ex_s (st_get rfl h129 rfl) ?_
  refine ex_s (am_nb (m := 2) (pc1 := 57) (ls1 := [(1, .int 0), (0, .ref 129)]) (st1 := [.ref 129]) (H1 := H) (k1 := 0) (n1 := 0) (by with_unfolding_all rfl)) ?_
  refine ex_s (st_get rfl h129 rfl) ?_
  refine ex_cv1 (as := []) (rest := []) rfl rfl rfl rfl h132 rfl (by with_unfolding_all rfl) (by with_unfolding_all rfl) (tx_a_8_0 h132) ?_
  rintro H9 ⟨-, k9⟩
  exact ex_r (st_iret rfl rfl rfl) ⟨trivial, fun j => (k9 j)⟩

set_option maxRecDepth 100000 in
theorem tx_a_10_0 {sL : Nat} {sx : Nat → Int32} {cs : Nat → Nat → Option Int32} {H : am_H} {v0_13 : Int32} {t : Int32}    :
    am_E sL sx cs 246 0 [(0, .ref 128), (1, .int (-1)), (2, .int ((t + 1) + v0_13))] [] H none (fun H1 => (True) ∧ ∀ j : Nat, H1[j]? = H[j]?) := by
  refine ex_s (am_nb (m := 3) (pc1 := 5) (ls1 := [(0, .ref 128), (1, .int (-1)), (2, .int ((t + 1) + v0_13))]) (st1 := []) (H1 := H) (k1 := 0) (n1 := 0) (by with_unfolding_all rfl)) ?_
  exact ex_r (st_vret rfl rfl) ⟨trivial, fun j => rfl⟩

set_option maxRecDepth 100000 in
theorem tx_a_11_0 {sL : Nat} {sx : Nat → Int32} {cs : Nat → Nat → Option Int32} {H : am_H}  (h127 : am_is H 127 (.inr (10, [.int (-1), .int 0, .int 0, .int 0])))   :
    am_E sL sx cs 244 0 [(0, .ref 127)] [] H (some (.int 1)) (fun H1 => (True) ∧ ∀ j : Nat, H1[j]? = H[j]?) := by
  refine ex_s (am_nb (m := 1) (pc1 := 1) (ls1 := [(0, .ref 127)]) (st1 := [.ref 127]) (H1 := H) (k1 := 0) (n1 := 0) (by with_unfolding_all rfl)) ?_
  refine ex_s (st_get rfl h127 rfl) ?_
  refine ex_s (am_nb (m := 4) (pc1 := 13) (ls1 := [(0, .ref 127)]) (st1 := [.int 1]) (H1 := H) (k1 := 0) (n1 := 0) (by with_unfolding_all rfl)) ?_
  exact ex_r (st_iret rfl rfl rfl) ⟨trivial, fun j => rfl⟩

set_option maxRecDepth 100000 in
theorem tx_a_14_0 {sL : Nat} {sx : Nat → Int32} {cs : Nat → Nat → Option Int32} {H : am_H}  (h117 : am_is H 117 (.inr (0, [.ref 118, .int 0, .int 0])))   :
    am_E sL sx cs 164 0 [(0, .ref 117), (1, .int 0)] [] H (some (.int (-1))) (fun H1 => (True) ∧ ∀ j : Nat, H1[j]? = H[j]?) := by
  refine ex_s (am_nb (m := 4) (pc1 := 6) (ls1 := [(0, .ref 117), (1, .int 0)]) (st1 := [.ref 117, .int 0]) (H1 := H) (k1 := 0) (n1 := 0) (by with_unfolding_all rfl)) ?_
  refine ex_s (st_get rfl h117 rfl) ?_
  refine ex_s (am_nb (m := 3) (pc1 := 33) (ls1 := [(0, .ref 117), (1, .int 0)]) (st1 := [.int (-1)]) (H1 := H) (k1 := 0) (n1 := 0) (by with_unfolding_all rfl)) ?_
  exact ex_r (st_iret rfl rfl rfl) ⟨trivial, fun j => rfl⟩

set_option maxRecDepth 100000 in
theorem tx_a_13_0 {sL : Nat} {sx : Nat → Int32} {cs : Nat → Nat → Option Int32} {H : am_H}  (h117 : am_is H 117 (.inr (0, [.ref 118, .int 0, .int 0])))   :
    am_E sL sx cs 172 0 [(0, .ref 117)] [] H (some (.int (-1))) (fun H1 => (True) ∧ ∀ j : Nat, H1[j]? = H[j]?) := by
  refine ex_s (am_nb (m := 2) (pc1 := 2) (ls1 := [(0, .ref 117)]) (st1 := [.int 0, .ref 117]) (H1 := H) (k1 := 0) (n1 := 0) (by with_unfolding_all rfl)) ?_
  refine ex_cv1 (as := [.int 0]) (rest := []) rfl rfl rfl rfl h117 rfl (by with_unfolding_all rfl) (by with_unfolding_all rfl) (tx_a_14_0 h117) ?_
  rintro H13 ⟨-, k13⟩
  refine ex_s (am_nb (m := 2) (pc1 := 7) (ls1 := [(1, .int (-1)), (0, .ref 117)]) (st1 := [.ref 117]) (H1 := H13) (k1 := 0) (n1 := 0) (by with_unfolding_all rfl)) ?_
  refine ex_s (st_get rfl ((k13 117).trans h117) rfl) ?_
  refine ex_s (am_nb (m := 2) (pc1 := 40) (ls1 := [(1, .int (-1)), (0, .ref 117)]) (st1 := [.int (-1)]) (H1 := H13) (k1 := 0) (n1 := 0) (by with_unfolding_all rfl)) ?_
  exact ex_r (st_iret rfl rfl rfl) ⟨trivial, fun j => (k13 j)⟩

set_option maxRecDepth 100000 in
theorem tx_a_12_0 {sL : Nat} {sx : Nat → Int32} {cs : Nat → Nat → Option Int32} {H : am_H}  (h116 : am_is H 116 (.inr (1, [.ref 117, .ref 119, .ref 121, .int 127, .int 0, .int 0, .int 0, .int 0, .int 0, .int 0]))) (h117 : am_is H 117 (.inr (0, [.ref 118, .int 0, .int 0])))   :
    am_E sL sx cs 247 0 [(0, .ref 116)] [] H (some (.int (-1))) (fun H1 => (True) ∧ ∀ j : Nat, H1[j]? = H[j]?) := by
  refine ex_s (am_nb (m := 1) (pc1 := 1) (ls1 := [(0, .ref 116)]) (st1 := [.ref 116]) (H1 := H) (k1 := 0) (n1 := 0) (by with_unfolding_all rfl)) ?_
  refine ex_s (st_get rfl h116 rfl) ?_
  refine ex_s (am_nb (m := 2) (pc1 := 12) (ls1 := [(0, .ref 116)]) (st1 := [.ref 116]) (H1 := H) (k1 := 0) (n1 := 0) (by with_unfolding_all rfl)) ?_
  refine ex_s (st_get rfl h116 rfl) ?_
  refine ex_cv1 (as := []) (rest := []) rfl rfl rfl rfl h117 rfl (by with_unfolding_all rfl) (by with_unfolding_all rfl) (tx_a_13_0 h117) ?_
  rintro H14 ⟨-, k14⟩
  exact ex_r (st_iret rfl rfl rfl) ⟨trivial, fun j => (k14 j)⟩

set_option maxRecDepth 100000 in
theorem tx_a_15_0 {sL : Nat} {sx : Nat → Int32} {cs : Nat → Nat → Option Int32} {H : am_H} {v0_13 : Int32} {t : Int32}    :
    am_E sL sx cs 246 0 [(0, .ref 127), (1, .int (-1)), (2, .int ((t + 1) + v0_13))] [] H none (fun H1 => (True) ∧ ∀ j : Nat, H1[j]? = H[j]?) := by
  refine ex_s (am_nb (m := 3) (pc1 := 5) (ls1 := [(0, .ref 127), (1, .int (-1)), (2, .int ((t + 1) + v0_13))]) (st1 := []) (H1 := H) (k1 := 0) (n1 := 0) (by with_unfolding_all rfl)) ?_
  exact ex_r (st_vret rfl rfl) ⟨trivial, fun j => rfl⟩

set_option maxRecDepth 100000 in
theorem tx_a_0 {sL : Nat} {sx : Nat → Int32} {cs : Nat → Nat → Option Int32} {H : am_H} {v0_13 : Int32} {v136_0 : Int32} {v136_1 : Int32} {v136_9 : Int32} {t : Int32} {d : Int32} {n : Int32} (h0 : am_is H 0 (.inr (11, [.ref 1, .int 0, .ref 2, .int 0, .ref 3, .ref 93, .ref 97, .ref 115, .ref 116, .ref 129, .ref 123, .ref 127, .ref 128, .int v0_13, .null, .int t]))) (h127 : am_is H 127 (.inr (10, [.int (-1), .int 0, .int 0, .int 0]))) (h128 : am_is H 128 (.inr (10, [.int (-1), .int 0, .int 0, .int 0]))) (h123 : am_is H 123 (.inr (4, [.ref 124, .ref 125, .int 0, .int (-1), .int 0, .ref 126]))) (h129 : am_is H 129 (.inr (8, [.ref 136, .ref 130, .ref 132, .ref 134, .int 0, .int 0, .int 0, .int 0, .int 0, .int 0, .int 0, .ref 135, .int 0, .int 0, .int 0]))) (h136 : am_is H 136 (.inr (3, [.int v136_0, .int v136_1, .ref 138, .ref 139, .ref 140, .int 0, .int 0, .int 0, .int 0, .int v136_9, .int 96, .int 0, .int 0, .int 0, .int 0, .int 0, .int 0, .ref 137]))) (h130 : am_is H 130 (.inr (0, [.ref 131, .int 0, .int 0]))) (h132 : am_is H 132 (.inr (0, [.ref 133, .int 0, .int 0]))) (h116 : am_is H 116 (.inr (1, [.ref 117, .ref 119, .ref 121, .int 127, .int 0, .int 0, .int 0, .int 0, .int 0, .int 0]))) (h117 : am_is H 117 (.inr (0, [.ref 118, .int 0, .int 0]))) (c1 : n ≤ d)  :
    am_E sL sx cs 177 16 [(2, .int d), (0, .ref 0), (1, .int n)] [] H (some (.int d)) (fun H1 => (True) ∧ ∀ j : Nat, H1[j]? = H[j]?) := by
  refine ex_s (am_nb (m := 2) (pc1 := 18) (ls1 := [(2, .int d), (0, .ref 0), (1, .int n)]) (st1 := [.int n, .int d]) (H1 := H) (k1 := 0) (n1 := 0) (by with_unfolding_all rfl)) ?_
  refine ex_s (st_icmp rfl) ?_
  refine ex_pc (if_pos c1) ?_
  refine ex_s (am_nb (m := 1) (pc1 := 202) (ls1 := [(2, .int d), (0, .ref 0), (1, .int n)]) (st1 := [.int d]) (H1 := H) (k1 := 0) (n1 := 0) (by with_unfolding_all rfl)) ?_
  exact ex_r (st_iret rfl rfl rfl) ⟨trivial, fun j => rfl⟩

set_option maxRecDepth 100000 in
theorem tx_a_1 {sL : Nat} {sx : Nat → Int32} {cs : Nat → Nat → Option Int32} {H : am_H} {v0_13 : Int32} {v136_0 : Int32} {v136_1 : Int32} {v136_9 : Int32} {t : Int32} {d : Int32} {n : Int32} (h0 : am_is H 0 (.inr (11, [.ref 1, .int 0, .ref 2, .int 0, .ref 3, .ref 93, .ref 97, .ref 115, .ref 116, .ref 129, .ref 123, .ref 127, .ref 128, .int v0_13, .null, .int t]))) (h127 : am_is H 127 (.inr (10, [.int (-1), .int 0, .int 0, .int 0]))) (h128 : am_is H 128 (.inr (10, [.int (-1), .int 0, .int 0, .int 0]))) (h123 : am_is H 123 (.inr (4, [.ref 124, .ref 125, .int 0, .int (-1), .int 0, .ref 126]))) (h129 : am_is H 129 (.inr (8, [.ref 136, .ref 130, .ref 132, .ref 134, .int 0, .int 0, .int 0, .int 0, .int 0, .int 0, .int 0, .ref 135, .int 0, .int 0, .int 0]))) (h136 : am_is H 136 (.inr (3, [.int v136_0, .int v136_1, .ref 138, .ref 139, .ref 140, .int 0, .int 0, .int 0, .int 0, .int v136_9, .int 96, .int 0, .int 0, .int 0, .int 0, .int 0, .int 0, .ref 137]))) (h130 : am_is H 130 (.inr (0, [.ref 131, .int 0, .int 0]))) (h132 : am_is H 132 (.inr (0, [.ref 133, .int 0, .int 0]))) (h116 : am_is H 116 (.inr (1, [.ref 117, .ref 119, .ref 121, .int 127, .int 0, .int 0, .int 0, .int 0, .int 0, .int 0]))) (h117 : am_is H 117 (.inr (0, [.ref 118, .int 0, .int 0]))) (c1 : ¬ n ≤ d) (c2 : 1000000000 ≤ t)  :
    am_E sL sx cs 177 16 [(2, .int d), (0, .ref 0), (1, .int n)] [] H (some (.int d)) (fun H1 => (True) ∧ ∀ j : Nat, H1[j]? = H[j]?) := by
  refine ex_s (am_nb (m := 2) (pc1 := 18) (ls1 := [(2, .int d), (0, .ref 0), (1, .int n)]) (st1 := [.int n, .int d]) (H1 := H) (k1 := 0) (n1 := 0) (by with_unfolding_all rfl)) ?_
  refine ex_s (st_icmp rfl) ?_
  refine ex_pc (if_neg c1) ?_
  refine ex_s (am_nb (m := 1) (pc1 := 22) (ls1 := [(2, .int d), (0, .ref 0), (1, .int n)]) (st1 := [.ref 0]) (H1 := H) (k1 := 0) (n1 := 0) (by with_unfolding_all rfl)) ?_
  refine ex_s (st_get rfl h0 rfl) ?_
  refine ex_s (am_nb (m := 1) (pc1 := 28) (ls1 := [(2, .int d), (0, .ref 0), (1, .int n)]) (st1 := [.int 1000000000, .int t]) (H1 := H) (k1 := 0) (n1 := 0) (by with_unfolding_all rfl)) ?_
  refine ex_s (st_icmp rfl) ?_
  refine ex_pc (if_pos c2) ?_
  refine ex_s (am_nb (m := 1) (pc1 := 202) (ls1 := [(2, .int d), (0, .ref 0), (1, .int n)]) (st1 := [.int d]) (H1 := H) (k1 := 0) (n1 := 0) (by with_unfolding_all rfl)) ?_
  exact ex_r (st_iret rfl rfl rfl) ⟨trivial, fun j => rfl⟩

set_option maxRecDepth 100000 in
theorem tx_a_2 {sL : Nat} {sx : Nat → Int32} {cs : Nat → Nat → Option Int32} {H : am_H} {R : Option Value} {F : am_H → Prop} {v0_13 : Int32} {v136_0 : Int32} {v136_1 : Int32} {v136_9 : Int32} {t : Int32} {d : Int32} {n : Int32} (h0 : am_is H 0 (.inr (11, [.ref 1, .int 0, .ref 2, .int 0, .ref 3, .ref 93, .ref 97, .ref 115, .ref 116, .ref 129, .ref 123, .ref 127, .ref 128, .int v0_13, .null, .int t]))) (h127 : am_is H 127 (.inr (10, [.int (-1), .int 0, .int 0, .int 0]))) (h128 : am_is H 128 (.inr (10, [.int (-1), .int 0, .int 0, .int 0]))) (h123 : am_is H 123 (.inr (4, [.ref 124, .ref 125, .int 0, .int (-1), .int 0, .ref 126]))) (h129 : am_is H 129 (.inr (8, [.ref 136, .ref 130, .ref 132, .ref 134, .int 0, .int 0, .int 0, .int 0, .int 0, .int 0, .int 0, .ref 135, .int 0, .int 0, .int 0]))) (h136 : am_is H 136 (.inr (3, [.int v136_0, .int v136_1, .ref 138, .ref 139, .ref 140, .int 0, .int 0, .int 0, .int 0, .int v136_9, .int 96, .int 0, .int 0, .int 0, .int 0, .int 0, .int 0, .ref 137]))) (h130 : am_is H 130 (.inr (0, [.ref 131, .int 0, .int 0]))) (h132 : am_is H 132 (.inr (0, [.ref 133, .int 0, .int 0]))) (h116 : am_is H 116 (.inr (1, [.ref 117, .ref 119, .ref 121, .int 127, .int 0, .int 0, .int 0, .int 0, .int 0, .int 0]))) (h117 : am_is H 117 (.inr (0, [.ref 118, .int 0, .int 0]))) (c1 : ¬ n ≤ d) (c2 : ¬ 1000000000 ≤ t) (c3 : ((t + 1) - (t + 1) / 4 * 4) = 0)  (kk : ∀ H1 : am_H, ((am_is H1 0 (.inr (11, [.ref 1, .int 0, .ref 2, .int 0, .ref 3, .ref 93, .ref 97, .ref 115, .ref 116, .ref 129, .ref 123, .ref 127, .ref 128, .int v0_13, .null, .int (t + 1)])) ∧ True) ∧ ∀ j : Nat, j ≠ 0 → H1[j]? = H[j]?) → am_E sL sx cs 177 16 [(3, .int (-1)), (2, .int (d + 1)), (0, .ref 0), (1, .int n)] [] H1 R F) :
    am_E sL sx cs 177 16 [(2, .int d), (0, .ref 0), (1, .int n)] [] H R F := by
  refine ex_s (am_nb (m := 2) (pc1 := 18) (ls1 := [(2, .int d), (0, .ref 0), (1, .int n)]) (st1 := [.int n, .int d]) (H1 := H) (k1 := 0) (n1 := 0) (by with_unfolding_all rfl)) ?_
  refine ex_s (st_icmp rfl) ?_
  refine ex_pc (if_neg c1) ?_
  refine ex_s (am_nb (m := 1) (pc1 := 22) (ls1 := [(2, .int d), (0, .ref 0), (1, .int n)]) (st1 := [.ref 0]) (H1 := H) (k1 := 0) (n1 := 0) (by with_unfolding_all rfl)) ?_
  refine ex_s (st_get rfl h0 rfl) ?_
  refine ex_s (am_nb (m := 1) (pc1 := 28) (ls1 := [(2, .int d), (0, .ref 0), (1, .int n)]) (st1 := [.int 1000000000, .int t]) (H1 := H) (k1 := 0) (n1 := 0) (by with_unfolding_all rfl)) ?_
  refine ex_s (st_icmp rfl) ?_
  refine ex_pc (if_neg c2) ?_
  refine ex_s (am_nb (m := 3) (pc1 := 36) (ls1 := [(2, .int (d + 1)), (0, .ref 0), (1, .int n)]) (st1 := [.ref 0, .ref 0]) (H1 := H) (k1 := 0) (n1 := 0) (by with_unfolding_all rfl)) ?_
  refine ex_s (st_get rfl h0 rfl) ?_
  refine ex_s (am_nb (m := 2) (pc1 := 41) (ls1 := [(2, .int (d + 1)), (0, .ref 0), (1, .int n)]) (st1 := [.int (t + 1), .ref 0]) (H1 := H) (k1 := 0) (n1 := 0) (by with_unfolding_all rfl)) ?_
  refine ex_put rfl h0 rfl rfl rfl ?_
  intro H1 f1 k1
  refine ex_s (am_nb (m := 1) (pc1 := 45) (ls1 := [(2, .int (d + 1)), (0, .ref 0), (1, .int n)]) (st1 := [.ref 0]) (H1 := H1) (k1 := 0) (n1 := 0) (by with_unfolding_all rfl)) ?_
  refine ex_s (st_get rfl f1 rfl) ?_
  refine ex_s (am_nb (m := 1) (pc1 := 49) (ls1 := [(2, .int (d + 1)), (0, .ref 0), (1, .int n)]) (st1 := [.ref 0, .ref 127]) (H1 := H1) (k1 := 0) (n1 := 0) (by with_unfolding_all rfl)) ?_
  refine ex_s (st_get rfl f1 rfl) ?_
  refine ex_cv1 (as := [.int (t + 1)]) (rest := []) rfl rfl rfl rfl ((k1 127 (by decide)).trans h127) rfl (by with_unfolding_all rfl) (by with_unfolding_all rfl) (tx_a_1_0 ((k1 127 (by decide)).trans h127)) ?_
  rintro H2 ⟨-, k2⟩
  refine ex_s (am_nb (m := 5) (pc1 := 70) (ls1 := [(3, .int (-1)), (2, .int (d + 1)), (0, .ref 0), (1, .int n)]) (st1 := [.ref 0]) (H1 := H2) (k1 := 0) (n1 := 0) (by with_unfolding_all rfl)) ?_
  refine ex_s (st_get rfl ((k2 0).trans f1) rfl) ?_
  refine ex_s (am_nb (m := 1) (pc1 := 74) (ls1 := [(3, .int (-1)), (2, .int (d + 1)), (0, .ref 0), (1, .int n)]) (st1 := [.ref 0, .ref 128]) (H1 := H2) (k1 := 0) (n1 := 0) (by with_unfolding_all rfl)) ?_
  refine ex_s (st_get rfl ((k2 0).trans f1) rfl) ?_
  refine ex_cv1 (as := [.int (t + 1)]) (rest := []) rfl rfl rfl rfl ((k2 128).trans ((k1 128 (by decide)).trans h128)) rfl (by with_unfolding_all rfl) (by with_unfolding_all rfl) (tx_a_2_0 ((k2 128).trans ((k1 128 (by decide)).trans h128))) ?_
  rintro H3 ⟨-, k3⟩
  refine ex_s (am_nb (m := 5) (pc1 := 102) (ls1 := [(3, .int (-1)), (2, .int (d + 1)), (0, .ref 0), (1, .int n)]) (st1 := [.ref 0]) (H1 := H3) (k1 := 0) (n1 := 0) (by with_unfolding_all rfl)) ?_
  refine ex_s (st_get rfl ((k3 0).trans ((k2 0).trans f1)) rfl) ?_
  refine ex_s (am_nb (m := 2) (pc1 := 107) (ls1 := [(3, .int (-1)), (2, .int (d + 1)), (0, .ref 0), (1, .int n)]) (st1 := [.int ((t + 1) - (t + 1) / 4 * 4)]) (H1 := H3) (k1 := 0) (n1 := 0) (by with_unfolding_all rfl)) ?_
  refine ex_s (st_if rfl) ?_
  refine ex_pc (if_pos c3) ?_
  refine ex_s (am_nb (m := 1) (pc1 := 111) (ls1 := [(3, .int (-1)), (2, .int (d + 1)), (0, .ref 0), (1, .int n)]) (st1 := [.ref 0]) (H1 := H3) (k1 := 0) (n1 := 0) (by with_unfolding_all rfl)) ?_
  refine ex_s (st_get rfl ((k3 0).trans ((k2 0).trans f1)) rfl) ?_
  refine ex_s (am_nb (m := 1) (pc1 := 115) (ls1 := [(3, .int (-1)), (2, .int (d + 1)), (0, .ref 0), (1, .int n)]) (st1 := [.ref 0, .ref 123]) (H1 := H3) (k1 := 0) (n1 := 0) (by with_unfolding_all rfl)) ?_
  refine ex_s (st_get rfl ((k3 0).trans ((k2 0).trans f1)) rfl) ?_
  refine ex_s (am_nb (m := 1) (pc1 := 119) (ls1 := [(3, .int (-1)), (2, .int (d + 1)), (0, .ref 0), (1, .int n)]) (st1 := [.ref 0, .int (t + 1), .ref 123]) (H1 := H3) (k1 := 0) (n1 := 0) (by with_unfolding_all rfl)) ?_
  refine ex_s (st_get rfl ((k3 0).trans ((k2 0).trans f1)) rfl) ?_
  refine ex_cv0 (as := [.int (t + 1), .ref 129]) (rest := []) rfl rfl rfl rfl ((k3 123).trans ((k2 123).trans ((k1 123 (by decide)).trans h123))) rfl (by with_unfolding_all rfl) (by with_unfolding_all rfl) (tx_a_3_0 ((k3 123).trans ((k2 123).trans ((k1 123 (by decide)).trans h123)))) ?_
  rintro H4 ⟨-, k4⟩
  refine ex_s (am_nb (m := 1) (pc1 := 126) (ls1 := [(3, .int (-1)), (2, .int (d + 1)), (0, .ref 0), (1, .int n)]) (st1 := [.ref 0]) (H1 := H4) (k1 := 0) (n1 := 0) (by with_unfolding_all rfl)) ?_
  refine ex_s (st_get rfl ((k4 0).trans ((k3 0).trans ((k2 0).trans f1))) rfl) ?_
  refine ex_cv0 (as := []) (rest := []) rfl rfl rfl rfl ((k4 129).trans ((k3 129).trans ((k2 129).trans ((k1 129 (by decide)).trans h129)))) rfl (by with_unfolding_all rfl) (by with_unfolding_all rfl) (tx_a_4_0 ((k4 129).trans ((k3 129).trans ((k2 129).trans ((k1 129 (by decide)).trans h129)))) ((k4 136).trans ((k3 136).trans ((k2 136).trans ((k1 136 (by decide)).trans h136)))) ((k4 130).trans ((k3 130).trans ((k2 130).trans ((k1 130 (by decide)).trans h130))))) ?_
  rintro H6 ⟨-, k6⟩
  refine ex_s (am_nb (m := 1) (pc1 := 133) (ls1 := [(3, .int (-1)), (2, .int (d + 1)), (0, .ref 0), (1, .int n)]) (st1 := [.ref 0]) (H1 := H6) (k1 := 0) (n1 := 0) (by with_unfolding_all rfl)) ?_
  refine ex_s (st_get rfl ((k6 0).trans ((k4 0).trans ((k3 0).trans ((k2 0).trans f1)))) rfl) ?_
  refine ex_cv1 (as := []) (rest := []) rfl rfl rfl rfl ((k6 128).trans ((k4 128).trans ((k3 128).trans ((k2 128).trans ((k1 128 (by decide)).trans h128))))) rfl (by with_unfolding_all rfl) (by with_unfolding_all rfl) (tx_a_6_0 ((k6 128).trans ((k4 128).trans ((k3 128).trans ((k2 128).trans ((k1 128 (by decide)).trans h128)))))) ?_
  rintro H7 ⟨-, k7⟩
  refine ex_s (am_nb (m := 2) (pc1 := 143) (ls1 := [(3, .int (-1)), (2, .int (d + 1)), (0, .ref 0), (1, .int n)]) (st1 := [.ref 0]) (H1 := H7) (k1 := 0) (n1 := 0) (by with_unfolding_all rfl)) ?_
  refine ex_s (st_get rfl ((k7 0).trans ((k6 0).trans ((k4 0).trans ((k3 0).trans ((k2 0).trans f1))))) rfl) ?_
  refine ex_s (am_nb (m := 1) (pc1 := 147) (ls1 := [(3, .int (-1)), (2, .int (d + 1)), (0, .ref 0), (1, .int n)]) (st1 := [.ref 0, .ref 128]) (H1 := H7) (k1 := 0) (n1 := 0) (by with_unfolding_all rfl)) ?_
  refine ex_s (st_get rfl ((k7 0).trans ((k6 0).trans ((k4 0).trans ((k3 0).trans ((k2 0).trans f1))))) rfl) ?_
  refine ex_cv1 (as := []) (rest := [.ref 128]) rfl rfl rfl rfl ((k7 129).trans ((k6 129).trans ((k4 129).trans ((k3 129).trans ((k2 129).trans ((k1 129 (by decide)).trans h129)))))) rfl (by with_unfolding_all rfl) (by with_unfolding_all rfl) (tx_a_7_0 ((k7 129).trans ((k6 129).trans ((k4 129).trans ((k3 129).trans ((k2 129).trans ((k1 129 (by decide)).trans h129)))))) ((k7 132).trans ((k6 132).trans ((k4 132).trans ((k3 132).trans ((k2 132).trans ((k1 132 (by decide)).trans h132))))))) ?_
  rintro H10 ⟨-, k10⟩
  refine ex_s (am_nb (m := 1) (pc1 := 154) (ls1 := [(3, .int (-1)), (2, .int (d + 1)), (0, .ref 0), (1, .int n)]) (st1 := [.ref 0, .int (-1), .ref 128]) (H1 := H10) (k1 := 0) (n1 := 0) (by with_unfolding_all rfl)) ?_
  refine ex_s (st_get rfl ((k10 0).trans ((k7 0).trans ((k6 0).trans ((k4 0).trans ((k3 0).trans ((k2 0).trans f1)))))) rfl) ?_
  refine ex_s (am_nb (m := 1) (pc1 := 158) (ls1 := [(3, .int (-1)), (2, .int (d + 1)), (0, .ref 0), (1, .int n)]) (st1 := [.ref 0, .int (t + 1), .int (-1), .ref 128]) (H1 := H10) (k1 := 0) (n1 := 0) (by with_unfolding_all rfl)) ?_
  refine ex_s (st_get rfl ((k10 0).trans ((k7 0).trans ((k6 0).trans ((k4 0).trans ((k3 0).trans ((k2 0).trans f1)))))) rfl) ?_
  refine ex_s (am_nb (m := 1) (pc1 := 162) (ls1 := [(3, .int (-1)), (2, .int (d + 1)), (0, .ref 0), (1, .int n)]) (st1 := [.int ((t + 1) + v0_13), .int (-1), .ref 128]) (H1 := H10) (k1 := 0) (n1 := 0) (by with_unfolding_all rfl)) ?_
  refine ex_cv0 (as := [.int (-1), .int ((t + 1) + v0_13)]) (rest := []) rfl rfl rfl rfl ((k10 128).trans ((k7 128).trans ((k6 128).trans ((k4 128).trans ((k3 128).trans ((k2 128).trans ((k1 128 (by decide)).trans h128))))))) rfl (by with_unfolding_all rfl) (by with_unfolding_all rfl) (tx_a_10_0) ?_
  rintro H11 ⟨-, k11⟩
  refine ex_s (am_nb (m := 1) (pc1 := 166) (ls1 := [(3, .int (-1)), (2, .int (d + 1)), (0, .ref 0), (1, .int n)]) (st1 := [.ref 0]) (H1 := H11) (k1 := 0) (n1 := 0) (by with_unfolding_all rfl)) ?_
  refine ex_s (st_get rfl ((k11 0).trans ((k10 0).trans ((k7 0).trans ((k6 0).trans ((k4 0).trans ((k3 0).trans ((k2 0).trans f1))))))) rfl) ?_
  refine ex_cv1 (as := []) (rest := []) rfl rfl rfl rfl ((k11 127).trans ((k10 127).trans ((k7 127).trans ((k6 127).trans ((k4 127).trans ((k3 127).trans ((k2 127).trans ((k1 127 (by decide)).trans h127)))))))) rfl (by with_unfolding_all rfl) (by with_unfolding_all rfl) (tx_a_11_0 ((k11 127).trans ((k10 127).trans ((k7 127).trans ((k6 127).trans ((k4 127).trans ((k3 127).trans ((k2 127).trans ((k1 127 (by decide)).trans h127))))))))) ?_
  rintro H12 ⟨-, k12⟩
  refine ex_s (am_nb (m := 2) (pc1 := 176) (ls1 := [(3, .int (-1)), (2, .int (d + 1)), (0, .ref 0), (1, .int n)]) (st1 := [.ref 0]) (H1 := H12) (k1 := 0) (n1 := 0) (by with_unfolding_all rfl)) ?_
  refine ex_s (st_get rfl ((k12 0).trans ((k11 0).trans ((k10 0).trans ((k7 0).trans ((k6 0).trans ((k4 0).trans ((k3 0).trans ((k2 0).trans f1)))))))) rfl) ?_
  refine ex_s (am_nb (m := 1) (pc1 := 180) (ls1 := [(3, .int (-1)), (2, .int (d + 1)), (0, .ref 0), (1, .int n)]) (st1 := [.ref 0, .ref 127]) (H1 := H12) (k1 := 0) (n1 := 0) (by with_unfolding_all rfl)) ?_
  refine ex_s (st_get rfl ((k12 0).trans ((k11 0).trans ((k10 0).trans ((k7 0).trans ((k6 0).trans ((k4 0).trans ((k3 0).trans ((k2 0).trans f1)))))))) rfl) ?_
  refine ex_cv1 (as := []) (rest := [.ref 127]) rfl rfl rfl rfl ((k12 116).trans ((k11 116).trans ((k10 116).trans ((k7 116).trans ((k6 116).trans ((k4 116).trans ((k3 116).trans ((k2 116).trans ((k1 116 (by decide)).trans h116))))))))) rfl (by with_unfolding_all rfl) (by with_unfolding_all rfl) (tx_a_12_0 ((k12 116).trans ((k11 116).trans ((k10 116).trans ((k7 116).trans ((k6 116).trans ((k4 116).trans ((k3 116).trans ((k2 116).trans ((k1 116 (by decide)).trans h116))))))))) ((k12 117).trans ((k11 117).trans ((k10 117).trans ((k7 117).trans ((k6 117).trans ((k4 117).trans ((k3 117).trans ((k2 117).trans ((k1 117 (by decide)).trans h117)))))))))) ?_
  rintro H15 ⟨-, k15⟩
  refine ex_s (am_nb (m := 1) (pc1 := 187) (ls1 := [(3, .int (-1)), (2, .int (d + 1)), (0, .ref 0), (1, .int n)]) (st1 := [.ref 0, .int (-1), .ref 127]) (H1 := H15) (k1 := 0) (n1 := 0) (by with_unfolding_all rfl)) ?_
  refine ex_s (st_get rfl ((k15 0).trans ((k12 0).trans ((k11 0).trans ((k10 0).trans ((k7 0).trans ((k6 0).trans ((k4 0).trans ((k3 0).trans ((k2 0).trans f1))))))))) rfl) ?_
  refine ex_s (am_nb (m := 1) (pc1 := 191) (ls1 := [(3, .int (-1)), (2, .int (d + 1)), (0, .ref 0), (1, .int n)]) (st1 := [.ref 0, .int (t + 1), .int (-1), .ref 127]) (H1 := H15) (k1 := 0) (n1 := 0) (by with_unfolding_all rfl)) ?_
  refine ex_s (st_get rfl ((k15 0).trans ((k12 0).trans ((k11 0).trans ((k10 0).trans ((k7 0).trans ((k6 0).trans ((k4 0).trans ((k3 0).trans ((k2 0).trans f1))))))))) rfl) ?_
  refine ex_s (am_nb (m := 1) (pc1 := 195) (ls1 := [(3, .int (-1)), (2, .int (d + 1)), (0, .ref 0), (1, .int n)]) (st1 := [.int ((t + 1) + v0_13), .int (-1), .ref 127]) (H1 := H15) (k1 := 0) (n1 := 0) (by with_unfolding_all rfl)) ?_
  refine ex_cv0 (as := [.int (-1), .int ((t + 1) + v0_13)]) (rest := []) rfl rfl rfl rfl ((k15 127).trans ((k12 127).trans ((k11 127).trans ((k10 127).trans ((k7 127).trans ((k6 127).trans ((k4 127).trans ((k3 127).trans ((k2 127).trans ((k1 127 (by decide)).trans h127)))))))))) rfl (by with_unfolding_all rfl) (by with_unfolding_all rfl) (tx_a_15_0) ?_
  rintro H16 ⟨-, k16⟩
  refine ex_s (am_nb (m := 1) (pc1 := 16) (ls1 := [(3, .int (-1)), (2, .int (d + 1)), (0, .ref 0), (1, .int n)]) (st1 := []) (H1 := H16) (k1 := 0) (n1 := 0) (by with_unfolding_all rfl)) ?_
  exact kk _ ⟨⟨((k16 0).trans ((k15 0).trans ((k12 0).trans ((k11 0).trans ((k10 0).trans ((k7 0).trans ((k6 0).trans ((k4 0).trans ((k3 0).trans ((k2 0).trans f1)))))))))), trivial⟩, fun j n0 => ((k16 j).trans ((k15 j).trans ((k12 j).trans ((k11 j).trans ((k10 j).trans ((k7 j).trans ((k6 j).trans ((k4 j).trans ((k3 j).trans ((k2 j).trans (k1 j n0)))))))))))⟩

set_option maxRecDepth 100000 in
theorem tx_a_3 {sL : Nat} {sx : Nat → Int32} {cs : Nat → Nat → Option Int32} {H : am_H} {R : Option Value} {F : am_H → Prop} {v0_13 : Int32} {v136_0 : Int32} {v136_1 : Int32} {v136_9 : Int32} {t : Int32} {d : Int32} {n : Int32} (h0 : am_is H 0 (.inr (11, [.ref 1, .int 0, .ref 2, .int 0, .ref 3, .ref 93, .ref 97, .ref 115, .ref 116, .ref 129, .ref 123, .ref 127, .ref 128, .int v0_13, .null, .int t]))) (h127 : am_is H 127 (.inr (10, [.int (-1), .int 0, .int 0, .int 0]))) (h128 : am_is H 128 (.inr (10, [.int (-1), .int 0, .int 0, .int 0]))) (h123 : am_is H 123 (.inr (4, [.ref 124, .ref 125, .int 0, .int (-1), .int 0, .ref 126]))) (h129 : am_is H 129 (.inr (8, [.ref 136, .ref 130, .ref 132, .ref 134, .int 0, .int 0, .int 0, .int 0, .int 0, .int 0, .int 0, .ref 135, .int 0, .int 0, .int 0]))) (h136 : am_is H 136 (.inr (3, [.int v136_0, .int v136_1, .ref 138, .ref 139, .ref 140, .int 0, .int 0, .int 0, .int 0, .int v136_9, .int 96, .int 0, .int 0, .int 0, .int 0, .int 0, .int 0, .ref 137]))) (h130 : am_is H 130 (.inr (0, [.ref 131, .int 0, .int 0]))) (h132 : am_is H 132 (.inr (0, [.ref 133, .int 0, .int 0]))) (h116 : am_is H 116 (.inr (1, [.ref 117, .ref 119, .ref 121, .int 127, .int 0, .int 0, .int 0, .int 0, .int 0, .int 0]))) (h117 : am_is H 117 (.inr (0, [.ref 118, .int 0, .int 0]))) (c1 : ¬ n ≤ d) (c2 : ¬ 1000000000 ≤ t) (c3 : ¬ ((t + 1) - (t + 1) / 4 * 4) = 0)  (kk : ∀ H1 : am_H, ((am_is H1 0 (.inr (11, [.ref 1, .int 0, .ref 2, .int 0, .ref 3, .ref 93, .ref 97, .ref 115, .ref 116, .ref 129, .ref 123, .ref 127, .ref 128, .int v0_13, .null, .int (t + 1)])) ∧ True) ∧ ∀ j : Nat, j ≠ 0 → H1[j]? = H[j]?) → am_E sL sx cs 177 16 [(3, .int (-1)), (2, .int (d + 1)), (0, .ref 0), (1, .int n)] [] H1 R F) :
    am_E sL sx cs 177 16 [(2, .int d), (0, .ref 0), (1, .int n)] [] H R F := by
  refine ex_s (am_nb (m := 2) (pc1 := 18) (ls1 := [(2, .int d), (0, .ref 0), (1, .int n)]) (st1 := [.int n, .int d]) (H1 := H) (k1 := 0) (n1 := 0) (by with_unfolding_all rfl)) ?_
  refine ex_s (st_icmp rfl) ?_
  refine ex_pc (if_neg c1) ?_
  refine ex_s (am_nb (m := 1) (pc1 := 22) (ls1 := [(2, .int d), (0, .ref 0), (1, .int n)]) (st1 := [.ref 0]) (H1 := H) (k1 := 0) (n1 := 0) (by with_unfolding_all rfl)) ?_
  refine ex_s (st_get rfl h0 rfl) ?_
  refine ex_s (am_nb (m := 1) (pc1 := 28) (ls1 := [(2, .int d), (0, .ref 0), (1, .int n)]) (st1 := [.int 1000000000, .int t]) (H1 := H) (k1 := 0) (n1 := 0) (by with_unfolding_all rfl)) ?_
  refine ex_s (st_icmp rfl) ?_
  refine ex_pc (if_neg c2) ?_
  refine ex_s (am_nb (m := 3) (pc1 := 36) (ls1 := [(2, .int (d + 1)), (0, .ref 0), (1, .int n)]) (st1 := [.ref 0, .ref 0]) (H1 := H) (k1 := 0) (n1 := 0) (by with_unfolding_all rfl)) ?_
  refine ex_s (st_get rfl h0 rfl) ?_
  refine ex_s (am_nb (m := 2) (pc1 := 41) (ls1 := [(2, .int (d + 1)), (0, .ref 0), (1, .int n)]) (st1 := [.int (t + 1), .ref 0]) (H1 := H) (k1 := 0) (n1 := 0) (by with_unfolding_all rfl)) ?_
  refine ex_put rfl h0 rfl rfl rfl ?_
  intro H1 f1 k1
  refine ex_s (am_nb (m := 1) (pc1 := 45) (ls1 := [(2, .int (d + 1)), (0, .ref 0), (1, .int n)]) (st1 := [.ref 0]) (H1 := H1) (k1 := 0) (n1 := 0) (by with_unfolding_all rfl)) ?_
  refine ex_s (st_get rfl f1 rfl) ?_
  refine ex_s (am_nb (m := 1) (pc1 := 49) (ls1 := [(2, .int (d + 1)), (0, .ref 0), (1, .int n)]) (st1 := [.ref 0, .ref 127]) (H1 := H1) (k1 := 0) (n1 := 0) (by with_unfolding_all rfl)) ?_
  refine ex_s (st_get rfl f1 rfl) ?_
  refine ex_cv1 (as := [.int (t + 1)]) (rest := []) rfl rfl rfl rfl ((k1 127 (by decide)).trans h127) rfl (by with_unfolding_all rfl) (by with_unfolding_all rfl) (tx_a_1_0 ((k1 127 (by decide)).trans h127)) ?_
  rintro H2 ⟨-, k2⟩
  refine ex_s (am_nb (m := 5) (pc1 := 70) (ls1 := [(3, .int (-1)), (2, .int (d + 1)), (0, .ref 0), (1, .int n)]) (st1 := [.ref 0]) (H1 := H2) (k1 := 0) (n1 := 0) (by with_unfolding_all rfl)) ?_
  refine ex_s (st_get rfl ((k2 0).trans f1) rfl) ?_
  refine ex_s (am_nb (m := 1) (pc1 := 74) (ls1 := [(3, .int (-1)), (2, .int (d + 1)), (0, .ref 0), (1, .int n)]) (st1 := [.ref 0, .ref 128]) (H1 := H2) (k1 := 0) (n1 := 0) (by with_unfolding_all rfl)) ?_
  refine ex_s (st_get rfl ((k2 0).trans f1) rfl) ?_
  refine ex_cv1 (as := [.int (t + 1)]) (rest := []) rfl rfl rfl rfl ((k2 128).trans ((k1 128 (by decide)).trans h128)) rfl (by with_unfolding_all rfl) (by with_unfolding_all rfl) (tx_a_2_0 ((k2 128).trans ((k1 128 (by decide)).trans h128))) ?_
  rintro H3 ⟨-, k3⟩
  refine ex_s (am_nb (m := 5) (pc1 := 102) (ls1 := [(3, .int (-1)), (2, .int (d + 1)), (0, .ref 0), (1, .int n)]) (st1 := [.ref 0]) (H1 := H3) (k1 := 0) (n1 := 0) (by with_unfolding_all rfl)) ?_
  refine ex_s (st_get rfl ((k3 0).trans ((k2 0).trans f1)) rfl) ?_
  refine ex_s (am_nb (m := 2) (pc1 := 107) (ls1 := [(3, .int (-1)), (2, .int (d + 1)), (0, .ref 0), (1, .int n)]) (st1 := [.int ((t + 1) - (t + 1) / 4 * 4)]) (H1 := H3) (k1 := 0) (n1 := 0) (by with_unfolding_all rfl)) ?_
  refine ex_s (st_if rfl) ?_
  refine ex_pc (if_neg c3) ?_
  refine ex_s (am_nb (m := 1) (pc1 := 126) (ls1 := [(3, .int (-1)), (2, .int (d + 1)), (0, .ref 0), (1, .int n)]) (st1 := [.ref 0]) (H1 := H3) (k1 := 0) (n1 := 0) (by with_unfolding_all rfl)) ?_
  refine ex_s (st_get rfl ((k3 0).trans ((k2 0).trans f1)) rfl) ?_
  refine ex_cv0 (as := []) (rest := []) rfl rfl rfl rfl ((k3 129).trans ((k2 129).trans ((k1 129 (by decide)).trans h129))) rfl (by with_unfolding_all rfl) (by with_unfolding_all rfl) (tx_a_4_0 ((k3 129).trans ((k2 129).trans ((k1 129 (by decide)).trans h129))) ((k3 136).trans ((k2 136).trans ((k1 136 (by decide)).trans h136))) ((k3 130).trans ((k2 130).trans ((k1 130 (by decide)).trans h130)))) ?_
  rintro H17 ⟨-, k17⟩
  refine ex_s (am_nb (m := 1) (pc1 := 133) (ls1 := [(3, .int (-1)), (2, .int (d + 1)), (0, .ref 0), (1, .int n)]) (st1 := [.ref 0]) (H1 := H17) (k1 := 0) (n1 := 0) (by with_unfolding_all rfl)) ?_
  refine ex_s (st_get rfl ((k17 0).trans ((k3 0).trans ((k2 0).trans f1))) rfl) ?_
  refine ex_cv1 (as := []) (rest := []) rfl rfl rfl rfl ((k17 128).trans ((k3 128).trans ((k2 128).trans ((k1 128 (by decide)).trans h128)))) rfl (by with_unfolding_all rfl) (by with_unfolding_all rfl) (tx_a_6_0 ((k17 128).trans ((k3 128).trans ((k2 128).trans ((k1 128 (by decide)).trans h128))))) ?_
  rintro H18 ⟨-, k18⟩
  refine ex_s (am_nb (m := 2) (pc1 := 143) (ls1 := [(3, .int (-1)), (2, .int (d + 1)), (0, .ref 0), (1, .int n)]) (st1 := [.ref 0]) (H1 := H18) (k1 := 0) (n1 := 0) (by with_unfolding_all rfl)) ?_
  refine ex_s (st_get rfl ((k18 0).trans ((k17 0).trans ((k3 0).trans ((k2 0).trans f1)))) rfl) ?_
  refine ex_s (am_nb (m := 1) (pc1 := 147) (ls1 := [(3, .int (-1)), (2, .int (d + 1)), (0, .ref 0), (1, .int n)]) (st1 := [.ref 0, .ref 128]) (H1 := H18) (k1 := 0) (n1 := 0) (by with_unfolding_all rfl)) ?_
  refine ex_s (st_get rfl ((k18 0).trans ((k17 0).trans ((k3 0).trans ((k2 0).trans f1)))) rfl) ?_
  refine ex_cv1 (as := []) (rest := [.ref 128]) rfl rfl rfl rfl ((k18 129).trans ((k17 129).trans ((k3 129).trans ((k2 129).trans ((k1 129 (by decide)).trans h129))))) rfl (by with_unfolding_all rfl) (by with_unfolding_all rfl) (tx_a_7_0 ((k18 129).trans ((k17 129).trans ((k3 129).trans ((k2 129).trans ((k1 129 (by decide)).trans h129))))) ((k18 132).trans ((k17 132).trans ((k3 132).trans ((k2 132).trans ((k1 132 (by decide)).trans h132)))))) ?_
  rintro H19 ⟨-, k19⟩
  refine ex_s (am_nb (m := 1) (pc1 := 154) (ls1 := [(3, .int (-1)), (2, .int (d + 1)), (0, .ref 0), (1, .int n)]) (st1 := [.ref 0, .int (-1), .ref 128]) (H1 := H19) (k1 := 0) (n1 := 0) (by with_unfolding_all rfl)) ?_
  refine ex_s (st_get rfl ((k19 0).trans ((k18 0).trans ((k17 0).trans ((k3 0).trans ((k2 0).trans f1))))) rfl) ?_
  refine ex_s (am_nb (m := 1) (pc1 := 158) (ls1 := [(3, .int (-1)), (2, .int (d + 1)), (0, .ref 0), (1, .int n)]) (st1 := [.ref 0, .int (t + 1), .int (-1), .ref 128]) (H1 := H19) (k1 := 0) (n1 := 0) (by with_unfolding_all rfl)) ?_
  refine ex_s (st_get rfl ((k19 0).trans ((k18 0).trans ((k17 0).trans ((k3 0).trans ((k2 0).trans f1))))) rfl) ?_
  refine ex_s (am_nb (m := 1) (pc1 := 162) (ls1 := [(3, .int (-1)), (2, .int (d + 1)), (0, .ref 0), (1, .int n)]) (st1 := [.int ((t + 1) + v0_13), .int (-1), .ref 128]) (H1 := H19) (k1 := 0) (n1 := 0) (by with_unfolding_all rfl)) ?_
  refine ex_cv0 (as := [.int (-1), .int ((t + 1) + v0_13)]) (rest := []) rfl rfl rfl rfl ((k19 128).trans ((k18 128).trans ((k17 128).trans ((k3 128).trans ((k2 128).trans ((k1 128 (by decide)).trans h128)))))) rfl (by with_unfolding_all rfl) (by with_unfolding_all rfl) (tx_a_10_0) ?_
  rintro H20 ⟨-, k20⟩
  refine ex_s (am_nb (m := 1) (pc1 := 166) (ls1 := [(3, .int (-1)), (2, .int (d + 1)), (0, .ref 0), (1, .int n)]) (st1 := [.ref 0]) (H1 := H20) (k1 := 0) (n1 := 0) (by with_unfolding_all rfl)) ?_
  refine ex_s (st_get rfl ((k20 0).trans ((k19 0).trans ((k18 0).trans ((k17 0).trans ((k3 0).trans ((k2 0).trans f1)))))) rfl) ?_
  refine ex_cv1 (as := []) (rest := []) rfl rfl rfl rfl ((k20 127).trans ((k19 127).trans ((k18 127).trans ((k17 127).trans ((k3 127).trans ((k2 127).trans ((k1 127 (by decide)).trans h127))))))) rfl (by with_unfolding_all rfl) (by with_unfolding_all rfl) (tx_a_11_0 ((k20 127).trans ((k19 127).trans ((k18 127).trans ((k17 127).trans ((k3 127).trans ((k2 127).trans ((k1 127 (by decide)).trans h127)))))))) ?_
  rintro H21 ⟨-, k21⟩
  refine ex_s (am_nb (m := 2) (pc1 := 176) (ls1 := [(3, .int (-1)), (2, .int (d + 1)), (0, .ref 0), (1, .int n)]) (st1 := [.ref 0]) (H1 := H21) (k1 := 0) (n1 := 0) (by with_unfolding_all rfl)) ?_
  refine ex_s (st_get rfl ((k21 0).trans ((k20 0).trans ((k19 0).trans ((k18 0).trans ((k17 0).trans ((k3 0).trans ((k2 0).trans f1))))))) rfl) ?_
  refine ex_s (am_nb (m := 1) (pc1 := 180) (ls1 := [(3, .int (-1)), (2, .int (d + 1)), (0, .ref 0), (1, .int n)]) (st1 := [.ref 0, .ref 127]) (H1 := H21) (k1 := 0) (n1 := 0) (by with_unfolding_all rfl)) ?_
  refine ex_s (st_get rfl ((k21 0).trans ((k20 0).trans ((k19 0).trans ((k18 0).trans ((k17 0).trans ((k3 0).trans ((k2 0).trans f1))))))) rfl) ?_
  refine ex_cv1 (as := []) (rest := [.ref 127]) rfl rfl rfl rfl ((k21 116).trans ((k20 116).trans ((k19 116).trans ((k18 116).trans ((k17 116).trans ((k3 116).trans ((k2 116).trans ((k1 116 (by decide)).trans h116)))))))) rfl (by with_unfolding_all rfl) (by with_unfolding_all rfl) (tx_a_12_0 ((k21 116).trans ((k20 116).trans ((k19 116).trans ((k18 116).trans ((k17 116).trans ((k3 116).trans ((k2 116).trans ((k1 116 (by decide)).trans h116)))))))) ((k21 117).trans ((k20 117).trans ((k19 117).trans ((k18 117).trans ((k17 117).trans ((k3 117).trans ((k2 117).trans ((k1 117 (by decide)).trans h117))))))))) ?_
  rintro H22 ⟨-, k22⟩
  refine ex_s (am_nb (m := 1) (pc1 := 187) (ls1 := [(3, .int (-1)), (2, .int (d + 1)), (0, .ref 0), (1, .int n)]) (st1 := [.ref 0, .int (-1), .ref 127]) (H1 := H22) (k1 := 0) (n1 := 0) (by with_unfolding_all rfl)) ?_
  refine ex_s (st_get rfl ((k22 0).trans ((k21 0).trans ((k20 0).trans ((k19 0).trans ((k18 0).trans ((k17 0).trans ((k3 0).trans ((k2 0).trans f1)))))))) rfl) ?_
  refine ex_s (am_nb (m := 1) (pc1 := 191) (ls1 := [(3, .int (-1)), (2, .int (d + 1)), (0, .ref 0), (1, .int n)]) (st1 := [.ref 0, .int (t + 1), .int (-1), .ref 127]) (H1 := H22) (k1 := 0) (n1 := 0) (by with_unfolding_all rfl)) ?_
  refine ex_s (st_get rfl ((k22 0).trans ((k21 0).trans ((k20 0).trans ((k19 0).trans ((k18 0).trans ((k17 0).trans ((k3 0).trans ((k2 0).trans f1)))))))) rfl) ?_
  refine ex_s (am_nb (m := 1) (pc1 := 195) (ls1 := [(3, .int (-1)), (2, .int (d + 1)), (0, .ref 0), (1, .int n)]) (st1 := [.int ((t + 1) + v0_13), .int (-1), .ref 127]) (H1 := H22) (k1 := 0) (n1 := 0) (by with_unfolding_all rfl)) ?_
  refine ex_cv0 (as := [.int (-1), .int ((t + 1) + v0_13)]) (rest := []) rfl rfl rfl rfl ((k22 127).trans ((k21 127).trans ((k20 127).trans ((k19 127).trans ((k18 127).trans ((k17 127).trans ((k3 127).trans ((k2 127).trans ((k1 127 (by decide)).trans h127))))))))) rfl (by with_unfolding_all rfl) (by with_unfolding_all rfl) (tx_a_15_0) ?_
  rintro H23 ⟨-, k23⟩
  refine ex_s (am_nb (m := 1) (pc1 := 16) (ls1 := [(3, .int (-1)), (2, .int (d + 1)), (0, .ref 0), (1, .int n)]) (st1 := []) (H1 := H23) (k1 := 0) (n1 := 0) (by with_unfolding_all rfl)) ?_
  exact kk _ ⟨⟨((k23 0).trans ((k22 0).trans ((k21 0).trans ((k20 0).trans ((k19 0).trans ((k18 0).trans ((k17 0).trans ((k3 0).trans ((k2 0).trans f1))))))))), trivial⟩, fun j n0 => ((k23 j).trans ((k22 j).trans ((k21 j).trans ((k20 j).trans ((k19 j).trans ((k18 j).trans ((k17 j).trans ((k3 j).trans ((k2 j).trans (k1 j n0))))))))))⟩

set_option maxRecDepth 100000 in
theorem tx_b_1_0 {sL : Nat} {sx : Nat → Int32} {cs : Nat → Nat → Option Int32} {H : am_H} {t : Int32} (h127 : am_is H 127 (.inr (10, [.int (-1), .int 0, .int 0, .int 0])))   :
    am_E sL sx cs 178 0 [(0, .ref 127), (1, .int (t + 1))] [] H (some (.int (-1))) (fun H1 => (True) ∧ ∀ j : Nat, H1[j]? = H[j]?) := by
  refine ex_s (am_nb (m := 1) (pc1 := 1) (ls1 := [(0, .ref 127), (1, .int (t + 1))]) (st1 := [.ref 127]) (H1 := H) (k1 := 0) (n1 := 0) (by with_unfolding_all rfl)) ?_
  refine ex_s (st_get rfl h127 rfl) ?_
  refine ex_s (am_nb (m := 3) (pc1 := 17) (ls1 := [(0, .ref 127), (1, .int (t + 1))]) (st1 := [.int (-1)]) (H1 := H) (k1 := 0) (n1 := 0) (by with_unfolding_all rfl)) ?_
  exact ex_r (st_iret rfl rfl rfl) ⟨trivial, fun j => rfl⟩

set_option maxRecDepth 100000 in
theorem tx_b_2_0 {sL : Nat} {sx : Nat → Int32} {cs : Nat → Nat → Option Int32} {H : am_H} {t : Int32} (h128 : am_is H 128 (.inr (10, [.int (-1), .int 0, .int 0, .int 0])))   :
    am_E sL sx cs 178 0 [(0, .ref 128), (1, .int (t + 1))] [] H (some (.int (-1))) (fun H1 => (True) ∧ ∀ j : Nat, H1[j]? = H[j]?) := by
  refine ex_s (am_nb (m := 1) (pc1 := 1) (ls1 := [(0, .ref 128), (1, .int (t + 1))]) (st1 := [.ref 128]) (H1 := H) (k1 := 0) (n1 := 0) (by with_unfolding_all rfl)) ?_
  refine ex_s (st_get rfl h128 rfl) ?_
  refine ex_s (am_nb (m := 3) (pc1 := 17) (ls1 := [(0, .ref 128), (1, .int (t + 1))]) (st1 := [.int (-1)]) (H1 := H) (k1 := 0) (n1 := 0) (by with_unfolding_all rfl)) ?_
  exact ex_r (st_iret rfl rfl rfl) ⟨trivial, fun j => rfl⟩

set_option maxRecDepth 100000 in
theorem tx_b_3_0 {sL : Nat} {sx : Nat → Int32} {cs : Nat → Nat → Option Int32} {H : am_H} {t : Int32} (h123 : am_is H 123 (.inr (4, [.ref 124, .ref 125, .int 0, .int (-1), .int 0, .ref 126])))   :
    am_E sL sx cs 193 0 [(0, .ref 123), (1, .int (t + 1)), (2, .ref 129)] [] H none (fun H1 => (True) ∧ ∀ j : Nat, H1[j]? = H[j]?) := by
  refine ex_s (am_nb (m := 1) (pc1 := 1) (ls1 := [(0, .ref 123), (1, .int (t + 1)), (2, .ref 129)]) (st1 := [.ref 123]) (H1 := H) (k1 := 0) (n1 := 0) (by with_unfolding_all rfl)) ?_
  refine ex_s (st_get rfl h123 rfl) ?_
  refine ex_s (am_nb (m := 1) (pc1 := 7) (ls1 := [(0, .ref 123), (1, .int (t + 1)), (2, .ref 129)]) (st1 := []) (H1 := H) (k1 := 0) (n1 := 0) (by with_unfolding_all rfl)) ?_
  exact ex_r (st_vret rfl rfl) ⟨trivial, fun j => rfl⟩

set_option maxRecDepth 100000 in
theorem tx_b_5_0 {sL : Nat} {sx : Nat → Int32} {cs : Nat → Nat → Option Int32} {H : am_H}  (h130 : am_is H 130 (.inr (0, [.ref 131, .int 0, .int 0])))   :
    am_E sL sx cs 163 0 [(0, .ref 130)] [] H (some (.int 0)) (fun H1 => (True) ∧ ∀ j : Nat, H1[j]? = H[j]?) := by
  refine ex_s (am_nb (m := 1) (pc1 := 1) (ls1 := [(0, .ref 130)]) (st1 := [.ref 130]) (H1 := H) (k1 := 0) (n1 := 0) (by with_unfolding_all rfl)) ?_
  refine ex_s (st_get rfl h130 rfl) ?_
  exact ex_r (st_iret rfl rfl rfl) ⟨trivial, fun j => rfl⟩

set_option maxRecDepth 100000 in
theorem tx_b_4_0 {sL : Nat} {sx : Nat → Int32} {cs : Nat → Nat → Option Int32} {H : am_H} {v136_0 : Int32} {v136_1 : Int32} {v136_9 : Int32} (h129 : am_is H 129 (.inr (8, [.ref 136, .ref 130, .ref 132, .ref 134, .int 0, .int 0, .int 0, .int 0, .int 0, .int 0, .int 0, .ref 135, .int 0, .int 0, .int 0]))) (h136 : am_is H 136 (.inr (3, [.int v136_0, .int v136_1, .ref 138, .ref 139, .ref 140, .int 0, .int 0, .int 0, .int 0, .int v136_9, .int 96, .int 0, .int 0, .int 0, .int 0, .int 0, .int 0, .ref 137]))) (h130 : am_is H 130 (.inr (0, [.ref 131, .int 0, .int 0])))   :
    am_E sL sx cs 203 0 [(0, .ref 129)] [] H none (fun H1 => (True) ∧ ∀ j : Nat, H1[j]? = H[j]?) := by
  refine ex_s (am_nb (m := 1) (pc1 := 1) (ls1 := [(0, .ref 129)]) (st1 := [.ref 129]) (H1 := H) (k1 := 0) (n1 := 0) (by with_unfolding_all rfl)) ?_
  refine ex_s (st_get rfl h129 rfl) ?_
  refine ex_s (st_get rfl h136 rfl) ?_
  refine ex_s (am_nb (m := 2) (pc1 := 27) (ls1 := [(0, .ref 129)]) (st1 := [.ref 129]) (H1 := H) (k1 := 0) (n1 := 0) (by with_unfolding_all rfl)) ?_
  refine ex_s (st_get rfl h129 rfl) ?_
  refine ex_s (am_nb (m := 2) (pc1 := 34) (ls1 := [(0, .ref 129)]) (st1 := [.ref 129]) (H1 := H) (k1 := 0) (n1 := 0) (by with_unfolding_all rfl)) ?_
  refine ex_s (st_get rfl h129 rfl) ?_
  refine ex_cv1 (as := []) (rest := []) rfl rfl rfl rfl h130 rfl (by with_unfolding_all rfl) (by with_unfolding_all rfl) (tx_b_5_0 h130) ?_
  rintro H28 ⟨-, k28⟩
  refine ex_s (am_nb (m := 1) (pc1 := 73) (ls1 := [(0, .ref 129)]) (st1 := []) (H1 := H28) (k1 := 0) (n1 := 0) (by with_unfolding_all rfl)) ?_
  exact ex_r (st_vret rfl rfl) ⟨trivial, fun j => (k28 j)⟩

set_option maxRecDepth 100000 in
theorem tx_b_6_0 {sL : Nat} {sx : Nat → Int32} {cs : Nat → Nat → Option Int32} {H : am_H}  (h128 : am_is H 128 (.inr (10, [.int (-1), .int 0, .int 0, .int 0])))   :
    am_E sL sx cs 244 0 [(0, .ref 128)] [] H (some (.int 1)) (fun H1 => (True) ∧ ∀ j : Nat, H1[j]? = H[j]?) := by
  refine ex_s (am_nb (m := 1) (pc1 := 1) (ls1 := [(0, .ref 128)]) (st1 := [.ref 128]) (H1 := H) (k1 := 0) (n1 := 0) (by with_unfolding_all rfl)) ?_
  refine ex_s (st_get rfl h128 rfl) ?_
  refine ex_s (am_nb (m := 4) (pc1 := 13) (ls1 := [(0, .ref 128)]) (st1 := [.int 1]) (H1 := H) (k1 := 0) (n1 := 0) (by with_unfolding_all rfl)) ?_
  exact ex_r (st_iret rfl rfl rfl) ⟨trivial, fun j => rfl⟩

set_option maxRecDepth 100000 in
theorem tx_b_9_0 {sL : Nat} {sx : Nat → Int32} {cs : Nat → Nat → Option Int32} {H : am_H}  (h132 : am_is H 132 (.inr (0, [.ref 133, .int 0, .int 0])))   :
    am_E sL sx cs 164 0 [(0, .ref 132), (1, .int 0)] [] H (some (.int (-1))) (fun H1 => (True) ∧ ∀ j : Nat, H1[j]? = H[j]?) := by
  refine ex_s (am_nb (m := 4) (pc1 := 6) (ls1 := [(0, .ref 132), (1, .int 0)]) (st1 := [.ref 132, .int 0]) (H1 := H) (k1 := 0) (n1 := 0) (by with_unfolding_all rfl)) ?_
  refine ex_s (st_get rfl h132 rfl) ?_
  refine ex_s (am_nb (m := 3) (pc1 := 33) (ls1 := [(0, .ref 132), (1, .int 0)]) (st1 := [.int (-1)]) (H1 := H) (k1 := 0) (n1 := 0) (by with_unfolding_all rfl)) ?_
  exact ex_r (st_iret rfl rfl rfl) ⟨trivial, fun j => rfl⟩

set_option maxRecDepth 100000 in
theorem tx_b_8_0 {sL : Nat} {sx : Nat → Int32} {cs : Nat → Nat → Option Int32} {H : am_H}  (h132 : am_is H 132 (.inr (0, [.ref 133, .int 0, .int 0])))   :
    am_E sL sx cs 172 0 [(0, .ref 132)] [] H (some (.int (-1))) (fun H1 => (True) ∧ ∀ j : Nat, H1[j]? = H[j]?) := by
  refine ex_s (am_nb (m := 2) (pc1 := 2) (ls1 := [(0, .ref 132)]) (st1 := [.int 0, .ref 132]) (H1 := H) (k1 := 0) (n1 := 0) (by with_unfolding_all rfl)) ?_
  refine ex_cv1 (as := [.int 0]) (rest := []) rfl rfl rfl rfl h132 rfl (by with_unfolding_all rfl) (by with_unfolding_all rfl) (tx_b_9_0 h132) ?_
  rintro H31 ⟨-, k31⟩
  refine ex_s (am_nb (m := 2) (pc1 := 7) (ls1 := [(1, .int (-1)), (0, .ref 132)]) (st1 := [.ref 132]) (H1 := H31) (k1 := 0) (n1 := 0) (by with_unfolding_all rfl)) ?_
  refine ex_s (st_get rfl ((k31 132).trans h132) rfl) ?_
  refine ex_s (am_nb (m := 2) (pc1 := 40) (ls1 := [(1, .int (-1)), (0, .ref 132)]) (st1 := [.int (-1)]) (H1 := H31) (k1 := 0) (n1 := 0) (by with_unfolding_all rfl)) ?_
  exact ex_r (st_iret rfl rfl rfl) ⟨trivial, fun j => (k31 j)⟩

set_option maxRecDepth 100000 in
theorem tx_b_7_0 {sL : Nat} {sx : Nat → Int32} {cs : Nat → Nat → Option Int32} {H : am_H}  (h129 : am_is H 129 (.inr (8, [.ref 136, .ref 130, .ref 132, .ref 134, .int 0, .int 0, .int 0, .int 0, .int 0, .int 0, .int 0, .ref 135, .int 0, .int 0, .int 0]))) (h132 : am_is H 132 (.inr (0, [.ref 133, .int 0, .int 0])))   :
    am_E sL sx cs 245 0 [(0, .ref 129)] [] H (some (.int (-1))) (fun H1 => (True) ∧ ∀ j : Nat, H1[j]? = H[j]?) := by
  refine ex_s (am_nb (m := 1) (pc1 := 1) (ls1 := [(0, .ref 129)]) (st1 := [.ref 129]) (H1 := H) (k1 := 0) (n1 := 0) (by with_unfolding_all rfl)) ?_
  refine ex_s (st_get rfl h129 rfl) ?_
  refine ex_s (am_nb (m := 2) (pc1 := 8) (ls1 := [(0, .ref 129)]) (st1 := [.ref 129]) (H1 := H) (k1 := 0) (n1 := 0) (by with_unfolding_all rfl)) ?_
  refine ex_s (st_get rfl h129 rfl) ?_
  refine ex_s (am_nb (m := 5) (pc1 := 22) (ls1 := [(1, .int 0), (0, .ref 129)]) (st1 := [.ref 129, .int 0]) (H1 := H) (k1 := 0) (n1 := 0) (by with_unfolding_all rfl)) ?_
  refine ex_s (st_get rfl h129 rfl) ?_
  refine ex_s (am_nb (m := 2) (pc1 := 46) (ls1 := [(1, .int 0), (0, .ref 129)]) (st1 := [.ref 129]) (H1 := H) (k1 := 0) (n1 := 0) (by with_unfolding_all rfl)) ?_
  refine ex_s (st_get rfl h129 rfl) ?_
  refine ex_s (am_nb (m := 2) (pc1 := 57) (ls1 := [(1, .int 0), (0, .ref 129)]) (st1 := [.ref 129]) (H1 := H) (k1 := 0) (n1 := 0) (by with_unfolding_all rfl)) ?_
  refine ex_s (st_get rfl h129 rfl) ?_
  refine ex_cv1 (as := []) (rest := []) rfl rfl rfl rfl h132 rfl (by with_unfolding_all rfl) (by with_unfolding_all rfl) (tx_b_8_0 h132) ?_
  rintro H32 ⟨-, k32⟩
  exact ex_r (st_iret rfl rfl rfl) ⟨trivial, fun j => (k32 j)⟩

set_option maxRecDepth 100000 in
theorem tx_b_10_0 {sL : Nat} {sx : Nat → Int32} {cs : Nat → Nat → Option Int32} {H : am_H} {v0_13 : Int32} {t : Int32}    :
    am_E sL sx cs 246 0 [(0, .ref 128), (1, .int (-1)), (2, .int ((t + 1) + v0_13))] [] H none (fun H1 => (True) ∧ ∀ j : Nat, H1[j]? = H[j]?) := by
  refine ex_s (am_nb (m := 3) (pc1 := 5) (ls1 := [(0, .ref 128), (1, .int (-1)), (2, .int ((t + 1) + v0_13))]) (st1 := []) (H1 := H) (k1 := 0) (n1 := 0) (by with_unfolding_all rfl)) ?_
  exact ex_r (st_vret rfl rfl) ⟨trivial, fun j => rfl⟩

set_option maxRecDepth 100000 in
theorem tx_b_11_0 {sL : Nat} {sx : Nat → Int32} {cs : Nat → Nat → Option Int32} {H : am_H}  (h127 : am_is H 127 (.inr (10, [.int (-1), .int 0, .int 0, .int 0])))   :
    am_E sL sx cs 244 0 [(0, .ref 127)] [] H (some (.int 1)) (fun H1 => (True) ∧ ∀ j : Nat, H1[j]? = H[j]?) := by
  refine ex_s (am_nb (m := 1) (pc1 := 1) (ls1 := [(0, .ref 127)]) (st1 := [.ref 127]) (H1 := H) (k1 := 0) (n1 := 0) (by with_unfolding_all rfl)) ?_
  refine ex_s (st_get rfl h127 rfl) ?_
  refine ex_s (am_nb (m := 4) (pc1 := 13) (ls1 := [(0, .ref 127)]) (st1 := [.int 1]) (H1 := H) (k1 := 0) (n1 := 0) (by with_unfolding_all rfl)) ?_
  exact ex_r (st_iret rfl rfl rfl) ⟨trivial, fun j => rfl⟩

set_option maxRecDepth 100000 in
theorem tx_b_14_0 {sL : Nat} {sx : Nat → Int32} {cs : Nat → Nat → Option Int32} {H : am_H}  (h117 : am_is H 117 (.inr (0, [.ref 118, .int 0, .int 0])))   :
    am_E sL sx cs 164 0 [(0, .ref 117), (1, .int 0)] [] H (some (.int (-1))) (fun H1 => (True) ∧ ∀ j : Nat, H1[j]? = H[j]?) := by
  refine ex_s (am_nb (m := 4) (pc1 := 6) (ls1 := [(0, .ref 117), (1, .int 0)]) (st1 := [.ref 117, .int 0]) (H1 := H) (k1 := 0) (n1 := 0) (by with_unfolding_all rfl)) ?_
  refine ex_s (st_get rfl h117 rfl) ?_
  refine ex_s (am_nb (m := 3) (pc1 := 33) (ls1 := [(0, .ref 117), (1, .int 0)]) (st1 := [.int (-1)]) (H1 := H) (k1 := 0) (n1 := 0) (by with_unfolding_all rfl)) ?_
  exact ex_r (st_iret rfl rfl rfl) ⟨trivial, fun j => rfl⟩

set_option maxRecDepth 100000 in
theorem tx_b_13_0 {sL : Nat} {sx : Nat → Int32} {cs : Nat → Nat → Option Int32} {H : am_H}  (h117 : am_is H 117 (.inr (0, [.ref 118, .int 0, .int 0])))   :
    am_E sL sx cs 172 0 [(0, .ref 117)] [] H (some (.int (-1))) (fun H1 => (True) ∧ ∀ j : Nat, H1[j]? = H[j]?) := by
  refine ex_s (am_nb (m := 2) (pc1 := 2) (ls1 := [(0, .ref 117)]) (st1 := [.int 0, .ref 117]) (H1 := H) (k1 := 0) (n1 := 0) (by with_unfolding_all rfl)) ?_
  refine ex_cv1 (as := [.int 0]) (rest := []) rfl rfl rfl rfl h117 rfl (by with_unfolding_all rfl) (by with_unfolding_all rfl) (tx_b_14_0 h117) ?_
  rintro H36 ⟨-, k36⟩
  refine ex_s (am_nb (m := 2) (pc1 := 7) (ls1 := [(1, .int (-1)), (0, .ref 117)]) (st1 := [.ref 117]) (H1 := H36) (k1 := 0) (n1 := 0) (by with_unfolding_all rfl)) ?_
  refine ex_s (st_get rfl ((k36 117).trans h117) rfl) ?_
  refine ex_s (am_nb (m := 2) (pc1 := 40) (ls1 := [(1, .int (-1)), (0, .ref 117)]) (st1 := [.int (-1)]) (H1 := H36) (k1 := 0) (n1 := 0) (by with_unfolding_all rfl)) ?_
  exact ex_r (st_iret rfl rfl rfl) ⟨trivial, fun j => (k36 j)⟩

set_option maxRecDepth 100000 in
theorem tx_b_12_0 {sL : Nat} {sx : Nat → Int32} {cs : Nat → Nat → Option Int32} {H : am_H}  (h116 : am_is H 116 (.inr (1, [.ref 117, .ref 119, .ref 121, .int 127, .int 0, .int 0, .int 0, .int 0, .int 0, .int 0]))) (h117 : am_is H 117 (.inr (0, [.ref 118, .int 0, .int 0])))   :
    am_E sL sx cs 247 0 [(0, .ref 116)] [] H (some (.int (-1))) (fun H1 => (True) ∧ ∀ j : Nat, H1[j]? = H[j]?) := by
  refine ex_s (am_nb (m := 1) (pc1 := 1) (ls1 := [(0, .ref 116)]) (st1 := [.ref 116]) (H1 := H) (k1 := 0) (n1 := 0) (by with_unfolding_all rfl)) ?_
  refine ex_s (st_get rfl h116 rfl) ?_
  refine ex_s (am_nb (m := 2) (pc1 := 12) (ls1 := [(0, .ref 116)]) (st1 := [.ref 116]) (H1 := H) (k1 := 0) (n1 := 0) (by with_unfolding_all rfl)) ?_
  refine ex_s (st_get rfl h116 rfl) ?_
  refine ex_cv1 (as := []) (rest := []) rfl rfl rfl rfl h117 rfl (by with_unfolding_all rfl) (by with_unfolding_all rfl) (tx_b_13_0 h117) ?_
  rintro H37 ⟨-, k37⟩
  exact ex_r (st_iret rfl rfl rfl) ⟨trivial, fun j => (k37 j)⟩

set_option maxRecDepth 100000 in
theorem tx_b_15_0 {sL : Nat} {sx : Nat → Int32} {cs : Nat → Nat → Option Int32} {H : am_H} {v0_13 : Int32} {t : Int32}    :
    am_E sL sx cs 246 0 [(0, .ref 127), (1, .int (-1)), (2, .int ((t + 1) + v0_13))] [] H none (fun H1 => (True) ∧ ∀ j : Nat, H1[j]? = H[j]?) := by
  refine ex_s (am_nb (m := 3) (pc1 := 5) (ls1 := [(0, .ref 127), (1, .int (-1)), (2, .int ((t + 1) + v0_13))]) (st1 := []) (H1 := H) (k1 := 0) (n1 := 0) (by with_unfolding_all rfl)) ?_
  exact ex_r (st_vret rfl rfl) ⟨trivial, fun j => rfl⟩

set_option maxRecDepth 100000 in
theorem tx_b_0 {sL : Nat} {sx : Nat → Int32} {cs : Nat → Nat → Option Int32} {H : am_H} {v0_13 : Int32} {v136_0 : Int32} {v136_1 : Int32} {v136_9 : Int32} {t : Int32} {d : Int32} {n : Int32} (h0 : am_is H 0 (.inr (11, [.ref 1, .int 0, .ref 2, .int 0, .ref 3, .ref 93, .ref 97, .ref 115, .ref 116, .ref 129, .ref 123, .ref 127, .ref 128, .int v0_13, .null, .int t]))) (h127 : am_is H 127 (.inr (10, [.int (-1), .int 0, .int 0, .int 0]))) (h128 : am_is H 128 (.inr (10, [.int (-1), .int 0, .int 0, .int 0]))) (h123 : am_is H 123 (.inr (4, [.ref 124, .ref 125, .int 0, .int (-1), .int 0, .ref 126]))) (h129 : am_is H 129 (.inr (8, [.ref 136, .ref 130, .ref 132, .ref 134, .int 0, .int 0, .int 0, .int 0, .int 0, .int 0, .int 0, .ref 135, .int 0, .int 0, .int 0]))) (h136 : am_is H 136 (.inr (3, [.int v136_0, .int v136_1, .ref 138, .ref 139, .ref 140, .int 0, .int 0, .int 0, .int 0, .int v136_9, .int 96, .int 0, .int 0, .int 0, .int 0, .int 0, .int 0, .ref 137]))) (h130 : am_is H 130 (.inr (0, [.ref 131, .int 0, .int 0]))) (h132 : am_is H 132 (.inr (0, [.ref 133, .int 0, .int 0]))) (h116 : am_is H 116 (.inr (1, [.ref 117, .ref 119, .ref 121, .int 127, .int 0, .int 0, .int 0, .int 0, .int 0, .int 0]))) (h117 : am_is H 117 (.inr (0, [.ref 118, .int 0, .int 0]))) (c1 : n ≤ d)  :
    am_E sL sx cs 177 16 [(3, .int (-1)), (2, .int d), (0, .ref 0), (1, .int n)] [] H (some (.int d)) (fun H1 => (True) ∧ ∀ j : Nat, H1[j]? = H[j]?) := by
  refine ex_s (am_nb (m := 2) (pc1 := 18) (ls1 := [(3, .int (-1)), (2, .int d), (0, .ref 0), (1, .int n)]) (st1 := [.int n, .int d]) (H1 := H) (k1 := 0) (n1 := 0) (by with_unfolding_all rfl)) ?_
  refine ex_s (st_icmp rfl) ?_
  refine ex_pc (if_pos c1) ?_
  refine ex_s (am_nb (m := 1) (pc1 := 202) (ls1 := [(3, .int (-1)), (2, .int d), (0, .ref 0), (1, .int n)]) (st1 := [.int d]) (H1 := H) (k1 := 0) (n1 := 0) (by with_unfolding_all rfl)) ?_
  exact ex_r (st_iret rfl rfl rfl) ⟨trivial, fun j => rfl⟩

set_option maxRecDepth 100000 in
theorem tx_b_1 {sL : Nat} {sx : Nat → Int32} {cs : Nat → Nat → Option Int32} {H : am_H} {v0_13 : Int32} {v136_0 : Int32} {v136_1 : Int32} {v136_9 : Int32} {t : Int32} {d : Int32} {n : Int32} (h0 : am_is H 0 (.inr (11, [.ref 1, .int 0, .ref 2, .int 0, .ref 3, .ref 93, .ref 97, .ref 115, .ref 116, .ref 129, .ref 123, .ref 127, .ref 128, .int v0_13, .null, .int t]))) (h127 : am_is H 127 (.inr (10, [.int (-1), .int 0, .int 0, .int 0]))) (h128 : am_is H 128 (.inr (10, [.int (-1), .int 0, .int 0, .int 0]))) (h123 : am_is H 123 (.inr (4, [.ref 124, .ref 125, .int 0, .int (-1), .int 0, .ref 126]))) (h129 : am_is H 129 (.inr (8, [.ref 136, .ref 130, .ref 132, .ref 134, .int 0, .int 0, .int 0, .int 0, .int 0, .int 0, .int 0, .ref 135, .int 0, .int 0, .int 0]))) (h136 : am_is H 136 (.inr (3, [.int v136_0, .int v136_1, .ref 138, .ref 139, .ref 140, .int 0, .int 0, .int 0, .int 0, .int v136_9, .int 96, .int 0, .int 0, .int 0, .int 0, .int 0, .int 0, .ref 137]))) (h130 : am_is H 130 (.inr (0, [.ref 131, .int 0, .int 0]))) (h132 : am_is H 132 (.inr (0, [.ref 133, .int 0, .int 0]))) (h116 : am_is H 116 (.inr (1, [.ref 117, .ref 119, .ref 121, .int 127, .int 0, .int 0, .int 0, .int 0, .int 0, .int 0]))) (h117 : am_is H 117 (.inr (0, [.ref 118, .int 0, .int 0]))) (c1 : ¬ n ≤ d) (c2 : 1000000000 ≤ t)  :
    am_E sL sx cs 177 16 [(3, .int (-1)), (2, .int d), (0, .ref 0), (1, .int n)] [] H (some (.int d)) (fun H1 => (True) ∧ ∀ j : Nat, H1[j]? = H[j]?) := by
  refine ex_s (am_nb (m := 2) (pc1 := 18) (ls1 := [(3, .int (-1)), (2, .int d), (0, .ref 0), (1, .int n)]) (st1 := [.int n, .int d]) (H1 := H) (k1 := 0) (n1 := 0) (by with_unfolding_all rfl)) ?_
  refine ex_s (st_icmp rfl) ?_
  refine ex_pc (if_neg c1) ?_
  refine ex_s (am_nb (m := 1) (pc1 := 22) (ls1 := [(3, .int (-1)), (2, .int d), (0, .ref 0), (1, .int n)]) (st1 := [.ref 0]) (H1 := H) (k1 := 0) (n1 := 0) (by with_unfolding_all rfl)) ?_
  refine ex_s (st_get rfl h0 rfl) ?_
  refine ex_s (am_nb (m := 1) (pc1 := 28) (ls1 := [(3, .int (-1)), (2, .int d), (0, .ref 0), (1, .int n)]) (st1 := [.int 1000000000, .int t]) (H1 := H) (k1 := 0) (n1 := 0) (by with_unfolding_all rfl)) ?_
  refine ex_s (st_icmp rfl) ?_
  refine ex_pc (if_pos c2) ?_
  refine ex_s (am_nb (m := 1) (pc1 := 202) (ls1 := [(3, .int (-1)), (2, .int d), (0, .ref 0), (1, .int n)]) (st1 := [.int d]) (H1 := H) (k1 := 0) (n1 := 0) (by with_unfolding_all rfl)) ?_
  exact ex_r (st_iret rfl rfl rfl) ⟨trivial, fun j => rfl⟩

set_option maxRecDepth 100000 in
theorem tx_b_2 {sL : Nat} {sx : Nat → Int32} {cs : Nat → Nat → Option Int32} {H : am_H} {R : Option Value} {F : am_H → Prop} {v0_13 : Int32} {v136_0 : Int32} {v136_1 : Int32} {v136_9 : Int32} {t : Int32} {d : Int32} {n : Int32} (h0 : am_is H 0 (.inr (11, [.ref 1, .int 0, .ref 2, .int 0, .ref 3, .ref 93, .ref 97, .ref 115, .ref 116, .ref 129, .ref 123, .ref 127, .ref 128, .int v0_13, .null, .int t]))) (h127 : am_is H 127 (.inr (10, [.int (-1), .int 0, .int 0, .int 0]))) (h128 : am_is H 128 (.inr (10, [.int (-1), .int 0, .int 0, .int 0]))) (h123 : am_is H 123 (.inr (4, [.ref 124, .ref 125, .int 0, .int (-1), .int 0, .ref 126]))) (h129 : am_is H 129 (.inr (8, [.ref 136, .ref 130, .ref 132, .ref 134, .int 0, .int 0, .int 0, .int 0, .int 0, .int 0, .int 0, .ref 135, .int 0, .int 0, .int 0]))) (h136 : am_is H 136 (.inr (3, [.int v136_0, .int v136_1, .ref 138, .ref 139, .ref 140, .int 0, .int 0, .int 0, .int 0, .int v136_9, .int 96, .int 0, .int 0, .int 0, .int 0, .int 0, .int 0, .ref 137]))) (h130 : am_is H 130 (.inr (0, [.ref 131, .int 0, .int 0]))) (h132 : am_is H 132 (.inr (0, [.ref 133, .int 0, .int 0]))) (h116 : am_is H 116 (.inr (1, [.ref 117, .ref 119, .ref 121, .int 127, .int 0, .int 0, .int 0, .int 0, .int 0, .int 0]))) (h117 : am_is H 117 (.inr (0, [.ref 118, .int 0, .int 0]))) (c1 : ¬ n ≤ d) (c2 : ¬ 1000000000 ≤ t) (c3 : ((t + 1) - (t + 1) / 4 * 4) = 0)  (kk : ∀ H1 : am_H, ((am_is H1 0 (.inr (11, [.ref 1, .int 0, .ref 2, .int 0, .ref 3, .ref 93, .ref 97, .ref 115, .ref 116, .ref 129, .ref 123, .ref 127, .ref 128, .int v0_13, .null, .int (t + 1)])) ∧ True) ∧ ∀ j : Nat, j ≠ 0 → H1[j]? = H[j]?) → am_E sL sx cs 177 16 [(3, .int (-1)), (2, .int (d + 1)), (0, .ref 0), (1, .int n)] [] H1 R F) :
    am_E sL sx cs 177 16 [(3, .int (-1)), (2, .int d), (0, .ref 0), (1, .int n)] [] H R F := by
  refine ex_s (am_nb (m := 2) (pc1 := 18) (ls1 := [(3, .int (-1)), (2, .int d), (0, .ref 0), (1, .int n)]) (st1 := [.int n, .int d]) (H1 := H) (k1 := 0) (n1 := 0) (by with_unfolding_all rfl)) ?_
  refine ex_s (st_icmp rfl) ?_
  refine ex_pc (if_neg c1) ?_
  refine ex_s (am_nb (m := 1) (pc1 := 22) (ls1 := [(3, .int (-1)), (2, .int d), (0, .ref 0), (1, .int n)]) (st1 := [.ref 0]) (H1 := H) (k1 := 0) (n1 := 0) (by with_unfolding_all rfl)) ?_
  refine ex_s (st_get rfl h0 rfl) ?_
  refine ex_s (am_nb (m := 1) (pc1 := 28) (ls1 := [(3, .int (-1)), (2, .int d), (0, .ref 0), (1, .int n)]) (st1 := [.int 1000000000, .int t]) (H1 := H) (k1 := 0) (n1 := 0) (by with_unfolding_all rfl)) ?_
  refine ex_s (st_icmp rfl) ?_
  refine ex_pc (if_neg c2) ?_
  refine ex_s (am_nb (m := 3) (pc1 := 36) (ls1 := [(2, .int (d + 1)), (3, .int (-1)), (0, .ref 0), (1, .int n)]) (st1 := [.ref 0, .ref 0]) (H1 := H) (k1 := 0) (n1 := 0) (by with_unfolding_all rfl)) ?_
  refine ex_s (st_get rfl h0 rfl) ?_
  refine ex_s (am_nb (m := 2) (pc1 := 41) (ls1 := [(2, .int (d + 1)), (3, .int (-1)), (0, .ref 0), (1, .int n)]) (st1 := [.int (t + 1), .ref 0]) (H1 := H) (k1 := 0) (n1 := 0) (by with_unfolding_all rfl)) ?_
  refine ex_put rfl h0 rfl rfl rfl ?_
  intro H24 f24 k24
  refine ex_s (am_nb (m := 1) (pc1 := 45) (ls1 := [(2, .int (d + 1)), (3, .int (-1)), (0, .ref 0), (1, .int n)]) (st1 := [.ref 0]) (H1 := H24) (k1 := 0) (n1 := 0) (by with_unfolding_all rfl)) ?_
  refine ex_s (st_get rfl f24 rfl) ?_
  refine ex_s (am_nb (m := 1) (pc1 := 49) (ls1 := [(2, .int (d + 1)), (3, .int (-1)), (0, .ref 0), (1, .int n)]) (st1 := [.ref 0, .ref 127]) (H1 := H24) (k1 := 0) (n1 := 0) (by with_unfolding_all rfl)) ?_
  refine ex_s (st_get rfl f24 rfl) ?_
  refine ex_cv1 (as := [.int (t + 1)]) (rest := []) rfl rfl rfl rfl ((k24 127 (by decide)).trans h127) rfl (by with_unfolding_all rfl) (by with_unfolding_all rfl) (tx_b_1_0 ((k24 127 (by decide)).trans h127)) ?_
  rintro H25 ⟨-, k25⟩
  refine ex_s (am_nb (m := 5) (pc1 := 70) (ls1 := [(3, .int (-1)), (2, .int (d + 1)), (0, .ref 0), (1, .int n)]) (st1 := [.ref 0]) (H1 := H25) (k1 := 0) (n1 := 0) (by with_unfolding_all rfl)) ?_
  refine ex_s (st_get rfl ((k25 0).trans f24) rfl) ?_
  refine ex_s (am_nb (m := 1) (pc1 := 74) (ls1 := [(3, .int (-1)), (2, .int (d + 1)), (0, .ref 0), (1, .int n)]) (st1 := [.ref 0, .ref 128]) (H1 := H25) (k1 := 0) (n1 := 0) (by with_unfolding_all rfl)) ?_
  refine ex_s (st_get rfl ((k25 0).trans f24) rfl) ?_
  refine ex_cv1 (as := [.int (t + 1)]) (rest := []) rfl rfl rfl rfl ((k25 128).trans ((k24 128 (by decide)).trans h128)) rfl (by with_unfolding_all rfl) (by with_unfolding_all rfl) (tx_b_2_0 ((k25 128).trans ((k24 128 (by decide)).trans h128))) ?_
  rintro H26 ⟨-, k26⟩
  refine ex_s (am_nb (m := 5) (pc1 := 102) (ls1 := [(3, .int (-1)), (2, .int (d + 1)), (0, .ref 0), (1, .int n)]) (st1 := [.ref 0]) (H1 := H26) (k1 := 0) (n1 := 0) (by with_unfolding_all rfl)) ?_
  refine ex_s (st_get rfl ((k26 0).trans ((k25 0).trans f24)) rfl) ?_
  refine ex_s (am_nb (m := 2) (pc1 := 107) (ls1 := [(3, .int (-1)), (2, .int (d + 1)), (0, .ref 0), (1, .int n)]) (st1 := [.int ((t + 1) - (t + 1) / 4 * 4)]) (H1 := H26) (k1 := 0) (n1 := 0) (by with_unfolding_all rfl)) ?_
  refine ex_s (st_if rfl) ?_
  refine ex_pc (if_pos c3) ?_
  refine ex_s (am_nb (m := 1) (pc1 := 111) (ls1 := [(3, .int (-1)), (2, .int (d + 1)), (0, .ref 0), (1, .int n)]) (st1 := [.ref 0]) (H1 := H26) (k1 := 0) (n1 := 0) (by with_unfolding_all rfl)) ?_
  refine ex_s (st_get rfl ((k26 0).trans ((k25 0).trans f24)) rfl) ?_
  refine ex_s (am_nb (m := 1) (pc1 := 115) (ls1 := [(3, .int (-1)), (2, .int (d + 1)), (0, .ref 0), (1, .int n)]) (st1 := [.ref 0, .ref 123]) (H1 := H26) (k1 := 0) (n1 := 0) (by with_unfolding_all rfl)) ?_
  refine ex_s (st_get rfl ((k26 0).trans ((k25 0).trans f24)) rfl) ?_
  refine ex_s (am_nb (m := 1) (pc1 := 119) (ls1 := [(3, .int (-1)), (2, .int (d + 1)), (0, .ref 0), (1, .int n)]) (st1 := [.ref 0, .int (t + 1), .ref 123]) (H1 := H26) (k1 := 0) (n1 := 0) (by with_unfolding_all rfl)) ?_
  refine ex_s (st_get rfl ((k26 0).trans ((k25 0).trans f24)) rfl) ?_
  refine ex_cv0 (as := [.int (t + 1), .ref 129]) (rest := []) rfl rfl rfl rfl ((k26 123).trans ((k25 123).trans ((k24 123 (by decide)).trans h123))) rfl (by with_unfolding_all rfl) (by with_unfolding_all rfl) (tx_b_3_0 ((k26 123).trans ((k25 123).trans ((k24 123 (by decide)).trans h123)))) ?_
  rintro H27 ⟨-, k27⟩
  refine ex_s (am_nb (m := 1) (pc1 := 126) (ls1 := [(3, .int (-1)), (2, .int (d + 1)), (0, .ref 0), (1, .int n)]) (st1 := [.ref 0]) (H1 := H27) (k1 := 0) (n1 := 0) (by with_unfolding_all rfl)) ?_
  refine ex_s (st_get rfl ((k27 0).trans ((k26 0).trans ((k25 0).trans f24))) rfl) ?_
  refine ex_cv0 (as := []) (rest := []) rfl rfl rfl rfl ((k27 129).trans ((k26 129).trans ((k25 129).trans ((k24 129 (by decide)).trans h129)))) rfl (by with_unfolding_all rfl) (by with_unfolding_all rfl) (tx_b_4_0 ((k27 129).trans ((k26 129).trans ((k25 129).trans ((k24 129 (by decide)).trans h129)))) ((k27 136).trans ((k26 136).trans ((k25 136).trans ((k24 136 (by decide)).trans h136)))) ((k27 130).trans ((k26 130).trans ((k25 130).trans ((k24 130 (by decide)).trans h130))))) ?_
  rintro H29 ⟨-, k29⟩
  refine ex_s (am_nb (m := 1) (pc1 := 133) (ls1 := [(3, .int (-1)), (2, .int (d + 1)), (0, .ref 0), (1, .int n)]) (st1 := [.ref 0]) (H1 := H29) (k1 := 0) (n1 := 0) (by with_unfolding_all rfl)) ?_
  refine ex_s (st_get rfl ((k29 0).trans ((k27 0).trans ((k26 0).trans ((k25 0).trans f24)))) rfl) ?_
  refine ex_cv1 (as := []) (rest := []) rfl rfl rfl rfl ((k29 128).trans ((k27 128).trans ((k26 128).trans ((k25 128).trans ((k24 128 (by decide)).trans h128))))) rfl (by with_unfolding_all rfl) (by with_unfolding_all rfl) (tx_b_6_0 ((k29 128).trans ((k27 128).trans ((k26 128).trans ((k25 128).trans ((k24 128 (by decide)).trans h128)))))) ?_
  rintro H30 ⟨-, k30⟩
  refine ex_s (am_nb (m := 2) (pc1 := 143) (ls1 := [(3, .int (-1)), (2, .int (d + 1)), (0, .ref 0), (1, .int n)]) (st1 := [.ref 0]) (H1 := H30) (k1 := 0) (n1 := 0) (by with_unfolding_all rfl)) ?_
  refine ex_s (st_get rfl ((k30 0).trans ((k29 0).trans ((k27 0).trans ((k26 0).trans ((k25 0).trans f24))))) rfl) ?_
  refine ex_s (am_nb (m := 1) (pc1 := 147) (ls1 := [(3, .int (-1)), (2, .int (d + 1)), (0, .ref 0), (1, .int n)]) (st1 := [.ref 0, .ref 128]) (H1 := H30) (k1 := 0) (n1 := 0) (by with_unfolding_all rfl)) ?_
  refine ex_s (st_get rfl ((k30 0).trans ((k29 0).trans ((k27 0).trans ((k26 0).trans ((k25 0).trans f24))))) rfl) ?_
  refine ex_cv1 (as := []) (rest := [.ref 128]) rfl rfl rfl rfl ((k30 129).trans ((k29 129).trans ((k27 129).trans ((k26 129).trans ((k25 129).trans ((k24 129 (by decide)).trans h129)))))) rfl (by with_unfolding_all rfl) (by with_unfolding_all rfl) (tx_b_7_0 ((k30 129).trans ((k29 129).trans ((k27 129).trans ((k26 129).trans ((k25 129).trans ((k24 129 (by decide)).trans h129)))))) ((k30 132).trans ((k29 132).trans ((k27 132).trans ((k26 132).trans ((k25 132).trans ((k24 132 (by decide)).trans h132))))))) ?_
  rintro H33 ⟨-, k33⟩
  refine ex_s (am_nb (m := 1) (pc1 := 154) (ls1 := [(3, .int (-1)), (2, .int (d + 1)), (0, .ref 0), (1, .int n)]) (st1 := [.ref 0, .int (-1), .ref 128]) (H1 := H33) (k1 := 0) (n1 := 0) (by with_unfolding_all rfl)) ?_
  refine ex_s (st_get rfl ((k33 0).trans ((k30 0).trans ((k29 0).trans ((k27 0).trans ((k26 0).trans ((k25 0).trans f24)))))) rfl) ?_
  refine ex_s (am_nb (m := 1) (pc1 := 158) (ls1 := [(3, .int (-1)), (2, .int (d + 1)), (0, .ref 0), (1, .int n)]) (st1 := [.ref 0, .int (t + 1), .int (-1), .ref 128]) (H1 := H33) (k1 := 0) (n1 := 0) (by with_unfolding_all rfl)) ?_
  refine ex_s (st_get rfl ((k33 0).trans ((k30 0).trans ((k29 0).trans ((k27 0).trans ((k26 0).trans ((k25 0).trans f24)))))) rfl) ?_
  refine ex_s (am_nb (m := 1) (pc1 := 162) (ls1 := [(3, .int (-1)), (2, .int (d + 1)), (0, .ref 0), (1, .int n)]) (st1 := [.int ((t + 1) + v0_13), .int (-1), .ref 128]) (H1 := H33) (k1 := 0) (n1 := 0) (by with_unfolding_all rfl)) ?_
  refine ex_cv0 (as := [.int (-1), .int ((t + 1) + v0_13)]) (rest := []) rfl rfl rfl rfl ((k33 128).trans ((k30 128).trans ((k29 128).trans ((k27 128).trans ((k26 128).trans ((k25 128).trans ((k24 128 (by decide)).trans h128))))))) rfl (by with_unfolding_all rfl) (by with_unfolding_all rfl) (tx_b_10_0) ?_
  rintro H34 ⟨-, k34⟩
  refine ex_s (am_nb (m := 1) (pc1 := 166) (ls1 := [(3, .int (-1)), (2, .int (d + 1)), (0, .ref 0), (1, .int n)]) (st1 := [.ref 0]) (H1 := H34) (k1 := 0) (n1 := 0) (by with_unfolding_all rfl)) ?_
  refine ex_s (st_get rfl ((k34 0).trans ((k33 0).trans ((k30 0).trans ((k29 0).trans ((k27 0).trans ((k26 0).trans ((k25 0).trans f24))))))) rfl) ?_
  refine ex_cv1 (as := []) (rest := []) rfl rfl rfl rfl ((k34 127).trans ((k33 127).trans ((k30 127).trans ((k29 127).trans ((k27 127).trans ((k26 127).trans ((k25 127).trans ((k24 127 (by decide)).trans h127)))))))) rfl (by with_unfolding_all rfl) (by with_unfolding_all rfl) (tx_b_11_0 ((k34 127).trans ((k33 127).trans ((k30 127).trans ((k29 127).trans ((k27 127).trans ((k26 127).trans ((k25 127).trans ((k24 127 (by decide)).trans h127))))))))) ?_
  rintro H35 ⟨-, k35⟩
  refine ex_s (am_nb (m := 2) (pc1 := 176) (ls1 := [(3, .int (-1)), (2, .int (d + 1)), (0, .ref 0), (1, .int n)]) (st1 := [.ref 0]) (H1 := H35) (k1 := 0) (n1 := 0) (by with_unfolding_all rfl)) ?_
  refine ex_s (st_get rfl ((k35 0).trans ((k34 0).trans ((k33 0).trans ((k30 0).trans ((k29 0).trans ((k27 0).trans ((k26 0).trans ((k25 0).trans f24)))))))) rfl) ?_
  refine ex_s (am_nb (m := 1) (pc1 := 180) (ls1 := [(3, .int (-1)), (2, .int (d + 1)), (0, .ref 0), (1, .int n)]) (st1 := [.ref 0, .ref 127]) (H1 := H35) (k1 := 0) (n1 := 0) (by with_unfolding_all rfl)) ?_
  refine ex_s (st_get rfl ((k35 0).trans ((k34 0).trans ((k33 0).trans ((k30 0).trans ((k29 0).trans ((k27 0).trans ((k26 0).trans ((k25 0).trans f24)))))))) rfl) ?_
  refine ex_cv1 (as := []) (rest := [.ref 127]) rfl rfl rfl rfl ((k35 116).trans ((k34 116).trans ((k33 116).trans ((k30 116).trans ((k29 116).trans ((k27 116).trans ((k26 116).trans ((k25 116).trans ((k24 116 (by decide)).trans h116))))))))) rfl (by with_unfolding_all rfl) (by with_unfolding_all rfl) (tx_b_12_0 ((k35 116).trans ((k34 116).trans ((k33 116).trans ((k30 116).trans ((k29 116).trans ((k27 116).trans ((k26 116).trans ((k25 116).trans ((k24 116 (by decide)).trans h116))))))))) ((k35 117).trans ((k34 117).trans ((k33 117).trans ((k30 117).trans ((k29 117).trans ((k27 117).trans ((k26 117).trans ((k25 117).trans ((k24 117 (by decide)).trans h117)))))))))) ?_
  rintro H38 ⟨-, k38⟩
  refine ex_s (am_nb (m := 1) (pc1 := 187) (ls1 := [(3, .int (-1)), (2, .int (d + 1)), (0, .ref 0), (1, .int n)]) (st1 := [.ref 0, .int (-1), .ref 127]) (H1 := H38) (k1 := 0) (n1 := 0) (by with_unfolding_all rfl)) ?_
  refine ex_s (st_get rfl ((k38 0).trans ((k35 0).trans ((k34 0).trans ((k33 0).trans ((k30 0).trans ((k29 0).trans ((k27 0).trans ((k26 0).trans ((k25 0).trans f24))))))))) rfl) ?_
  refine ex_s (am_nb (m := 1) (pc1 := 191) (ls1 := [(3, .int (-1)), (2, .int (d + 1)), (0, .ref 0), (1, .int n)]) (st1 := [.ref 0, .int (t + 1), .int (-1), .ref 127]) (H1 := H38) (k1 := 0) (n1 := 0) (by with_unfolding_all rfl)) ?_
  refine ex_s (st_get rfl ((k38 0).trans ((k35 0).trans ((k34 0).trans ((k33 0).trans ((k30 0).trans ((k29 0).trans ((k27 0).trans ((k26 0).trans ((k25 0).trans f24))))))))) rfl) ?_
  refine ex_s (am_nb (m := 1) (pc1 := 195) (ls1 := [(3, .int (-1)), (2, .int (d + 1)), (0, .ref 0), (1, .int n)]) (st1 := [.int ((t + 1) + v0_13), .int (-1), .ref 127]) (H1 := H38) (k1 := 0) (n1 := 0) (by with_unfolding_all rfl)) ?_
  refine ex_cv0 (as := [.int (-1), .int ((t + 1) + v0_13)]) (rest := []) rfl rfl rfl rfl ((k38 127).trans ((k35 127).trans ((k34 127).trans ((k33 127).trans ((k30 127).trans ((k29 127).trans ((k27 127).trans ((k26 127).trans ((k25 127).trans ((k24 127 (by decide)).trans h127)))))))))) rfl (by with_unfolding_all rfl) (by with_unfolding_all rfl) (tx_b_15_0) ?_
  rintro H39 ⟨-, k39⟩
  refine ex_s (am_nb (m := 1) (pc1 := 16) (ls1 := [(3, .int (-1)), (2, .int (d + 1)), (0, .ref 0), (1, .int n)]) (st1 := []) (H1 := H39) (k1 := 0) (n1 := 0) (by with_unfolding_all rfl)) ?_
  exact kk _ ⟨⟨((k39 0).trans ((k38 0).trans ((k35 0).trans ((k34 0).trans ((k33 0).trans ((k30 0).trans ((k29 0).trans ((k27 0).trans ((k26 0).trans ((k25 0).trans f24)))))))))), trivial⟩, fun j n0 => ((k39 j).trans ((k38 j).trans ((k35 j).trans ((k34 j).trans ((k33 j).trans ((k30 j).trans ((k29 j).trans ((k27 j).trans ((k26 j).trans ((k25 j).trans (k24 j n0)))))))))))⟩

set_option maxRecDepth 100000 in
theorem tx_b_3 {sL : Nat} {sx : Nat → Int32} {cs : Nat → Nat → Option Int32} {H : am_H} {R : Option Value} {F : am_H → Prop} {v0_13 : Int32} {v136_0 : Int32} {v136_1 : Int32} {v136_9 : Int32} {t : Int32} {d : Int32} {n : Int32} (h0 : am_is H 0 (.inr (11, [.ref 1, .int 0, .ref 2, .int 0, .ref 3, .ref 93, .ref 97, .ref 115, .ref 116, .ref 129, .ref 123, .ref 127, .ref 128, .int v0_13, .null, .int t]))) (h127 : am_is H 127 (.inr (10, [.int (-1), .int 0, .int 0, .int 0]))) (h128 : am_is H 128 (.inr (10, [.int (-1), .int 0, .int 0, .int 0]))) (h123 : am_is H 123 (.inr (4, [.ref 124, .ref 125, .int 0, .int (-1), .int 0, .ref 126]))) (h129 : am_is H 129 (.inr (8, [.ref 136, .ref 130, .ref 132, .ref 134, .int 0, .int 0, .int 0, .int 0, .int 0, .int 0, .int 0, .ref 135, .int 0, .int 0, .int 0]))) (h136 : am_is H 136 (.inr (3, [.int v136_0, .int v136_1, .ref 138, .ref 139, .ref 140, .int 0, .int 0, .int 0, .int 0, .int v136_9, .int 96, .int 0, .int 0, .int 0, .int 0, .int 0, .int 0, .ref 137]))) (h130 : am_is H 130 (.inr (0, [.ref 131, .int 0, .int 0]))) (h132 : am_is H 132 (.inr (0, [.ref 133, .int 0, .int 0]))) (h116 : am_is H 116 (.inr (1, [.ref 117, .ref 119, .ref 121, .int 127, .int 0, .int 0, .int 0, .int 0, .int 0, .int 0]))) (h117 : am_is H 117 (.inr (0, [.ref 118, .int 0, .int 0]))) (c1 : ¬ n ≤ d) (c2 : ¬ 1000000000 ≤ t) (c3 : ¬ ((t + 1) - (t + 1) / 4 * 4) = 0)  (kk : ∀ H1 : am_H, ((am_is H1 0 (.inr (11, [.ref 1, .int 0, .ref 2, .int 0, .ref 3, .ref 93, .ref 97, .ref 115, .ref 116, .ref 129, .ref 123, .ref 127, .ref 128, .int v0_13, .null, .int (t + 1)])) ∧ True) ∧ ∀ j : Nat, j ≠ 0 → H1[j]? = H[j]?) → am_E sL sx cs 177 16 [(3, .int (-1)), (2, .int (d + 1)), (0, .ref 0), (1, .int n)] [] H1 R F) :
    am_E sL sx cs 177 16 [(3, .int (-1)), (2, .int d), (0, .ref 0), (1, .int n)] [] H R F := by
  refine ex_s (am_nb (m := 2) (pc1 := 18) (ls1 := [(3, .int (-1)), (2, .int d), (0, .ref 0), (1, .int n)]) (st1 := [.int n, .int d]) (H1 := H) (k1 := 0) (n1 := 0) (by with_unfolding_all rfl)) ?_
  refine ex_s (st_icmp rfl) ?_
  refine ex_pc (if_neg c1) ?_
  refine ex_s (am_nb (m := 1) (pc1 := 22) (ls1 := [(3, .int (-1)), (2, .int d), (0, .ref 0), (1, .int n)]) (st1 := [.ref 0]) (H1 := H) (k1 := 0) (n1 := 0) (by with_unfolding_all rfl)) ?_
  refine ex_s (st_get rfl h0 rfl) ?_
  refine ex_s (am_nb (m := 1) (pc1 := 28) (ls1 := [(3, .int (-1)), (2, .int d), (0, .ref 0), (1, .int n)]) (st1 := [.int 1000000000, .int t]) (H1 := H) (k1 := 0) (n1 := 0) (by with_unfolding_all rfl)) ?_
  refine ex_s (st_icmp rfl) ?_
  refine ex_pc (if_neg c2) ?_
  refine ex_s (am_nb (m := 3) (pc1 := 36) (ls1 := [(2, .int (d + 1)), (3, .int (-1)), (0, .ref 0), (1, .int n)]) (st1 := [.ref 0, .ref 0]) (H1 := H) (k1 := 0) (n1 := 0) (by with_unfolding_all rfl)) ?_
  refine ex_s (st_get rfl h0 rfl) ?_
  refine ex_s (am_nb (m := 2) (pc1 := 41) (ls1 := [(2, .int (d + 1)), (3, .int (-1)), (0, .ref 0), (1, .int n)]) (st1 := [.int (t + 1), .ref 0]) (H1 := H) (k1 := 0) (n1 := 0) (by with_unfolding_all rfl)) ?_
  refine ex_put rfl h0 rfl rfl rfl ?_
  intro H24 f24 k24
  refine ex_s (am_nb (m := 1) (pc1 := 45) (ls1 := [(2, .int (d + 1)), (3, .int (-1)), (0, .ref 0), (1, .int n)]) (st1 := [.ref 0]) (H1 := H24) (k1 := 0) (n1 := 0) (by with_unfolding_all rfl)) ?_
  refine ex_s (st_get rfl f24 rfl) ?_
  refine ex_s (am_nb (m := 1) (pc1 := 49) (ls1 := [(2, .int (d + 1)), (3, .int (-1)), (0, .ref 0), (1, .int n)]) (st1 := [.ref 0, .ref 127]) (H1 := H24) (k1 := 0) (n1 := 0) (by with_unfolding_all rfl)) ?_
  refine ex_s (st_get rfl f24 rfl) ?_
  refine ex_cv1 (as := [.int (t + 1)]) (rest := []) rfl rfl rfl rfl ((k24 127 (by decide)).trans h127) rfl (by with_unfolding_all rfl) (by with_unfolding_all rfl) (tx_b_1_0 ((k24 127 (by decide)).trans h127)) ?_
  rintro H25 ⟨-, k25⟩
  refine ex_s (am_nb (m := 5) (pc1 := 70) (ls1 := [(3, .int (-1)), (2, .int (d + 1)), (0, .ref 0), (1, .int n)]) (st1 := [.ref 0]) (H1 := H25) (k1 := 0) (n1 := 0) (by with_unfolding_all rfl)) ?_
  refine ex_s (st_get rfl ((k25 0).trans f24) rfl) ?_
  refine ex_s (am_nb (m := 1) (pc1 := 74) (ls1 := [(3, .int (-1)), (2, .int (d + 1)), (0, .ref 0), (1, .int n)]) (st1 := [.ref 0, .ref 128]) (H1 := H25) (k1 := 0) (n1 := 0) (by with_unfolding_all rfl)) ?_
  refine ex_s (st_get rfl ((k25 0).trans f24) rfl) ?_
  refine ex_cv1 (as := [.int (t + 1)]) (rest := []) rfl rfl rfl rfl ((k25 128).trans ((k24 128 (by decide)).trans h128)) rfl (by with_unfolding_all rfl) (by with_unfolding_all rfl) (tx_b_2_0 ((k25 128).trans ((k24 128 (by decide)).trans h128))) ?_
  rintro H26 ⟨-, k26⟩
  refine ex_s (am_nb (m := 5) (pc1 := 102) (ls1 := [(3, .int (-1)), (2, .int (d + 1)), (0, .ref 0), (1, .int n)]) (st1 := [.ref 0]) (H1 := H26) (k1 := 0) (n1 := 0) (by with_unfolding_all rfl)) ?_
  refine ex_s (st_get rfl ((k26 0).trans ((k25 0).trans f24)) rfl) ?_
  refine ex_s (am_nb (m := 2) (pc1 := 107) (ls1 := [(3, .int (-1)), (2, .int (d + 1)), (0, .ref 0), (1, .int n)]) (st1 := [.int ((t + 1) - (t + 1) / 4 * 4)]) (H1 := H26) (k1 := 0) (n1 := 0) (by with_unfolding_all rfl)) ?_
  refine ex_s (st_if rfl) ?_
  refine ex_pc (if_neg c3) ?_
  refine ex_s (am_nb (m := 1) (pc1 := 126) (ls1 := [(3, .int (-1)), (2, .int (d + 1)), (0, .ref 0), (1, .int n)]) (st1 := [.ref 0]) (H1 := H26) (k1 := 0) (n1 := 0) (by with_unfolding_all rfl)) ?_
  refine ex_s (st_get rfl ((k26 0).trans ((k25 0).trans f24)) rfl) ?_
  refine ex_cv0 (as := []) (rest := []) rfl rfl rfl rfl ((k26 129).trans ((k25 129).trans ((k24 129 (by decide)).trans h129))) rfl (by with_unfolding_all rfl) (by with_unfolding_all rfl) (tx_b_4_0 ((k26 129).trans ((k25 129).trans ((k24 129 (by decide)).trans h129))) ((k26 136).trans ((k25 136).trans ((k24 136 (by decide)).trans h136))) ((k26 130).trans ((k25 130).trans ((k24 130 (by decide)).trans h130)))) ?_
  rintro H40 ⟨-, k40⟩
  refine ex_s (am_nb (m := 1) (pc1 := 133) (ls1 := [(3, .int (-1)), (2, .int (d + 1)), (0, .ref 0), (1, .int n)]) (st1 := [.ref 0]) (H1 := H40) (k1 := 0) (n1 := 0) (by with_unfolding_all rfl)) ?_
  refine ex_s (st_get rfl ((k40 0).trans ((k26 0).trans ((k25 0).trans f24))) rfl) ?_
  refine ex_cv1 (as := []) (rest := []) rfl rfl rfl rfl ((k40 128).trans ((k26 128).trans ((k25 128).trans ((k24 128 (by decide)).trans h128)))) rfl (by with_unfolding_all rfl) (by with_unfolding_all rfl) (tx_b_6_0 ((k40 128).trans ((k26 128).trans ((k25 128).trans ((k24 128 (by decide)).trans h128))))) ?_
  rintro H41 ⟨-, k41⟩
  refine ex_s (am_nb (m := 2) (pc1 := 143) (ls1 := [(3, .int (-1)), (2, .int (d + 1)), (0, .ref 0), (1, .int n)]) (st1 := [.ref 0]) (H1 := H41) (k1 := 0) (n1 := 0) (by with_unfolding_all rfl)) ?_
  refine ex_s (st_get rfl ((k41 0).trans ((k40 0).trans ((k26 0).trans ((k25 0).trans f24)))) rfl) ?_
  refine ex_s (am_nb (m := 1) (pc1 := 147) (ls1 := [(3, .int (-1)), (2, .int (d + 1)), (0, .ref 0), (1, .int n)]) (st1 := [.ref 0, .ref 128]) (H1 := H41) (k1 := 0) (n1 := 0) (by with_unfolding_all rfl)) ?_
  refine ex_s (st_get rfl ((k41 0).trans ((k40 0).trans ((k26 0).trans ((k25 0).trans f24)))) rfl) ?_
  refine ex_cv1 (as := []) (rest := [.ref 128]) rfl rfl rfl rfl ((k41 129).trans ((k40 129).trans ((k26 129).trans ((k25 129).trans ((k24 129 (by decide)).trans h129))))) rfl (by with_unfolding_all rfl) (by with_unfolding_all rfl) (tx_b_7_0 ((k41 129).trans ((k40 129).trans ((k26 129).trans ((k25 129).trans ((k24 129 (by decide)).trans h129))))) ((k41 132).trans ((k40 132).trans ((k26 132).trans ((k25 132).trans ((k24 132 (by decide)).trans h132)))))) ?_
  rintro H42 ⟨-, k42⟩
  refine ex_s (am_nb (m := 1) (pc1 := 154) (ls1 := [(3, .int (-1)), (2, .int (d + 1)), (0, .ref 0), (1, .int n)]) (st1 := [.ref 0, .int (-1), .ref 128]) (H1 := H42) (k1 := 0) (n1 := 0) (by with_unfolding_all rfl)) ?_
  refine ex_s (st_get rfl ((k42 0).trans ((k41 0).trans ((k40 0).trans ((k26 0).trans ((k25 0).trans f24))))) rfl) ?_
  refine ex_s (am_nb (m := 1) (pc1 := 158) (ls1 := [(3, .int (-1)), (2, .int (d + 1)), (0, .ref 0), (1, .int n)]) (st1 := [.ref 0, .int (t + 1), .int (-1), .ref 128]) (H1 := H42) (k1 := 0) (n1 := 0) (by with_unfolding_all rfl)) ?_
  refine ex_s (st_get rfl ((k42 0).trans ((k41 0).trans ((k40 0).trans ((k26 0).trans ((k25 0).trans f24))))) rfl) ?_
  refine ex_s (am_nb (m := 1) (pc1 := 162) (ls1 := [(3, .int (-1)), (2, .int (d + 1)), (0, .ref 0), (1, .int n)]) (st1 := [.int ((t + 1) + v0_13), .int (-1), .ref 128]) (H1 := H42) (k1 := 0) (n1 := 0) (by with_unfolding_all rfl)) ?_
  refine ex_cv0 (as := [.int (-1), .int ((t + 1) + v0_13)]) (rest := []) rfl rfl rfl rfl ((k42 128).trans ((k41 128).trans ((k40 128).trans ((k26 128).trans ((k25 128).trans ((k24 128 (by decide)).trans h128)))))) rfl (by with_unfolding_all rfl) (by with_unfolding_all rfl) (tx_b_10_0) ?_
  rintro H43 ⟨-, k43⟩
  refine ex_s (am_nb (m := 1) (pc1 := 166) (ls1 := [(3, .int (-1)), (2, .int (d + 1)), (0, .ref 0), (1, .int n)]) (st1 := [.ref 0]) (H1 := H43) (k1 := 0) (n1 := 0) (by with_unfolding_all rfl)) ?_
  refine ex_s (st_get rfl ((k43 0).trans ((k42 0).trans ((k41 0).trans ((k40 0).trans ((k26 0).trans ((k25 0).trans f24)))))) rfl) ?_
  refine ex_cv1 (as := []) (rest := []) rfl rfl rfl rfl ((k43 127).trans ((k42 127).trans ((k41 127).trans ((k40 127).trans ((k26 127).trans ((k25 127).trans ((k24 127 (by decide)).trans h127))))))) rfl (by with_unfolding_all rfl) (by with_unfolding_all rfl) (tx_b_11_0 ((k43 127).trans ((k42 127).trans ((k41 127).trans ((k40 127).trans ((k26 127).trans ((k25 127).trans ((k24 127 (by decide)).trans h127)))))))) ?_
  rintro H44 ⟨-, k44⟩
  refine ex_s (am_nb (m := 2) (pc1 := 176) (ls1 := [(3, .int (-1)), (2, .int (d + 1)), (0, .ref 0), (1, .int n)]) (st1 := [.ref 0]) (H1 := H44) (k1 := 0) (n1 := 0) (by with_unfolding_all rfl)) ?_
  refine ex_s (st_get rfl ((k44 0).trans ((k43 0).trans ((k42 0).trans ((k41 0).trans ((k40 0).trans ((k26 0).trans ((k25 0).trans f24))))))) rfl) ?_
  refine ex_s (am_nb (m := 1) (pc1 := 180) (ls1 := [(3, .int (-1)), (2, .int (d + 1)), (0, .ref 0), (1, .int n)]) (st1 := [.ref 0, .ref 127]) (H1 := H44) (k1 := 0) (n1 := 0) (by with_unfolding_all rfl)) ?_
  refine ex_s (st_get rfl ((k44 0).trans ((k43 0).trans ((k42 0).trans ((k41 0).trans ((k40 0).trans ((k26 0).trans ((k25 0).trans f24))))))) rfl) ?_
  refine ex_cv1 (as := []) (rest := [.ref 127]) rfl rfl rfl rfl ((k44 116).trans ((k43 116).trans ((k42 116).trans ((k41 116).trans ((k40 116).trans ((k26 116).trans ((k25 116).trans ((k24 116 (by decide)).trans h116)))))))) rfl (by with_unfolding_all rfl) (by with_unfolding_all rfl) (tx_b_12_0 ((k44 116).trans ((k43 116).trans ((k42 116).trans ((k41 116).trans ((k40 116).trans ((k26 116).trans ((k25 116).trans ((k24 116 (by decide)).trans h116)))))))) ((k44 117).trans ((k43 117).trans ((k42 117).trans ((k41 117).trans ((k40 117).trans ((k26 117).trans ((k25 117).trans ((k24 117 (by decide)).trans h117))))))))) ?_
  rintro H45 ⟨-, k45⟩
  refine ex_s (am_nb (m := 1) (pc1 := 187) (ls1 := [(3, .int (-1)), (2, .int (d + 1)), (0, .ref 0), (1, .int n)]) (st1 := [.ref 0, .int (-1), .ref 127]) (H1 := H45) (k1 := 0) (n1 := 0) (by with_unfolding_all rfl)) ?_
  refine ex_s (st_get rfl ((k45 0).trans ((k44 0).trans ((k43 0).trans ((k42 0).trans ((k41 0).trans ((k40 0).trans ((k26 0).trans ((k25 0).trans f24)))))))) rfl) ?_
  refine ex_s (am_nb (m := 1) (pc1 := 191) (ls1 := [(3, .int (-1)), (2, .int (d + 1)), (0, .ref 0), (1, .int n)]) (st1 := [.ref 0, .int (t + 1), .int (-1), .ref 127]) (H1 := H45) (k1 := 0) (n1 := 0) (by with_unfolding_all rfl)) ?_
  refine ex_s (st_get rfl ((k45 0).trans ((k44 0).trans ((k43 0).trans ((k42 0).trans ((k41 0).trans ((k40 0).trans ((k26 0).trans ((k25 0).trans f24)))))))) rfl) ?_
  refine ex_s (am_nb (m := 1) (pc1 := 195) (ls1 := [(3, .int (-1)), (2, .int (d + 1)), (0, .ref 0), (1, .int n)]) (st1 := [.int ((t + 1) + v0_13), .int (-1), .ref 127]) (H1 := H45) (k1 := 0) (n1 := 0) (by with_unfolding_all rfl)) ?_
  refine ex_cv0 (as := [.int (-1), .int ((t + 1) + v0_13)]) (rest := []) rfl rfl rfl rfl ((k45 127).trans ((k44 127).trans ((k43 127).trans ((k42 127).trans ((k41 127).trans ((k40 127).trans ((k26 127).trans ((k25 127).trans ((k24 127 (by decide)).trans h127))))))))) rfl (by with_unfolding_all rfl) (by with_unfolding_all rfl) (tx_b_15_0) ?_
  rintro H46 ⟨-, k46⟩
  refine ex_s (am_nb (m := 1) (pc1 := 16) (ls1 := [(3, .int (-1)), (2, .int (d + 1)), (0, .ref 0), (1, .int n)]) (st1 := []) (H1 := H46) (k1 := 0) (n1 := 0) (by with_unfolding_all rfl)) ?_
  exact kk _ ⟨⟨((k46 0).trans ((k45 0).trans ((k44 0).trans ((k43 0).trans ((k42 0).trans ((k41 0).trans ((k40 0).trans ((k26 0).trans ((k25 0).trans f24))))))))), trivial⟩, fun j n0 => ((k46 j).trans ((k45 j).trans ((k44 j).trans ((k43 j).trans ((k42 j).trans ((k41 j).trans ((k40 j).trans ((k26 j).trans ((k25 j).trans (k24 j n0))))))))))⟩

set_option maxRecDepth 100000 in
theorem sc_e_0 {sL : Nat} {sx : Nat → Int32} {cs : Nat → Nat → Option Int32} {H : am_H} {R : Option Value} {F : am_H → Prop}     (kk : ∀ H1 : am_H, ((True) ∧ ∀ j : Nat, H1[j]? = H[j]?) → am_E sL sx cs 377 4 [(2, .int 0), (1, .int 0), (0, .ref 157)] [] H1 R F) :
    am_E sL sx cs 377 0 [(0, .ref 157)] [] H R F := by
  refine ex_s (am_nb (m := 4) (pc1 := 4) (ls1 := [(2, .int 0), (1, .int 0), (0, .ref 157)]) (st1 := []) (H1 := H) (k1 := 0) (n1 := 0) (by with_unfolding_all rfl)) ?_
  exact kk _ ⟨trivial, fun j => rfl⟩

set_option maxRecDepth 100000 in
theorem sc_a_1_0 {sL : Nat} {sx : Nat → Int32} {cs : Nat → Nat → Option Int32} {H : am_H} {k : Int32}  (c1 : k < 0) (c2 : k < 32)  :
    am_E sL sx cs 378 0 [(0, .int k)] [] H (some (.int 0)) (fun H1 => (True) ∧ ∀ j : Nat, H1[j]? = H[j]?) := by
  refine ex_s (am_nb (m := 1) (pc1 := 1) (ls1 := [(0, .int k)]) (st1 := [.int k]) (H1 := H) (k1 := 0) (n1 := 0) (by with_unfolding_all rfl)) ?_
  refine ex_s (st_if rfl) ?_
  refine ex_pc (if_pos c1) ?_
  refine ex_s (am_nb (m := 2) (pc1 := 13) (ls1 := [(0, .int k)]) (st1 := [.int 32, .int k]) (H1 := H) (k1 := 0) (n1 := 0) (by with_unfolding_all rfl)) ?_
  refine ex_s (st_icmp rfl) ?_
  refine ex_pc (if_pos c2) ?_
  refine ex_s (am_nb (m := 1) (pc1 := 27) (ls1 := [(0, .int k)]) (st1 := [.int 0]) (H1 := H) (k1 := 0) (n1 := 0) (by with_unfolding_all rfl)) ?_
  exact ex_r (st_iret rfl rfl rfl) ⟨trivial, fun j => rfl⟩

set_option maxRecDepth 100000 in
theorem sc_a_1_1 {sL : Nat} {sx : Nat → Int32} {cs : Nat → Nat → Option Int32} {H : am_H} {k : Int32}  (c1 : k < 0) (c2 : ¬ k < 32) (c3 : 126 < k)  :
    am_E sL sx cs 378 0 [(0, .int k)] [] H (some (.int 0)) (fun H1 => (True) ∧ ∀ j : Nat, H1[j]? = H[j]?) := by
  refine ex_s (am_nb (m := 1) (pc1 := 1) (ls1 := [(0, .int k)]) (st1 := [.int k]) (H1 := H) (k1 := 0) (n1 := 0) (by with_unfolding_all rfl)) ?_
  refine ex_s (st_if rfl) ?_
  refine ex_pc (if_pos c1) ?_
  refine ex_s (am_nb (m := 2) (pc1 := 13) (ls1 := [(0, .int k)]) (st1 := [.int 32, .int k]) (H1 := H) (k1 := 0) (n1 := 0) (by with_unfolding_all rfl)) ?_
  refine ex_s (st_icmp rfl) ?_
  refine ex_pc (if_neg c2) ?_
  refine ex_s (am_nb (m := 2) (pc1 := 19) (ls1 := [(0, .int k)]) (st1 := [.int 126, .int k]) (H1 := H) (k1 := 0) (n1 := 0) (by with_unfolding_all rfl)) ?_
  refine ex_s (st_icmp rfl) ?_
  refine ex_pc (if_pos c3) ?_
  refine ex_s (am_nb (m := 1) (pc1 := 27) (ls1 := [(0, .int k)]) (st1 := [.int 0]) (H1 := H) (k1 := 0) (n1 := 0) (by with_unfolding_all rfl)) ?_
  exact ex_r (st_iret rfl rfl rfl) ⟨trivial, fun j => rfl⟩

set_option maxRecDepth 100000 in
theorem sc_a_1_2 {sL : Nat} {sx : Nat → Int32} {cs : Nat → Nat → Option Int32} {H : am_H} {k : Int32}  (c1 : k < 0) (c2 : ¬ k < 32) (c3 : ¬ 126 < k)  :
    am_E sL sx cs 378 0 [(0, .int k)] [] H (some (.int 1)) (fun H1 => (True) ∧ ∀ j : Nat, H1[j]? = H[j]?) := by
  refine ex_s (am_nb (m := 1) (pc1 := 1) (ls1 := [(0, .int k)]) (st1 := [.int k]) (H1 := H) (k1 := 0) (n1 := 0) (by with_unfolding_all rfl)) ?_
  refine ex_s (st_if rfl) ?_
  refine ex_pc (if_pos c1) ?_
  refine ex_s (am_nb (m := 2) (pc1 := 13) (ls1 := [(0, .int k)]) (st1 := [.int 32, .int k]) (H1 := H) (k1 := 0) (n1 := 0) (by with_unfolding_all rfl)) ?_
  refine ex_s (st_icmp rfl) ?_
  refine ex_pc (if_neg c2) ?_
  refine ex_s (am_nb (m := 2) (pc1 := 19) (ls1 := [(0, .int k)]) (st1 := [.int 126, .int k]) (H1 := H) (k1 := 0) (n1 := 0) (by with_unfolding_all rfl)) ?_
  refine ex_s (st_icmp rfl) ?_
  refine ex_pc (if_neg c3) ?_
  refine ex_s (am_nb (m := 2) (pc1 := 27) (ls1 := [(0, .int k)]) (st1 := [.int 1]) (H1 := H) (k1 := 0) (n1 := 0) (by with_unfolding_all rfl)) ?_
  exact ex_r (st_iret rfl rfl rfl) ⟨trivial, fun j => rfl⟩

set_option maxRecDepth 100000 in
theorem sc_a_1_3 {sL : Nat} {sx : Nat → Int32} {cs : Nat → Nat → Option Int32} {H : am_H} {k : Int32}  (c1 : ¬ k < 0) (c2 : k ≤ 28)  :
    am_E sL sx cs 378 0 [(0, .int k)] [] H (some (.int 1)) (fun H1 => (True) ∧ ∀ j : Nat, H1[j]? = H[j]?) := by
  refine ex_s (am_nb (m := 1) (pc1 := 1) (ls1 := [(0, .int k)]) (st1 := [.int k]) (H1 := H) (k1 := 0) (n1 := 0) (by with_unfolding_all rfl)) ?_
  refine ex_s (st_if rfl) ?_
  refine ex_pc (if_neg c1) ?_
  refine ex_s (am_nb (m := 2) (pc1 := 7) (ls1 := [(0, .int k)]) (st1 := [.int 28, .int k]) (H1 := H) (k1 := 0) (n1 := 0) (by with_unfolding_all rfl)) ?_
  refine ex_s (st_icmp rfl) ?_
  refine ex_pc (if_pos c2) ?_
  refine ex_s (am_nb (m := 2) (pc1 := 27) (ls1 := [(0, .int k)]) (st1 := [.int 1]) (H1 := H) (k1 := 0) (n1 := 0) (by with_unfolding_all rfl)) ?_
  exact ex_r (st_iret rfl rfl rfl) ⟨trivial, fun j => rfl⟩

set_option maxRecDepth 100000 in
theorem sc_a_1_4 {sL : Nat} {sx : Nat → Int32} {cs : Nat → Nat → Option Int32} {H : am_H} {k : Int32}  (c1 : ¬ k < 0) (c2 : ¬ k ≤ 28) (c3 : k < 32)  :
    am_E sL sx cs 378 0 [(0, .int k)] [] H (some (.int 0)) (fun H1 => (True) ∧ ∀ j : Nat, H1[j]? = H[j]?) := by
  refine ex_s (am_nb (m := 1) (pc1 := 1) (ls1 := [(0, .int k)]) (st1 := [.int k]) (H1 := H) (k1 := 0) (n1 := 0) (by with_unfolding_all rfl)) ?_
  refine ex_s (st_if rfl) ?_
  refine ex_pc (if_neg c1) ?_
  refine ex_s (am_nb (m := 2) (pc1 := 7) (ls1 := [(0, .int k)]) (st1 := [.int 28, .int k]) (H1 := H) (k1 := 0) (n1 := 0) (by with_unfolding_all rfl)) ?_
  refine ex_s (st_icmp rfl) ?_
  refine ex_pc (if_neg c2) ?_
  refine ex_s (am_nb (m := 2) (pc1 := 13) (ls1 := [(0, .int k)]) (st1 := [.int 32, .int k]) (H1 := H) (k1 := 0) (n1 := 0) (by with_unfolding_all rfl)) ?_
  refine ex_s (st_icmp rfl) ?_
  refine ex_pc (if_pos c3) ?_
  refine ex_s (am_nb (m := 1) (pc1 := 27) (ls1 := [(0, .int k)]) (st1 := [.int 0]) (H1 := H) (k1 := 0) (n1 := 0) (by with_unfolding_all rfl)) ?_
  exact ex_r (st_iret rfl rfl rfl) ⟨trivial, fun j => rfl⟩

set_option maxRecDepth 100000 in
theorem sc_a_1_5 {sL : Nat} {sx : Nat → Int32} {cs : Nat → Nat → Option Int32} {H : am_H} {k : Int32}  (c1 : ¬ k < 0) (c2 : ¬ k ≤ 28) (c3 : ¬ k < 32) (c4 : 126 < k)  :
    am_E sL sx cs 378 0 [(0, .int k)] [] H (some (.int 0)) (fun H1 => (True) ∧ ∀ j : Nat, H1[j]? = H[j]?) := by
  refine ex_s (am_nb (m := 1) (pc1 := 1) (ls1 := [(0, .int k)]) (st1 := [.int k]) (H1 := H) (k1 := 0) (n1 := 0) (by with_unfolding_all rfl)) ?_
  refine ex_s (st_if rfl) ?_
  refine ex_pc (if_neg c1) ?_
  refine ex_s (am_nb (m := 2) (pc1 := 7) (ls1 := [(0, .int k)]) (st1 := [.int 28, .int k]) (H1 := H) (k1 := 0) (n1 := 0) (by with_unfolding_all rfl)) ?_
  refine ex_s (st_icmp rfl) ?_
  refine ex_pc (if_neg c2) ?_
  refine ex_s (am_nb (m := 2) (pc1 := 13) (ls1 := [(0, .int k)]) (st1 := [.int 32, .int k]) (H1 := H) (k1 := 0) (n1 := 0) (by with_unfolding_all rfl)) ?_
  refine ex_s (st_icmp rfl) ?_
  refine ex_pc (if_neg c3) ?_
  refine ex_s (am_nb (m := 2) (pc1 := 19) (ls1 := [(0, .int k)]) (st1 := [.int 126, .int k]) (H1 := H) (k1 := 0) (n1 := 0) (by with_unfolding_all rfl)) ?_
  refine ex_s (st_icmp rfl) ?_
  refine ex_pc (if_pos c4) ?_
  refine ex_s (am_nb (m := 1) (pc1 := 27) (ls1 := [(0, .int k)]) (st1 := [.int 0]) (H1 := H) (k1 := 0) (n1 := 0) (by with_unfolding_all rfl)) ?_
  exact ex_r (st_iret rfl rfl rfl) ⟨trivial, fun j => rfl⟩

set_option maxRecDepth 100000 in
theorem sc_a_1_6 {sL : Nat} {sx : Nat → Int32} {cs : Nat → Nat → Option Int32} {H : am_H} {k : Int32}  (c1 : ¬ k < 0) (c2 : ¬ k ≤ 28) (c3 : ¬ k < 32) (c4 : ¬ 126 < k)  :
    am_E sL sx cs 378 0 [(0, .int k)] [] H (some (.int 1)) (fun H1 => (True) ∧ ∀ j : Nat, H1[j]? = H[j]?) := by
  refine ex_s (am_nb (m := 1) (pc1 := 1) (ls1 := [(0, .int k)]) (st1 := [.int k]) (H1 := H) (k1 := 0) (n1 := 0) (by with_unfolding_all rfl)) ?_
  refine ex_s (st_if rfl) ?_
  refine ex_pc (if_neg c1) ?_
  refine ex_s (am_nb (m := 2) (pc1 := 7) (ls1 := [(0, .int k)]) (st1 := [.int 28, .int k]) (H1 := H) (k1 := 0) (n1 := 0) (by with_unfolding_all rfl)) ?_
  refine ex_s (st_icmp rfl) ?_
  refine ex_pc (if_neg c2) ?_
  refine ex_s (am_nb (m := 2) (pc1 := 13) (ls1 := [(0, .int k)]) (st1 := [.int 32, .int k]) (H1 := H) (k1 := 0) (n1 := 0) (by with_unfolding_all rfl)) ?_
  refine ex_s (st_icmp rfl) ?_
  refine ex_pc (if_neg c3) ?_
  refine ex_s (am_nb (m := 2) (pc1 := 19) (ls1 := [(0, .int k)]) (st1 := [.int 126, .int k]) (H1 := H) (k1 := 0) (n1 := 0) (by with_unfolding_all rfl)) ?_
  refine ex_s (st_icmp rfl) ?_
  refine ex_pc (if_neg c4) ?_
  refine ex_s (am_nb (m := 2) (pc1 := 27) (ls1 := [(0, .int k)]) (st1 := [.int 1]) (H1 := H) (k1 := 0) (n1 := 0) (by with_unfolding_all rfl)) ?_
  exact ex_r (st_iret rfl rfl rfl) ⟨trivial, fun j => rfl⟩

set_option maxRecDepth 100000 in
theorem sc_a_0 {sL : Nat} {sx : Nat → Int32} {cs : Nat → Nat → Option Int32} {H : am_H} {v157_68 : Int32} {v157_69 : Int32} {v157_70 : Int32} {v157_96 : Int32} {t : Int32} {k : Int32} {g195 : Nat → Int32} (h157 : am_is H 157 (.inr (12, [.int 0, .ref 158, .int 0, .ref 159, .int 0, .int 0, .ref 160, .ref 161, .ref 162, .ref 163, .ref 164, .ref 165, .ref 166, .int 0, .int (-1), .int 0, .int 0, .int 0, .ref 167, .int 0, .int 0, .int (-1), .ref 168, .int 0, .ref 169, .int 0, .int 0, .int 0, .ref 170, .ref 171, .int 0, .int 0, .int (-1), .int (-1), .int 0, .int 0, .int 0, .ref 172, .ref 173, .ref 174, .ref 175, .ref 176, .ref 177, .ref 178, .ref 179, .ref 180, .ref 181, .ref 182, .ref 183, .int 0, .int 0, .int 0, .int 0, .int 0, .ref 184, .int 0, .int 0, .int 0, .int 127, .int 0, .int 0, .int 0, .int 0, .int 0, .ref 185, .int 0, .ref 186, .int 0, .int v157_68, .int v157_69, .int v157_70, .int t, .int 0, .int 0, .int (-1), .int (-1), .int 0, .int 0, .ref 187, .int 0, .int 0, .int 0, .int 0, .int 0, .int 0, .int 0, .ref 188, .int 0, .ref 189, .int 0, .ref 190, .ref 191, .ref 192, .int 0, .int 0, .int 0, .int v157_96, .int 0, .int 96, .int 0, .int 0, .int 0, .int 0, .int 0, .int 0, .int 0, .int 0, .int 0, .int 0, .int 0, .int 0, .int 0, .int 0, .int 0, .ref 193, .int 0, .int 0, .int 0, .ref 194, .ref 195, .int (-1), .int 0]))) (h194 : am_is H 194 (.inl (.boolean, (127, .inl (fun _ => 0))))) (h195 : am_is H 195 (.inl (.boolean, (127, .inl g195)))) (c1 : 127 ≤ k)  :
    am_E sL sx cs 377 4 [(2, .int k), (1, .int 0), (0, .ref 157)] [] H none (fun H1 => (True) ∧ ∀ j : Nat, H1[j]? = H[j]?) := by
  refine ex_s (am_nb (m := 2) (pc1 := 7) (ls1 := [(2, .int k), (1, .int 0), (0, .ref 157)]) (st1 := [.int 127, .int k]) (H1 := H) (k1 := 0) (n1 := 0) (by with_unfolding_all rfl)) ?_
  refine ex_s (st_icmp rfl) ?_
  refine ex_pc (if_pos c1) ?_
  refine ex_s (am_nb (m := 1) (pc1 := 138) (ls1 := [(2, .int k), (1, .int 0), (0, .ref 157)]) (st1 := [.ref 157]) (H1 := H) (k1 := 0) (n1 := 0) (by with_unfolding_all rfl)) ?_
  refine ex_s (st_get rfl h157 rfl) ?_
  refine ex_s (am_nb (m := 2) (pc1 := 183) (ls1 := [(2, .int k), (1, .int 0), (0, .ref 157)]) (st1 := []) (H1 := H) (k1 := 0) (n1 := 0) (by with_unfolding_all rfl)) ?_
  exact ex_r (st_vret rfl rfl) ⟨trivial, fun j => rfl⟩

set_option maxRecDepth 100000 in
theorem sc_a_1 {sL : Nat} {sx : Nat → Int32} {cs : Nat → Nat → Option Int32} {H : am_H} {R : Option Value} {F : am_H → Prop} {v157_68 : Int32} {v157_69 : Int32} {v157_70 : Int32} {v157_96 : Int32} {t : Int32} {k : Int32} {g195 : Nat → Int32} (h157 : am_is H 157 (.inr (12, [.int 0, .ref 158, .int 0, .ref 159, .int 0, .int 0, .ref 160, .ref 161, .ref 162, .ref 163, .ref 164, .ref 165, .ref 166, .int 0, .int (-1), .int 0, .int 0, .int 0, .ref 167, .int 0, .int 0, .int (-1), .ref 168, .int 0, .ref 169, .int 0, .int 0, .int 0, .ref 170, .ref 171, .int 0, .int 0, .int (-1), .int (-1), .int 0, .int 0, .int 0, .ref 172, .ref 173, .ref 174, .ref 175, .ref 176, .ref 177, .ref 178, .ref 179, .ref 180, .ref 181, .ref 182, .ref 183, .int 0, .int 0, .int 0, .int 0, .int 0, .ref 184, .int 0, .int 0, .int 0, .int 127, .int 0, .int 0, .int 0, .int 0, .int 0, .ref 185, .int 0, .ref 186, .int 0, .int v157_68, .int v157_69, .int v157_70, .int t, .int 0, .int 0, .int (-1), .int (-1), .int 0, .int 0, .ref 187, .int 0, .int 0, .int 0, .int 0, .int 0, .int 0, .int 0, .ref 188, .int 0, .ref 189, .int 0, .ref 190, .ref 191, .ref 192, .int 0, .int 0, .int 0, .int v157_96, .int 0, .int 96, .int 0, .int 0, .int 0, .int 0, .int 0, .int 0, .int 0, .int 0, .int 0, .int 0, .int 0, .int 0, .int 0, .int 0, .int 0, .ref 193, .int 0, .int 0, .int 0, .ref 194, .ref 195, .int (-1), .int 0]))) (h194 : am_is H 194 (.inl (.boolean, (127, .inl (fun _ => 0))))) (h195 : am_is H 195 (.inl (.boolean, (127, .inl g195)))) (c1 : ¬ 127 ≤ k) (c2 : k < 0) (c3 : k < 32)  (kk : ∀ H1 : am_H, ((True) ∧ ∀ j : Nat, H1[j]? = H[j]?) → am_E sL sx cs 377 4 [(2, .int (k + 1)), (1, .int 0), (0, .ref 157)] [] H1 R F) :
    am_E sL sx cs 377 4 [(2, .int k), (1, .int 0), (0, .ref 157)] [] H R F := by
  refine ex_s (am_nb (m := 2) (pc1 := 7) (ls1 := [(2, .int k), (1, .int 0), (0, .ref 157)]) (st1 := [.int 127, .int k]) (H1 := H) (k1 := 0) (n1 := 0) (by with_unfolding_all rfl)) ?_
  refine ex_s (st_icmp rfl) ?_
  refine ex_pc (if_neg c1) ?_
  refine ex_s (am_nb (m := 1) (pc1 := 11) (ls1 := [(2, .int k), (1, .int 0), (0, .ref 157)]) (st1 := [.int k]) (H1 := H) (k1 := 0) (n1 := 0) (by with_unfolding_all rfl)) ?_
  refine ex_cs1 (as := [.int k]) (rest := []) rfl (by decide) rfl rfl (by with_unfolding_all rfl) (by with_unfolding_all rfl) (sc_a_1_0 c2 c3) ?_
  rintro H47 ⟨-, k47⟩
  refine ex_s (am_nb (m := 4) (pc1 := 4) (ls1 := [(2, .int (k + 1)), (1, .int 0), (0, .ref 157)]) (st1 := []) (H1 := H47) (k1 := 0) (n1 := 0) (by with_unfolding_all rfl)) ?_
  exact kk _ ⟨trivial, fun j => (k47 j)⟩

set_option maxRecDepth 100000 in
theorem sc_a_2 {sL : Nat} {sx : Nat → Int32} {cs : Nat → Nat → Option Int32} {H : am_H} {R : Option Value} {F : am_H → Prop} {v157_68 : Int32} {v157_69 : Int32} {v157_70 : Int32} {v157_96 : Int32} {t : Int32} {k : Int32} {g195 : Nat → Int32} (h157 : am_is H 157 (.inr (12, [.int 0, .ref 158, .int 0, .ref 159, .int 0, .int 0, .ref 160, .ref 161, .ref 162, .ref 163, .ref 164, .ref 165, .ref 166, .int 0, .int (-1), .int 0, .int 0, .int 0, .ref 167, .int 0, .int 0, .int (-1), .ref 168, .int 0, .ref 169, .int 0, .int 0, .int 0, .ref 170, .ref 171, .int 0, .int 0, .int (-1), .int (-1), .int 0, .int 0, .int 0, .ref 172, .ref 173, .ref 174, .ref 175, .ref 176, .ref 177, .ref 178, .ref 179, .ref 180, .ref 181, .ref 182, .ref 183, .int 0, .int 0, .int 0, .int 0, .int 0, .ref 184, .int 0, .int 0, .int 0, .int 127, .int 0, .int 0, .int 0, .int 0, .int 0, .ref 185, .int 0, .ref 186, .int 0, .int v157_68, .int v157_69, .int v157_70, .int t, .int 0, .int 0, .int (-1), .int (-1), .int 0, .int 0, .ref 187, .int 0, .int 0, .int 0, .int 0, .int 0, .int 0, .int 0, .ref 188, .int 0, .ref 189, .int 0, .ref 190, .ref 191, .ref 192, .int 0, .int 0, .int 0, .int v157_96, .int 0, .int 96, .int 0, .int 0, .int 0, .int 0, .int 0, .int 0, .int 0, .int 0, .int 0, .int 0, .int 0, .int 0, .int 0, .int 0, .int 0, .ref 193, .int 0, .int 0, .int 0, .ref 194, .ref 195, .int (-1), .int 0]))) (h194 : am_is H 194 (.inl (.boolean, (127, .inl (fun _ => 0))))) (h195 : am_is H 195 (.inl (.boolean, (127, .inl g195)))) (c1 : ¬ 127 ≤ k) (c2 : k < 0) (c3 : ¬ k < 32) (c4 : 126 < k)  (kk : ∀ H1 : am_H, ((True) ∧ ∀ j : Nat, H1[j]? = H[j]?) → am_E sL sx cs 377 4 [(2, .int (k + 1)), (1, .int 0), (0, .ref 157)] [] H1 R F) :
    am_E sL sx cs 377 4 [(2, .int k), (1, .int 0), (0, .ref 157)] [] H R F := by
  refine ex_s (am_nb (m := 2) (pc1 := 7) (ls1 := [(2, .int k), (1, .int 0), (0, .ref 157)]) (st1 := [.int 127, .int k]) (H1 := H) (k1 := 0) (n1 := 0) (by with_unfolding_all rfl)) ?_
  refine ex_s (st_icmp rfl) ?_
  refine ex_pc (if_neg c1) ?_
  refine ex_s (am_nb (m := 1) (pc1 := 11) (ls1 := [(2, .int k), (1, .int 0), (0, .ref 157)]) (st1 := [.int k]) (H1 := H) (k1 := 0) (n1 := 0) (by with_unfolding_all rfl)) ?_
  refine ex_cs1 (as := [.int k]) (rest := []) rfl (by decide) rfl rfl (by with_unfolding_all rfl) (by with_unfolding_all rfl) (sc_a_1_1 c2 c3 c4) ?_
  rintro H48 ⟨-, k48⟩
  refine ex_s (am_nb (m := 4) (pc1 := 4) (ls1 := [(2, .int (k + 1)), (1, .int 0), (0, .ref 157)]) (st1 := []) (H1 := H48) (k1 := 0) (n1 := 0) (by with_unfolding_all rfl)) ?_
  exact kk _ ⟨trivial, fun j => (k48 j)⟩

set_option maxRecDepth 100000 in
theorem sc_a_3 {sL : Nat} {sx : Nat → Int32} {cs : Nat → Nat → Option Int32} {H : am_H} {R : Option Value} {F : am_H → Prop} {v157_68 : Int32} {v157_69 : Int32} {v157_70 : Int32} {v157_96 : Int32} {t : Int32} {k : Int32} {g195 : Nat → Int32} (h157 : am_is H 157 (.inr (12, [.int 0, .ref 158, .int 0, .ref 159, .int 0, .int 0, .ref 160, .ref 161, .ref 162, .ref 163, .ref 164, .ref 165, .ref 166, .int 0, .int (-1), .int 0, .int 0, .int 0, .ref 167, .int 0, .int 0, .int (-1), .ref 168, .int 0, .ref 169, .int 0, .int 0, .int 0, .ref 170, .ref 171, .int 0, .int 0, .int (-1), .int (-1), .int 0, .int 0, .int 0, .ref 172, .ref 173, .ref 174, .ref 175, .ref 176, .ref 177, .ref 178, .ref 179, .ref 180, .ref 181, .ref 182, .ref 183, .int 0, .int 0, .int 0, .int 0, .int 0, .ref 184, .int 0, .int 0, .int 0, .int 127, .int 0, .int 0, .int 0, .int 0, .int 0, .ref 185, .int 0, .ref 186, .int 0, .int v157_68, .int v157_69, .int v157_70, .int t, .int 0, .int 0, .int (-1), .int (-1), .int 0, .int 0, .ref 187, .int 0, .int 0, .int 0, .int 0, .int 0, .int 0, .int 0, .ref 188, .int 0, .ref 189, .int 0, .ref 190, .ref 191, .ref 192, .int 0, .int 0, .int 0, .int v157_96, .int 0, .int 96, .int 0, .int 0, .int 0, .int 0, .int 0, .int 0, .int 0, .int 0, .int 0, .int 0, .int 0, .int 0, .int 0, .int 0, .int 0, .ref 193, .int 0, .int 0, .int 0, .ref 194, .ref 195, .int (-1), .int 0]))) (h194 : am_is H 194 (.inl (.boolean, (127, .inl (fun _ => 0))))) (h195 : am_is H 195 (.inl (.boolean, (127, .inl g195)))) (c1 : ¬ 127 ≤ k) (c2 : k < 0) (c3 : ¬ k < 32) (c4 : ¬ 126 < k) (c5 : (-1) = k) (s1 : ¬ (k < 0 ∨ 127 ≤ k.toNatClampNeg)) (kk : ∀ H1 : am_H, ((am_is H1 195 (.inl (.boolean, (127, .inl (upd g195 k.toNatClampNeg (vp_nar .boolean 0))))) ∧ am_is H1 157 (.inr (12, [.int 0, .ref 158, .int 0, .ref 159, .int 0, .int 0, .ref 160, .ref 161, .ref 162, .ref 163, .ref 164, .ref 165, .ref 166, .int 0, .int (-1), .int 0, .int 0, .int 0, .ref 167, .int 0, .int 0, .int (-1), .ref 168, .int 0, .ref 169, .int 0, .int 0, .int 0, .ref 170, .ref 171, .int 0, .int 0, .int (-1), .int (-1), .int 0, .int 0, .int 0, .ref 172, .ref 173, .ref 174, .ref 175, .ref 176, .ref 177, .ref 178, .ref 179, .ref 180, .ref 181, .ref 182, .ref 183, .int 0, .int 0, .int 0, .int 0, .int 0, .ref 184, .int 0, .int 0, .int 0, .int 127, .int 0, .int 0, .int 0, .int 0, .int 0, .ref 185, .int 0, .ref 186, .int 0, .int v157_68, .int v157_69, .int v157_70, .int t, .int 0, .int 0, .int (-1), .int (-1), .int 0, .int 0, .ref 187, .int 0, .int 0, .int 0, .int 0, .int 0, .int 0, .int 0, .ref 188, .int 0, .ref 189, .int 0, .ref 190, .ref 191, .ref 192, .int 0, .int 0, .int 0, .int v157_96, .int 0, .int 96, .int 0, .int 0, .int 0, .int 0, .int 0, .int 0, .int 0, .int 0, .int 0, .int 0, .int 0, .int 0, .int 0, .int 0, .int 0, .ref 193, .int 0, .int 0, .int 0, .ref 194, .ref 195, .int (-1), .int 0])) ∧ True) ∧ ∀ j : Nat, j ≠ 195 → j ≠ 157 → H1[j]? = H[j]?) → am_E sL sx cs 377 4 [(2, .int (k + 1)), (1, .int 0), (0, .ref 157)] [] H1 R F) :
    am_E sL sx cs 377 4 [(2, .int k), (1, .int 0), (0, .ref 157)] [] H R F := by
  refine ex_s (am_nb (m := 2) (pc1 := 7) (ls1 := [(2, .int k), (1, .int 0), (0, .ref 157)]) (st1 := [.int 127, .int k]) (H1 := H) (k1 := 0) (n1 := 0) (by with_unfolding_all rfl)) ?_
  refine ex_s (st_icmp rfl) ?_
  refine ex_pc (if_neg c1) ?_
  refine ex_s (am_nb (m := 1) (pc1 := 11) (ls1 := [(2, .int k), (1, .int 0), (0, .ref 157)]) (st1 := [.int k]) (H1 := H) (k1 := 0) (n1 := 0) (by with_unfolding_all rfl)) ?_
  refine ex_cs1 (as := [.int k]) (rest := []) rfl (by decide) rfl rfl (by with_unfolding_all rfl) (by with_unfolding_all rfl) (sc_a_1_2 c2 c3 c4) ?_
  rintro H49 ⟨-, k49⟩
  refine ex_s (am_nb (m := 2) (pc1 := 21) (ls1 := [(2, .int k), (1, .int 0), (0, .ref 157)]) (st1 := [.ref 157]) (H1 := H49) (k1 := 0) (n1 := 0) (by with_unfolding_all rfl)) ?_
  refine ex_s (st_get rfl ((k49 157).trans h157) rfl) ?_
  refine ex_s (am_nb (m := 1) (pc1 := 25) (ls1 := [(2, .int k), (1, .int 0), (0, .ref 157)]) (st1 := [.int k, .ref 194]) (H1 := H49) (k1 := 0) (n1 := 0) (by with_unfolding_all rfl)) ?_
  refine ex_s (st_zald rfl ((k49 194).trans h194) s1) ?_
  refine ex_s (am_nb (m := 2) (pc1 := 30) (ls1 := [(2, .int k), (1, .int 0), (0, .ref 157)]) (st1 := [.ref 157]) (H1 := H49) (k1 := 0) (n1 := 0) (by with_unfolding_all rfl)) ?_
  refine ex_s (st_get rfl ((k49 157).trans h157) rfl) ?_
  refine ex_s (am_nb (m := 2) (pc1 := 35) (ls1 := [(2, .int k), (1, .int 0), (0, .ref 157)]) (st1 := [.int 0, .int k, .ref 195]) (H1 := H49) (k1 := 0) (n1 := 0) (by with_unfolding_all rfl)) ?_
  refine ex_zast rfl ((k49 195).trans h195) s1 ?_
  intro H54 f54 k54
  refine ex_s (am_nb (m := 1) (pc1 := 37) (ls1 := [(2, .int k), (1, .int 0), (0, .ref 157)]) (st1 := [.ref 157]) (H1 := H54) (k1 := 0) (n1 := 0) (by with_unfolding_all rfl)) ?_
  refine ex_s (st_get rfl ((k54 157 (by decide)).trans ((k49 157).trans h157)) rfl) ?_
  refine ex_s (am_nb (m := 1) (pc1 := 41) (ls1 := [(2, .int k), (1, .int 0), (0, .ref 157)]) (st1 := [.int k, .int (-1)]) (H1 := H54) (k1 := 0) (n1 := 0) (by with_unfolding_all rfl)) ?_
  refine ex_s (st_icmp rfl) ?_
  refine ex_pc (if_pos c5) ?_
  refine ex_s (am_nb (m := 2) (pc1 := 46) (ls1 := [(2, .int k), (1, .int 0), (0, .ref 157)]) (st1 := [.int (-1), .ref 157]) (H1 := H54) (k1 := 0) (n1 := 0) (by with_unfolding_all rfl)) ?_
  refine ex_put rfl ((k54 157 (by decide)).trans ((k49 157).trans h157)) rfl rfl rfl ?_
  intro H55 f55 k55
  refine ex_s (am_nb (m := 3) (pc1 := 4) (ls1 := [(2, .int (k + 1)), (1, .int 0), (0, .ref 157)]) (st1 := []) (H1 := H55) (k1 := 0) (n1 := 0) (by with_unfolding_all rfl)) ?_
  exact kk _ ⟨⟨((k55 195 (by decide)).trans f54), f55, trivial⟩, fun j n195 n157 => ((k55 j n157).trans ((k54 j n195).trans (k49 j)))⟩

set_option maxRecDepth 100000 in
theorem sc_a_4 {sL : Nat} {sx : Nat → Int32} {cs : Nat → Nat → Option Int32} {H : am_H} {R : Option Value} {F : am_H → Prop} {v157_68 : Int32} {v157_69 : Int32} {v157_70 : Int32} {v157_96 : Int32} {t : Int32} {k : Int32} {g195 : Nat → Int32} (h157 : am_is H 157 (.inr (12, [.int 0, .ref 158, .int 0, .ref 159, .int 0, .int 0, .ref 160, .ref 161, .ref 162, .ref 163, .ref 164, .ref 165, .ref 166, .int 0, .int (-1), .int 0, .int 0, .int 0, .ref 167, .int 0, .int 0, .int (-1), .ref 168, .int 0, .ref 169, .int 0, .int 0, .int 0, .ref 170, .ref 171, .int 0, .int 0, .int (-1), .int (-1), .int 0, .int 0, .int 0, .ref 172, .ref 173, .ref 174, .ref 175, .ref 176, .ref 177, .ref 178, .ref 179, .ref 180, .ref 181, .ref 182, .ref 183, .int 0, .int 0, .int 0, .int 0, .int 0, .ref 184, .int 0, .int 0, .int 0, .int 127, .int 0, .int 0, .int 0, .int 0, .int 0, .ref 185, .int 0, .ref 186, .int 0, .int v157_68, .int v157_69, .int v157_70, .int t, .int 0, .int 0, .int (-1), .int (-1), .int 0, .int 0, .ref 187, .int 0, .int 0, .int 0, .int 0, .int 0, .int 0, .int 0, .ref 188, .int 0, .ref 189, .int 0, .ref 190, .ref 191, .ref 192, .int 0, .int 0, .int 0, .int v157_96, .int 0, .int 96, .int 0, .int 0, .int 0, .int 0, .int 0, .int 0, .int 0, .int 0, .int 0, .int 0, .int 0, .int 0, .int 0, .int 0, .int 0, .ref 193, .int 0, .int 0, .int 0, .ref 194, .ref 195, .int (-1), .int 0]))) (h194 : am_is H 194 (.inl (.boolean, (127, .inl (fun _ => 0))))) (h195 : am_is H 195 (.inl (.boolean, (127, .inl g195)))) (c1 : ¬ 127 ≤ k) (c2 : k < 0) (c3 : ¬ k < 32) (c4 : ¬ 126 < k) (c5 : ¬ (-1) = k) (s1 : ¬ (k < 0 ∨ 127 ≤ k.toNatClampNeg)) (kk : ∀ H1 : am_H, ((am_is H1 195 (.inl (.boolean, (127, .inl (upd g195 k.toNatClampNeg (vp_nar .boolean 0))))) ∧ True) ∧ ∀ j : Nat, j ≠ 195 → H1[j]? = H[j]?) → am_E sL sx cs 377 4 [(2, .int (k + 1)), (1, .int 0), (0, .ref 157)] [] H1 R F) :
    am_E sL sx cs 377 4 [(2, .int k), (1, .int 0), (0, .ref 157)] [] H R F := by
  refine ex_s (am_nb (m := 2) (pc1 := 7) (ls1 := [(2, .int k), (1, .int 0), (0, .ref 157)]) (st1 := [.int 127, .int k]) (H1 := H) (k1 := 0) (n1 := 0) (by with_unfolding_all rfl)) ?_
  refine ex_s (st_icmp rfl) ?_
  refine ex_pc (if_neg c1) ?_
  refine ex_s (am_nb (m := 1) (pc1 := 11) (ls1 := [(2, .int k), (1, .int 0), (0, .ref 157)]) (st1 := [.int k]) (H1 := H) (k1 := 0) (n1 := 0) (by with_unfolding_all rfl)) ?_
  refine ex_cs1 (as := [.int k]) (rest := []) rfl (by decide) rfl rfl (by with_unfolding_all rfl) (by with_unfolding_all rfl) (sc_a_1_2 c2 c3 c4) ?_
  rintro H49 ⟨-, k49⟩
  refine ex_s (am_nb (m := 2) (pc1 := 21) (ls1 := [(2, .int k), (1, .int 0), (0, .ref 157)]) (st1 := [.ref 157]) (H1 := H49) (k1 := 0) (n1 := 0) (by with_unfolding_all rfl)) ?_
  refine ex_s (st_get rfl ((k49 157).trans h157) rfl) ?_
  refine ex_s (am_nb (m := 1) (pc1 := 25) (ls1 := [(2, .int k), (1, .int 0), (0, .ref 157)]) (st1 := [.int k, .ref 194]) (H1 := H49) (k1 := 0) (n1 := 0) (by with_unfolding_all rfl)) ?_
  refine ex_s (st_zald rfl ((k49 194).trans h194) s1) ?_
  refine ex_s (am_nb (m := 2) (pc1 := 30) (ls1 := [(2, .int k), (1, .int 0), (0, .ref 157)]) (st1 := [.ref 157]) (H1 := H49) (k1 := 0) (n1 := 0) (by with_unfolding_all rfl)) ?_
  refine ex_s (st_get rfl ((k49 157).trans h157) rfl) ?_
  refine ex_s (am_nb (m := 2) (pc1 := 35) (ls1 := [(2, .int k), (1, .int 0), (0, .ref 157)]) (st1 := [.int 0, .int k, .ref 195]) (H1 := H49) (k1 := 0) (n1 := 0) (by with_unfolding_all rfl)) ?_
  refine ex_zast rfl ((k49 195).trans h195) s1 ?_
  intro H54 f54 k54
  refine ex_s (am_nb (m := 1) (pc1 := 37) (ls1 := [(2, .int k), (1, .int 0), (0, .ref 157)]) (st1 := [.ref 157]) (H1 := H54) (k1 := 0) (n1 := 0) (by with_unfolding_all rfl)) ?_
  refine ex_s (st_get rfl ((k54 157 (by decide)).trans ((k49 157).trans h157)) rfl) ?_
  refine ex_s (am_nb (m := 1) (pc1 := 41) (ls1 := [(2, .int k), (1, .int 0), (0, .ref 157)]) (st1 := [.int k, .int (-1)]) (H1 := H54) (k1 := 0) (n1 := 0) (by with_unfolding_all rfl)) ?_
  refine ex_s (st_icmp rfl) ?_
  refine ex_pc (if_neg c5) ?_
  refine ex_s (am_nb (m := 2) (pc1 := 4) (ls1 := [(2, .int (k + 1)), (1, .int 0), (0, .ref 157)]) (st1 := []) (H1 := H54) (k1 := 0) (n1 := 0) (by with_unfolding_all rfl)) ?_
  exact kk _ ⟨⟨f54, trivial⟩, fun j n195 => ((k54 j n195).trans (k49 j))⟩

set_option maxRecDepth 100000 in
theorem sc_a_5 {sL : Nat} {sx : Nat → Int32} {cs : Nat → Nat → Option Int32} {H : am_H} {R : Option Value} {F : am_H → Prop} {v157_68 : Int32} {v157_69 : Int32} {v157_70 : Int32} {v157_96 : Int32} {t : Int32} {k : Int32} {g195 : Nat → Int32} (h157 : am_is H 157 (.inr (12, [.int 0, .ref 158, .int 0, .ref 159, .int 0, .int 0, .ref 160, .ref 161, .ref 162, .ref 163, .ref 164, .ref 165, .ref 166, .int 0, .int (-1), .int 0, .int 0, .int 0, .ref 167, .int 0, .int 0, .int (-1), .ref 168, .int 0, .ref 169, .int 0, .int 0, .int 0, .ref 170, .ref 171, .int 0, .int 0, .int (-1), .int (-1), .int 0, .int 0, .int 0, .ref 172, .ref 173, .ref 174, .ref 175, .ref 176, .ref 177, .ref 178, .ref 179, .ref 180, .ref 181, .ref 182, .ref 183, .int 0, .int 0, .int 0, .int 0, .int 0, .ref 184, .int 0, .int 0, .int 0, .int 127, .int 0, .int 0, .int 0, .int 0, .int 0, .ref 185, .int 0, .ref 186, .int 0, .int v157_68, .int v157_69, .int v157_70, .int t, .int 0, .int 0, .int (-1), .int (-1), .int 0, .int 0, .ref 187, .int 0, .int 0, .int 0, .int 0, .int 0, .int 0, .int 0, .ref 188, .int 0, .ref 189, .int 0, .ref 190, .ref 191, .ref 192, .int 0, .int 0, .int 0, .int v157_96, .int 0, .int 96, .int 0, .int 0, .int 0, .int 0, .int 0, .int 0, .int 0, .int 0, .int 0, .int 0, .int 0, .int 0, .int 0, .int 0, .int 0, .ref 193, .int 0, .int 0, .int 0, .ref 194, .ref 195, .int (-1), .int 0]))) (h194 : am_is H 194 (.inl (.boolean, (127, .inl (fun _ => 0))))) (h195 : am_is H 195 (.inl (.boolean, (127, .inl g195)))) (c1 : ¬ 127 ≤ k) (c2 : ¬ k < 0) (c3 : k ≤ 28) (c4 : (-1) = k) (s1 : ¬ (k < 0 ∨ 127 ≤ k.toNatClampNeg)) (kk : ∀ H1 : am_H, ((am_is H1 195 (.inl (.boolean, (127, .inl (upd g195 k.toNatClampNeg (vp_nar .boolean 0))))) ∧ am_is H1 157 (.inr (12, [.int 0, .ref 158, .int 0, .ref 159, .int 0, .int 0, .ref 160, .ref 161, .ref 162, .ref 163, .ref 164, .ref 165, .ref 166, .int 0, .int (-1), .int 0, .int 0, .int 0, .ref 167, .int 0, .int 0, .int (-1), .ref 168, .int 0, .ref 169, .int 0, .int 0, .int 0, .ref 170, .ref 171, .int 0, .int 0, .int (-1), .int (-1), .int 0, .int 0, .int 0, .ref 172, .ref 173, .ref 174, .ref 175, .ref 176, .ref 177, .ref 178, .ref 179, .ref 180, .ref 181, .ref 182, .ref 183, .int 0, .int 0, .int 0, .int 0, .int 0, .ref 184, .int 0, .int 0, .int 0, .int 127, .int 0, .int 0, .int 0, .int 0, .int 0, .ref 185, .int 0, .ref 186, .int 0, .int v157_68, .int v157_69, .int v157_70, .int t, .int 0, .int 0, .int (-1), .int (-1), .int 0, .int 0, .ref 187, .int 0, .int 0, .int 0, .int 0, .int 0, .int 0, .int 0, .ref 188, .int 0, .ref 189, .int 0, .ref 190, .ref 191, .ref 192, .int 0, .int 0, .int 0, .int v157_96, .int 0, .int 96, .int 0, .int 0, .int 0, .int 0, .int 0, .int 0, .int 0, .int 0, .int 0, .int 0, .int 0, .int 0, .int 0, .int 0, .int 0, .ref 193, .int 0, .int 0, .int 0, .ref 194, .ref 195, .int (-1), .int 0])) ∧ True) ∧ ∀ j : Nat, j ≠ 195 → j ≠ 157 → H1[j]? = H[j]?) → am_E sL sx cs 377 4 [(2, .int (k + 1)), (1, .int 0), (0, .ref 157)] [] H1 R F) :
    am_E sL sx cs 377 4 [(2, .int k), (1, .int 0), (0, .ref 157)] [] H R F := by
  refine ex_s (am_nb (m := 2) (pc1 := 7) (ls1 := [(2, .int k), (1, .int 0), (0, .ref 157)]) (st1 := [.int 127, .int k]) (H1 := H) (k1 := 0) (n1 := 0) (by with_unfolding_all rfl)) ?_
  refine ex_s (st_icmp rfl) ?_
  refine ex_pc (if_neg c1) ?_
  refine ex_s (am_nb (m := 1) (pc1 := 11) (ls1 := [(2, .int k), (1, .int 0), (0, .ref 157)]) (st1 := [.int k]) (H1 := H) (k1 := 0) (n1 := 0) (by with_unfolding_all rfl)) ?_
  refine ex_cs1 (as := [.int k]) (rest := []) rfl (by decide) rfl rfl (by with_unfolding_all rfl) (by with_unfolding_all rfl) (sc_a_1_3 c2 c3) ?_
  rintro H50 ⟨-, k50⟩
  refine ex_s (am_nb (m := 2) (pc1 := 21) (ls1 := [(2, .int k), (1, .int 0), (0, .ref 157)]) (st1 := [.ref 157]) (H1 := H50) (k1 := 0) (n1 := 0) (by with_unfolding_all rfl)) ?_
  refine ex_s (st_get rfl ((k50 157).trans h157) rfl) ?_
  refine ex_s (am_nb (m := 1) (pc1 := 25) (ls1 := [(2, .int k), (1, .int 0), (0, .ref 157)]) (st1 := [.int k, .ref 194]) (H1 := H50) (k1 := 0) (n1 := 0) (by with_unfolding_all rfl)) ?_
  refine ex_s (st_zald rfl ((k50 194).trans h194) s1) ?_
  refine ex_s (am_nb (m := 2) (pc1 := 30) (ls1 := [(2, .int k), (1, .int 0), (0, .ref 157)]) (st1 := [.ref 157]) (H1 := H50) (k1 := 0) (n1 := 0) (by with_unfolding_all rfl)) ?_
  refine ex_s (st_get rfl ((k50 157).trans h157) rfl) ?_
  refine ex_s (am_nb (m := 2) (pc1 := 35) (ls1 := [(2, .int k), (1, .int 0), (0, .ref 157)]) (st1 := [.int 0, .int k, .ref 195]) (H1 := H50) (k1 := 0) (n1 := 0) (by with_unfolding_all rfl)) ?_
  refine ex_zast rfl ((k50 195).trans h195) s1 ?_
  intro H56 f56 k56
  refine ex_s (am_nb (m := 1) (pc1 := 37) (ls1 := [(2, .int k), (1, .int 0), (0, .ref 157)]) (st1 := [.ref 157]) (H1 := H56) (k1 := 0) (n1 := 0) (by with_unfolding_all rfl)) ?_
  refine ex_s (st_get rfl ((k56 157 (by decide)).trans ((k50 157).trans h157)) rfl) ?_
  refine ex_s (am_nb (m := 1) (pc1 := 41) (ls1 := [(2, .int k), (1, .int 0), (0, .ref 157)]) (st1 := [.int k, .int (-1)]) (H1 := H56) (k1 := 0) (n1 := 0) (by with_unfolding_all rfl)) ?_
  refine ex_s (st_icmp rfl) ?_
  refine ex_pc (if_pos c4) ?_
  refine ex_s (am_nb (m := 2) (pc1 := 46) (ls1 := [(2, .int k), (1, .int 0), (0, .ref 157)]) (st1 := [.int (-1), .ref 157]) (H1 := H56) (k1 := 0) (n1 := 0) (by with_unfolding_all rfl)) ?_
  refine ex_put rfl ((k56 157 (by decide)).trans ((k50 157).trans h157)) rfl rfl rfl ?_
  intro H57 f57 k57
  refine ex_s (am_nb (m := 3) (pc1 := 4) (ls1 := [(2, .int (k + 1)), (1, .int 0), (0, .ref 157)]) (st1 := []) (H1 := H57) (k1 := 0) (n1 := 0) (by with_unfolding_all rfl)) ?_
  exact kk _ ⟨⟨((k57 195 (by decide)).trans f56), f57, trivial⟩, fun j n195 n157 => ((k57 j n157).trans ((k56 j n195).trans (k50 j)))⟩

set_option maxRecDepth 100000 in
theorem sc_a_6 {sL : Nat} {sx : Nat → Int32} {cs : Nat → Nat → Option Int32} {H : am_H} {R : Option Value} {F : am_H → Prop} {v157_68 : Int32} {v157_69 : Int32} {v157_70 : Int32} {v157_96 : Int32} {t : Int32} {k : Int32} {g195 : Nat → Int32} (h157 : am_is H 157 (.inr (12, [.int 0, .ref 158, .int 0, .ref 159, .int 0, .int 0, .ref 160, .ref 161, .ref 162, .ref 163, .ref 164, .ref 165, .ref 166, .int 0, .int (-1), .int 0, .int 0, .int 0, .ref 167, .int 0, .int 0, .int (-1), .ref 168, .int 0, .ref 169, .int 0, .int 0, .int 0, .ref 170, .ref 171, .int 0, .int 0, .int (-1), .int (-1), .int 0, .int 0, .int 0, .ref 172, .ref 173, .ref 174, .ref 175, .ref 176, .ref 177, .ref 178, .ref 179, .ref 180, .ref 181, .ref 182, .ref 183, .int 0, .int 0, .int 0, .int 0, .int 0, .ref 184, .int 0, .int 0, .int 0, .int 127, .int 0, .int 0, .int 0, .int 0, .int 0, .ref 185, .int 0, .ref 186, .int 0, .int v157_68, .int v157_69, .int v157_70, .int t, .int 0, .int 0, .int (-1), .int (-1), .int 0, .int 0, .ref 187, .int 0, .int 0, .int 0, .int 0, .int 0, .int 0, .int 0, .ref 188, .int 0, .ref 189, .int 0, .ref 190, .ref 191, .ref 192, .int 0, .int 0, .int 0, .int v157_96, .int 0, .int 96, .int 0, .int 0, .int 0, .int 0, .int 0, .int 0, .int 0, .int 0, .int 0, .int 0, .int 0, .int 0, .int 0, .int 0, .int 0, .ref 193, .int 0, .int 0, .int 0, .ref 194, .ref 195, .int (-1), .int 0]))) (h194 : am_is H 194 (.inl (.boolean, (127, .inl (fun _ => 0))))) (h195 : am_is H 195 (.inl (.boolean, (127, .inl g195)))) (c1 : ¬ 127 ≤ k) (c2 : ¬ k < 0) (c3 : k ≤ 28) (c4 : ¬ (-1) = k) (s1 : ¬ (k < 0 ∨ 127 ≤ k.toNatClampNeg)) (kk : ∀ H1 : am_H, ((am_is H1 195 (.inl (.boolean, (127, .inl (upd g195 k.toNatClampNeg (vp_nar .boolean 0))))) ∧ True) ∧ ∀ j : Nat, j ≠ 195 → H1[j]? = H[j]?) → am_E sL sx cs 377 4 [(2, .int (k + 1)), (1, .int 0), (0, .ref 157)] [] H1 R F) :
    am_E sL sx cs 377 4 [(2, .int k), (1, .int 0), (0, .ref 157)] [] H R F := by
  refine ex_s (am_nb (m := 2) (pc1 := 7) (ls1 := [(2, .int k), (1, .int 0), (0, .ref 157)]) (st1 := [.int 127, .int k]) (H1 := H) (k1 := 0) (n1 := 0) (by with_unfolding_all rfl)) ?_
  refine ex_s (st_icmp rfl) ?_
  refine ex_pc (if_neg c1) ?_
  refine ex_s (am_nb (m := 1) (pc1 := 11) (ls1 := [(2, .int k), (1, .int 0), (0, .ref 157)]) (st1 := [.int k]) (H1 := H) (k1 := 0) (n1 := 0) (by with_unfolding_all rfl)) ?_
  refine ex_cs1 (as := [.int k]) (rest := []) rfl (by decide) rfl rfl (by with_unfolding_all rfl) (by with_unfolding_all rfl) (sc_a_1_3 c2 c3) ?_
  rintro H50 ⟨-, k50⟩
  refine ex_s (am_nb (m := 2) (pc1 := 21) (ls1 := [(2, .int k), (1, .int 0), (0, .ref 157)]) (st1 := [.ref 157]) (H1 := H50) (k1 := 0) (n1 := 0) (by with_unfolding_all rfl)) ?_
  refine ex_s (st_get rfl ((k50 157).trans h157) rfl) ?_
  refine ex_s (am_nb (m := 1) (pc1 := 25) (ls1 := [(2, .int k), (1, .int 0), (0, .ref 157)]) (st1 := [.int k, .ref 194]) (H1 := H50) (k1 := 0) (n1 := 0) (by with_unfolding_all rfl)) ?_
  refine ex_s (st_zald rfl ((k50 194).trans h194) s1) ?_
  refine ex_s (am_nb (m := 2) (pc1 := 30) (ls1 := [(2, .int k), (1, .int 0), (0, .ref 157)]) (st1 := [.ref 157]) (H1 := H50) (k1 := 0) (n1 := 0) (by with_unfolding_all rfl)) ?_
  refine ex_s (st_get rfl ((k50 157).trans h157) rfl) ?_
  refine ex_s (am_nb (m := 2) (pc1 := 35) (ls1 := [(2, .int k), (1, .int 0), (0, .ref 157)]) (st1 := [.int 0, .int k, .ref 195]) (H1 := H50) (k1 := 0) (n1 := 0) (by with_unfolding_all rfl)) ?_
  refine ex_zast rfl ((k50 195).trans h195) s1 ?_
  intro H56 f56 k56
  refine ex_s (am_nb (m := 1) (pc1 := 37) (ls1 := [(2, .int k), (1, .int 0), (0, .ref 157)]) (st1 := [.ref 157]) (H1 := H56) (k1 := 0) (n1 := 0) (by with_unfolding_all rfl)) ?_
  refine ex_s (st_get rfl ((k56 157 (by decide)).trans ((k50 157).trans h157)) rfl) ?_
  refine ex_s (am_nb (m := 1) (pc1 := 41) (ls1 := [(2, .int k), (1, .int 0), (0, .ref 157)]) (st1 := [.int k, .int (-1)]) (H1 := H56) (k1 := 0) (n1 := 0) (by with_unfolding_all rfl)) ?_
  refine ex_s (st_icmp rfl) ?_
  refine ex_pc (if_neg c4) ?_
  refine ex_s (am_nb (m := 2) (pc1 := 4) (ls1 := [(2, .int (k + 1)), (1, .int 0), (0, .ref 157)]) (st1 := []) (H1 := H56) (k1 := 0) (n1 := 0) (by with_unfolding_all rfl)) ?_
  exact kk _ ⟨⟨f56, trivial⟩, fun j n195 => ((k56 j n195).trans (k50 j))⟩

set_option maxRecDepth 100000 in
theorem sc_a_7 {sL : Nat} {sx : Nat → Int32} {cs : Nat → Nat → Option Int32} {H : am_H} {R : Option Value} {F : am_H → Prop} {v157_68 : Int32} {v157_69 : Int32} {v157_70 : Int32} {v157_96 : Int32} {t : Int32} {k : Int32} {g195 : Nat → Int32} (h157 : am_is H 157 (.inr (12, [.int 0, .ref 158, .int 0, .ref 159, .int 0, .int 0, .ref 160, .ref 161, .ref 162, .ref 163, .ref 164, .ref 165, .ref 166, .int 0, .int (-1), .int 0, .int 0, .int 0, .ref 167, .int 0, .int 0, .int (-1), .ref 168, .int 0, .ref 169, .int 0, .int 0, .int 0, .ref 170, .ref 171, .int 0, .int 0, .int (-1), .int (-1), .int 0, .int 0, .int 0, .ref 172, .ref 173, .ref 174, .ref 175, .ref 176, .ref 177, .ref 178, .ref 179, .ref 180, .ref 181, .ref 182, .ref 183, .int 0, .int 0, .int 0, .int 0, .int 0, .ref 184, .int 0, .int 0, .int 0, .int 127, .int 0, .int 0, .int 0, .int 0, .int 0, .ref 185, .int 0, .ref 186, .int 0, .int v157_68, .int v157_69, .int v157_70, .int t, .int 0, .int 0, .int (-1), .int (-1), .int 0, .int 0, .ref 187, .int 0, .int 0, .int 0, .int 0, .int 0, .int 0, .int 0, .ref 188, .int 0, .ref 189, .int 0, .ref 190, .ref 191, .ref 192, .int 0, .int 0, .int 0, .int v157_96, .int 0, .int 96, .int 0, .int 0, .int 0, .int 0, .int 0, .int 0, .int 0, .int 0, .int 0, .int 0, .int 0, .int 0, .int 0, .int 0, .int 0, .ref 193, .int 0, .int 0, .int 0, .ref 194, .ref 195, .int (-1), .int 0]))) (h194 : am_is H 194 (.inl (.boolean, (127, .inl (fun _ => 0))))) (h195 : am_is H 195 (.inl (.boolean, (127, .inl g195)))) (c1 : ¬ 127 ≤ k) (c2 : ¬ k < 0) (c3 : ¬ k ≤ 28) (c4 : k < 32)  (kk : ∀ H1 : am_H, ((True) ∧ ∀ j : Nat, H1[j]? = H[j]?) → am_E sL sx cs 377 4 [(2, .int (k + 1)), (1, .int 0), (0, .ref 157)] [] H1 R F) :
    am_E sL sx cs 377 4 [(2, .int k), (1, .int 0), (0, .ref 157)] [] H R F := by
  refine ex_s (am_nb (m := 2) (pc1 := 7) (ls1 := [(2, .int k), (1, .int 0), (0, .ref 157)]) (st1 := [.int 127, .int k]) (H1 := H) (k1 := 0) (n1 := 0) (by with_unfolding_all rfl)) ?_
  refine ex_s (st_icmp rfl) ?_
  refine ex_pc (if_neg c1) ?_
  refine ex_s (am_nb (m := 1) (pc1 := 11) (ls1 := [(2, .int k), (1, .int 0), (0, .ref 157)]) (st1 := [.int k]) (H1 := H) (k1 := 0) (n1 := 0) (by with_unfolding_all rfl)) ?_
  refine ex_cs1 (as := [.int k]) (rest := []) rfl (by decide) rfl rfl (by with_unfolding_all rfl) (by with_unfolding_all rfl) (sc_a_1_4 c2 c3 c4) ?_
  rintro H51 ⟨-, k51⟩
  refine ex_s (am_nb (m := 4) (pc1 := 4) (ls1 := [(2, .int (k + 1)), (1, .int 0), (0, .ref 157)]) (st1 := []) (H1 := H51) (k1 := 0) (n1 := 0) (by with_unfolding_all rfl)) ?_
  exact kk _ ⟨trivial, fun j => (k51 j)⟩

set_option maxRecDepth 100000 in
theorem sc_a_8 {sL : Nat} {sx : Nat → Int32} {cs : Nat → Nat → Option Int32} {H : am_H} {R : Option Value} {F : am_H → Prop} {v157_68 : Int32} {v157_69 : Int32} {v157_70 : Int32} {v157_96 : Int32} {t : Int32} {k : Int32} {g195 : Nat → Int32} (h157 : am_is H 157 (.inr (12, [.int 0, .ref 158, .int 0, .ref 159, .int 0, .int 0, .ref 160, .ref 161, .ref 162, .ref 163, .ref 164, .ref 165, .ref 166, .int 0, .int (-1), .int 0, .int 0, .int 0, .ref 167, .int 0, .int 0, .int (-1), .ref 168, .int 0, .ref 169, .int 0, .int 0, .int 0, .ref 170, .ref 171, .int 0, .int 0, .int (-1), .int (-1), .int 0, .int 0, .int 0, .ref 172, .ref 173, .ref 174, .ref 175, .ref 176, .ref 177, .ref 178, .ref 179, .ref 180, .ref 181, .ref 182, .ref 183, .int 0, .int 0, .int 0, .int 0, .int 0, .ref 184, .int 0, .int 0, .int 0, .int 127, .int 0, .int 0, .int 0, .int 0, .int 0, .ref 185, .int 0, .ref 186, .int 0, .int v157_68, .int v157_69, .int v157_70, .int t, .int 0, .int 0, .int (-1), .int (-1), .int 0, .int 0, .ref 187, .int 0, .int 0, .int 0, .int 0, .int 0, .int 0, .int 0, .ref 188, .int 0, .ref 189, .int 0, .ref 190, .ref 191, .ref 192, .int 0, .int 0, .int 0, .int v157_96, .int 0, .int 96, .int 0, .int 0, .int 0, .int 0, .int 0, .int 0, .int 0, .int 0, .int 0, .int 0, .int 0, .int 0, .int 0, .int 0, .int 0, .ref 193, .int 0, .int 0, .int 0, .ref 194, .ref 195, .int (-1), .int 0]))) (h194 : am_is H 194 (.inl (.boolean, (127, .inl (fun _ => 0))))) (h195 : am_is H 195 (.inl (.boolean, (127, .inl g195)))) (c1 : ¬ 127 ≤ k) (c2 : ¬ k < 0) (c3 : ¬ k ≤ 28) (c4 : ¬ k < 32) (c5 : 126 < k)  (kk : ∀ H1 : am_H, ((True) ∧ ∀ j : Nat, H1[j]? = H[j]?) → am_E sL sx cs 377 4 [(2, .int (k + 1)), (1, .int 0), (0, .ref 157)] [] H1 R F) :
    am_E sL sx cs 377 4 [(2, .int k), (1, .int 0), (0, .ref 157)] [] H R F := by
  refine ex_s (am_nb (m := 2) (pc1 := 7) (ls1 := [(2, .int k), (1, .int 0), (0, .ref 157)]) (st1 := [.int 127, .int k]) (H1 := H) (k1 := 0) (n1 := 0) (by with_unfolding_all rfl)) ?_
  refine ex_s (st_icmp rfl) ?_
  refine ex_pc (if_neg c1) ?_
  refine ex_s (am_nb (m := 1) (pc1 := 11) (ls1 := [(2, .int k), (1, .int 0), (0, .ref 157)]) (st1 := [.int k]) (H1 := H) (k1 := 0) (n1 := 0) (by with_unfolding_all rfl)) ?_
  refine ex_cs1 (as := [.int k]) (rest := []) rfl (by decide) rfl rfl (by with_unfolding_all rfl) (by with_unfolding_all rfl) (sc_a_1_5 c2 c3 c4 c5) ?_
  rintro H52 ⟨-, k52⟩
  refine ex_s (am_nb (m := 4) (pc1 := 4) (ls1 := [(2, .int (k + 1)), (1, .int 0), (0, .ref 157)]) (st1 := []) (H1 := H52) (k1 := 0) (n1 := 0) (by with_unfolding_all rfl)) ?_
  exact kk _ ⟨trivial, fun j => (k52 j)⟩

set_option maxRecDepth 100000 in
theorem sc_a_9 {sL : Nat} {sx : Nat → Int32} {cs : Nat → Nat → Option Int32} {H : am_H} {R : Option Value} {F : am_H → Prop} {v157_68 : Int32} {v157_69 : Int32} {v157_70 : Int32} {v157_96 : Int32} {t : Int32} {k : Int32} {g195 : Nat → Int32} (h157 : am_is H 157 (.inr (12, [.int 0, .ref 158, .int 0, .ref 159, .int 0, .int 0, .ref 160, .ref 161, .ref 162, .ref 163, .ref 164, .ref 165, .ref 166, .int 0, .int (-1), .int 0, .int 0, .int 0, .ref 167, .int 0, .int 0, .int (-1), .ref 168, .int 0, .ref 169, .int 0, .int 0, .int 0, .ref 170, .ref 171, .int 0, .int 0, .int (-1), .int (-1), .int 0, .int 0, .int 0, .ref 172, .ref 173, .ref 174, .ref 175, .ref 176, .ref 177, .ref 178, .ref 179, .ref 180, .ref 181, .ref 182, .ref 183, .int 0, .int 0, .int 0, .int 0, .int 0, .ref 184, .int 0, .int 0, .int 0, .int 127, .int 0, .int 0, .int 0, .int 0, .int 0, .ref 185, .int 0, .ref 186, .int 0, .int v157_68, .int v157_69, .int v157_70, .int t, .int 0, .int 0, .int (-1), .int (-1), .int 0, .int 0, .ref 187, .int 0, .int 0, .int 0, .int 0, .int 0, .int 0, .int 0, .ref 188, .int 0, .ref 189, .int 0, .ref 190, .ref 191, .ref 192, .int 0, .int 0, .int 0, .int v157_96, .int 0, .int 96, .int 0, .int 0, .int 0, .int 0, .int 0, .int 0, .int 0, .int 0, .int 0, .int 0, .int 0, .int 0, .int 0, .int 0, .int 0, .ref 193, .int 0, .int 0, .int 0, .ref 194, .ref 195, .int (-1), .int 0]))) (h194 : am_is H 194 (.inl (.boolean, (127, .inl (fun _ => 0))))) (h195 : am_is H 195 (.inl (.boolean, (127, .inl g195)))) (c1 : ¬ 127 ≤ k) (c2 : ¬ k < 0) (c3 : ¬ k ≤ 28) (c4 : ¬ k < 32) (c5 : ¬ 126 < k) (c6 : (-1) = k) (s1 : ¬ (k < 0 ∨ 127 ≤ k.toNatClampNeg)) (kk : ∀ H1 : am_H, ((am_is H1 195 (.inl (.boolean, (127, .inl (upd g195 k.toNatClampNeg (vp_nar .boolean 0))))) ∧ am_is H1 157 (.inr (12, [.int 0, .ref 158, .int 0, .ref 159, .int 0, .int 0, .ref 160, .ref 161, .ref 162, .ref 163, .ref 164, .ref 165, .ref 166, .int 0, .int (-1), .int 0, .int 0, .int 0, .ref 167, .int 0, .int 0, .int (-1), .ref 168, .int 0, .ref 169, .int 0, .int 0, .int 0, .ref 170, .ref 171, .int 0, .int 0, .int (-1), .int (-1), .int 0, .int 0, .int 0, .ref 172, .ref 173, .ref 174, .ref 175, .ref 176, .ref 177, .ref 178, .ref 179, .ref 180, .ref 181, .ref 182, .ref 183, .int 0, .int 0, .int 0, .int 0, .int 0, .ref 184, .int 0, .int 0, .int 0, .int 127, .int 0, .int 0, .int 0, .int 0, .int 0, .ref 185, .int 0, .ref 186, .int 0, .int v157_68, .int v157_69, .int v157_70, .int t, .int 0, .int 0, .int (-1), .int (-1), .int 0, .int 0, .ref 187, .int 0, .int 0, .int 0, .int 0, .int 0, .int 0, .int 0, .ref 188, .int 0, .ref 189, .int 0, .ref 190, .ref 191, .ref 192, .int 0, .int 0, .int 0, .int v157_96, .int 0, .int 96, .int 0, .int 0, .int 0, .int 0, .int 0, .int 0, .int 0, .int 0, .int 0, .int 0, .int 0, .int 0, .int 0, .int 0, .int 0, .ref 193, .int 0, .int 0, .int 0, .ref 194, .ref 195, .int (-1), .int 0])) ∧ True) ∧ ∀ j : Nat, j ≠ 195 → j ≠ 157 → H1[j]? = H[j]?) → am_E sL sx cs 377 4 [(2, .int (k + 1)), (1, .int 0), (0, .ref 157)] [] H1 R F) :
    am_E sL sx cs 377 4 [(2, .int k), (1, .int 0), (0, .ref 157)] [] H R F := by
  refine ex_s (am_nb (m := 2) (pc1 := 7) (ls1 := [(2, .int k), (1, .int 0), (0, .ref 157)]) (st1 := [.int 127, .int k]) (H1 := H) (k1 := 0) (n1 := 0) (by with_unfolding_all rfl)) ?_
  refine ex_s (st_icmp rfl) ?_
  refine ex_pc (if_neg c1) ?_
  refine ex_s (am_nb (m := 1) (pc1 := 11) (ls1 := [(2, .int k), (1, .int 0), (0, .ref 157)]) (st1 := [.int k]) (H1 := H) (k1 := 0) (n1 := 0) (by with_unfolding_all rfl)) ?_
  refine ex_cs1 (as := [.int k]) (rest := []) rfl (by decide) rfl rfl (by with_unfolding_all rfl) (by with_unfolding_all rfl) (sc_a_1_6 c2 c3 c4 c5) ?_
  rintro H53 ⟨-, k53⟩
  refine ex_s (am_nb (m := 2) (pc1 := 21) (ls1 := [(2, .int k), (1, .int 0), (0, .ref 157)]) (st1 := [.ref 157]) (H1 := H53) (k1 := 0) (n1 := 0) (by with_unfolding_all rfl)) ?_
  refine ex_s (st_get rfl ((k53 157).trans h157) rfl) ?_
  refine ex_s (am_nb (m := 1) (pc1 := 25) (ls1 := [(2, .int k), (1, .int 0), (0, .ref 157)]) (st1 := [.int k, .ref 194]) (H1 := H53) (k1 := 0) (n1 := 0) (by with_unfolding_all rfl)) ?_
  refine ex_s (st_zald rfl ((k53 194).trans h194) s1) ?_
  refine ex_s (am_nb (m := 2) (pc1 := 30) (ls1 := [(2, .int k), (1, .int 0), (0, .ref 157)]) (st1 := [.ref 157]) (H1 := H53) (k1 := 0) (n1 := 0) (by with_unfolding_all rfl)) ?_
  refine ex_s (st_get rfl ((k53 157).trans h157) rfl) ?_
  refine ex_s (am_nb (m := 2) (pc1 := 35) (ls1 := [(2, .int k), (1, .int 0), (0, .ref 157)]) (st1 := [.int 0, .int k, .ref 195]) (H1 := H53) (k1 := 0) (n1 := 0) (by with_unfolding_all rfl)) ?_
  refine ex_zast rfl ((k53 195).trans h195) s1 ?_
  intro H58 f58 k58
  refine ex_s (am_nb (m := 1) (pc1 := 37) (ls1 := [(2, .int k), (1, .int 0), (0, .ref 157)]) (st1 := [.ref 157]) (H1 := H58) (k1 := 0) (n1 := 0) (by with_unfolding_all rfl)) ?_
  refine ex_s (st_get rfl ((k58 157 (by decide)).trans ((k53 157).trans h157)) rfl) ?_
  refine ex_s (am_nb (m := 1) (pc1 := 41) (ls1 := [(2, .int k), (1, .int 0), (0, .ref 157)]) (st1 := [.int k, .int (-1)]) (H1 := H58) (k1 := 0) (n1 := 0) (by with_unfolding_all rfl)) ?_
  refine ex_s (st_icmp rfl) ?_
  refine ex_pc (if_pos c6) ?_
  refine ex_s (am_nb (m := 2) (pc1 := 46) (ls1 := [(2, .int k), (1, .int 0), (0, .ref 157)]) (st1 := [.int (-1), .ref 157]) (H1 := H58) (k1 := 0) (n1 := 0) (by with_unfolding_all rfl)) ?_
  refine ex_put rfl ((k58 157 (by decide)).trans ((k53 157).trans h157)) rfl rfl rfl ?_
  intro H59 f59 k59
  refine ex_s (am_nb (m := 3) (pc1 := 4) (ls1 := [(2, .int (k + 1)), (1, .int 0), (0, .ref 157)]) (st1 := []) (H1 := H59) (k1 := 0) (n1 := 0) (by with_unfolding_all rfl)) ?_
  exact kk _ ⟨⟨((k59 195 (by decide)).trans f58), f59, trivial⟩, fun j n195 n157 => ((k59 j n157).trans ((k58 j n195).trans (k53 j)))⟩

set_option maxRecDepth 100000 in
theorem sc_a_10 {sL : Nat} {sx : Nat → Int32} {cs : Nat → Nat → Option Int32} {H : am_H} {R : Option Value} {F : am_H → Prop} {v157_68 : Int32} {v157_69 : Int32} {v157_70 : Int32} {v157_96 : Int32} {t : Int32} {k : Int32} {g195 : Nat → Int32} (h157 : am_is H 157 (.inr (12, [.int 0, .ref 158, .int 0, .ref 159, .int 0, .int 0, .ref 160, .ref 161, .ref 162, .ref 163, .ref 164, .ref 165, .ref 166, .int 0, .int (-1), .int 0, .int 0, .int 0, .ref 167, .int 0, .int 0, .int (-1), .ref 168, .int 0, .ref 169, .int 0, .int 0, .int 0, .ref 170, .ref 171, .int 0, .int 0, .int (-1), .int (-1), .int 0, .int 0, .int 0, .ref 172, .ref 173, .ref 174, .ref 175, .ref 176, .ref 177, .ref 178, .ref 179, .ref 180, .ref 181, .ref 182, .ref 183, .int 0, .int 0, .int 0, .int 0, .int 0, .ref 184, .int 0, .int 0, .int 0, .int 127, .int 0, .int 0, .int 0, .int 0, .int 0, .ref 185, .int 0, .ref 186, .int 0, .int v157_68, .int v157_69, .int v157_70, .int t, .int 0, .int 0, .int (-1), .int (-1), .int 0, .int 0, .ref 187, .int 0, .int 0, .int 0, .int 0, .int 0, .int 0, .int 0, .ref 188, .int 0, .ref 189, .int 0, .ref 190, .ref 191, .ref 192, .int 0, .int 0, .int 0, .int v157_96, .int 0, .int 96, .int 0, .int 0, .int 0, .int 0, .int 0, .int 0, .int 0, .int 0, .int 0, .int 0, .int 0, .int 0, .int 0, .int 0, .int 0, .ref 193, .int 0, .int 0, .int 0, .ref 194, .ref 195, .int (-1), .int 0]))) (h194 : am_is H 194 (.inl (.boolean, (127, .inl (fun _ => 0))))) (h195 : am_is H 195 (.inl (.boolean, (127, .inl g195)))) (c1 : ¬ 127 ≤ k) (c2 : ¬ k < 0) (c3 : ¬ k ≤ 28) (c4 : ¬ k < 32) (c5 : ¬ 126 < k) (c6 : ¬ (-1) = k) (s1 : ¬ (k < 0 ∨ 127 ≤ k.toNatClampNeg)) (kk : ∀ H1 : am_H, ((am_is H1 195 (.inl (.boolean, (127, .inl (upd g195 k.toNatClampNeg (vp_nar .boolean 0))))) ∧ True) ∧ ∀ j : Nat, j ≠ 195 → H1[j]? = H[j]?) → am_E sL sx cs 377 4 [(2, .int (k + 1)), (1, .int 0), (0, .ref 157)] [] H1 R F) :
    am_E sL sx cs 377 4 [(2, .int k), (1, .int 0), (0, .ref 157)] [] H R F := by
  refine ex_s (am_nb (m := 2) (pc1 := 7) (ls1 := [(2, .int k), (1, .int 0), (0, .ref 157)]) (st1 := [.int 127, .int k]) (H1 := H) (k1 := 0) (n1 := 0) (by with_unfolding_all rfl)) ?_
  refine ex_s (st_icmp rfl) ?_
  refine ex_pc (if_neg c1) ?_
  refine ex_s (am_nb (m := 1) (pc1 := 11) (ls1 := [(2, .int k), (1, .int 0), (0, .ref 157)]) (st1 := [.int k]) (H1 := H) (k1 := 0) (n1 := 0) (by with_unfolding_all rfl)) ?_
  refine ex_cs1 (as := [.int k]) (rest := []) rfl (by decide) rfl rfl (by with_unfolding_all rfl) (by with_unfolding_all rfl) (sc_a_1_6 c2 c3 c4 c5) ?_
  rintro H53 ⟨-, k53⟩
  refine ex_s (am_nb (m := 2) (pc1 := 21) (ls1 := [(2, .int k), (1, .int 0), (0, .ref 157)]) (st1 := [.ref 157]) (H1 := H53) (k1 := 0) (n1 := 0) (by with_unfolding_all rfl)) ?_
  refine ex_s (st_get rfl ((k53 157).trans h157) rfl) ?_
  refine ex_s (am_nb (m := 1) (pc1 := 25) (ls1 := [(2, .int k), (1, .int 0), (0, .ref 157)]) (st1 := [.int k, .ref 194]) (H1 := H53) (k1 := 0) (n1 := 0) (by with_unfolding_all rfl)) ?_
  refine ex_s (st_zald rfl ((k53 194).trans h194) s1) ?_
  refine ex_s (am_nb (m := 2) (pc1 := 30) (ls1 := [(2, .int k), (1, .int 0), (0, .ref 157)]) (st1 := [.ref 157]) (H1 := H53) (k1 := 0) (n1 := 0) (by with_unfolding_all rfl)) ?_
  refine ex_s (st_get rfl ((k53 157).trans h157) rfl) ?_
  refine ex_s (am_nb (m := 2) (pc1 := 35) (ls1 := [(2, .int k), (1, .int 0), (0, .ref 157)]) (st1 := [.int 0, .int k, .ref 195]) (H1 := H53) (k1 := 0) (n1 := 0) (by with_unfolding_all rfl)) ?_
  refine ex_zast rfl ((k53 195).trans h195) s1 ?_
  intro H58 f58 k58
  refine ex_s (am_nb (m := 1) (pc1 := 37) (ls1 := [(2, .int k), (1, .int 0), (0, .ref 157)]) (st1 := [.ref 157]) (H1 := H58) (k1 := 0) (n1 := 0) (by with_unfolding_all rfl)) ?_
  refine ex_s (st_get rfl ((k58 157 (by decide)).trans ((k53 157).trans h157)) rfl) ?_
  refine ex_s (am_nb (m := 1) (pc1 := 41) (ls1 := [(2, .int k), (1, .int 0), (0, .ref 157)]) (st1 := [.int k, .int (-1)]) (H1 := H58) (k1 := 0) (n1 := 0) (by with_unfolding_all rfl)) ?_
  refine ex_s (st_icmp rfl) ?_
  refine ex_pc (if_neg c6) ?_
  refine ex_s (am_nb (m := 2) (pc1 := 4) (ls1 := [(2, .int (k + 1)), (1, .int 0), (0, .ref 157)]) (st1 := []) (H1 := H58) (k1 := 0) (n1 := 0) (by with_unfolding_all rfl)) ?_
  exact kk _ ⟨⟨f58, trivial⟩, fun j n195 => ((k58 j n195).trans (k53 j))⟩
/-! p1: a scan without keys. -/
theorem p1_k : ∀ k : Nat, k < 127 → ¬ (127 : Int32) ≤ Int32.ofNat k ∧ ¬ Int32.ofNat k < 0 ∧ ¬ (-1 : Int32) = Int32.ofNat k ∧ ¬ (126 : Int32) < Int32.ofNat k ∧ ¬ (Int32.ofNat k < 0 ∨ 127 ≤ (Int32.ofNat k).toNatClampNeg) := by decide +kernel
theorem sc_loop {sL : Nat} {sx : Nat → Int32} {cs : Nat → Nat → Option Int32} {v157_68 v157_69 v157_70 v157_96 t : Int32} {R : Option Value} {F : am_H → Prop} : ∀ (r k : Nat) (H : am_H) (g : Nat → Int32), k + r = 127 → am_is H 157 (.inr (12, [.int 0, .ref 158, .int 0, .ref 159, .int 0, .int 0, .ref 160, .ref 161, .ref 162, .ref 163, .ref 164, .ref 165, .ref 166, .int 0, .int (-1), .int 0, .int 0, .int 0, .ref 167, .int 0, .int 0, .int (-1), .ref 168, .int 0, .ref 169, .int 0, .int 0, .int 0, .ref 170, .ref 171, .int 0, .int 0, .int (-1), .int (-1), .int 0, .int 0, .int 0, .ref 172, .ref 173, .ref 174, .ref 175, .ref 176, .ref 177, .ref 178, .ref 179, .ref 180, .ref 181, .ref 182, .ref 183, .int 0, .int 0, .int 0, .int 0, .int 0, .ref 184, .int 0, .int 0, .int 0, .int 127, .int 0, .int 0, .int 0, .int 0, .int 0, .ref 185, .int 0, .ref 186, .int 0, .int v157_68, .int v157_69, .int v157_70, .int t, .int 0, .int 0, .int (-1), .int (-1), .int 0, .int 0, .ref 187, .int 0, .int 0, .int 0, .int 0, .int 0, .int 0, .int 0, .ref 188, .int 0, .ref 189, .int 0, .ref 190, .ref 191, .ref 192, .int 0, .int 0, .int 0, .int v157_96, .int 0, .int 96, .int 0, .int 0, .int 0, .int 0, .int 0, .int 0, .int 0, .int 0, .int 0, .int 0, .int 0, .int 0, .int 0, .int 0, .int 0, .ref 193, .int 0, .int 0, .int 0, .ref 194, .ref 195, .int (-1), .int 0])) → am_is H 194 (.inl (.boolean, (127, .inl (fun _ => 0)))) → am_is H 195 (.inl (.boolean, (127, .inl g))) → (∀ i, g i = 0) →
    (∀ H1 : am_H, am_is H1 157 (.inr (12, [.int 0, .ref 158, .int 0, .ref 159, .int 0, .int 0, .ref 160, .ref 161, .ref 162, .ref 163, .ref 164, .ref 165, .ref 166, .int 0, .int (-1), .int 0, .int 0, .int 0, .ref 167, .int 0, .int 0, .int (-1), .ref 168, .int 0, .ref 169, .int 0, .int 0, .int 0, .ref 170, .ref 171, .int 0, .int 0, .int (-1), .int (-1), .int 0, .int 0, .int 0, .ref 172, .ref 173, .ref 174, .ref 175, .ref 176, .ref 177, .ref 178, .ref 179, .ref 180, .ref 181, .ref 182, .ref 183, .int 0, .int 0, .int 0, .int 0, .int 0, .ref 184, .int 0, .int 0, .int 0, .int 127, .int 0, .int 0, .int 0, .int 0, .int 0, .ref 185, .int 0, .ref 186, .int 0, .int v157_68, .int v157_69, .int v157_70, .int t, .int 0, .int 0, .int (-1), .int (-1), .int 0, .int 0, .ref 187, .int 0, .int 0, .int 0, .int 0, .int 0, .int 0, .int 0, .ref 188, .int 0, .ref 189, .int 0, .ref 190, .ref 191, .ref 192, .int 0, .int 0, .int 0, .int v157_96, .int 0, .int 96, .int 0, .int 0, .int 0, .int 0, .int 0, .int 0, .int 0, .int 0, .int 0, .int 0, .int 0, .int 0, .int 0, .int 0, .int 0, .ref 193, .int 0, .int 0, .int 0, .ref 194, .ref 195, .int (-1), .int 0])) → am_is H1 194 (.inl (.boolean, (127, .inl (fun _ => 0)))) → am_is H1 195 (.inl (.boolean, (127, .inl (fun _ => 0)))) → (∀ j : Nat, j ≠ 195 → H1[j]? = H[j]?) → am_E sL sx cs 377 4 [(2, .int 127), (1, .int 0), (0, .ref 157)] [] H1 R F) →
    am_E sL sx cs 377 4 [(2, .int (Int32.ofNat k)), (1, .int 0), (0, .ref 157)] [] H R F
  | 0, k, H, g, hk, h157, h194, h195, hg, kk => by
    have e : k = 127 := by omega
    subst e
    have eg : g = fun _ => 0 := funext hg
    subst eg
    exact kk H h157 h194 h195 (fun j _ => rfl)
  | r + 1, k, H, g, hk, h157, h194, h195, hg, kk => by
    obtain ⟨c1, c2, cm, c5, s1⟩ := p1_k k (by omega)
    have step : ∀ H1 : am_H, am_is H1 195 (.inl (.boolean, (127, .inl (upd g ((Int32.ofNat k).toNatClampNeg) (vp_nar .boolean 0))))) → (∀ j : Nat, j ≠ 195 → H1[j]? = H[j]?) → am_E sL sx cs 377 4 [(2, .int (Int32.ofNat k + 1)), (1, .int 0), (0, .ref 157)] [] H1 R F := by
      intro H1 f1 k1
      rw [← inc_ofNat]
      refine sc_loop r (k + 1) H1 _ (by omega) ((k1 157 (by decide)).trans h157) ((k1 194 (by decide)).trans h194) f1 (fun i => ?_) (fun H2 a b c d => kk H2 a b c (fun j hj => (d j hj).trans (k1 j hj)))
      unfold upd
      split
      · rfl
      · exact hg i
    by_cases c3 : Int32.ofNat k ≤ 28
    · exact sc_a_6 h157 h194 h195 c1 c2 c3 cm s1 (fun H1 q => step H1 q.1.1 q.2)
    · by_cases c4 : Int32.ofNat k < 32
      · refine sc_a_7 h157 h194 h195 c1 c2 c3 c4 (fun H1 q => ?_)
        rw [← inc_ofNat]
        exact sc_loop r (k + 1) H1 g (by omega) ((q.2 157).trans h157) ((q.2 194).trans h194) ((q.2 195).trans h195) hg (fun H2 a b c d => kk H2 a b c (fun j hj => (d j hj).trans (q.2 j)))
      · exact sc_a_10 h157 h194 h195 c1 c2 c3 c4 c5 cm s1 (fun H1 q => step H1 q.1.1 q.2)
theorem am_E.mono {sL : Nat} {sx : Nat → Int32} {cs : Nat → Nat → Option Int32} {y pc : Nat} {ls : am_L} {st : List Value} {H : am_H} {R : Option Value} {F G : am_H → Prop} (h : am_E sL sx cs y pc ls st H R F) (k : ∀ H1, F H1 → G H1) : am_E sL sx cs y pc ls st H R G := by
  obtain ⟨H1, e, f⟩ := h
  exact ⟨H1, e, k H1 f⟩
theorem sc_ok {sL : Nat} {sx : Nat → Int32} {cs : Nat → Nat → Option Int32} {H : am_H} {v157_68 v157_69 v157_70 v157_96 t : Int32} (h157 : am_is H 157 (.inr (12, [.int 0, .ref 158, .int 0, .ref 159, .int 0, .int 0, .ref 160, .ref 161, .ref 162, .ref 163, .ref 164, .ref 165, .ref 166, .int 0, .int (-1), .int 0, .int 0, .int 0, .ref 167, .int 0, .int 0, .int (-1), .ref 168, .int 0, .ref 169, .int 0, .int 0, .int 0, .ref 170, .ref 171, .int 0, .int 0, .int (-1), .int (-1), .int 0, .int 0, .int 0, .ref 172, .ref 173, .ref 174, .ref 175, .ref 176, .ref 177, .ref 178, .ref 179, .ref 180, .ref 181, .ref 182, .ref 183, .int 0, .int 0, .int 0, .int 0, .int 0, .ref 184, .int 0, .int 0, .int 0, .int 127, .int 0, .int 0, .int 0, .int 0, .int 0, .ref 185, .int 0, .ref 186, .int 0, .int v157_68, .int v157_69, .int v157_70, .int t, .int 0, .int 0, .int (-1), .int (-1), .int 0, .int 0, .ref 187, .int 0, .int 0, .int 0, .int 0, .int 0, .int 0, .int 0, .ref 188, .int 0, .ref 189, .int 0, .ref 190, .ref 191, .ref 192, .int 0, .int 0, .int 0, .int v157_96, .int 0, .int 96, .int 0, .int 0, .int 0, .int 0, .int 0, .int 0, .int 0, .int 0, .int 0, .int 0, .int 0, .int 0, .int 0, .int 0, .int 0, .ref 193, .int 0, .int 0, .int 0, .ref 194, .ref 195, .int (-1), .int 0]))) (h194 : am_is H 194 (.inl (.boolean, (127, .inl (fun _ => 0))))) (h195 : am_is H 195 (.inl (.boolean, (127, .inl (fun _ => 0))))) :
    am_E sL sx cs 377 0 [(0, .ref 157)] [] H none (fun H1 => (am_is H1 195 (.inl (.boolean, (127, .inl (fun _ => 0)))) ∧ True) ∧ ∀ j : Nat, j ≠ 195 → H1[j]? = H[j]?) := by
  refine sc_e_0 (fun H1 q => ?_)
  refine sc_loop 127 0 H1 (fun _ => 0) rfl ((q.2 157).trans h157) ((q.2 194).trans h194) ((q.2 195).trans h195) (fun _ => rfl) (fun H2 a b c d => ?_)
  exact (sc_a_0 a b c (by decide)).mono (fun H3 z => ⟨⟨(z.2 195).trans c, trivial⟩, fun j hj => (z.2 j).trans ((d j hj).trans (q.2 j))⟩)
