/-! The class's constructor. -/
def ci_3F  (H H1 : am_H) : Prop := (am_is H1 10 (.inl (.int, (48, .inl (fun _ => 0)))) ∧ am_is H1 9 (.inr (2, [.ref 10, .ref 11, .int 0, .ref 12, .ref 13, .ref 14, .ref 15])) ∧ am_is H1 11 (.inl (.int, (4, .inl (fun _ => 0)))) ∧ am_is H1 12 (.inl (.boolean, (39, .inl (fun _ => 0)))) ∧ am_is H1 13 (.inl (.int, (6, .inl (fun _ => 0)))) ∧ am_is H1 14 (.inl (.int, (1320, .inl (fun _ => 0)))) ∧ am_is H1 15 (.inl (.int, (33, .inl (fun _ => 0)))) ∧ True) ∧ H1.length = 16 ∧ ∀ j : Nat, j ≠ 9 → j < 10 → H1[j]? = H[j]?
set_option maxRecDepth 100000 in
theorem ci_3 {sL : Nat} {sx : Nat → Int32} {cs : Nat → Nat → Option Int32} {H : am_H}  (hl : H.length = 10) (h9 : H[9]? = some (.inr (2, [.null, .null, .int 0, .null, .null, .null, .null]))) :
    am_NW sL sx cs 2 0 [(0, .ref 9)] [] H 0 0 none 6 1450 (ci_3F H) := by
  refine en_s (am_nb (m := 4) (pc1 := 7) (ls1 := [(0, .ref 9)]) (st1 := [.int 48, .ref 9]) (H1 := H) (k1 := 0) (n1 := 0) (by with_unfolding_all rfl)) ?_
  refine en_newa (N := 10) (m := 48) (ty := .int) rfl hl rfl (by decide) (by with_unfolding_all rfl) rfl rfl ?_
  intro H18 l18 f18 k18
  refine en_put rfl l18 ((k18 9 (Nat.le_of_ble_eq_true rfl : 9 < 10)).trans h9) rfl rfl rfl ?_
  intro H19 l19 f19 k19
  refine en_s (am_nb (m := 2) (pc1 := 14) (ls1 := [(0, .ref 9)]) (st1 := [.int 4, .ref 9]) (H1 := H19) (k1 := 1) (n1 := 48) (by with_unfolding_all rfl)) ?_
  refine en_newa (N := 11) (m := 4) (ty := .int) rfl l19 rfl (by decide) (by with_unfolding_all rfl) rfl rfl ?_
  intro H20 l20 f20 k20
  refine en_put rfl l20 ((k20 9 (Nat.le_of_ble_eq_true rfl : 9 < 11)).trans f19) rfl rfl rfl ?_
  intro H21 l21 f21 k21
  refine en_s (am_nb (m := 2) (pc1 := 22) (ls1 := [(0, .ref 9)]) (st1 := [.int 39, .ref 9]) (H1 := H21) (k1 := 2) (n1 := 52) (by with_unfolding_all rfl)) ?_
  refine en_newa (N := 12) (m := 39) (ty := .boolean) rfl l21 rfl (by decide) (by with_unfolding_all rfl) rfl rfl ?_
  intro H22 l22 f22 k22
  refine en_put rfl l22 ((k22 9 (Nat.le_of_ble_eq_true rfl : 9 < 12)).trans f21) rfl rfl rfl ?_
  intro H23 l23 f23 k23
  refine en_s (am_nb (m := 2) (pc1 := 30) (ls1 := [(0, .ref 9)]) (st1 := [.int 6, .ref 9]) (H1 := H23) (k1 := 3) (n1 := 91) (by with_unfolding_all rfl)) ?_
  refine en_newa (N := 13) (m := 6) (ty := .int) rfl l23 rfl (by decide) (by with_unfolding_all rfl) rfl rfl ?_
  intro H24 l24 f24 k24
  refine en_put rfl l24 ((k24 9 (Nat.le_of_ble_eq_true rfl : 9 < 13)).trans f23) rfl rfl rfl ?_
  intro H25 l25 f25 k25
  refine en_s (am_nb (m := 2) (pc1 := 39) (ls1 := [(0, .ref 9)]) (st1 := [.int 1320, .ref 9]) (H1 := H25) (k1 := 4) (n1 := 97) (by with_unfolding_all rfl)) ?_
  refine en_newa (N := 14) (m := 1320) (ty := .int) rfl l25 rfl (by decide) (by with_unfolding_all rfl) rfl rfl ?_
  intro H26 l26 f26 k26
  refine en_put rfl l26 ((k26 9 (Nat.le_of_ble_eq_true rfl : 9 < 14)).trans f25) rfl rfl rfl ?_
  intro H27 l27 f27 k27
  refine en_s (am_nb (m := 2) (pc1 := 47) (ls1 := [(0, .ref 9)]) (st1 := [.int 33, .ref 9]) (H1 := H27) (k1 := 5) (n1 := 1417) (by with_unfolding_all rfl)) ?_
  refine en_newa (N := 15) (m := 33) (ty := .int) rfl l27 rfl (by decide) (by with_unfolding_all rfl) rfl rfl ?_
  intro H28 l28 f28 k28
  refine en_put rfl l28 ((k28 9 (Nat.le_of_ble_eq_true rfl : 9 < 15)).trans f27) rfl rfl rfl ?_
  intro H29 l29 f29 k29
  have K11 : ∀ j : Nat, j < 16 → j ≠ 9 → H29[j]? = H28[j]? := fun j hj n9 => (k29 j n9)
  have K10 : ∀ j : Nat, j < 15 → j ≠ 9 → H29[j]? = H27[j]? := fun j hj n9 => (K11 j (Nat.lt_of_lt_of_le hj (Nat.le_of_ble_eq_true rfl : 15 ≤ 16)) n9).trans (k28 j hj)
  have K9 : ∀ j : Nat, j < 15 → j ≠ 9 → H29[j]? = H26[j]? := fun j hj n9 => (K10 j hj n9).trans (k27 j n9)
  have K8 : ∀ j : Nat, j < 14 → j ≠ 9 → H29[j]? = H25[j]? := fun j hj n9 => (K9 j (Nat.lt_of_lt_of_le hj (Nat.le_of_ble_eq_true rfl : 14 ≤ 15)) n9).trans (k26 j hj)
  have K7 : ∀ j : Nat, j < 14 → j ≠ 9 → H29[j]? = H24[j]? := fun j hj n9 => (K8 j hj n9).trans (k25 j n9)
  have K6 : ∀ j : Nat, j < 13 → j ≠ 9 → H29[j]? = H23[j]? := fun j hj n9 => (K7 j (Nat.lt_of_lt_of_le hj (Nat.le_of_ble_eq_true rfl : 13 ≤ 14)) n9).trans (k24 j hj)
  have K5 : ∀ j : Nat, j < 13 → j ≠ 9 → H29[j]? = H22[j]? := fun j hj n9 => (K6 j hj n9).trans (k23 j n9)
  have K4 : ∀ j : Nat, j < 12 → j ≠ 9 → H29[j]? = H21[j]? := fun j hj n9 => (K5 j (Nat.lt_of_lt_of_le hj (Nat.le_of_ble_eq_true rfl : 12 ≤ 13)) n9).trans (k22 j hj)
  have K3 : ∀ j : Nat, j < 12 → j ≠ 9 → H29[j]? = H20[j]? := fun j hj n9 => (K4 j hj n9).trans (k21 j n9)
  have K2 : ∀ j : Nat, j < 11 → j ≠ 9 → H29[j]? = H19[j]? := fun j hj n9 => (K3 j (Nat.lt_of_lt_of_le hj (Nat.le_of_ble_eq_true rfl : 11 ≤ 12)) n9).trans (k20 j hj)
  have K1 : ∀ j : Nat, j < 11 → j ≠ 9 → H29[j]? = H18[j]? := fun j hj n9 => (K2 j hj n9).trans (k19 j n9)
  have K0 : ∀ j : Nat, j < 10 → j ≠ 9 → H29[j]? = H[j]? := fun j hj n9 => (K1 j (Nat.lt_of_lt_of_le hj (Nat.le_of_ble_eq_true rfl : 10 ≤ 11)) n9).trans (k18 j hj)
  exact en_r (st_vret rfl rfl) ⟨⟨((K1 10 (Nat.le_of_ble_eq_true rfl : 10 < 11) (Nat.ne_of_beq_eq_false rfl : 10 ≠ 9)).trans f18), f29, ((K3 11 (Nat.le_of_ble_eq_true rfl : 11 < 12) (Nat.ne_of_beq_eq_false rfl : 11 ≠ 9)).trans f20), ((K5 12 (Nat.le_of_ble_eq_true rfl : 12 < 13) (Nat.ne_of_beq_eq_false rfl : 12 ≠ 9)).trans f22), ((K7 13 (Nat.le_of_ble_eq_true rfl : 13 < 14) (Nat.ne_of_beq_eq_false rfl : 13 ≠ 9)).trans f24), ((K9 14 (Nat.le_of_ble_eq_true rfl : 14 < 15) (Nat.ne_of_beq_eq_false rfl : 14 ≠ 9)).trans f26), ((K11 15 (Nat.le_of_ble_eq_true rfl : 15 < 16) (Nat.ne_of_beq_eq_false rfl : 15 ≠ 9)).trans f28), trivial⟩, l29, fun j n9 hj => K0 j hj n9⟩

def ci_4F  (H H1 : am_H) : Prop := (am_is H1 17 (.inl (.int, (48, .inl (fun _ => 0)))) ∧ am_is H1 16 (.inr (2, [.ref 17, .ref 18, .int 0, .ref 19, .ref 20, .ref 21, .ref 22])) ∧ am_is H1 18 (.inl (.int, (4, .inl (fun _ => 0)))) ∧ am_is H1 19 (.inl (.boolean, (39, .inl (fun _ => 0)))) ∧ am_is H1 20 (.inl (.int, (6, .inl (fun _ => 0)))) ∧ am_is H1 21 (.inl (.int, (1320, .inl (fun _ => 0)))) ∧ am_is H1 22 (.inl (.int, (33, .inl (fun _ => 0)))) ∧ True) ∧ H1.length = 23 ∧ ∀ j : Nat, j ≠ 16 → j < 17 → H1[j]? = H[j]?
set_option maxRecDepth 100000 in
theorem ci_4 {sL : Nat} {sx : Nat → Int32} {cs : Nat → Nat → Option Int32} {H : am_H}  (hl : H.length = 17) (h16 : H[16]? = some (.inr (2, [.null, .null, .int 0, .null, .null, .null, .null]))) :
    am_NW sL sx cs 2 0 [(0, .ref 16)] [] H 0 0 none 6 1450 (ci_4F H) := by
  refine en_s (am_nb (m := 4) (pc1 := 7) (ls1 := [(0, .ref 16)]) (st1 := [.int 48, .ref 16]) (H1 := H) (k1 := 0) (n1 := 0) (by with_unfolding_all rfl)) ?_
  refine en_newa (N := 17) (m := 48) (ty := .int) rfl hl rfl (by decide) (by with_unfolding_all rfl) rfl rfl ?_
  intro H33 l33 f33 k33
  refine en_put rfl l33 ((k33 16 (Nat.le_of_ble_eq_true rfl : 16 < 17)).trans h16) rfl rfl rfl ?_
  intro H34 l34 f34 k34
  refine en_s (am_nb (m := 2) (pc1 := 14) (ls1 := [(0, .ref 16)]) (st1 := [.int 4, .ref 16]) (H1 := H34) (k1 := 1) (n1 := 48) (by with_unfolding_all rfl)) ?_
  refine en_newa (N := 18) (m := 4) (ty := .int) rfl l34 rfl (by decide) (by with_unfolding_all rfl) rfl rfl ?_
  intro H35 l35 f35 k35
  refine en_put rfl l35 ((k35 16 (Nat.le_of_ble_eq_true rfl : 16 < 18)).trans f34) rfl rfl rfl ?_
  intro H36 l36 f36 k36
  refine en_s (am_nb (m := 2) (pc1 := 22) (ls1 := [(0, .ref 16)]) (st1 := [.int 39, .ref 16]) (H1 := H36) (k1 := 2) (n1 := 52) (by with_unfolding_all rfl)) ?_
  refine en_newa (N := 19) (m := 39) (ty := .boolean) rfl l36 rfl (by decide) (by with_unfolding_all rfl) rfl rfl ?_
  intro H37 l37 f37 k37
  refine en_put rfl l37 ((k37 16 (Nat.le_of_ble_eq_true rfl : 16 < 19)).trans f36) rfl rfl rfl ?_
  intro H38 l38 f38 k38
  refine en_s (am_nb (m := 2) (pc1 := 30) (ls1 := [(0, .ref 16)]) (st1 := [.int 6, .ref 16]) (H1 := H38) (k1 := 3) (n1 := 91) (by with_unfolding_all rfl)) ?_
  refine en_newa (N := 20) (m := 6) (ty := .int) rfl l38 rfl (by decide) (by with_unfolding_all rfl) rfl rfl ?_
  intro H39 l39 f39 k39
  refine en_put rfl l39 ((k39 16 (Nat.le_of_ble_eq_true rfl : 16 < 20)).trans f38) rfl rfl rfl ?_
  intro H40 l40 f40 k40
  refine en_s (am_nb (m := 2) (pc1 := 39) (ls1 := [(0, .ref 16)]) (st1 := [.int 1320, .ref 16]) (H1 := H40) (k1 := 4) (n1 := 97) (by with_unfolding_all rfl)) ?_
  refine en_newa (N := 21) (m := 1320) (ty := .int) rfl l40 rfl (by decide) (by with_unfolding_all rfl) rfl rfl ?_
  intro H41 l41 f41 k41
  refine en_put rfl l41 ((k41 16 (Nat.le_of_ble_eq_true rfl : 16 < 21)).trans f40) rfl rfl rfl ?_
  intro H42 l42 f42 k42
  refine en_s (am_nb (m := 2) (pc1 := 47) (ls1 := [(0, .ref 16)]) (st1 := [.int 33, .ref 16]) (H1 := H42) (k1 := 5) (n1 := 1417) (by with_unfolding_all rfl)) ?_
  refine en_newa (N := 22) (m := 33) (ty := .int) rfl l42 rfl (by decide) (by with_unfolding_all rfl) rfl rfl ?_
  intro H43 l43 f43 k43
  refine en_put rfl l43 ((k43 16 (Nat.le_of_ble_eq_true rfl : 16 < 22)).trans f42) rfl rfl rfl ?_
  intro H44 l44 f44 k44
  have K11 : ∀ j : Nat, j < 23 → j ≠ 16 → H44[j]? = H43[j]? := fun j hj n16 => (k44 j n16)
  have K10 : ∀ j : Nat, j < 22 → j ≠ 16 → H44[j]? = H42[j]? := fun j hj n16 => (K11 j (Nat.lt_of_lt_of_le hj (Nat.le_of_ble_eq_true rfl : 22 ≤ 23)) n16).trans (k43 j hj)
  have K9 : ∀ j : Nat, j < 22 → j ≠ 16 → H44[j]? = H41[j]? := fun j hj n16 => (K10 j hj n16).trans (k42 j n16)
  have K8 : ∀ j : Nat, j < 21 → j ≠ 16 → H44[j]? = H40[j]? := fun j hj n16 => (K9 j (Nat.lt_of_lt_of_le hj (Nat.le_of_ble_eq_true rfl : 21 ≤ 22)) n16).trans (k41 j hj)
  have K7 : ∀ j : Nat, j < 21 → j ≠ 16 → H44[j]? = H39[j]? := fun j hj n16 => (K8 j hj n16).trans (k40 j n16)
  have K6 : ∀ j : Nat, j < 20 → j ≠ 16 → H44[j]? = H38[j]? := fun j hj n16 => (K7 j (Nat.lt_of_lt_of_le hj (Nat.le_of_ble_eq_true rfl : 20 ≤ 21)) n16).trans (k39 j hj)
  have K5 : ∀ j : Nat, j < 20 → j ≠ 16 → H44[j]? = H37[j]? := fun j hj n16 => (K6 j hj n16).trans (k38 j n16)
  have K4 : ∀ j : Nat, j < 19 → j ≠ 16 → H44[j]? = H36[j]? := fun j hj n16 => (K5 j (Nat.lt_of_lt_of_le hj (Nat.le_of_ble_eq_true rfl : 19 ≤ 20)) n16).trans (k37 j hj)
  have K3 : ∀ j : Nat, j < 19 → j ≠ 16 → H44[j]? = H35[j]? := fun j hj n16 => (K4 j hj n16).trans (k36 j n16)
  have K2 : ∀ j : Nat, j < 18 → j ≠ 16 → H44[j]? = H34[j]? := fun j hj n16 => (K3 j (Nat.lt_of_lt_of_le hj (Nat.le_of_ble_eq_true rfl : 18 ≤ 19)) n16).trans (k35 j hj)
  have K1 : ∀ j : Nat, j < 18 → j ≠ 16 → H44[j]? = H33[j]? := fun j hj n16 => (K2 j hj n16).trans (k34 j n16)
  have K0 : ∀ j : Nat, j < 17 → j ≠ 16 → H44[j]? = H[j]? := fun j hj n16 => (K1 j (Nat.lt_of_lt_of_le hj (Nat.le_of_ble_eq_true rfl : 17 ≤ 18)) n16).trans (k33 j hj)
  exact en_r (st_vret rfl rfl) ⟨⟨((K1 17 (Nat.le_of_ble_eq_true rfl : 17 < 18) (Nat.ne_of_beq_eq_false rfl : 17 ≠ 16)).trans f33), f44, ((K3 18 (Nat.le_of_ble_eq_true rfl : 18 < 19) (Nat.ne_of_beq_eq_false rfl : 18 ≠ 16)).trans f35), ((K5 19 (Nat.le_of_ble_eq_true rfl : 19 < 20) (Nat.ne_of_beq_eq_false rfl : 19 ≠ 16)).trans f37), ((K7 20 (Nat.le_of_ble_eq_true rfl : 20 < 21) (Nat.ne_of_beq_eq_false rfl : 20 ≠ 16)).trans f39), ((K9 21 (Nat.le_of_ble_eq_true rfl : 21 < 22) (Nat.ne_of_beq_eq_false rfl : 21 ≠ 16)).trans f41), ((K11 22 (Nat.le_of_ble_eq_true rfl : 22 < 23) (Nat.ne_of_beq_eq_false rfl : 22 ≠ 16)).trans f43), trivial⟩, l44, fun j n16 hj => K0 j hj n16⟩

def ci_5F  (H H1 : am_H) : Prop := (am_is H1 24 (.inl (.int, (48, .inl (fun _ => 0)))) ∧ am_is H1 23 (.inr (2, [.ref 24, .ref 25, .int 0, .ref 26, .ref 27, .ref 28, .ref 29])) ∧ am_is H1 25 (.inl (.int, (4, .inl (fun _ => 0)))) ∧ am_is H1 26 (.inl (.boolean, (39, .inl (fun _ => 0)))) ∧ am_is H1 27 (.inl (.int, (6, .inl (fun _ => 0)))) ∧ am_is H1 28 (.inl (.int, (1320, .inl (fun _ => 0)))) ∧ am_is H1 29 (.inl (.int, (33, .inl (fun _ => 0)))) ∧ True) ∧ H1.length = 30 ∧ ∀ j : Nat, j ≠ 23 → j < 24 → H1[j]? = H[j]?
set_option maxRecDepth 100000 in
theorem ci_5 {sL : Nat} {sx : Nat → Int32} {cs : Nat → Nat → Option Int32} {H : am_H}  (hl : H.length = 24) (h23 : H[23]? = some (.inr (2, [.null, .null, .int 0, .null, .null, .null, .null]))) :
    am_NW sL sx cs 2 0 [(0, .ref 23)] [] H 0 0 none 6 1450 (ci_5F H) := by
  refine en_s (am_nb (m := 4) (pc1 := 7) (ls1 := [(0, .ref 23)]) (st1 := [.int 48, .ref 23]) (H1 := H) (k1 := 0) (n1 := 0) (by with_unfolding_all rfl)) ?_
  refine en_newa (N := 24) (m := 48) (ty := .int) rfl hl rfl (by decide) (by with_unfolding_all rfl) rfl rfl ?_
  intro H48 l48 f48 k48
  refine en_put rfl l48 ((k48 23 (Nat.le_of_ble_eq_true rfl : 23 < 24)).trans h23) rfl rfl rfl ?_
  intro H49 l49 f49 k49
  refine en_s (am_nb (m := 2) (pc1 := 14) (ls1 := [(0, .ref 23)]) (st1 := [.int 4, .ref 23]) (H1 := H49) (k1 := 1) (n1 := 48) (by with_unfolding_all rfl)) ?_
  refine en_newa (N := 25) (m := 4) (ty := .int) rfl l49 rfl (by decide) (by with_unfolding_all rfl) rfl rfl ?_
  intro H50 l50 f50 k50
  refine en_put rfl l50 ((k50 23 (Nat.le_of_ble_eq_true rfl : 23 < 25)).trans f49) rfl rfl rfl ?_
  intro H51 l51 f51 k51
  refine en_s (am_nb (m := 2) (pc1 := 22) (ls1 := [(0, .ref 23)]) (st1 := [.int 39, .ref 23]) (H1 := H51) (k1 := 2) (n1 := 52) (by with_unfolding_all rfl)) ?_
  refine en_newa (N := 26) (m := 39) (ty := .boolean) rfl l51 rfl (by decide) (by with_unfolding_all rfl) rfl rfl ?_
  intro H52 l52 f52 k52
  refine en_put rfl l52 ((k52 23 (Nat.le_of_ble_eq_true rfl : 23 < 26)).trans f51) rfl rfl rfl ?_
  intro H53 l53 f53 k53
  refine en_s (am_nb (m := 2) (pc1 := 30) (ls1 := [(0, .ref 23)]) (st1 := [.int 6, .ref 23]) (H1 := H53) (k1 := 3) (n1 := 91) (by with_unfolding_all rfl)) ?_
  refine en_newa (N := 27) (m := 6) (ty := .int) rfl l53 rfl (by decide) (by with_unfolding_all rfl) rfl rfl ?_
  intro H54 l54 f54 k54
  refine en_put rfl l54 ((k54 23 (Nat.le_of_ble_eq_true rfl : 23 < 27)).trans f53) rfl rfl rfl ?_
  intro H55 l55 f55 k55
  refine en_s (am_nb (m := 2) (pc1 := 39) (ls1 := [(0, .ref 23)]) (st1 := [.int 1320, .ref 23]) (H1 := H55) (k1 := 4) (n1 := 97) (by with_unfolding_all rfl)) ?_
  refine en_newa (N := 28) (m := 1320) (ty := .int) rfl l55 rfl (by decide) (by with_unfolding_all rfl) rfl rfl ?_
  intro H56 l56 f56 k56
  refine en_put rfl l56 ((k56 23 (Nat.le_of_ble_eq_true rfl : 23 < 28)).trans f55) rfl rfl rfl ?_
  intro H57 l57 f57 k57
  refine en_s (am_nb (m := 2) (pc1 := 47) (ls1 := [(0, .ref 23)]) (st1 := [.int 33, .ref 23]) (H1 := H57) (k1 := 5) (n1 := 1417) (by with_unfolding_all rfl)) ?_
  refine en_newa (N := 29) (m := 33) (ty := .int) rfl l57 rfl (by decide) (by with_unfolding_all rfl) rfl rfl ?_
  intro H58 l58 f58 k58
  refine en_put rfl l58 ((k58 23 (Nat.le_of_ble_eq_true rfl : 23 < 29)).trans f57) rfl rfl rfl ?_
  intro H59 l59 f59 k59
  have K11 : ∀ j : Nat, j < 30 → j ≠ 23 → H59[j]? = H58[j]? := fun j hj n23 => (k59 j n23)
  have K10 : ∀ j : Nat, j < 29 → j ≠ 23 → H59[j]? = H57[j]? := fun j hj n23 => (K11 j (Nat.lt_of_lt_of_le hj (Nat.le_of_ble_eq_true rfl : 29 ≤ 30)) n23).trans (k58 j hj)
  have K9 : ∀ j : Nat, j < 29 → j ≠ 23 → H59[j]? = H56[j]? := fun j hj n23 => (K10 j hj n23).trans (k57 j n23)
  have K8 : ∀ j : Nat, j < 28 → j ≠ 23 → H59[j]? = H55[j]? := fun j hj n23 => (K9 j (Nat.lt_of_lt_of_le hj (Nat.le_of_ble_eq_true rfl : 28 ≤ 29)) n23).trans (k56 j hj)
  have K7 : ∀ j : Nat, j < 28 → j ≠ 23 → H59[j]? = H54[j]? := fun j hj n23 => (K8 j hj n23).trans (k55 j n23)
  have K6 : ∀ j : Nat, j < 27 → j ≠ 23 → H59[j]? = H53[j]? := fun j hj n23 => (K7 j (Nat.lt_of_lt_of_le hj (Nat.le_of_ble_eq_true rfl : 27 ≤ 28)) n23).trans (k54 j hj)
  have K5 : ∀ j : Nat, j < 27 → j ≠ 23 → H59[j]? = H52[j]? := fun j hj n23 => (K6 j hj n23).trans (k53 j n23)
  have K4 : ∀ j : Nat, j < 26 → j ≠ 23 → H59[j]? = H51[j]? := fun j hj n23 => (K5 j (Nat.lt_of_lt_of_le hj (Nat.le_of_ble_eq_true rfl : 26 ≤ 27)) n23).trans (k52 j hj)
  have K3 : ∀ j : Nat, j < 26 → j ≠ 23 → H59[j]? = H50[j]? := fun j hj n23 => (K4 j hj n23).trans (k51 j n23)
  have K2 : ∀ j : Nat, j < 25 → j ≠ 23 → H59[j]? = H49[j]? := fun j hj n23 => (K3 j (Nat.lt_of_lt_of_le hj (Nat.le_of_ble_eq_true rfl : 25 ≤ 26)) n23).trans (k50 j hj)
  have K1 : ∀ j : Nat, j < 25 → j ≠ 23 → H59[j]? = H48[j]? := fun j hj n23 => (K2 j hj n23).trans (k49 j n23)
  have K0 : ∀ j : Nat, j < 24 → j ≠ 23 → H59[j]? = H[j]? := fun j hj n23 => (K1 j (Nat.lt_of_lt_of_le hj (Nat.le_of_ble_eq_true rfl : 24 ≤ 25)) n23).trans (k48 j hj)
  exact en_r (st_vret rfl rfl) ⟨⟨((K1 24 (Nat.le_of_ble_eq_true rfl : 24 < 25) (Nat.ne_of_beq_eq_false rfl : 24 ≠ 23)).trans f48), f59, ((K3 25 (Nat.le_of_ble_eq_true rfl : 25 < 26) (Nat.ne_of_beq_eq_false rfl : 25 ≠ 23)).trans f50), ((K5 26 (Nat.le_of_ble_eq_true rfl : 26 < 27) (Nat.ne_of_beq_eq_false rfl : 26 ≠ 23)).trans f52), ((K7 27 (Nat.le_of_ble_eq_true rfl : 27 < 28) (Nat.ne_of_beq_eq_false rfl : 27 ≠ 23)).trans f54), ((K9 28 (Nat.le_of_ble_eq_true rfl : 28 < 29) (Nat.ne_of_beq_eq_false rfl : 28 ≠ 23)).trans f56), ((K11 29 (Nat.le_of_ble_eq_true rfl : 29 < 30) (Nat.ne_of_beq_eq_false rfl : 29 ≠ 23)).trans f58), trivial⟩, l59, fun j n23 hj => K0 j hj n23⟩

def ci_6F  (H H1 : am_H) : Prop := (am_is H1 31 (.inl (.int, (48, .inl (fun _ => 0)))) ∧ am_is H1 30 (.inr (2, [.ref 31, .ref 32, .int 0, .ref 33, .ref 34, .ref 35, .ref 36])) ∧ am_is H1 32 (.inl (.int, (4, .inl (fun _ => 0)))) ∧ am_is H1 33 (.inl (.boolean, (39, .inl (fun _ => 0)))) ∧ am_is H1 34 (.inl (.int, (6, .inl (fun _ => 0)))) ∧ am_is H1 35 (.inl (.int, (1320, .inl (fun _ => 0)))) ∧ am_is H1 36 (.inl (.int, (33, .inl (fun _ => 0)))) ∧ True) ∧ H1.length = 37 ∧ ∀ j : Nat, j ≠ 30 → j < 31 → H1[j]? = H[j]?
set_option maxRecDepth 100000 in
theorem ci_6 {sL : Nat} {sx : Nat → Int32} {cs : Nat → Nat → Option Int32} {H : am_H}  (hl : H.length = 31) (h30 : H[30]? = some (.inr (2, [.null, .null, .int 0, .null, .null, .null, .null]))) :
    am_NW sL sx cs 2 0 [(0, .ref 30)] [] H 0 0 none 6 1450 (ci_6F H) := by
  refine en_s (am_nb (m := 4) (pc1 := 7) (ls1 := [(0, .ref 30)]) (st1 := [.int 48, .ref 30]) (H1 := H) (k1 := 0) (n1 := 0) (by with_unfolding_all rfl)) ?_
  refine en_newa (N := 31) (m := 48) (ty := .int) rfl hl rfl (by decide) (by with_unfolding_all rfl) rfl rfl ?_
  intro H63 l63 f63 k63
  refine en_put rfl l63 ((k63 30 (Nat.le_of_ble_eq_true rfl : 30 < 31)).trans h30) rfl rfl rfl ?_
  intro H64 l64 f64 k64
  refine en_s (am_nb (m := 2) (pc1 := 14) (ls1 := [(0, .ref 30)]) (st1 := [.int 4, .ref 30]) (H1 := H64) (k1 := 1) (n1 := 48) (by with_unfolding_all rfl)) ?_
  refine en_newa (N := 32) (m := 4) (ty := .int) rfl l64 rfl (by decide) (by with_unfolding_all rfl) rfl rfl ?_
  intro H65 l65 f65 k65
  refine en_put rfl l65 ((k65 30 (Nat.le_of_ble_eq_true rfl : 30 < 32)).trans f64) rfl rfl rfl ?_
  intro H66 l66 f66 k66
  refine en_s (am_nb (m := 2) (pc1 := 22) (ls1 := [(0, .ref 30)]) (st1 := [.int 39, .ref 30]) (H1 := H66) (k1 := 2) (n1 := 52) (by with_unfolding_all rfl)) ?_
  refine en_newa (N := 33) (m := 39) (ty := .boolean) rfl l66 rfl (by decide) (by with_unfolding_all rfl) rfl rfl ?_
  intro H67 l67 f67 k67
  refine en_put rfl l67 ((k67 30 (Nat.le_of_ble_eq_true rfl : 30 < 33)).trans f66) rfl rfl rfl ?_
  intro H68 l68 f68 k68
  refine en_s (am_nb (m := 2) (pc1 := 30) (ls1 := [(0, .ref 30)]) (st1 := [.int 6, .ref 30]) (H1 := H68) (k1 := 3) (n1 := 91) (by with_unfolding_all rfl)) ?_
  refine en_newa (N := 34) (m := 6) (ty := .int) rfl l68 rfl (by decide) (by with_unfolding_all rfl) rfl rfl ?_
  intro H69 l69 f69 k69
  refine en_put rfl l69 ((k69 30 (Nat.le_of_ble_eq_true rfl : 30 < 34)).trans f68) rfl rfl rfl ?_
  intro H70 l70 f70 k70
  refine en_s (am_nb (m := 2) (pc1 := 39) (ls1 := [(0, .ref 30)]) (st1 := [.int 1320, .ref 30]) (H1 := H70) (k1 := 4) (n1 := 97) (by with_unfolding_all rfl)) ?_
  refine en_newa (N := 35) (m := 1320) (ty := .int) rfl l70 rfl (by decide) (by with_unfolding_all rfl) rfl rfl ?_
  intro H71 l71 f71 k71
  refine en_put rfl l71 ((k71 30 (Nat.le_of_ble_eq_true rfl : 30 < 35)).trans f70) rfl rfl rfl ?_
  intro H72 l72 f72 k72
  refine en_s (am_nb (m := 2) (pc1 := 47) (ls1 := [(0, .ref 30)]) (st1 := [.int 33, .ref 30]) (H1 := H72) (k1 := 5) (n1 := 1417) (by with_unfolding_all rfl)) ?_
  refine en_newa (N := 36) (m := 33) (ty := .int) rfl l72 rfl (by decide) (by with_unfolding_all rfl) rfl rfl ?_
  intro H73 l73 f73 k73
  refine en_put rfl l73 ((k73 30 (Nat.le_of_ble_eq_true rfl : 30 < 36)).trans f72) rfl rfl rfl ?_
  intro H74 l74 f74 k74
  have K11 : ∀ j : Nat, j < 37 → j ≠ 30 → H74[j]? = H73[j]? := fun j hj n30 => (k74 j n30)
  have K10 : ∀ j : Nat, j < 36 → j ≠ 30 → H74[j]? = H72[j]? := fun j hj n30 => (K11 j (Nat.lt_of_lt_of_le hj (Nat.le_of_ble_eq_true rfl : 36 ≤ 37)) n30).trans (k73 j hj)
  have K9 : ∀ j : Nat, j < 36 → j ≠ 30 → H74[j]? = H71[j]? := fun j hj n30 => (K10 j hj n30).trans (k72 j n30)
  have K8 : ∀ j : Nat, j < 35 → j ≠ 30 → H74[j]? = H70[j]? := fun j hj n30 => (K9 j (Nat.lt_of_lt_of_le hj (Nat.le_of_ble_eq_true rfl : 35 ≤ 36)) n30).trans (k71 j hj)
  have K7 : ∀ j : Nat, j < 35 → j ≠ 30 → H74[j]? = H69[j]? := fun j hj n30 => (K8 j hj n30).trans (k70 j n30)
  have K6 : ∀ j : Nat, j < 34 → j ≠ 30 → H74[j]? = H68[j]? := fun j hj n30 => (K7 j (Nat.lt_of_lt_of_le hj (Nat.le_of_ble_eq_true rfl : 34 ≤ 35)) n30).trans (k69 j hj)
  have K5 : ∀ j : Nat, j < 34 → j ≠ 30 → H74[j]? = H67[j]? := fun j hj n30 => (K6 j hj n30).trans (k68 j n30)
  have K4 : ∀ j : Nat, j < 33 → j ≠ 30 → H74[j]? = H66[j]? := fun j hj n30 => (K5 j (Nat.lt_of_lt_of_le hj (Nat.le_of_ble_eq_true rfl : 33 ≤ 34)) n30).trans (k67 j hj)
  have K3 : ∀ j : Nat, j < 33 → j ≠ 30 → H74[j]? = H65[j]? := fun j hj n30 => (K4 j hj n30).trans (k66 j n30)
  have K2 : ∀ j : Nat, j < 32 → j ≠ 30 → H74[j]? = H64[j]? := fun j hj n30 => (K3 j (Nat.lt_of_lt_of_le hj (Nat.le_of_ble_eq_true rfl : 32 ≤ 33)) n30).trans (k65 j hj)
  have K1 : ∀ j : Nat, j < 32 → j ≠ 30 → H74[j]? = H63[j]? := fun j hj n30 => (K2 j hj n30).trans (k64 j n30)
  have K0 : ∀ j : Nat, j < 31 → j ≠ 30 → H74[j]? = H[j]? := fun j hj n30 => (K1 j (Nat.lt_of_lt_of_le hj (Nat.le_of_ble_eq_true rfl : 31 ≤ 32)) n30).trans (k63 j hj)
  exact en_r (st_vret rfl rfl) ⟨⟨((K1 31 (Nat.le_of_ble_eq_true rfl : 31 < 32) (Nat.ne_of_beq_eq_false rfl : 31 ≠ 30)).trans f63), f74, ((K3 32 (Nat.le_of_ble_eq_true rfl : 32 < 33) (Nat.ne_of_beq_eq_false rfl : 32 ≠ 30)).trans f65), ((K5 33 (Nat.le_of_ble_eq_true rfl : 33 < 34) (Nat.ne_of_beq_eq_false rfl : 33 ≠ 30)).trans f67), ((K7 34 (Nat.le_of_ble_eq_true rfl : 34 < 35) (Nat.ne_of_beq_eq_false rfl : 34 ≠ 30)).trans f69), ((K9 35 (Nat.le_of_ble_eq_true rfl : 35 < 36) (Nat.ne_of_beq_eq_false rfl : 35 ≠ 30)).trans f71), ((K11 36 (Nat.le_of_ble_eq_true rfl : 36 < 37) (Nat.ne_of_beq_eq_false rfl : 36 ≠ 30)).trans f73), trivial⟩, l74, fun j n30 hj => K0 j hj n30⟩

def ci_7F  (H H1 : am_H) : Prop := (am_is H1 38 (.inl (.int, (48, .inl (fun _ => 0)))) ∧ am_is H1 37 (.inr (2, [.ref 38, .ref 39, .int 0, .ref 40, .ref 41, .ref 42, .ref 43])) ∧ am_is H1 39 (.inl (.int, (4, .inl (fun _ => 0)))) ∧ am_is H1 40 (.inl (.boolean, (39, .inl (fun _ => 0)))) ∧ am_is H1 41 (.inl (.int, (6, .inl (fun _ => 0)))) ∧ am_is H1 42 (.inl (.int, (1320, .inl (fun _ => 0)))) ∧ am_is H1 43 (.inl (.int, (33, .inl (fun _ => 0)))) ∧ True) ∧ H1.length = 44 ∧ ∀ j : Nat, j ≠ 37 → j < 38 → H1[j]? = H[j]?
set_option maxRecDepth 100000 in
theorem ci_7 {sL : Nat} {sx : Nat → Int32} {cs : Nat → Nat → Option Int32} {H : am_H}  (hl : H.length = 38) (h37 : H[37]? = some (.inr (2, [.null, .null, .int 0, .null, .null, .null, .null]))) :
    am_NW sL sx cs 2 0 [(0, .ref 37)] [] H 0 0 none 6 1450 (ci_7F H) := by
  refine en_s (am_nb (m := 4) (pc1 := 7) (ls1 := [(0, .ref 37)]) (st1 := [.int 48, .ref 37]) (H1 := H) (k1 := 0) (n1 := 0) (by with_unfolding_all rfl)) ?_
  refine en_newa (N := 38) (m := 48) (ty := .int) rfl hl rfl (by decide) (by with_unfolding_all rfl) rfl rfl ?_
  intro H78 l78 f78 k78
  refine en_put rfl l78 ((k78 37 (Nat.le_of_ble_eq_true rfl : 37 < 38)).trans h37) rfl rfl rfl ?_
  intro H79 l79 f79 k79
  refine en_s (am_nb (m := 2) (pc1 := 14) (ls1 := [(0, .ref 37)]) (st1 := [.int 4, .ref 37]) (H1 := H79) (k1 := 1) (n1 := 48) (by with_unfolding_all rfl)) ?_
  refine en_newa (N := 39) (m := 4) (ty := .int) rfl l79 rfl (by decide) (by with_unfolding_all rfl) rfl rfl ?_
  intro H80 l80 f80 k80
  refine en_put rfl l80 ((k80 37 (Nat.le_of_ble_eq_true rfl : 37 < 39)).trans f79) rfl rfl rfl ?_
  intro H81 l81 f81 k81
  refine en_s (am_nb (m := 2) (pc1 := 22) (ls1 := [(0, .ref 37)]) (st1 := [.int 39, .ref 37]) (H1 := H81) (k1 := 2) (n1 := 52) (by with_unfolding_all rfl)) ?_
  refine en_newa (N := 40) (m := 39) (ty := .boolean) rfl l81 rfl (by decide) (by with_unfolding_all rfl) rfl rfl ?_
  intro H82 l82 f82 k82
  refine en_put rfl l82 ((k82 37 (Nat.le_of_ble_eq_true rfl : 37 < 40)).trans f81) rfl rfl rfl ?_
  intro H83 l83 f83 k83
  refine en_s (am_nb (m := 2) (pc1 := 30) (ls1 := [(0, .ref 37)]) (st1 := [.int 6, .ref 37]) (H1 := H83) (k1 := 3) (n1 := 91) (by with_unfolding_all rfl)) ?_
  refine en_newa (N := 41) (m := 6) (ty := .int) rfl l83 rfl (by decide) (by with_unfolding_all rfl) rfl rfl ?_
  intro H84 l84 f84 k84
  refine en_put rfl l84 ((k84 37 (Nat.le_of_ble_eq_true rfl : 37 < 41)).trans f83) rfl rfl rfl ?_
  intro H85 l85 f85 k85
  refine en_s (am_nb (m := 2) (pc1 := 39) (ls1 := [(0, .ref 37)]) (st1 := [.int 1320, .ref 37]) (H1 := H85) (k1 := 4) (n1 := 97) (by with_unfolding_all rfl)) ?_
  refine en_newa (N := 42) (m := 1320) (ty := .int) rfl l85 rfl (by decide) (by with_unfolding_all rfl) rfl rfl ?_
  intro H86 l86 f86 k86
  refine en_put rfl l86 ((k86 37 (Nat.le_of_ble_eq_true rfl : 37 < 42)).trans f85) rfl rfl rfl ?_
  intro H87 l87 f87 k87
  refine en_s (am_nb (m := 2) (pc1 := 47) (ls1 := [(0, .ref 37)]) (st1 := [.int 33, .ref 37]) (H1 := H87) (k1 := 5) (n1 := 1417) (by with_unfolding_all rfl)) ?_
  refine en_newa (N := 43) (m := 33) (ty := .int) rfl l87 rfl (by decide) (by with_unfolding_all rfl) rfl rfl ?_
  intro H88 l88 f88 k88
  refine en_put rfl l88 ((k88 37 (Nat.le_of_ble_eq_true rfl : 37 < 43)).trans f87) rfl rfl rfl ?_
  intro H89 l89 f89 k89
  have K11 : ∀ j : Nat, j < 44 → j ≠ 37 → H89[j]? = H88[j]? := fun j hj n37 => (k89 j n37)
  have K10 : ∀ j : Nat, j < 43 → j ≠ 37 → H89[j]? = H87[j]? := fun j hj n37 => (K11 j (Nat.lt_of_lt_of_le hj (Nat.le_of_ble_eq_true rfl : 43 ≤ 44)) n37).trans (k88 j hj)
  have K9 : ∀ j : Nat, j < 43 → j ≠ 37 → H89[j]? = H86[j]? := fun j hj n37 => (K10 j hj n37).trans (k87 j n37)
  have K8 : ∀ j : Nat, j < 42 → j ≠ 37 → H89[j]? = H85[j]? := fun j hj n37 => (K9 j (Nat.lt_of_lt_of_le hj (Nat.le_of_ble_eq_true rfl : 42 ≤ 43)) n37).trans (k86 j hj)
  have K7 : ∀ j : Nat, j < 42 → j ≠ 37 → H89[j]? = H84[j]? := fun j hj n37 => (K8 j hj n37).trans (k85 j n37)
  have K6 : ∀ j : Nat, j < 41 → j ≠ 37 → H89[j]? = H83[j]? := fun j hj n37 => (K7 j (Nat.lt_of_lt_of_le hj (Nat.le_of_ble_eq_true rfl : 41 ≤ 42)) n37).trans (k84 j hj)
  have K5 : ∀ j : Nat, j < 41 → j ≠ 37 → H89[j]? = H82[j]? := fun j hj n37 => (K6 j hj n37).trans (k83 j n37)
  have K4 : ∀ j : Nat, j < 40 → j ≠ 37 → H89[j]? = H81[j]? := fun j hj n37 => (K5 j (Nat.lt_of_lt_of_le hj (Nat.le_of_ble_eq_true rfl : 40 ≤ 41)) n37).trans (k82 j hj)
  have K3 : ∀ j : Nat, j < 40 → j ≠ 37 → H89[j]? = H80[j]? := fun j hj n37 => (K4 j hj n37).trans (k81 j n37)
  have K2 : ∀ j : Nat, j < 39 → j ≠ 37 → H89[j]? = H79[j]? := fun j hj n37 => (K3 j (Nat.lt_of_lt_of_le hj (Nat.le_of_ble_eq_true rfl : 39 ≤ 40)) n37).trans (k80 j hj)
  have K1 : ∀ j : Nat, j < 39 → j ≠ 37 → H89[j]? = H78[j]? := fun j hj n37 => (K2 j hj n37).trans (k79 j n37)
  have K0 : ∀ j : Nat, j < 38 → j ≠ 37 → H89[j]? = H[j]? := fun j hj n37 => (K1 j (Nat.lt_of_lt_of_le hj (Nat.le_of_ble_eq_true rfl : 38 ≤ 39)) n37).trans (k78 j hj)
  exact en_r (st_vret rfl rfl) ⟨⟨((K1 38 (Nat.le_of_ble_eq_true rfl : 38 < 39) (Nat.ne_of_beq_eq_false rfl : 38 ≠ 37)).trans f78), f89, ((K3 39 (Nat.le_of_ble_eq_true rfl : 39 < 40) (Nat.ne_of_beq_eq_false rfl : 39 ≠ 37)).trans f80), ((K5 40 (Nat.le_of_ble_eq_true rfl : 40 < 41) (Nat.ne_of_beq_eq_false rfl : 40 ≠ 37)).trans f82), ((K7 41 (Nat.le_of_ble_eq_true rfl : 41 < 42) (Nat.ne_of_beq_eq_false rfl : 41 ≠ 37)).trans f84), ((K9 42 (Nat.le_of_ble_eq_true rfl : 42 < 43) (Nat.ne_of_beq_eq_false rfl : 42 ≠ 37)).trans f86), ((K11 43 (Nat.le_of_ble_eq_true rfl : 43 < 44) (Nat.ne_of_beq_eq_false rfl : 43 ≠ 37)).trans f88), trivial⟩, l89, fun j n37 hj => K0 j hj n37⟩

def ci_8F  (H H1 : am_H) : Prop := (am_is H1 45 (.inl (.int, (48, .inl (fun _ => 0)))) ∧ am_is H1 44 (.inr (2, [.ref 45, .ref 46, .int 0, .ref 47, .ref 48, .ref 49, .ref 50])) ∧ am_is H1 46 (.inl (.int, (4, .inl (fun _ => 0)))) ∧ am_is H1 47 (.inl (.boolean, (39, .inl (fun _ => 0)))) ∧ am_is H1 48 (.inl (.int, (6, .inl (fun _ => 0)))) ∧ am_is H1 49 (.inl (.int, (1320, .inl (fun _ => 0)))) ∧ am_is H1 50 (.inl (.int, (33, .inl (fun _ => 0)))) ∧ True) ∧ H1.length = 51 ∧ ∀ j : Nat, j ≠ 44 → j < 45 → H1[j]? = H[j]?
set_option maxRecDepth 100000 in
theorem ci_8 {sL : Nat} {sx : Nat → Int32} {cs : Nat → Nat → Option Int32} {H : am_H}  (hl : H.length = 45) (h44 : H[44]? = some (.inr (2, [.null, .null, .int 0, .null, .null, .null, .null]))) :
    am_NW sL sx cs 2 0 [(0, .ref 44)] [] H 0 0 none 6 1450 (ci_8F H) := by
  refine en_s (am_nb (m := 4) (pc1 := 7) (ls1 := [(0, .ref 44)]) (st1 := [.int 48, .ref 44]) (H1 := H) (k1 := 0) (n1 := 0) (by with_unfolding_all rfl)) ?_
  refine en_newa (N := 45) (m := 48) (ty := .int) rfl hl rfl (by decide) (by with_unfolding_all rfl) rfl rfl ?_
  intro H93 l93 f93 k93
  refine en_put rfl l93 ((k93 44 (Nat.le_of_ble_eq_true rfl : 44 < 45)).trans h44) rfl rfl rfl ?_
  intro H94 l94 f94 k94
  refine en_s (am_nb (m := 2) (pc1 := 14) (ls1 := [(0, .ref 44)]) (st1 := [.int 4, .ref 44]) (H1 := H94) (k1 := 1) (n1 := 48) (by with_unfolding_all rfl)) ?_
  refine en_newa (N := 46) (m := 4) (ty := .int) rfl l94 rfl (by decide) (by with_unfolding_all rfl) rfl rfl ?_
  intro H95 l95 f95 k95
  refine en_put rfl l95 ((k95 44 (Nat.le_of_ble_eq_true rfl : 44 < 46)).trans f94) rfl rfl rfl ?_
  intro H96 l96 f96 k96
  refine en_s (am_nb (m := 2) (pc1 := 22) (ls1 := [(0, .ref 44)]) (st1 := [.int 39, .ref 44]) (H1 := H96) (k1 := 2) (n1 := 52) (by with_unfolding_all rfl)) ?_
  refine en_newa (N := 47) (m := 39) (ty := .boolean) rfl l96 rfl (by decide) (by with_unfolding_all rfl) rfl rfl ?_
  intro H97 l97 f97 k97
  refine en_put rfl l97 ((k97 44 (Nat.le_of_ble_eq_true rfl : 44 < 47)).trans f96) rfl rfl rfl ?_
  intro H98 l98 f98 k98
  refine en_s (am_nb (m := 2) (pc1 := 30) (ls1 := [(0, .ref 44)]) (st1 := [.int 6, .ref 44]) (H1 := H98) (k1 := 3) (n1 := 91) (by with_unfolding_all rfl)) ?_
  refine en_newa (N := 48) (m := 6) (ty := .int) rfl l98 rfl (by decide) (by with_unfolding_all rfl) rfl rfl ?_
  intro H99 l99 f99 k99
  refine en_put rfl l99 ((k99 44 (Nat.le_of_ble_eq_true rfl : 44 < 48)).trans f98) rfl rfl rfl ?_
  intro H100 l100 f100 k100
  refine en_s (am_nb (m := 2) (pc1 := 39) (ls1 := [(0, .ref 44)]) (st1 := [.int 1320, .ref 44]) (H1 := H100) (k1 := 4) (n1 := 97) (by with_unfolding_all rfl)) ?_
  refine en_newa (N := 49) (m := 1320) (ty := .int) rfl l100 rfl (by decide) (by with_unfolding_all rfl) rfl rfl ?_
  intro H101 l101 f101 k101
  refine en_put rfl l101 ((k101 44 (Nat.le_of_ble_eq_true rfl : 44 < 49)).trans f100) rfl rfl rfl ?_
  intro H102 l102 f102 k102
  refine en_s (am_nb (m := 2) (pc1 := 47) (ls1 := [(0, .ref 44)]) (st1 := [.int 33, .ref 44]) (H1 := H102) (k1 := 5) (n1 := 1417) (by with_unfolding_all rfl)) ?_
  refine en_newa (N := 50) (m := 33) (ty := .int) rfl l102 rfl (by decide) (by with_unfolding_all rfl) rfl rfl ?_
  intro H103 l103 f103 k103
  refine en_put rfl l103 ((k103 44 (Nat.le_of_ble_eq_true rfl : 44 < 50)).trans f102) rfl rfl rfl ?_
  intro H104 l104 f104 k104
  have K11 : ∀ j : Nat, j < 51 → j ≠ 44 → H104[j]? = H103[j]? := fun j hj n44 => (k104 j n44)
  have K10 : ∀ j : Nat, j < 50 → j ≠ 44 → H104[j]? = H102[j]? := fun j hj n44 => (K11 j (Nat.lt_of_lt_of_le hj (Nat.le_of_ble_eq_true rfl : 50 ≤ 51)) n44).trans (k103 j hj)
  have K9 : ∀ j : Nat, j < 50 → j ≠ 44 → H104[j]? = H101[j]? := fun j hj n44 => (K10 j hj n44).trans (k102 j n44)
  have K8 : ∀ j : Nat, j < 49 → j ≠ 44 → H104[j]? = H100[j]? := fun j hj n44 => (K9 j (Nat.lt_of_lt_of_le hj (Nat.le_of_ble_eq_true rfl : 49 ≤ 50)) n44).trans (k101 j hj)
  have K7 : ∀ j : Nat, j < 49 → j ≠ 44 → H104[j]? = H99[j]? := fun j hj n44 => (K8 j hj n44).trans (k100 j n44)
  have K6 : ∀ j : Nat, j < 48 → j ≠ 44 → H104[j]? = H98[j]? := fun j hj n44 => (K7 j (Nat.lt_of_lt_of_le hj (Nat.le_of_ble_eq_true rfl : 48 ≤ 49)) n44).trans (k99 j hj)
  have K5 : ∀ j : Nat, j < 48 → j ≠ 44 → H104[j]? = H97[j]? := fun j hj n44 => (K6 j hj n44).trans (k98 j n44)
  have K4 : ∀ j : Nat, j < 47 → j ≠ 44 → H104[j]? = H96[j]? := fun j hj n44 => (K5 j (Nat.lt_of_lt_of_le hj (Nat.le_of_ble_eq_true rfl : 47 ≤ 48)) n44).trans (k97 j hj)
  have K3 : ∀ j : Nat, j < 47 → j ≠ 44 → H104[j]? = H95[j]? := fun j hj n44 => (K4 j hj n44).trans (k96 j n44)
  have K2 : ∀ j : Nat, j < 46 → j ≠ 44 → H104[j]? = H94[j]? := fun j hj n44 => (K3 j (Nat.lt_of_lt_of_le hj (Nat.le_of_ble_eq_true rfl : 46 ≤ 47)) n44).trans (k95 j hj)
  have K1 : ∀ j : Nat, j < 46 → j ≠ 44 → H104[j]? = H93[j]? := fun j hj n44 => (K2 j hj n44).trans (k94 j n44)
  have K0 : ∀ j : Nat, j < 45 → j ≠ 44 → H104[j]? = H[j]? := fun j hj n44 => (K1 j (Nat.lt_of_lt_of_le hj (Nat.le_of_ble_eq_true rfl : 45 ≤ 46)) n44).trans (k93 j hj)
  exact en_r (st_vret rfl rfl) ⟨⟨((K1 45 (Nat.le_of_ble_eq_true rfl : 45 < 46) (Nat.ne_of_beq_eq_false rfl : 45 ≠ 44)).trans f93), f104, ((K3 46 (Nat.le_of_ble_eq_true rfl : 46 < 47) (Nat.ne_of_beq_eq_false rfl : 46 ≠ 44)).trans f95), ((K5 47 (Nat.le_of_ble_eq_true rfl : 47 < 48) (Nat.ne_of_beq_eq_false rfl : 47 ≠ 44)).trans f97), ((K7 48 (Nat.le_of_ble_eq_true rfl : 48 < 49) (Nat.ne_of_beq_eq_false rfl : 48 ≠ 44)).trans f99), ((K9 49 (Nat.le_of_ble_eq_true rfl : 49 < 50) (Nat.ne_of_beq_eq_false rfl : 49 ≠ 44)).trans f101), ((K11 50 (Nat.le_of_ble_eq_true rfl : 50 < 51) (Nat.ne_of_beq_eq_false rfl : 50 ≠ 44)).trans f103), trivial⟩, l104, fun j n44 hj => K0 j hj n44⟩

def ci_9F  (H H1 : am_H) : Prop := (am_is H1 52 (.inl (.int, (48, .inl (fun _ => 0)))) ∧ am_is H1 51 (.inr (2, [.ref 52, .ref 53, .int 0, .ref 54, .ref 55, .ref 56, .ref 57])) ∧ am_is H1 53 (.inl (.int, (4, .inl (fun _ => 0)))) ∧ am_is H1 54 (.inl (.boolean, (39, .inl (fun _ => 0)))) ∧ am_is H1 55 (.inl (.int, (6, .inl (fun _ => 0)))) ∧ am_is H1 56 (.inl (.int, (1320, .inl (fun _ => 0)))) ∧ am_is H1 57 (.inl (.int, (33, .inl (fun _ => 0)))) ∧ True) ∧ H1.length = 58 ∧ ∀ j : Nat, j ≠ 51 → j < 52 → H1[j]? = H[j]?
set_option maxRecDepth 100000 in
theorem ci_9 {sL : Nat} {sx : Nat → Int32} {cs : Nat → Nat → Option Int32} {H : am_H}  (hl : H.length = 52) (h51 : H[51]? = some (.inr (2, [.null, .null, .int 0, .null, .null, .null, .null]))) :
    am_NW sL sx cs 2 0 [(0, .ref 51)] [] H 0 0 none 6 1450 (ci_9F H) := by
  refine en_s (am_nb (m := 4) (pc1 := 7) (ls1 := [(0, .ref 51)]) (st1 := [.int 48, .ref 51]) (H1 := H) (k1 := 0) (n1 := 0) (by with_unfolding_all rfl)) ?_
  refine en_newa (N := 52) (m := 48) (ty := .int) rfl hl rfl (by decide) (by with_unfolding_all rfl) rfl rfl ?_
  intro H108 l108 f108 k108
  refine en_put rfl l108 ((k108 51 (Nat.le_of_ble_eq_true rfl : 51 < 52)).trans h51) rfl rfl rfl ?_
  intro H109 l109 f109 k109
  refine en_s (am_nb (m := 2) (pc1 := 14) (ls1 := [(0, .ref 51)]) (st1 := [.int 4, .ref 51]) (H1 := H109) (k1 := 1) (n1 := 48) (by with_unfolding_all rfl)) ?_
  refine en_newa (N := 53) (m := 4) (ty := .int) rfl l109 rfl (by decide) (by with_unfolding_all rfl) rfl rfl ?_
  intro H110 l110 f110 k110
  refine en_put rfl l110 ((k110 51 (Nat.le_of_ble_eq_true rfl : 51 < 53)).trans f109) rfl rfl rfl ?_
  intro H111 l111 f111 k111
  refine en_s (am_nb (m := 2) (pc1 := 22) (ls1 := [(0, .ref 51)]) (st1 := [.int 39, .ref 51]) (H1 := H111) (k1 := 2) (n1 := 52) (by with_unfolding_all rfl)) ?_
  refine en_newa (N := 54) (m := 39) (ty := .boolean) rfl l111 rfl (by decide) (by with_unfolding_all rfl) rfl rfl ?_
  intro H112 l112 f112 k112
  refine en_put rfl l112 ((k112 51 (Nat.le_of_ble_eq_true rfl : 51 < 54)).trans f111) rfl rfl rfl ?_
  intro H113 l113 f113 k113
  refine en_s (am_nb (m := 2) (pc1 := 30) (ls1 := [(0, .ref 51)]) (st1 := [.int 6, .ref 51]) (H1 := H113) (k1 := 3) (n1 := 91) (by with_unfolding_all rfl)) ?_
  refine en_newa (N := 55) (m := 6) (ty := .int) rfl l113 rfl (by decide) (by with_unfolding_all rfl) rfl rfl ?_
  intro H114 l114 f114 k114
  refine en_put rfl l114 ((k114 51 (Nat.le_of_ble_eq_true rfl : 51 < 55)).trans f113) rfl rfl rfl ?_
  intro H115 l115 f115 k115
  refine en_s (am_nb (m := 2) (pc1 := 39) (ls1 := [(0, .ref 51)]) (st1 := [.int 1320, .ref 51]) (H1 := H115) (k1 := 4) (n1 := 97) (by with_unfolding_all rfl)) ?_
  refine en_newa (N := 56) (m := 1320) (ty := .int) rfl l115 rfl (by decide) (by with_unfolding_all rfl) rfl rfl ?_
  intro H116 l116 f116 k116
  refine en_put rfl l116 ((k116 51 (Nat.le_of_ble_eq_true rfl : 51 < 56)).trans f115) rfl rfl rfl ?_
  intro H117 l117 f117 k117
  refine en_s (am_nb (m := 2) (pc1 := 47) (ls1 := [(0, .ref 51)]) (st1 := [.int 33, .ref 51]) (H1 := H117) (k1 := 5) (n1 := 1417) (by with_unfolding_all rfl)) ?_
  refine en_newa (N := 57) (m := 33) (ty := .int) rfl l117 rfl (by decide) (by with_unfolding_all rfl) rfl rfl ?_
  intro H118 l118 f118 k118
  refine en_put rfl l118 ((k118 51 (Nat.le_of_ble_eq_true rfl : 51 < 57)).trans f117) rfl rfl rfl ?_
  intro H119 l119 f119 k119
  have K11 : ∀ j : Nat, j < 58 → j ≠ 51 → H119[j]? = H118[j]? := fun j hj n51 => (k119 j n51)
  have K10 : ∀ j : Nat, j < 57 → j ≠ 51 → H119[j]? = H117[j]? := fun j hj n51 => (K11 j (Nat.lt_of_lt_of_le hj (Nat.le_of_ble_eq_true rfl : 57 ≤ 58)) n51).trans (k118 j hj)
  have K9 : ∀ j : Nat, j < 57 → j ≠ 51 → H119[j]? = H116[j]? := fun j hj n51 => (K10 j hj n51).trans (k117 j n51)
  have K8 : ∀ j : Nat, j < 56 → j ≠ 51 → H119[j]? = H115[j]? := fun j hj n51 => (K9 j (Nat.lt_of_lt_of_le hj (Nat.le_of_ble_eq_true rfl : 56 ≤ 57)) n51).trans (k116 j hj)
  have K7 : ∀ j : Nat, j < 56 → j ≠ 51 → H119[j]? = H114[j]? := fun j hj n51 => (K8 j hj n51).trans (k115 j n51)
  have K6 : ∀ j : Nat, j < 55 → j ≠ 51 → H119[j]? = H113[j]? := fun j hj n51 => (K7 j (Nat.lt_of_lt_of_le hj (Nat.le_of_ble_eq_true rfl : 55 ≤ 56)) n51).trans (k114 j hj)
  have K5 : ∀ j : Nat, j < 55 → j ≠ 51 → H119[j]? = H112[j]? := fun j hj n51 => (K6 j hj n51).trans (k113 j n51)
  have K4 : ∀ j : Nat, j < 54 → j ≠ 51 → H119[j]? = H111[j]? := fun j hj n51 => (K5 j (Nat.lt_of_lt_of_le hj (Nat.le_of_ble_eq_true rfl : 54 ≤ 55)) n51).trans (k112 j hj)
  have K3 : ∀ j : Nat, j < 54 → j ≠ 51 → H119[j]? = H110[j]? := fun j hj n51 => (K4 j hj n51).trans (k111 j n51)
  have K2 : ∀ j : Nat, j < 53 → j ≠ 51 → H119[j]? = H109[j]? := fun j hj n51 => (K3 j (Nat.lt_of_lt_of_le hj (Nat.le_of_ble_eq_true rfl : 53 ≤ 54)) n51).trans (k110 j hj)
  have K1 : ∀ j : Nat, j < 53 → j ≠ 51 → H119[j]? = H108[j]? := fun j hj n51 => (K2 j hj n51).trans (k109 j n51)
  have K0 : ∀ j : Nat, j < 52 → j ≠ 51 → H119[j]? = H[j]? := fun j hj n51 => (K1 j (Nat.lt_of_lt_of_le hj (Nat.le_of_ble_eq_true rfl : 52 ≤ 53)) n51).trans (k108 j hj)
  exact en_r (st_vret rfl rfl) ⟨⟨((K1 52 (Nat.le_of_ble_eq_true rfl : 52 < 53) (Nat.ne_of_beq_eq_false rfl : 52 ≠ 51)).trans f108), f119, ((K3 53 (Nat.le_of_ble_eq_true rfl : 53 < 54) (Nat.ne_of_beq_eq_false rfl : 53 ≠ 51)).trans f110), ((K5 54 (Nat.le_of_ble_eq_true rfl : 54 < 55) (Nat.ne_of_beq_eq_false rfl : 54 ≠ 51)).trans f112), ((K7 55 (Nat.le_of_ble_eq_true rfl : 55 < 56) (Nat.ne_of_beq_eq_false rfl : 55 ≠ 51)).trans f114), ((K9 56 (Nat.le_of_ble_eq_true rfl : 56 < 57) (Nat.ne_of_beq_eq_false rfl : 56 ≠ 51)).trans f116), ((K11 57 (Nat.le_of_ble_eq_true rfl : 57 < 58) (Nat.ne_of_beq_eq_false rfl : 57 ≠ 51)).trans f118), trivial⟩, l119, fun j n51 hj => K0 j hj n51⟩

def ci_10F  (H H1 : am_H) : Prop := (am_is H1 59 (.inl (.int, (48, .inl (fun _ => 0)))) ∧ am_is H1 58 (.inr (2, [.ref 59, .ref 60, .int 0, .ref 61, .ref 62, .ref 63, .ref 64])) ∧ am_is H1 60 (.inl (.int, (4, .inl (fun _ => 0)))) ∧ am_is H1 61 (.inl (.boolean, (39, .inl (fun _ => 0)))) ∧ am_is H1 62 (.inl (.int, (6, .inl (fun _ => 0)))) ∧ am_is H1 63 (.inl (.int, (1320, .inl (fun _ => 0)))) ∧ am_is H1 64 (.inl (.int, (33, .inl (fun _ => 0)))) ∧ True) ∧ H1.length = 65 ∧ ∀ j : Nat, j ≠ 58 → j < 59 → H1[j]? = H[j]?
set_option maxRecDepth 100000 in
theorem ci_10 {sL : Nat} {sx : Nat → Int32} {cs : Nat → Nat → Option Int32} {H : am_H}  (hl : H.length = 59) (h58 : H[58]? = some (.inr (2, [.null, .null, .int 0, .null, .null, .null, .null]))) :
    am_NW sL sx cs 2 0 [(0, .ref 58)] [] H 0 0 none 6 1450 (ci_10F H) := by
  refine en_s (am_nb (m := 4) (pc1 := 7) (ls1 := [(0, .ref 58)]) (st1 := [.int 48, .ref 58]) (H1 := H) (k1 := 0) (n1 := 0) (by with_unfolding_all rfl)) ?_
  refine en_newa (N := 59) (m := 48) (ty := .int) rfl hl rfl (by decide) (by with_unfolding_all rfl) rfl rfl ?_
  intro H123 l123 f123 k123
  refine en_put rfl l123 ((k123 58 (Nat.le_of_ble_eq_true rfl : 58 < 59)).trans h58) rfl rfl rfl ?_
  intro H124 l124 f124 k124
  refine en_s (am_nb (m := 2) (pc1 := 14) (ls1 := [(0, .ref 58)]) (st1 := [.int 4, .ref 58]) (H1 := H124) (k1 := 1) (n1 := 48) (by with_unfolding_all rfl)) ?_
  refine en_newa (N := 60) (m := 4) (ty := .int) rfl l124 rfl (by decide) (by with_unfolding_all rfl) rfl rfl ?_
  intro H125 l125 f125 k125
  refine en_put rfl l125 ((k125 58 (Nat.le_of_ble_eq_true rfl : 58 < 60)).trans f124) rfl rfl rfl ?_
  intro H126 l126 f126 k126
  refine en_s (am_nb (m := 2) (pc1 := 22) (ls1 := [(0, .ref 58)]) (st1 := [.int 39, .ref 58]) (H1 := H126) (k1 := 2) (n1 := 52) (by with_unfolding_all rfl)) ?_
  refine en_newa (N := 61) (m := 39) (ty := .boolean) rfl l126 rfl (by decide) (by with_unfolding_all rfl) rfl rfl ?_
  intro H127 l127 f127 k127
  refine en_put rfl l127 ((k127 58 (Nat.le_of_ble_eq_true rfl : 58 < 61)).trans f126) rfl rfl rfl ?_
  intro H128 l128 f128 k128
  refine en_s (am_nb (m := 2) (pc1 := 30) (ls1 := [(0, .ref 58)]) (st1 := [.int 6, .ref 58]) (H1 := H128) (k1 := 3) (n1 := 91) (by with_unfolding_all rfl)) ?_
  refine en_newa (N := 62) (m := 6) (ty := .int) rfl l128 rfl (by decide) (by with_unfolding_all rfl) rfl rfl ?_
  intro H129 l129 f129 k129
  refine en_put rfl l129 ((k129 58 (Nat.le_of_ble_eq_true rfl : 58 < 62)).trans f128) rfl rfl rfl ?_
  intro H130 l130 f130 k130
  refine en_s (am_nb (m := 2) (pc1 := 39) (ls1 := [(0, .ref 58)]) (st1 := [.int 1320, .ref 58]) (H1 := H130) (k1 := 4) (n1 := 97) (by with_unfolding_all rfl)) ?_
  refine en_newa (N := 63) (m := 1320) (ty := .int) rfl l130 rfl (by decide) (by with_unfolding_all rfl) rfl rfl ?_
  intro H131 l131 f131 k131
  refine en_put rfl l131 ((k131 58 (Nat.le_of_ble_eq_true rfl : 58 < 63)).trans f130) rfl rfl rfl ?_
  intro H132 l132 f132 k132
  refine en_s (am_nb (m := 2) (pc1 := 47) (ls1 := [(0, .ref 58)]) (st1 := [.int 33, .ref 58]) (H1 := H132) (k1 := 5) (n1 := 1417) (by with_unfolding_all rfl)) ?_
  refine en_newa (N := 64) (m := 33) (ty := .int) rfl l132 rfl (by decide) (by with_unfolding_all rfl) rfl rfl ?_
  intro H133 l133 f133 k133
  refine en_put rfl l133 ((k133 58 (Nat.le_of_ble_eq_true rfl : 58 < 64)).trans f132) rfl rfl rfl ?_
  intro H134 l134 f134 k134
  have K11 : ∀ j : Nat, j < 65 → j ≠ 58 → H134[j]? = H133[j]? := fun j hj n58 => (k134 j n58)
  have K10 : ∀ j : Nat, j < 64 → j ≠ 58 → H134[j]? = H132[j]? := fun j hj n58 => (K11 j (Nat.lt_of_lt_of_le hj (Nat.le_of_ble_eq_true rfl : 64 ≤ 65)) n58).trans (k133 j hj)
  have K9 : ∀ j : Nat, j < 64 → j ≠ 58 → H134[j]? = H131[j]? := fun j hj n58 => (K10 j hj n58).trans (k132 j n58)
  have K8 : ∀ j : Nat, j < 63 → j ≠ 58 → H134[j]? = H130[j]? := fun j hj n58 => (K9 j (Nat.lt_of_lt_of_le hj (Nat.le_of_ble_eq_true rfl : 63 ≤ 64)) n58).trans (k131 j hj)
  have K7 : ∀ j : Nat, j < 63 → j ≠ 58 → H134[j]? = H129[j]? := fun j hj n58 => (K8 j hj n58).trans (k130 j n58)
  have K6 : ∀ j : Nat, j < 62 → j ≠ 58 → H134[j]? = H128[j]? := fun j hj n58 => (K7 j (Nat.lt_of_lt_of_le hj (Nat.le_of_ble_eq_true rfl : 62 ≤ 63)) n58).trans (k129 j hj)
  have K5 : ∀ j : Nat, j < 62 → j ≠ 58 → H134[j]? = H127[j]? := fun j hj n58 => (K6 j hj n58).trans (k128 j n58)
  have K4 : ∀ j : Nat, j < 61 → j ≠ 58 → H134[j]? = H126[j]? := fun j hj n58 => (K5 j (Nat.lt_of_lt_of_le hj (Nat.le_of_ble_eq_true rfl : 61 ≤ 62)) n58).trans (k127 j hj)
  have K3 : ∀ j : Nat, j < 61 → j ≠ 58 → H134[j]? = H125[j]? := fun j hj n58 => (K4 j hj n58).trans (k126 j n58)
  have K2 : ∀ j : Nat, j < 60 → j ≠ 58 → H134[j]? = H124[j]? := fun j hj n58 => (K3 j (Nat.lt_of_lt_of_le hj (Nat.le_of_ble_eq_true rfl : 60 ≤ 61)) n58).trans (k125 j hj)
  have K1 : ∀ j : Nat, j < 60 → j ≠ 58 → H134[j]? = H123[j]? := fun j hj n58 => (K2 j hj n58).trans (k124 j n58)
  have K0 : ∀ j : Nat, j < 59 → j ≠ 58 → H134[j]? = H[j]? := fun j hj n58 => (K1 j (Nat.lt_of_lt_of_le hj (Nat.le_of_ble_eq_true rfl : 59 ≤ 60)) n58).trans (k123 j hj)
  exact en_r (st_vret rfl rfl) ⟨⟨((K1 59 (Nat.le_of_ble_eq_true rfl : 59 < 60) (Nat.ne_of_beq_eq_false rfl : 59 ≠ 58)).trans f123), f134, ((K3 60 (Nat.le_of_ble_eq_true rfl : 60 < 61) (Nat.ne_of_beq_eq_false rfl : 60 ≠ 58)).trans f125), ((K5 61 (Nat.le_of_ble_eq_true rfl : 61 < 62) (Nat.ne_of_beq_eq_false rfl : 61 ≠ 58)).trans f127), ((K7 62 (Nat.le_of_ble_eq_true rfl : 62 < 63) (Nat.ne_of_beq_eq_false rfl : 62 ≠ 58)).trans f129), ((K9 63 (Nat.le_of_ble_eq_true rfl : 63 < 64) (Nat.ne_of_beq_eq_false rfl : 63 ≠ 58)).trans f131), ((K11 64 (Nat.le_of_ble_eq_true rfl : 64 < 65) (Nat.ne_of_beq_eq_false rfl : 64 ≠ 58)).trans f133), trivial⟩, l134, fun j n58 hj => K0 j hj n58⟩

def ci_11F  (H H1 : am_H) : Prop := (am_is H1 66 (.inl (.int, (48, .inl (fun _ => 0)))) ∧ am_is H1 65 (.inr (2, [.ref 66, .ref 67, .int 0, .ref 68, .ref 69, .ref 70, .ref 71])) ∧ am_is H1 67 (.inl (.int, (4, .inl (fun _ => 0)))) ∧ am_is H1 68 (.inl (.boolean, (39, .inl (fun _ => 0)))) ∧ am_is H1 69 (.inl (.int, (6, .inl (fun _ => 0)))) ∧ am_is H1 70 (.inl (.int, (1320, .inl (fun _ => 0)))) ∧ am_is H1 71 (.inl (.int, (33, .inl (fun _ => 0)))) ∧ True) ∧ H1.length = 72 ∧ ∀ j : Nat, j ≠ 65 → j < 66 → H1[j]? = H[j]?
set_option maxRecDepth 100000 in
theorem ci_11 {sL : Nat} {sx : Nat → Int32} {cs : Nat → Nat → Option Int32} {H : am_H}  (hl : H.length = 66) (h65 : H[65]? = some (.inr (2, [.null, .null, .int 0, .null, .null, .null, .null]))) :
    am_NW sL sx cs 2 0 [(0, .ref 65)] [] H 0 0 none 6 1450 (ci_11F H) := by
  refine en_s (am_nb (m := 4) (pc1 := 7) (ls1 := [(0, .ref 65)]) (st1 := [.int 48, .ref 65]) (H1 := H) (k1 := 0) (n1 := 0) (by with_unfolding_all rfl)) ?_
  refine en_newa (N := 66) (m := 48) (ty := .int) rfl hl rfl (by decide) (by with_unfolding_all rfl) rfl rfl ?_
  intro H138 l138 f138 k138
  refine en_put rfl l138 ((k138 65 (Nat.le_of_ble_eq_true rfl : 65 < 66)).trans h65) rfl rfl rfl ?_
  intro H139 l139 f139 k139
  refine en_s (am_nb (m := 2) (pc1 := 14) (ls1 := [(0, .ref 65)]) (st1 := [.int 4, .ref 65]) (H1 := H139) (k1 := 1) (n1 := 48) (by with_unfolding_all rfl)) ?_
  refine en_newa (N := 67) (m := 4) (ty := .int) rfl l139 rfl (by decide) (by with_unfolding_all rfl) rfl rfl ?_
  intro H140 l140 f140 k140
  refine en_put rfl l140 ((k140 65 (Nat.le_of_ble_eq_true rfl : 65 < 67)).trans f139) rfl rfl rfl ?_
  intro H141 l141 f141 k141
  refine en_s (am_nb (m := 2) (pc1 := 22) (ls1 := [(0, .ref 65)]) (st1 := [.int 39, .ref 65]) (H1 := H141) (k1 := 2) (n1 := 52) (by with_unfolding_all rfl)) ?_
  refine en_newa (N := 68) (m := 39) (ty := .boolean) rfl l141 rfl (by decide) (by with_unfolding_all rfl) rfl rfl ?_
  intro H142 l142 f142 k142
  refine en_put rfl l142 ((k142 65 (Nat.le_of_ble_eq_true rfl : 65 < 68)).trans f141) rfl rfl rfl ?_
  intro H143 l143 f143 k143
  refine en_s (am_nb (m := 2) (pc1 := 30) (ls1 := [(0, .ref 65)]) (st1 := [.int 6, .ref 65]) (H1 := H143) (k1 := 3) (n1 := 91) (by with_unfolding_all rfl)) ?_
  refine en_newa (N := 69) (m := 6) (ty := .int) rfl l143 rfl (by decide) (by with_unfolding_all rfl) rfl rfl ?_
  intro H144 l144 f144 k144
  refine en_put rfl l144 ((k144 65 (Nat.le_of_ble_eq_true rfl : 65 < 69)).trans f143) rfl rfl rfl ?_
  intro H145 l145 f145 k145
  refine en_s (am_nb (m := 2) (pc1 := 39) (ls1 := [(0, .ref 65)]) (st1 := [.int 1320, .ref 65]) (H1 := H145) (k1 := 4) (n1 := 97) (by with_unfolding_all rfl)) ?_
  refine en_newa (N := 70) (m := 1320) (ty := .int) rfl l145 rfl (by decide) (by with_unfolding_all rfl) rfl rfl ?_
  intro H146 l146 f146 k146
  refine en_put rfl l146 ((k146 65 (Nat.le_of_ble_eq_true rfl : 65 < 70)).trans f145) rfl rfl rfl ?_
  intro H147 l147 f147 k147
  refine en_s (am_nb (m := 2) (pc1 := 47) (ls1 := [(0, .ref 65)]) (st1 := [.int 33, .ref 65]) (H1 := H147) (k1 := 5) (n1 := 1417) (by with_unfolding_all rfl)) ?_
  refine en_newa (N := 71) (m := 33) (ty := .int) rfl l147 rfl (by decide) (by with_unfolding_all rfl) rfl rfl ?_
  intro H148 l148 f148 k148
  refine en_put rfl l148 ((k148 65 (Nat.le_of_ble_eq_true rfl : 65 < 71)).trans f147) rfl rfl rfl ?_
  intro H149 l149 f149 k149
  have K11 : ∀ j : Nat, j < 72 → j ≠ 65 → H149[j]? = H148[j]? := fun j hj n65 => (k149 j n65)
  have K10 : ∀ j : Nat, j < 71 → j ≠ 65 → H149[j]? = H147[j]? := fun j hj n65 => (K11 j (Nat.lt_of_lt_of_le hj (Nat.le_of_ble_eq_true rfl : 71 ≤ 72)) n65).trans (k148 j hj)
  have K9 : ∀ j : Nat, j < 71 → j ≠ 65 → H149[j]? = H146[j]? := fun j hj n65 => (K10 j hj n65).trans (k147 j n65)
  have K8 : ∀ j : Nat, j < 70 → j ≠ 65 → H149[j]? = H145[j]? := fun j hj n65 => (K9 j (Nat.lt_of_lt_of_le hj (Nat.le_of_ble_eq_true rfl : 70 ≤ 71)) n65).trans (k146 j hj)
  have K7 : ∀ j : Nat, j < 70 → j ≠ 65 → H149[j]? = H144[j]? := fun j hj n65 => (K8 j hj n65).trans (k145 j n65)
  have K6 : ∀ j : Nat, j < 69 → j ≠ 65 → H149[j]? = H143[j]? := fun j hj n65 => (K7 j (Nat.lt_of_lt_of_le hj (Nat.le_of_ble_eq_true rfl : 69 ≤ 70)) n65).trans (k144 j hj)
  have K5 : ∀ j : Nat, j < 69 → j ≠ 65 → H149[j]? = H142[j]? := fun j hj n65 => (K6 j hj n65).trans (k143 j n65)
  have K4 : ∀ j : Nat, j < 68 → j ≠ 65 → H149[j]? = H141[j]? := fun j hj n65 => (K5 j (Nat.lt_of_lt_of_le hj (Nat.le_of_ble_eq_true rfl : 68 ≤ 69)) n65).trans (k142 j hj)
  have K3 : ∀ j : Nat, j < 68 → j ≠ 65 → H149[j]? = H140[j]? := fun j hj n65 => (K4 j hj n65).trans (k141 j n65)
  have K2 : ∀ j : Nat, j < 67 → j ≠ 65 → H149[j]? = H139[j]? := fun j hj n65 => (K3 j (Nat.lt_of_lt_of_le hj (Nat.le_of_ble_eq_true rfl : 67 ≤ 68)) n65).trans (k140 j hj)
  have K1 : ∀ j : Nat, j < 67 → j ≠ 65 → H149[j]? = H138[j]? := fun j hj n65 => (K2 j hj n65).trans (k139 j n65)
  have K0 : ∀ j : Nat, j < 66 → j ≠ 65 → H149[j]? = H[j]? := fun j hj n65 => (K1 j (Nat.lt_of_lt_of_le hj (Nat.le_of_ble_eq_true rfl : 66 ≤ 67)) n65).trans (k138 j hj)
  exact en_r (st_vret rfl rfl) ⟨⟨((K1 66 (Nat.le_of_ble_eq_true rfl : 66 < 67) (Nat.ne_of_beq_eq_false rfl : 66 ≠ 65)).trans f138), f149, ((K3 67 (Nat.le_of_ble_eq_true rfl : 67 < 68) (Nat.ne_of_beq_eq_false rfl : 67 ≠ 65)).trans f140), ((K5 68 (Nat.le_of_ble_eq_true rfl : 68 < 69) (Nat.ne_of_beq_eq_false rfl : 68 ≠ 65)).trans f142), ((K7 69 (Nat.le_of_ble_eq_true rfl : 69 < 70) (Nat.ne_of_beq_eq_false rfl : 69 ≠ 65)).trans f144), ((K9 70 (Nat.le_of_ble_eq_true rfl : 70 < 71) (Nat.ne_of_beq_eq_false rfl : 70 ≠ 65)).trans f146), ((K11 71 (Nat.le_of_ble_eq_true rfl : 71 < 72) (Nat.ne_of_beq_eq_false rfl : 71 ≠ 65)).trans f148), trivial⟩, l149, fun j n65 hj => K0 j hj n65⟩

def ci_12F  (H H1 : am_H) : Prop := (am_is H1 73 (.inl (.int, (48, .inl (fun _ => 0)))) ∧ am_is H1 72 (.inr (2, [.ref 73, .ref 74, .int 0, .ref 75, .ref 76, .ref 77, .ref 78])) ∧ am_is H1 74 (.inl (.int, (4, .inl (fun _ => 0)))) ∧ am_is H1 75 (.inl (.boolean, (39, .inl (fun _ => 0)))) ∧ am_is H1 76 (.inl (.int, (6, .inl (fun _ => 0)))) ∧ am_is H1 77 (.inl (.int, (1320, .inl (fun _ => 0)))) ∧ am_is H1 78 (.inl (.int, (33, .inl (fun _ => 0)))) ∧ True) ∧ H1.length = 79 ∧ ∀ j : Nat, j ≠ 72 → j < 73 → H1[j]? = H[j]?
set_option maxRecDepth 100000 in
theorem ci_12 {sL : Nat} {sx : Nat → Int32} {cs : Nat → Nat → Option Int32} {H : am_H}  (hl : H.length = 73) (h72 : H[72]? = some (.inr (2, [.null, .null, .int 0, .null, .null, .null, .null]))) :
    am_NW sL sx cs 2 0 [(0, .ref 72)] [] H 0 0 none 6 1450 (ci_12F H) := by
  refine en_s (am_nb (m := 4) (pc1 := 7) (ls1 := [(0, .ref 72)]) (st1 := [.int 48, .ref 72]) (H1 := H) (k1 := 0) (n1 := 0) (by with_unfolding_all rfl)) ?_
  refine en_newa (N := 73) (m := 48) (ty := .int) rfl hl rfl (by decide) (by with_unfolding_all rfl) rfl rfl ?_
  intro H153 l153 f153 k153
  refine en_put rfl l153 ((k153 72 (Nat.le_of_ble_eq_true rfl : 72 < 73)).trans h72) rfl rfl rfl ?_
  intro H154 l154 f154 k154
  refine en_s (am_nb (m := 2) (pc1 := 14) (ls1 := [(0, .ref 72)]) (st1 := [.int 4, .ref 72]) (H1 := H154) (k1 := 1) (n1 := 48) (by with_unfolding_all rfl)) ?_
  refine en_newa (N := 74) (m := 4) (ty := .int) rfl l154 rfl (by decide) (by with_unfolding_all rfl) rfl rfl ?_
  intro H155 l155 f155 k155
  refine en_put rfl l155 ((k155 72 (Nat.le_of_ble_eq_true rfl : 72 < 74)).trans f154) rfl rfl rfl ?_
  intro H156 l156 f156 k156
  refine en_s (am_nb (m := 2) (pc1 := 22) (ls1 := [(0, .ref 72)]) (st1 := [.int 39, .ref 72]) (H1 := H156) (k1 := 2) (n1 := 52) (by with_unfolding_all rfl)) ?_
  refine en_newa (N := 75) (m := 39) (ty := .boolean) rfl l156 rfl (by decide) (by with_unfolding_all rfl) rfl rfl ?_
  intro H157 l157 f157 k157
  refine en_put rfl l157 ((k157 72 (Nat.le_of_ble_eq_true rfl : 72 < 75)).trans f156) rfl rfl rfl ?_
  intro H158 l158 f158 k158
  refine en_s (am_nb (m := 2) (pc1 := 30) (ls1 := [(0, .ref 72)]) (st1 := [.int 6, .ref 72]) (H1 := H158) (k1 := 3) (n1 := 91) (by with_unfolding_all rfl)) ?_
  refine en_newa (N := 76) (m := 6) (ty := .int) rfl l158 rfl (by decide) (by with_unfolding_all rfl) rfl rfl ?_
  intro H159 l159 f159 k159
  refine en_put rfl l159 ((k159 72 (Nat.le_of_ble_eq_true rfl : 72 < 76)).trans f158) rfl rfl rfl ?_
  intro H160 l160 f160 k160
  refine en_s (am_nb (m := 2) (pc1 := 39) (ls1 := [(0, .ref 72)]) (st1 := [.int 1320, .ref 72]) (H1 := H160) (k1 := 4) (n1 := 97) (by with_unfolding_all rfl)) ?_
  refine en_newa (N := 77) (m := 1320) (ty := .int) rfl l160 rfl (by decide) (by with_unfolding_all rfl) rfl rfl ?_
  intro H161 l161 f161 k161
  refine en_put rfl l161 ((k161 72 (Nat.le_of_ble_eq_true rfl : 72 < 77)).trans f160) rfl rfl rfl ?_
  intro H162 l162 f162 k162
  refine en_s (am_nb (m := 2) (pc1 := 47) (ls1 := [(0, .ref 72)]) (st1 := [.int 33, .ref 72]) (H1 := H162) (k1 := 5) (n1 := 1417) (by with_unfolding_all rfl)) ?_
  refine en_newa (N := 78) (m := 33) (ty := .int) rfl l162 rfl (by decide) (by with_unfolding_all rfl) rfl rfl ?_
  intro H163 l163 f163 k163
  refine en_put rfl l163 ((k163 72 (Nat.le_of_ble_eq_true rfl : 72 < 78)).trans f162) rfl rfl rfl ?_
  intro H164 l164 f164 k164
  have K11 : ∀ j : Nat, j < 79 → j ≠ 72 → H164[j]? = H163[j]? := fun j hj n72 => (k164 j n72)
  have K10 : ∀ j : Nat, j < 78 → j ≠ 72 → H164[j]? = H162[j]? := fun j hj n72 => (K11 j (Nat.lt_of_lt_of_le hj (Nat.le_of_ble_eq_true rfl : 78 ≤ 79)) n72).trans (k163 j hj)
  have K9 : ∀ j : Nat, j < 78 → j ≠ 72 → H164[j]? = H161[j]? := fun j hj n72 => (K10 j hj n72).trans (k162 j n72)
  have K8 : ∀ j : Nat, j < 77 → j ≠ 72 → H164[j]? = H160[j]? := fun j hj n72 => (K9 j (Nat.lt_of_lt_of_le hj (Nat.le_of_ble_eq_true rfl : 77 ≤ 78)) n72).trans (k161 j hj)
  have K7 : ∀ j : Nat, j < 77 → j ≠ 72 → H164[j]? = H159[j]? := fun j hj n72 => (K8 j hj n72).trans (k160 j n72)
  have K6 : ∀ j : Nat, j < 76 → j ≠ 72 → H164[j]? = H158[j]? := fun j hj n72 => (K7 j (Nat.lt_of_lt_of_le hj (Nat.le_of_ble_eq_true rfl : 76 ≤ 77)) n72).trans (k159 j hj)
  have K5 : ∀ j : Nat, j < 76 → j ≠ 72 → H164[j]? = H157[j]? := fun j hj n72 => (K6 j hj n72).trans (k158 j n72)
  have K4 : ∀ j : Nat, j < 75 → j ≠ 72 → H164[j]? = H156[j]? := fun j hj n72 => (K5 j (Nat.lt_of_lt_of_le hj (Nat.le_of_ble_eq_true rfl : 75 ≤ 76)) n72).trans (k157 j hj)
  have K3 : ∀ j : Nat, j < 75 → j ≠ 72 → H164[j]? = H155[j]? := fun j hj n72 => (K4 j hj n72).trans (k156 j n72)
  have K2 : ∀ j : Nat, j < 74 → j ≠ 72 → H164[j]? = H154[j]? := fun j hj n72 => (K3 j (Nat.lt_of_lt_of_le hj (Nat.le_of_ble_eq_true rfl : 74 ≤ 75)) n72).trans (k155 j hj)
  have K1 : ∀ j : Nat, j < 74 → j ≠ 72 → H164[j]? = H153[j]? := fun j hj n72 => (K2 j hj n72).trans (k154 j n72)
  have K0 : ∀ j : Nat, j < 73 → j ≠ 72 → H164[j]? = H[j]? := fun j hj n72 => (K1 j (Nat.lt_of_lt_of_le hj (Nat.le_of_ble_eq_true rfl : 73 ≤ 74)) n72).trans (k153 j hj)
  exact en_r (st_vret rfl rfl) ⟨⟨((K1 73 (Nat.le_of_ble_eq_true rfl : 73 < 74) (Nat.ne_of_beq_eq_false rfl : 73 ≠ 72)).trans f153), f164, ((K3 74 (Nat.le_of_ble_eq_true rfl : 74 < 75) (Nat.ne_of_beq_eq_false rfl : 74 ≠ 72)).trans f155), ((K5 75 (Nat.le_of_ble_eq_true rfl : 75 < 76) (Nat.ne_of_beq_eq_false rfl : 75 ≠ 72)).trans f157), ((K7 76 (Nat.le_of_ble_eq_true rfl : 76 < 77) (Nat.ne_of_beq_eq_false rfl : 76 ≠ 72)).trans f159), ((K9 77 (Nat.le_of_ble_eq_true rfl : 77 < 78) (Nat.ne_of_beq_eq_false rfl : 77 ≠ 72)).trans f161), ((K11 78 (Nat.le_of_ble_eq_true rfl : 78 < 79) (Nat.ne_of_beq_eq_false rfl : 78 ≠ 72)).trans f163), trivial⟩, l164, fun j n72 hj => K0 j hj n72⟩

def ci_13F  (H H1 : am_H) : Prop := (am_is H1 80 (.inl (.int, (48, .inl (fun _ => 0)))) ∧ am_is H1 79 (.inr (2, [.ref 80, .ref 81, .int 0, .ref 82, .ref 83, .ref 84, .ref 85])) ∧ am_is H1 81 (.inl (.int, (4, .inl (fun _ => 0)))) ∧ am_is H1 82 (.inl (.boolean, (39, .inl (fun _ => 0)))) ∧ am_is H1 83 (.inl (.int, (6, .inl (fun _ => 0)))) ∧ am_is H1 84 (.inl (.int, (1320, .inl (fun _ => 0)))) ∧ am_is H1 85 (.inl (.int, (33, .inl (fun _ => 0)))) ∧ True) ∧ H1.length = 86 ∧ ∀ j : Nat, j ≠ 79 → j < 80 → H1[j]? = H[j]?
set_option maxRecDepth 100000 in
theorem ci_13 {sL : Nat} {sx : Nat → Int32} {cs : Nat → Nat → Option Int32} {H : am_H}  (hl : H.length = 80) (h79 : H[79]? = some (.inr (2, [.null, .null, .int 0, .null, .null, .null, .null]))) :
    am_NW sL sx cs 2 0 [(0, .ref 79)] [] H 0 0 none 6 1450 (ci_13F H) := by
  refine en_s (am_nb (m := 4) (pc1 := 7) (ls1 := [(0, .ref 79)]) (st1 := [.int 48, .ref 79]) (H1 := H) (k1 := 0) (n1 := 0) (by with_unfolding_all rfl)) ?_
  refine en_newa (N := 80) (m := 48) (ty := .int) rfl hl rfl (by decide) (by with_unfolding_all rfl) rfl rfl ?_
  intro H168 l168 f168 k168
  refine en_put rfl l168 ((k168 79 (Nat.le_of_ble_eq_true rfl : 79 < 80)).trans h79) rfl rfl rfl ?_
  intro H169 l169 f169 k169
  refine en_s (am_nb (m := 2) (pc1 := 14) (ls1 := [(0, .ref 79)]) (st1 := [.int 4, .ref 79]) (H1 := H169) (k1 := 1) (n1 := 48) (by with_unfolding_all rfl)) ?_
  refine en_newa (N := 81) (m := 4) (ty := .int) rfl l169 rfl (by decide) (by with_unfolding_all rfl) rfl rfl ?_
  intro H170 l170 f170 k170
  refine en_put rfl l170 ((k170 79 (Nat.le_of_ble_eq_true rfl : 79 < 81)).trans f169) rfl rfl rfl ?_
  intro H171 l171 f171 k171
  refine en_s (am_nb (m := 2) (pc1 := 22) (ls1 := [(0, .ref 79)]) (st1 := [.int 39, .ref 79]) (H1 := H171) (k1 := 2) (n1 := 52) (by with_unfolding_all rfl)) ?_
  refine en_newa (N := 82) (m := 39) (ty := .boolean) rfl l171 rfl (by decide) (by with_unfolding_all rfl) rfl rfl ?_
  intro H172 l172 f172 k172
  refine en_put rfl l172 ((k172 79 (Nat.le_of_ble_eq_true rfl : 79 < 82)).trans f171) rfl rfl rfl ?_
  intro H173 l173 f173 k173
  refine en_s (am_nb (m := 2) (pc1 := 30) (ls1 := [(0, .ref 79)]) (st1 := [.int 6, .ref 79]) (H1 := H173) (k1 := 3) (n1 := 91) (by with_unfolding_all rfl)) ?_
  refine en_newa (N := 83) (m := 6) (ty := .int) rfl l173 rfl (by decide) (by with_unfolding_all rfl) rfl rfl ?_
  intro H174 l174 f174 k174
  refine en_put rfl l174 ((k174 79 (Nat.le_of_ble_eq_true rfl : 79 < 83)).trans f173) rfl rfl rfl ?_
  intro H175 l175 f175 k175
  refine en_s (am_nb (m := 2) (pc1 := 39) (ls1 := [(0, .ref 79)]) (st1 := [.int 1320, .ref 79]) (H1 := H175) (k1 := 4) (n1 := 97) (by with_unfolding_all rfl)) ?_
  refine en_newa (N := 84) (m := 1320) (ty := .int) rfl l175 rfl (by decide) (by with_unfolding_all rfl) rfl rfl ?_
  intro H176 l176 f176 k176
  refine en_put rfl l176 ((k176 79 (Nat.le_of_ble_eq_true rfl : 79 < 84)).trans f175) rfl rfl rfl ?_
  intro H177 l177 f177 k177
  refine en_s (am_nb (m := 2) (pc1 := 47) (ls1 := [(0, .ref 79)]) (st1 := [.int 33, .ref 79]) (H1 := H177) (k1 := 5) (n1 := 1417) (by with_unfolding_all rfl)) ?_
  refine en_newa (N := 85) (m := 33) (ty := .int) rfl l177 rfl (by decide) (by with_unfolding_all rfl) rfl rfl ?_
  intro H178 l178 f178 k178
  refine en_put rfl l178 ((k178 79 (Nat.le_of_ble_eq_true rfl : 79 < 85)).trans f177) rfl rfl rfl ?_
  intro H179 l179 f179 k179
  have K11 : ∀ j : Nat, j < 86 → j ≠ 79 → H179[j]? = H178[j]? := fun j hj n79 => (k179 j n79)
  have K10 : ∀ j : Nat, j < 85 → j ≠ 79 → H179[j]? = H177[j]? := fun j hj n79 => (K11 j (Nat.lt_of_lt_of_le hj (Nat.le_of_ble_eq_true rfl : 85 ≤ 86)) n79).trans (k178 j hj)
  have K9 : ∀ j : Nat, j < 85 → j ≠ 79 → H179[j]? = H176[j]? := fun j hj n79 => (K10 j hj n79).trans (k177 j n79)
  have K8 : ∀ j : Nat, j < 84 → j ≠ 79 → H179[j]? = H175[j]? := fun j hj n79 => (K9 j (Nat.lt_of_lt_of_le hj (Nat.le_of_ble_eq_true rfl : 84 ≤ 85)) n79).trans (k176 j hj)
  have K7 : ∀ j : Nat, j < 84 → j ≠ 79 → H179[j]? = H174[j]? := fun j hj n79 => (K8 j hj n79).trans (k175 j n79)
  have K6 : ∀ j : Nat, j < 83 → j ≠ 79 → H179[j]? = H173[j]? := fun j hj n79 => (K7 j (Nat.lt_of_lt_of_le hj (Nat.le_of_ble_eq_true rfl : 83 ≤ 84)) n79).trans (k174 j hj)
  have K5 : ∀ j : Nat, j < 83 → j ≠ 79 → H179[j]? = H172[j]? := fun j hj n79 => (K6 j hj n79).trans (k173 j n79)
  have K4 : ∀ j : Nat, j < 82 → j ≠ 79 → H179[j]? = H171[j]? := fun j hj n79 => (K5 j (Nat.lt_of_lt_of_le hj (Nat.le_of_ble_eq_true rfl : 82 ≤ 83)) n79).trans (k172 j hj)
  have K3 : ∀ j : Nat, j < 82 → j ≠ 79 → H179[j]? = H170[j]? := fun j hj n79 => (K4 j hj n79).trans (k171 j n79)
  have K2 : ∀ j : Nat, j < 81 → j ≠ 79 → H179[j]? = H169[j]? := fun j hj n79 => (K3 j (Nat.lt_of_lt_of_le hj (Nat.le_of_ble_eq_true rfl : 81 ≤ 82)) n79).trans (k170 j hj)
  have K1 : ∀ j : Nat, j < 81 → j ≠ 79 → H179[j]? = H168[j]? := fun j hj n79 => (K2 j hj n79).trans (k169 j n79)
  have K0 : ∀ j : Nat, j < 80 → j ≠ 79 → H179[j]? = H[j]? := fun j hj n79 => (K1 j (Nat.lt_of_lt_of_le hj (Nat.le_of_ble_eq_true rfl : 80 ≤ 81)) n79).trans (k168 j hj)
  exact en_r (st_vret rfl rfl) ⟨⟨((K1 80 (Nat.le_of_ble_eq_true rfl : 80 < 81) (Nat.ne_of_beq_eq_false rfl : 80 ≠ 79)).trans f168), f179, ((K3 81 (Nat.le_of_ble_eq_true rfl : 81 < 82) (Nat.ne_of_beq_eq_false rfl : 81 ≠ 79)).trans f170), ((K5 82 (Nat.le_of_ble_eq_true rfl : 82 < 83) (Nat.ne_of_beq_eq_false rfl : 82 ≠ 79)).trans f172), ((K7 83 (Nat.le_of_ble_eq_true rfl : 83 < 84) (Nat.ne_of_beq_eq_false rfl : 83 ≠ 79)).trans f174), ((K9 84 (Nat.le_of_ble_eq_true rfl : 84 < 85) (Nat.ne_of_beq_eq_false rfl : 84 ≠ 79)).trans f176), ((K11 85 (Nat.le_of_ble_eq_true rfl : 85 < 86) (Nat.ne_of_beq_eq_false rfl : 85 ≠ 79)).trans f178), trivial⟩, l179, fun j n79 hj => K0 j hj n79⟩

def ci_14F  (H H1 : am_H) : Prop := (am_is H1 87 (.inl (.int, (48, .inl (fun _ => 0)))) ∧ am_is H1 86 (.inr (2, [.ref 87, .ref 88, .int 0, .ref 89, .ref 90, .ref 91, .ref 92])) ∧ am_is H1 88 (.inl (.int, (4, .inl (fun _ => 0)))) ∧ am_is H1 89 (.inl (.boolean, (39, .inl (fun _ => 0)))) ∧ am_is H1 90 (.inl (.int, (6, .inl (fun _ => 0)))) ∧ am_is H1 91 (.inl (.int, (1320, .inl (fun _ => 0)))) ∧ am_is H1 92 (.inl (.int, (33, .inl (fun _ => 0)))) ∧ True) ∧ H1.length = 93 ∧ ∀ j : Nat, j ≠ 86 → j < 87 → H1[j]? = H[j]?
set_option maxRecDepth 100000 in
theorem ci_14 {sL : Nat} {sx : Nat → Int32} {cs : Nat → Nat → Option Int32} {H : am_H}  (hl : H.length = 87) (h86 : H[86]? = some (.inr (2, [.null, .null, .int 0, .null, .null, .null, .null]))) :
    am_NW sL sx cs 2 0 [(0, .ref 86)] [] H 0 0 none 6 1450 (ci_14F H) := by
  refine en_s (am_nb (m := 4) (pc1 := 7) (ls1 := [(0, .ref 86)]) (st1 := [.int 48, .ref 86]) (H1 := H) (k1 := 0) (n1 := 0) (by with_unfolding_all rfl)) ?_
  refine en_newa (N := 87) (m := 48) (ty := .int) rfl hl rfl (by decide) (by with_unfolding_all rfl) rfl rfl ?_
  intro H183 l183 f183 k183
  refine en_put rfl l183 ((k183 86 (Nat.le_of_ble_eq_true rfl : 86 < 87)).trans h86) rfl rfl rfl ?_
  intro H184 l184 f184 k184
  refine en_s (am_nb (m := 2) (pc1 := 14) (ls1 := [(0, .ref 86)]) (st1 := [.int 4, .ref 86]) (H1 := H184) (k1 := 1) (n1 := 48) (by with_unfolding_all rfl)) ?_
  refine en_newa (N := 88) (m := 4) (ty := .int) rfl l184 rfl (by decide) (by with_unfolding_all rfl) rfl rfl ?_
  intro H185 l185 f185 k185
  refine en_put rfl l185 ((k185 86 (Nat.le_of_ble_eq_true rfl : 86 < 88)).trans f184) rfl rfl rfl ?_
  intro H186 l186 f186 k186
  refine en_s (am_nb (m := 2) (pc1 := 22) (ls1 := [(0, .ref 86)]) (st1 := [.int 39, .ref 86]) (H1 := H186) (k1 := 2) (n1 := 52) (by with_unfolding_all rfl)) ?_
  refine en_newa (N := 89) (m := 39) (ty := .boolean) rfl l186 rfl (by decide) (by with_unfolding_all rfl) rfl rfl ?_
  intro H187 l187 f187 k187
  refine en_put rfl l187 ((k187 86 (Nat.le_of_ble_eq_true rfl : 86 < 89)).trans f186) rfl rfl rfl ?_
  intro H188 l188 f188 k188
  refine en_s (am_nb (m := 2) (pc1 := 30) (ls1 := [(0, .ref 86)]) (st1 := [.int 6, .ref 86]) (H1 := H188) (k1 := 3) (n1 := 91) (by with_unfolding_all rfl)) ?_
  refine en_newa (N := 90) (m := 6) (ty := .int) rfl l188 rfl (by decide) (by with_unfolding_all rfl) rfl rfl ?_
  intro H189 l189 f189 k189
  refine en_put rfl l189 ((k189 86 (Nat.le_of_ble_eq_true rfl : 86 < 90)).trans f188) rfl rfl rfl ?_
  intro H190 l190 f190 k190
  refine en_s (am_nb (m := 2) (pc1 := 39) (ls1 := [(0, .ref 86)]) (st1 := [.int 1320, .ref 86]) (H1 := H190) (k1 := 4) (n1 := 97) (by with_unfolding_all rfl)) ?_
  refine en_newa (N := 91) (m := 1320) (ty := .int) rfl l190 rfl (by decide) (by with_unfolding_all rfl) rfl rfl ?_
  intro H191 l191 f191 k191
  refine en_put rfl l191 ((k191 86 (Nat.le_of_ble_eq_true rfl : 86 < 91)).trans f190) rfl rfl rfl ?_
  intro H192 l192 f192 k192
  refine en_s (am_nb (m := 2) (pc1 := 47) (ls1 := [(0, .ref 86)]) (st1 := [.int 33, .ref 86]) (H1 := H192) (k1 := 5) (n1 := 1417) (by with_unfolding_all rfl)) ?_
  refine en_newa (N := 92) (m := 33) (ty := .int) rfl l192 rfl (by decide) (by with_unfolding_all rfl) rfl rfl ?_
  intro H193 l193 f193 k193
  refine en_put rfl l193 ((k193 86 (Nat.le_of_ble_eq_true rfl : 86 < 92)).trans f192) rfl rfl rfl ?_
  intro H194 l194 f194 k194
  have K11 : ∀ j : Nat, j < 93 → j ≠ 86 → H194[j]? = H193[j]? := fun j hj n86 => (k194 j n86)
  have K10 : ∀ j : Nat, j < 92 → j ≠ 86 → H194[j]? = H192[j]? := fun j hj n86 => (K11 j (Nat.lt_of_lt_of_le hj (Nat.le_of_ble_eq_true rfl : 92 ≤ 93)) n86).trans (k193 j hj)
  have K9 : ∀ j : Nat, j < 92 → j ≠ 86 → H194[j]? = H191[j]? := fun j hj n86 => (K10 j hj n86).trans (k192 j n86)
  have K8 : ∀ j : Nat, j < 91 → j ≠ 86 → H194[j]? = H190[j]? := fun j hj n86 => (K9 j (Nat.lt_of_lt_of_le hj (Nat.le_of_ble_eq_true rfl : 91 ≤ 92)) n86).trans (k191 j hj)
  have K7 : ∀ j : Nat, j < 91 → j ≠ 86 → H194[j]? = H189[j]? := fun j hj n86 => (K8 j hj n86).trans (k190 j n86)
  have K6 : ∀ j : Nat, j < 90 → j ≠ 86 → H194[j]? = H188[j]? := fun j hj n86 => (K7 j (Nat.lt_of_lt_of_le hj (Nat.le_of_ble_eq_true rfl : 90 ≤ 91)) n86).trans (k189 j hj)
  have K5 : ∀ j : Nat, j < 90 → j ≠ 86 → H194[j]? = H187[j]? := fun j hj n86 => (K6 j hj n86).trans (k188 j n86)
  have K4 : ∀ j : Nat, j < 89 → j ≠ 86 → H194[j]? = H186[j]? := fun j hj n86 => (K5 j (Nat.lt_of_lt_of_le hj (Nat.le_of_ble_eq_true rfl : 89 ≤ 90)) n86).trans (k187 j hj)
  have K3 : ∀ j : Nat, j < 89 → j ≠ 86 → H194[j]? = H185[j]? := fun j hj n86 => (K4 j hj n86).trans (k186 j n86)
  have K2 : ∀ j : Nat, j < 88 → j ≠ 86 → H194[j]? = H184[j]? := fun j hj n86 => (K3 j (Nat.lt_of_lt_of_le hj (Nat.le_of_ble_eq_true rfl : 88 ≤ 89)) n86).trans (k185 j hj)
  have K1 : ∀ j : Nat, j < 88 → j ≠ 86 → H194[j]? = H183[j]? := fun j hj n86 => (K2 j hj n86).trans (k184 j n86)
  have K0 : ∀ j : Nat, j < 87 → j ≠ 86 → H194[j]? = H[j]? := fun j hj n86 => (K1 j (Nat.lt_of_lt_of_le hj (Nat.le_of_ble_eq_true rfl : 87 ≤ 88)) n86).trans (k183 j hj)
  exact en_r (st_vret rfl rfl) ⟨⟨((K1 87 (Nat.le_of_ble_eq_true rfl : 87 < 88) (Nat.ne_of_beq_eq_false rfl : 87 ≠ 86)).trans f183), f194, ((K3 88 (Nat.le_of_ble_eq_true rfl : 88 < 89) (Nat.ne_of_beq_eq_false rfl : 88 ≠ 86)).trans f185), ((K5 89 (Nat.le_of_ble_eq_true rfl : 89 < 90) (Nat.ne_of_beq_eq_false rfl : 89 ≠ 86)).trans f187), ((K7 90 (Nat.le_of_ble_eq_true rfl : 90 < 91) (Nat.ne_of_beq_eq_false rfl : 90 ≠ 86)).trans f189), ((K9 91 (Nat.le_of_ble_eq_true rfl : 91 < 92) (Nat.ne_of_beq_eq_false rfl : 91 ≠ 86)).trans f191), ((K11 92 (Nat.le_of_ble_eq_true rfl : 92 < 93) (Nat.ne_of_beq_eq_false rfl : 92 ≠ 86)).trans f193), trivial⟩, l194, fun j n86 hj => K0 j hj n86⟩

def ci_2F  (H H1 : am_H) : Prop := (am_is H1 4 (.inl ((.object "TerminalHouse$Entry"), (12, .inr (.inr (.inr (.inr (am_lg [some 9, some 16, some 23, some 30, some 37, some 44, some 51, some 58, some 65, some 72, some 79, some 86]))))))) ∧ am_is H1 3 (.inr (7, [.ref 4, .int 0, .int 0, .int (-1), .ref 5, .int 0, .int 0, .int 0, .null, .ref 6, .ref 7, .int 0, .ref 8, .int 0])) ∧ am_is H1 5 (.inl (.int, (0, .inl (fun _ => 0)))) ∧ am_is H1 6 (.inl (.boolean, (39, .inl (fun _ => 0)))) ∧ am_is H1 7 (.inl (.int, (4, .inl (fun _ => 0)))) ∧ am_is H1 8 (.inl (.int, (40, .inl (fun _ => 0)))) ∧ am_is H1 9 (.inr (2, [.ref 10, .ref 11, .int 0, .ref 12, .ref 13, .ref 14, .ref 15])) ∧ am_is H1 10 (.inl (.int, (48, .inl (fun _ => 0)))) ∧ am_is H1 11 (.inl (.int, (4, .inl (fun _ => 0)))) ∧ am_is H1 12 (.inl (.boolean, (39, .inl (fun _ => 0)))) ∧ am_is H1 13 (.inl (.int, (6, .inl (fun _ => 0)))) ∧ am_is H1 14 (.inl (.int, (1320, .inl (fun _ => 0)))) ∧ am_is H1 15 (.inl (.int, (33, .inl (fun _ => 0)))) ∧ am_is H1 16 (.inr (2, [.ref 17, .ref 18, .int 0, .ref 19, .ref 20, .ref 21, .ref 22])) ∧ am_is H1 17 (.inl (.int, (48, .inl (fun _ => 0)))) ∧ am_is H1 18 (.inl (.int, (4, .inl (fun _ => 0)))) ∧ am_is H1 19 (.inl (.boolean, (39, .inl (fun _ => 0)))) ∧ am_is H1 20 (.inl (.int, (6, .inl (fun _ => 0)))) ∧ am_is H1 21 (.inl (.int, (1320, .inl (fun _ => 0)))) ∧ am_is H1 22 (.inl (.int, (33, .inl (fun _ => 0)))) ∧ am_is H1 23 (.inr (2, [.ref 24, .ref 25, .int 0, .ref 26, .ref 27, .ref 28, .ref 29])) ∧ am_is H1 24 (.inl (.int, (48, .inl (fun _ => 0)))) ∧ am_is H1 25 (.inl (.int, (4, .inl (fun _ => 0)))) ∧ am_is H1 26 (.inl (.boolean, (39, .inl (fun _ => 0)))) ∧ am_is H1 27 (.inl (.int, (6, .inl (fun _ => 0)))) ∧ am_is H1 28 (.inl (.int, (1320, .inl (fun _ => 0)))) ∧ am_is H1 29 (.inl (.int, (33, .inl (fun _ => 0)))) ∧ am_is H1 30 (.inr (2, [.ref 31, .ref 32, .int 0, .ref 33, .ref 34, .ref 35, .ref 36])) ∧ am_is H1 31 (.inl (.int, (48, .inl (fun _ => 0)))) ∧ am_is H1 32 (.inl (.int, (4, .inl (fun _ => 0)))) ∧ am_is H1 33 (.inl (.boolean, (39, .inl (fun _ => 0)))) ∧ am_is H1 34 (.inl (.int, (6, .inl (fun _ => 0)))) ∧ am_is H1 35 (.inl (.int, (1320, .inl (fun _ => 0)))) ∧ am_is H1 36 (.inl (.int, (33, .inl (fun _ => 0)))) ∧ am_is H1 37 (.inr (2, [.ref 38, .ref 39, .int 0, .ref 40, .ref 41, .ref 42, .ref 43])) ∧ am_is H1 38 (.inl (.int, (48, .inl (fun _ => 0)))) ∧ am_is H1 39 (.inl (.int, (4, .inl (fun _ => 0)))) ∧ am_is H1 40 (.inl (.boolean, (39, .inl (fun _ => 0)))) ∧ am_is H1 41 (.inl (.int, (6, .inl (fun _ => 0)))) ∧ am_is H1 42 (.inl (.int, (1320, .inl (fun _ => 0)))) ∧ am_is H1 43 (.inl (.int, (33, .inl (fun _ => 0)))) ∧ am_is H1 44 (.inr (2, [.ref 45, .ref 46, .int 0, .ref 47, .ref 48, .ref 49, .ref 50])) ∧ am_is H1 45 (.inl (.int, (48, .inl (fun _ => 0)))) ∧ am_is H1 46 (.inl (.int, (4, .inl (fun _ => 0)))) ∧ am_is H1 47 (.inl (.boolean, (39, .inl (fun _ => 0)))) ∧ am_is H1 48 (.inl (.int, (6, .inl (fun _ => 0)))) ∧ am_is H1 49 (.inl (.int, (1320, .inl (fun _ => 0)))) ∧ am_is H1 50 (.inl (.int, (33, .inl (fun _ => 0)))) ∧ am_is H1 51 (.inr (2, [.ref 52, .ref 53, .int 0, .ref 54, .ref 55, .ref 56, .ref 57])) ∧ am_is H1 52 (.inl (.int, (48, .inl (fun _ => 0)))) ∧ am_is H1 53 (.inl (.int, (4, .inl (fun _ => 0)))) ∧ am_is H1 54 (.inl (.boolean, (39, .inl (fun _ => 0)))) ∧ am_is H1 55 (.inl (.int, (6, .inl (fun _ => 0)))) ∧ am_is H1 56 (.inl (.int, (1320, .inl (fun _ => 0)))) ∧ am_is H1 57 (.inl (.int, (33, .inl (fun _ => 0)))) ∧ am_is H1 58 (.inr (2, [.ref 59, .ref 60, .int 0, .ref 61, .ref 62, .ref 63, .ref 64])) ∧ am_is H1 59 (.inl (.int, (48, .inl (fun _ => 0)))) ∧ am_is H1 60 (.inl (.int, (4, .inl (fun _ => 0)))) ∧ am_is H1 61 (.inl (.boolean, (39, .inl (fun _ => 0)))) ∧ am_is H1 62 (.inl (.int, (6, .inl (fun _ => 0)))) ∧ am_is H1 63 (.inl (.int, (1320, .inl (fun _ => 0)))) ∧ am_is H1 64 (.inl (.int, (33, .inl (fun _ => 0)))) ∧ am_is H1 65 (.inr (2, [.ref 66, .ref 67, .int 0, .ref 68, .ref 69, .ref 70, .ref 71])) ∧ am_is H1 66 (.inl (.int, (48, .inl (fun _ => 0)))) ∧ am_is H1 67 (.inl (.int, (4, .inl (fun _ => 0)))) ∧ am_is H1 68 (.inl (.boolean, (39, .inl (fun _ => 0)))) ∧ am_is H1 69 (.inl (.int, (6, .inl (fun _ => 0)))) ∧ am_is H1 70 (.inl (.int, (1320, .inl (fun _ => 0)))) ∧ am_is H1 71 (.inl (.int, (33, .inl (fun _ => 0)))) ∧ am_is H1 72 (.inr (2, [.ref 73, .ref 74, .int 0, .ref 75, .ref 76, .ref 77, .ref 78])) ∧ am_is H1 73 (.inl (.int, (48, .inl (fun _ => 0)))) ∧ am_is H1 74 (.inl (.int, (4, .inl (fun _ => 0)))) ∧ am_is H1 75 (.inl (.boolean, (39, .inl (fun _ => 0)))) ∧ am_is H1 76 (.inl (.int, (6, .inl (fun _ => 0)))) ∧ am_is H1 77 (.inl (.int, (1320, .inl (fun _ => 0)))) ∧ am_is H1 78 (.inl (.int, (33, .inl (fun _ => 0)))) ∧ am_is H1 79 (.inr (2, [.ref 80, .ref 81, .int 0, .ref 82, .ref 83, .ref 84, .ref 85])) ∧ am_is H1 80 (.inl (.int, (48, .inl (fun _ => 0)))) ∧ am_is H1 81 (.inl (.int, (4, .inl (fun _ => 0)))) ∧ am_is H1 82 (.inl (.boolean, (39, .inl (fun _ => 0)))) ∧ am_is H1 83 (.inl (.int, (6, .inl (fun _ => 0)))) ∧ am_is H1 84 (.inl (.int, (1320, .inl (fun _ => 0)))) ∧ am_is H1 85 (.inl (.int, (33, .inl (fun _ => 0)))) ∧ am_is H1 86 (.inr (2, [.ref 87, .ref 88, .int 0, .ref 89, .ref 90, .ref 91, .ref 92])) ∧ am_is H1 87 (.inl (.int, (48, .inl (fun _ => 0)))) ∧ am_is H1 88 (.inl (.int, (4, .inl (fun _ => 0)))) ∧ am_is H1 89 (.inl (.boolean, (39, .inl (fun _ => 0)))) ∧ am_is H1 90 (.inl (.int, (6, .inl (fun _ => 0)))) ∧ am_is H1 91 (.inl (.int, (1320, .inl (fun _ => 0)))) ∧ am_is H1 92 (.inl (.int, (33, .inl (fun _ => 0)))) ∧ True) ∧ H1.length = 93 ∧ ∀ j : Nat, j ≠ 3 → j < 4 → H1[j]? = H[j]?
set_option maxRecDepth 100000 in
theorem ci_2 {sL : Nat} {sx : Nat → Int32} {cs : Nat → Nat → Option Int32} {H : am_H}  (hl : H.length = 4) (h3 : H[3]? = some (.inr (7, [.null, .int 0, .int 0, .int 0, .null, .int 0, .int 0, .int 0, .null, .null, .null, .int 0, .null, .int 0]))) :
    am_NW sL sx cs 1 0 [(0, .ref 3)] [] H 0 0 none 89 17579 (ci_2F H) := by
  refine en_s (am_nb (m := 4) (pc1 := 7) (ls1 := [(0, .ref 3)]) (st1 := [.int 12, .ref 3]) (H1 := H) (k1 := 0) (n1 := 0) (by with_unfolding_all rfl)) ?_
  refine en_anewl (N := 4) (m := 12) (C := "TerminalHouse$Entry") (l := [none, none, none, none, none, none, none, none, none, none, none, none]) rfl hl rfl (by decide) (by with_unfolding_all rfl) rfl rfl ?_
  intro H6 l6 f6 k6
  refine en_put rfl l6 ((k6 3 (Nat.le_of_ble_eq_true rfl : 3 < 4)).trans h3) rfl rfl rfl ?_
  intro H7 l7 f7 k7
  refine en_s (am_nb (m := 2) (pc1 := 15) (ls1 := [(0, .ref 3)]) (st1 := [.int (-1), .ref 3]) (H1 := H7) (k1 := 1) (n1 := 12) (by with_unfolding_all rfl)) ?_
  refine en_put rfl l7 f7 rfl rfl rfl ?_
  intro H8 l8 f8 k8
  refine en_s (am_nb (m := 2) (pc1 := 20) (ls1 := [(0, .ref 3)]) (st1 := [.int 0, .ref 3]) (H1 := H8) (k1 := 1) (n1 := 12) (by with_unfolding_all rfl)) ?_
  refine en_newa (N := 5) (m := 0) (ty := .int) rfl l8 rfl (by decide) (by with_unfolding_all rfl) rfl rfl ?_
  intro H9 l9 f9 k9
  refine en_put rfl l9 ((k9 3 (Nat.le_of_ble_eq_true rfl : 3 < 5)).trans f8) rfl rfl rfl ?_
  intro H10 l10 f10 k10
  refine en_s (am_nb (m := 2) (pc1 := 28) (ls1 := [(0, .ref 3)]) (st1 := [.int 39, .ref 3]) (H1 := H10) (k1 := 2) (n1 := 12) (by with_unfolding_all rfl)) ?_
  refine en_newa (N := 6) (m := 39) (ty := .boolean) rfl l10 rfl (by decide) (by with_unfolding_all rfl) rfl rfl ?_
  intro H11 l11 f11 k11
  refine en_put rfl l11 ((k11 3 (Nat.le_of_ble_eq_true rfl : 3 < 6)).trans f10) rfl rfl rfl ?_
  intro H12 l12 f12 k12
  refine en_s (am_nb (m := 2) (pc1 := 35) (ls1 := [(0, .ref 3)]) (st1 := [.int 4, .ref 3]) (H1 := H12) (k1 := 3) (n1 := 51) (by with_unfolding_all rfl)) ?_
  refine en_newa (N := 7) (m := 4) (ty := .int) rfl l12 rfl (by decide) (by with_unfolding_all rfl) rfl rfl ?_
  intro H13 l13 f13 k13
  refine en_put rfl l13 ((k13 3 (Nat.le_of_ble_eq_true rfl : 3 < 7)).trans f12) rfl rfl rfl ?_
  intro H14 l14 f14 k14
  refine en_s (am_nb (m := 2) (pc1 := 43) (ls1 := [(0, .ref 3)]) (st1 := [.int 40, .ref 3]) (H1 := H14) (k1 := 4) (n1 := 55) (by with_unfolding_all rfl)) ?_
  refine en_newa (N := 8) (m := 40) (ty := .int) rfl l14 rfl (by decide) (by with_unfolding_all rfl) rfl rfl ?_
  intro H15 l15 f15 k15
  refine en_put rfl l15 ((k15 3 (Nat.le_of_ble_eq_true rfl : 3 < 8)).trans f14) rfl rfl rfl ?_
  intro H16 l16 f16 k16
  refine en_s (am_nb (m := 6) (pc1 := 57) (ls1 := [(1, .int 0), (0, .ref 3)]) (st1 := [.ref 3]) (H1 := H16) (k1 := 5) (n1 := 95) (by with_unfolding_all rfl)) ?_
  refine en_s (st_get rfl f16 rfl) ?_
  refine en_s (am_nb (m := 1) (pc1 := 61) (ls1 := [(1, .int 0), (0, .ref 3)]) (st1 := [.int 0, .ref 4]) (H1 := H16) (k1 := 5) (n1 := 95) (by with_unfolding_all rfl)) ?_
  refine en_new (N := 9) (vs := [.null, .null, .int 0, .null, .null, .null, .null]) (ms := 7) rfl l16 (by with_unfolding_all rfl) ?_
  intro H17 l17 f17 k17
  refine en_s (am_nb (m := 1) (pc1 := 65) (ls1 := [(1, .int 0), (0, .ref 3)]) (st1 := [.ref 9, .ref 9, .int 0, .ref 4]) (H1 := H17) (k1 := 6) (n1 := 102) (by with_unfolding_all rfl)) ?_
  refine en_cv0 (as := []) (rest := [.ref 9, .int 0, .ref 4]) rfl rfl rfl rfl f17 rfl (by with_unfolding_all rfl) (by with_unfolding_all rfl) (ci_3 l17 f17) ?_
  rintro H30 ⟨⟨f30_10, f30_9, f30_11, f30_12, f30_13, f30_14, f30_15, -⟩, l30, k30⟩
  refine en_aast rfl l30 ((k30 4 (Nat.ne_of_beq_eq_false rfl : 4 ≠ 9) (Nat.le_of_ble_eq_true rfl : 4 < 10)).trans ((k17 4 (Nat.le_of_ble_eq_true rfl : 4 < 9)).trans ((k16 4 (Nat.ne_of_beq_eq_false rfl : 4 ≠ 3)).trans ((k15 4 (Nat.le_of_ble_eq_true rfl : 4 < 8)).trans ((k14 4 (Nat.ne_of_beq_eq_false rfl : 4 ≠ 3)).trans ((k13 4 (Nat.le_of_ble_eq_true rfl : 4 < 7)).trans ((k12 4 (Nat.ne_of_beq_eq_false rfl : 4 ≠ 3)).trans ((k11 4 (Nat.le_of_ble_eq_true rfl : 4 < 6)).trans ((k10 4 (Nat.ne_of_beq_eq_false rfl : 4 ≠ 3)).trans ((k9 4 (Nat.le_of_ble_eq_true rfl : 4 < 5)).trans ((k8 4 (Nat.ne_of_beq_eq_false rfl : 4 ≠ 3)).trans ((k7 4 (Nat.ne_of_beq_eq_false rfl : 4 ≠ 3)).trans f6)))))))))))) f30_9 (by decide) rfl (am_lg_up (i := 0) (l2 := [some 9, none, none, none, none, none, none, none, none, none, none, none]) (by with_unfolding_all rfl) rfl rfl) ?_
  intro H31 l31 f31 k31
  refine en_s (am_nb (m := 6) (pc1 := 57) (ls1 := [(1, .int 1), (0, .ref 3)]) (st1 := [.ref 3]) (H1 := H31) (k1 := 12) (n1 := 1552) (by with_unfolding_all rfl)) ?_
  refine en_s (st_get rfl ((k31 3 (Nat.ne_of_beq_eq_false rfl : 3 ≠ 4)).trans ((k30 3 (Nat.ne_of_beq_eq_false rfl : 3 ≠ 9) (Nat.le_of_ble_eq_true rfl : 3 < 10)).trans ((k17 3 (Nat.le_of_ble_eq_true rfl : 3 < 9)).trans f16))) rfl) ?_
  refine en_s (am_nb (m := 1) (pc1 := 61) (ls1 := [(1, .int 1), (0, .ref 3)]) (st1 := [.int 1, .ref 4]) (H1 := H31) (k1 := 12) (n1 := 1552) (by with_unfolding_all rfl)) ?_
  refine en_new (N := 16) (vs := [.null, .null, .int 0, .null, .null, .null, .null]) (ms := 7) rfl l31 (by with_unfolding_all rfl) ?_
  intro H32 l32 f32 k32
  refine en_s (am_nb (m := 1) (pc1 := 65) (ls1 := [(1, .int 1), (0, .ref 3)]) (st1 := [.ref 16, .ref 16, .int 1, .ref 4]) (H1 := H32) (k1 := 13) (n1 := 1559) (by with_unfolding_all rfl)) ?_
  refine en_cv0 (as := []) (rest := [.ref 16, .int 1, .ref 4]) rfl rfl rfl rfl f32 rfl (by with_unfolding_all rfl) (by with_unfolding_all rfl) (ci_4 l32 f32) ?_
  rintro H45 ⟨⟨f45_17, f45_16, f45_18, f45_19, f45_20, f45_21, f45_22, -⟩, l45, k45⟩
  refine en_aast rfl l45 ((k45 4 (Nat.ne_of_beq_eq_false rfl : 4 ≠ 16) (Nat.le_of_ble_eq_true rfl : 4 < 17)).trans ((k32 4 (Nat.le_of_ble_eq_true rfl : 4 < 16)).trans f31)) f45_16 (by decide) rfl (am_lg_up (i := 1) (l2 := [some 9, some 16, none, none, none, none, none, none, none, none, none, none]) (by with_unfolding_all rfl) rfl rfl) ?_
  intro H46 l46 f46 k46
  refine en_s (am_nb (m := 6) (pc1 := 57) (ls1 := [(1, .int 2), (0, .ref 3)]) (st1 := [.ref 3]) (H1 := H46) (k1 := 19) (n1 := 3009) (by with_unfolding_all rfl)) ?_
  refine en_s (st_get rfl ((k46 3 (Nat.ne_of_beq_eq_false rfl : 3 ≠ 4)).trans ((k45 3 (Nat.ne_of_beq_eq_false rfl : 3 ≠ 16) (Nat.le_of_ble_eq_true rfl : 3 < 17)).trans ((k32 3 (Nat.le_of_ble_eq_true rfl : 3 < 16)).trans ((k31 3 (Nat.ne_of_beq_eq_false rfl : 3 ≠ 4)).trans ((k30 3 (Nat.ne_of_beq_eq_false rfl : 3 ≠ 9) (Nat.le_of_ble_eq_true rfl : 3 < 10)).trans ((k17 3 (Nat.le_of_ble_eq_true rfl : 3 < 9)).trans f16)))))) rfl) ?_
  refine en_s (am_nb (m := 1) (pc1 := 61) (ls1 := [(1, .int 2), (0, .ref 3)]) (st1 := [.int 2, .ref 4]) (H1 := H46) (k1 := 19) (n1 := 3009) (by with_unfolding_all rfl)) ?_
  refine en_new (N := 23) (vs := [.null, .null, .int 0, .null, .null, .null, .null]) (ms := 7) rfl l46 (by with_unfolding_all rfl) ?_
  intro H47 l47 f47 k47
  refine en_s (am_nb (m := 1) (pc1 := 65) (ls1 := [(1, .int 2), (0, .ref 3)]) (st1 := [.ref 23, .ref 23, .int 2, .ref 4]) (H1 := H47) (k1 := 20) (n1 := 3016) (by with_unfolding_all rfl)) ?_
  refine en_cv0 (as := []) (rest := [.ref 23, .int 2, .ref 4]) rfl rfl rfl rfl f47 rfl (by with_unfolding_all rfl) (by with_unfolding_all rfl) (ci_5 l47 f47) ?_
  rintro H60 ⟨⟨f60_24, f60_23, f60_25, f60_26, f60_27, f60_28, f60_29, -⟩, l60, k60⟩
  refine en_aast rfl l60 ((k60 4 (Nat.ne_of_beq_eq_false rfl : 4 ≠ 23) (Nat.le_of_ble_eq_true rfl : 4 < 24)).trans ((k47 4 (Nat.le_of_ble_eq_true rfl : 4 < 23)).trans f46)) f60_23 (by decide) rfl (am_lg_up (i := 2) (l2 := [some 9, some 16, some 23, none, none, none, none, none, none, none, none, none]) (by with_unfolding_all rfl) rfl rfl) ?_
  intro H61 l61 f61 k61
  refine en_s (am_nb (m := 6) (pc1 := 57) (ls1 := [(1, .int 3), (0, .ref 3)]) (st1 := [.ref 3]) (H1 := H61) (k1 := 26) (n1 := 4466) (by with_unfolding_all rfl)) ?_
  refine en_s (st_get rfl ((k61 3 (Nat.ne_of_beq_eq_false rfl : 3 ≠ 4)).trans ((k60 3 (Nat.ne_of_beq_eq_false rfl : 3 ≠ 23) (Nat.le_of_ble_eq_true rfl : 3 < 24)).trans ((k47 3 (Nat.le_of_ble_eq_true rfl : 3 < 23)).trans ((k46 3 (Nat.ne_of_beq_eq_false rfl : 3 ≠ 4)).trans ((k45 3 (Nat.ne_of_beq_eq_false rfl : 3 ≠ 16) (Nat.le_of_ble_eq_true rfl : 3 < 17)).trans ((k32 3 (Nat.le_of_ble_eq_true rfl : 3 < 16)).trans ((k31 3 (Nat.ne_of_beq_eq_false rfl : 3 ≠ 4)).trans ((k30 3 (Nat.ne_of_beq_eq_false rfl : 3 ≠ 9) (Nat.le_of_ble_eq_true rfl : 3 < 10)).trans ((k17 3 (Nat.le_of_ble_eq_true rfl : 3 < 9)).trans f16))))))))) rfl) ?_
  refine en_s (am_nb (m := 1) (pc1 := 61) (ls1 := [(1, .int 3), (0, .ref 3)]) (st1 := [.int 3, .ref 4]) (H1 := H61) (k1 := 26) (n1 := 4466) (by with_unfolding_all rfl)) ?_
  refine en_new (N := 30) (vs := [.null, .null, .int 0, .null, .null, .null, .null]) (ms := 7) rfl l61 (by with_unfolding_all rfl) ?_
  intro H62 l62 f62 k62
  refine en_s (am_nb (m := 1) (pc1 := 65) (ls1 := [(1, .int 3), (0, .ref 3)]) (st1 := [.ref 30, .ref 30, .int 3, .ref 4]) (H1 := H62) (k1 := 27) (n1 := 4473) (by with_unfolding_all rfl)) ?_
  refine en_cv0 (as := []) (rest := [.ref 30, .int 3, .ref 4]) rfl rfl rfl rfl f62 rfl (by with_unfolding_all rfl) (by with_unfolding_all rfl) (ci_6 l62 f62) ?_
  rintro H75 ⟨⟨f75_31, f75_30, f75_32, f75_33, f75_34, f75_35, f75_36, -⟩, l75, k75⟩
  refine en_aast rfl l75 ((k75 4 (Nat.ne_of_beq_eq_false rfl : 4 ≠ 30) (Nat.le_of_ble_eq_true rfl : 4 < 31)).trans ((k62 4 (Nat.le_of_ble_eq_true rfl : 4 < 30)).trans f61)) f75_30 (by decide) rfl (am_lg_up (i := 3) (l2 := [some 9, some 16, some 23, some 30, none, none, none, none, none, none, none, none]) (by with_unfolding_all rfl) rfl rfl) ?_
  intro H76 l76 f76 k76
  refine en_s (am_nb (m := 6) (pc1 := 57) (ls1 := [(1, .int 4), (0, .ref 3)]) (st1 := [.ref 3]) (H1 := H76) (k1 := 33) (n1 := 5923) (by with_unfolding_all rfl)) ?_
  refine en_s (st_get rfl ((k76 3 (Nat.ne_of_beq_eq_false rfl : 3 ≠ 4)).trans ((k75 3 (Nat.ne_of_beq_eq_false rfl : 3 ≠ 30) (Nat.le_of_ble_eq_true rfl : 3 < 31)).trans ((k62 3 (Nat.le_of_ble_eq_true rfl : 3 < 30)).trans ((k61 3 (Nat.ne_of_beq_eq_false rfl : 3 ≠ 4)).trans ((k60 3 (Nat.ne_of_beq_eq_false rfl : 3 ≠ 23) (Nat.le_of_ble_eq_true rfl : 3 < 24)).trans ((k47 3 (Nat.le_of_ble_eq_true rfl : 3 < 23)).trans ((k46 3 (Nat.ne_of_beq_eq_false rfl : 3 ≠ 4)).trans ((k45 3 (Nat.ne_of_beq_eq_false rfl : 3 ≠ 16) (Nat.le_of_ble_eq_true rfl : 3 < 17)).trans ((k32 3 (Nat.le_of_ble_eq_true rfl : 3 < 16)).trans ((k31 3 (Nat.ne_of_beq_eq_false rfl : 3 ≠ 4)).trans ((k30 3 (Nat.ne_of_beq_eq_false rfl : 3 ≠ 9) (Nat.le_of_ble_eq_true rfl : 3 < 10)).trans ((k17 3 (Nat.le_of_ble_eq_true rfl : 3 < 9)).trans f16)))))))))))) rfl) ?_
  refine en_s (am_nb (m := 1) (pc1 := 61) (ls1 := [(1, .int 4), (0, .ref 3)]) (st1 := [.int 4, .ref 4]) (H1 := H76) (k1 := 33) (n1 := 5923) (by with_unfolding_all rfl)) ?_
  refine en_new (N := 37) (vs := [.null, .null, .int 0, .null, .null, .null, .null]) (ms := 7) rfl l76 (by with_unfolding_all rfl) ?_
  intro H77 l77 f77 k77
  refine en_s (am_nb (m := 1) (pc1 := 65) (ls1 := [(1, .int 4), (0, .ref 3)]) (st1 := [.ref 37, .ref 37, .int 4, .ref 4]) (H1 := H77) (k1 := 34) (n1 := 5930) (by with_unfolding_all rfl)) ?_
  refine en_cv0 (as := []) (rest := [.ref 37, .int 4, .ref 4]) rfl rfl rfl rfl f77 rfl (by with_unfolding_all rfl) (by with_unfolding_all rfl) (ci_7 l77 f77) ?_
  rintro H90 ⟨⟨f90_38, f90_37, f90_39, f90_40, f90_41, f90_42, f90_43, -⟩, l90, k90⟩
  refine en_aast rfl l90 ((k90 4 (Nat.ne_of_beq_eq_false rfl : 4 ≠ 37) (Nat.le_of_ble_eq_true rfl : 4 < 38)).trans ((k77 4 (Nat.le_of_ble_eq_true rfl : 4 < 37)).trans f76)) f90_37 (by decide) rfl (am_lg_up (i := 4) (l2 := [some 9, some 16, some 23, some 30, some 37, none, none, none, none, none, none, none]) (by with_unfolding_all rfl) rfl rfl) ?_
  intro H91 l91 f91 k91
  refine en_s (am_nb (m := 6) (pc1 := 57) (ls1 := [(1, .int 5), (0, .ref 3)]) (st1 := [.ref 3]) (H1 := H91) (k1 := 40) (n1 := 7380) (by with_unfolding_all rfl)) ?_
  refine en_s (st_get rfl ((k91 3 (Nat.ne_of_beq_eq_false rfl : 3 ≠ 4)).trans ((k90 3 (Nat.ne_of_beq_eq_false rfl : 3 ≠ 37) (Nat.le_of_ble_eq_true rfl : 3 < 38)).trans ((k77 3 (Nat.le_of_ble_eq_true rfl : 3 < 37)).trans ((k76 3 (Nat.ne_of_beq_eq_false rfl : 3 ≠ 4)).trans ((k75 3 (Nat.ne_of_beq_eq_false rfl : 3 ≠ 30) (Nat.le_of_ble_eq_true rfl : 3 < 31)).trans ((k62 3 (Nat.le_of_ble_eq_true rfl : 3 < 30)).trans ((k61 3 (Nat.ne_of_beq_eq_false rfl : 3 ≠ 4)).trans ((k60 3 (Nat.ne_of_beq_eq_false rfl : 3 ≠ 23) (Nat.le_of_ble_eq_true rfl : 3 < 24)).trans ((k47 3 (Nat.le_of_ble_eq_true rfl : 3 < 23)).trans ((k46 3 (Nat.ne_of_beq_eq_false rfl : 3 ≠ 4)).trans ((k45 3 (Nat.ne_of_beq_eq_false rfl : 3 ≠ 16) (Nat.le_of_ble_eq_true rfl : 3 < 17)).trans ((k32 3 (Nat.le_of_ble_eq_true rfl : 3 < 16)).trans ((k31 3 (Nat.ne_of_beq_eq_false rfl : 3 ≠ 4)).trans ((k30 3 (Nat.ne_of_beq_eq_false rfl : 3 ≠ 9) (Nat.le_of_ble_eq_true rfl : 3 < 10)).trans ((k17 3 (Nat.le_of_ble_eq_true rfl : 3 < 9)).trans f16))))))))))))))) rfl) ?_
  refine en_s (am_nb (m := 1) (pc1 := 61) (ls1 := [(1, .int 5), (0, .ref 3)]) (st1 := [.int 5, .ref 4]) (H1 := H91) (k1 := 40) (n1 := 7380) (by with_unfolding_all rfl)) ?_
  refine en_new (N := 44) (vs := [.null, .null, .int 0, .null, .null, .null, .null]) (ms := 7) rfl l91 (by with_unfolding_all rfl) ?_
  intro H92 l92 f92 k92
  refine en_s (am_nb (m := 1) (pc1 := 65) (ls1 := [(1, .int 5), (0, .ref 3)]) (st1 := [.ref 44, .ref 44, .int 5, .ref 4]) (H1 := H92) (k1 := 41) (n1 := 7387) (by with_unfolding_all rfl)) ?_
  refine en_cv0 (as := []) (rest := [.ref 44, .int 5, .ref 4]) rfl rfl rfl rfl f92 rfl (by with_unfolding_all rfl) (by with_unfolding_all rfl) (ci_8 l92 f92) ?_
  rintro H105 ⟨⟨f105_45, f105_44, f105_46, f105_47, f105_48, f105_49, f105_50, -⟩, l105, k105⟩
  refine en_aast rfl l105 ((k105 4 (Nat.ne_of_beq_eq_false rfl : 4 ≠ 44) (Nat.le_of_ble_eq_true rfl : 4 < 45)).trans ((k92 4 (Nat.le_of_ble_eq_true rfl : 4 < 44)).trans f91)) f105_44 (by decide) rfl (am_lg_up (i := 5) (l2 := [some 9, some 16, some 23, some 30, some 37, some 44, none, none, none, none, none, none]) (by with_unfolding_all rfl) rfl rfl) ?_
  intro H106 l106 f106 k106
  refine en_s (am_nb (m := 6) (pc1 := 57) (ls1 := [(1, .int 6), (0, .ref 3)]) (st1 := [.ref 3]) (H1 := H106) (k1 := 47) (n1 := 8837) (by with_unfolding_all rfl)) ?_
  refine en_s (st_get rfl ((k106 3 (Nat.ne_of_beq_eq_false rfl : 3 ≠ 4)).trans ((k105 3 (Nat.ne_of_beq_eq_false rfl : 3 ≠ 44) (Nat.le_of_ble_eq_true rfl : 3 < 45)).trans ((k92 3 (Nat.le_of_ble_eq_true rfl : 3 < 44)).trans ((k91 3 (Nat.ne_of_beq_eq_false rfl : 3 ≠ 4)).trans ((k90 3 (Nat.ne_of_beq_eq_false rfl : 3 ≠ 37) (Nat.le_of_ble_eq_true rfl : 3 < 38)).trans ((k77 3 (Nat.le_of_ble_eq_true rfl : 3 < 37)).trans ((k76 3 (Nat.ne_of_beq_eq_false rfl : 3 ≠ 4)).trans ((k75 3 (Nat.ne_of_beq_eq_false rfl : 3 ≠ 30) (Nat.le_of_ble_eq_true rfl : 3 < 31)).trans ((k62 3 (Nat.le_of_ble_eq_true rfl : 3 < 30)).trans ((k61 3 (Nat.ne_of_beq_eq_false rfl : 3 ≠ 4)).trans ((k60 3 (Nat.ne_of_beq_eq_false rfl : 3 ≠ 23) (Nat.le_of_ble_eq_true rfl : 3 < 24)).trans ((k47 3 (Nat.le_of_ble_eq_true rfl : 3 < 23)).trans ((k46 3 (Nat.ne_of_beq_eq_false rfl : 3 ≠ 4)).trans ((k45 3 (Nat.ne_of_beq_eq_false rfl : 3 ≠ 16) (Nat.le_of_ble_eq_true rfl : 3 < 17)).trans ((k32 3 (Nat.le_of_ble_eq_true rfl : 3 < 16)).trans ((k31 3 (Nat.ne_of_beq_eq_false rfl : 3 ≠ 4)).trans ((k30 3 (Nat.ne_of_beq_eq_false rfl : 3 ≠ 9) (Nat.le_of_ble_eq_true rfl : 3 < 10)).trans ((k17 3 (Nat.le_of_ble_eq_true rfl : 3 < 9)).trans f16)))))))))))))))))) rfl) ?_
  refine en_s (am_nb (m := 1) (pc1 := 61) (ls1 := [(1, .int 6), (0, .ref 3)]) (st1 := [.int 6, .ref 4]) (H1 := H106) (k1 := 47) (n1 := 8837) (by with_unfolding_all rfl)) ?_
  refine en_new (N := 51) (vs := [.null, .null, .int 0, .null, .null, .null, .null]) (ms := 7) rfl l106 (by with_unfolding_all rfl) ?_
  intro H107 l107 f107 k107
  refine en_s (am_nb (m := 1) (pc1 := 65) (ls1 := [(1, .int 6), (0, .ref 3)]) (st1 := [.ref 51, .ref 51, .int 6, .ref 4]) (H1 := H107) (k1 := 48) (n1 := 8844) (by with_unfolding_all rfl)) ?_
  refine en_cv0 (as := []) (rest := [.ref 51, .int 6, .ref 4]) rfl rfl rfl rfl f107 rfl (by with_unfolding_all rfl) (by with_unfolding_all rfl) (ci_9 l107 f107) ?_
  rintro H120 ⟨⟨f120_52, f120_51, f120_53, f120_54, f120_55, f120_56, f120_57, -⟩, l120, k120⟩
  refine en_aast rfl l120 ((k120 4 (Nat.ne_of_beq_eq_false rfl : 4 ≠ 51) (Nat.le_of_ble_eq_true rfl : 4 < 52)).trans ((k107 4 (Nat.le_of_ble_eq_true rfl : 4 < 51)).trans f106)) f120_51 (by decide) rfl (am_lg_up (i := 6) (l2 := [some 9, some 16, some 23, some 30, some 37, some 44, some 51, none, none, none, none, none]) (by with_unfolding_all rfl) rfl rfl) ?_
  intro H121 l121 f121 k121
  refine en_s (am_nb (m := 6) (pc1 := 57) (ls1 := [(1, .int 7), (0, .ref 3)]) (st1 := [.ref 3]) (H1 := H121) (k1 := 54) (n1 := 10294) (by with_unfolding_all rfl)) ?_
  refine en_s (st_get rfl ((k121 3 (Nat.ne_of_beq_eq_false rfl : 3 ≠ 4)).trans ((k120 3 (Nat.ne_of_beq_eq_false rfl : 3 ≠ 51) (Nat.le_of_ble_eq_true rfl : 3 < 52)).trans ((k107 3 (Nat.le_of_ble_eq_true rfl : 3 < 51)).trans ((k106 3 (Nat.ne_of_beq_eq_false rfl : 3 ≠ 4)).trans ((k105 3 (Nat.ne_of_beq_eq_false rfl : 3 ≠ 44) (Nat.le_of_ble_eq_true rfl : 3 < 45)).trans ((k92 3 (Nat.le_of_ble_eq_true rfl : 3 < 44)).trans ((k91 3 (Nat.ne_of_beq_eq_false rfl : 3 ≠ 4)).trans ((k90 3 (Nat.ne_of_beq_eq_false rfl : 3 ≠ 37) (Nat.le_of_ble_eq_true rfl : 3 < 38)).trans ((k77 3 (Nat.le_of_ble_eq_true rfl : 3 < 37)).trans ((k76 3 (Nat.ne_of_beq_eq_false rfl : 3 ≠ 4)).trans ((k75 3 (Nat.ne_of_beq_eq_false rfl : 3 ≠ 30) (Nat.le_of_ble_eq_true rfl : 3 < 31)).trans ((k62 3 (Nat.le_of_ble_eq_true rfl : 3 < 30)).trans ((k61 3 (Nat.ne_of_beq_eq_false rfl : 3 ≠ 4)).trans ((k60 3 (Nat.ne_of_beq_eq_false rfl : 3 ≠ 23) (Nat.le_of_ble_eq_true rfl : 3 < 24)).trans ((k47 3 (Nat.le_of_ble_eq_true rfl : 3 < 23)).trans ((k46 3 (Nat.ne_of_beq_eq_false rfl : 3 ≠ 4)).trans ((k45 3 (Nat.ne_of_beq_eq_false rfl : 3 ≠ 16) (Nat.le_of_ble_eq_true rfl : 3 < 17)).trans ((k32 3 (Nat.le_of_ble_eq_true rfl : 3 < 16)).trans ((k31 3 (Nat.ne_of_beq_eq_false rfl : 3 ≠ 4)).trans ((k30 3 (Nat.ne_of_beq_eq_false rfl : 3 ≠ 9) (Nat.le_of_ble_eq_true rfl : 3 < 10)).trans ((k17 3 (Nat.le_of_ble_eq_true rfl : 3 < 9)).trans f16))))))))))))))))))))) rfl) ?_
  refine en_s (am_nb (m := 1) (pc1 := 61) (ls1 := [(1, .int 7), (0, .ref 3)]) (st1 := [.int 7, .ref 4]) (H1 := H121) (k1 := 54) (n1 := 10294) (by with_unfolding_all rfl)) ?_
  refine en_new (N := 58) (vs := [.null, .null, .int 0, .null, .null, .null, .null]) (ms := 7) rfl l121 (by with_unfolding_all rfl) ?_
  intro H122 l122 f122 k122
  refine en_s (am_nb (m := 1) (pc1 := 65) (ls1 := [(1, .int 7), (0, .ref 3)]) (st1 := [.ref 58, .ref 58, .int 7, .ref 4]) (H1 := H122) (k1 := 55) (n1 := 10301) (by with_unfolding_all rfl)) ?_
  refine en_cv0 (as := []) (rest := [.ref 58, .int 7, .ref 4]) rfl rfl rfl rfl f122 rfl (by with_unfolding_all rfl) (by with_unfolding_all rfl) (ci_10 l122 f122) ?_
  rintro H135 ⟨⟨f135_59, f135_58, f135_60, f135_61, f135_62, f135_63, f135_64, -⟩, l135, k135⟩
  refine en_aast rfl l135 ((k135 4 (Nat.ne_of_beq_eq_false rfl : 4 ≠ 58) (Nat.le_of_ble_eq_true rfl : 4 < 59)).trans ((k122 4 (Nat.le_of_ble_eq_true rfl : 4 < 58)).trans f121)) f135_58 (by decide) rfl (am_lg_up (i := 7) (l2 := [some 9, some 16, some 23, some 30, some 37, some 44, some 51, some 58, none, none, none, none]) (by with_unfolding_all rfl) rfl rfl) ?_
  intro H136 l136 f136 k136
  refine en_s (am_nb (m := 6) (pc1 := 57) (ls1 := [(1, .int 8), (0, .ref 3)]) (st1 := [.ref 3]) (H1 := H136) (k1 := 61) (n1 := 11751) (by with_unfolding_all rfl)) ?_
  refine en_s (st_get rfl ((k136 3 (Nat.ne_of_beq_eq_false rfl : 3 ≠ 4)).trans ((k135 3 (Nat.ne_of_beq_eq_false rfl : 3 ≠ 58) (Nat.le_of_ble_eq_true rfl : 3 < 59)).trans ((k122 3 (Nat.le_of_ble_eq_true rfl : 3 < 58)).trans ((k121 3 (Nat.ne_of_beq_eq_false rfl : 3 ≠ 4)).trans ((k120 3 (Nat.ne_of_beq_eq_false rfl : 3 ≠ 51) (Nat.le_of_ble_eq_true rfl : 3 < 52)).trans ((k107 3 (Nat.le_of_ble_eq_true rfl : 3 < 51)).trans ((k106 3 (Nat.ne_of_beq_eq_false rfl : 3 ≠ 4)).trans ((k105 3 (Nat.ne_of_beq_eq_false rfl : 3 ≠ 44) (Nat.le_of_ble_eq_true rfl : 3 < 45)).trans ((k92 3 (Nat.le_of_ble_eq_true rfl : 3 < 44)).trans ((k91 3 (Nat.ne_of_beq_eq_false rfl : 3 ≠ 4)).trans ((k90 3 (Nat.ne_of_beq_eq_false rfl : 3 ≠ 37) (Nat.le_of_ble_eq_true rfl : 3 < 38)).trans ((k77 3 (Nat.le_of_ble_eq_true rfl : 3 < 37)).trans ((k76 3 (Nat.ne_of_beq_eq_false rfl : 3 ≠ 4)).trans ((k75 3 (Nat.ne_of_beq_eq_false rfl : 3 ≠ 30) (Nat.le_of_ble_eq_true rfl : 3 < 31)).trans ((k62 3 (Nat.le_of_ble_eq_true rfl : 3 < 30)).trans ((k61 3 (Nat.ne_of_beq_eq_false rfl : 3 ≠ 4)).trans ((k60 3 (Nat.ne_of_beq_eq_false rfl : 3 ≠ 23) (Nat.le_of_ble_eq_true rfl : 3 < 24)).trans ((k47 3 (Nat.le_of_ble_eq_true rfl : 3 < 23)).trans ((k46 3 (Nat.ne_of_beq_eq_false rfl : 3 ≠ 4)).trans ((k45 3 (Nat.ne_of_beq_eq_false rfl : 3 ≠ 16) (Nat.le_of_ble_eq_true rfl : 3 < 17)).trans ((k32 3 (Nat.le_of_ble_eq_true rfl : 3 < 16)).trans ((k31 3 (Nat.ne_of_beq_eq_false rfl : 3 ≠ 4)).trans ((k30 3 (Nat.ne_of_beq_eq_false rfl : 3 ≠ 9) (Nat.le_of_ble_eq_true rfl : 3 < 10)).trans ((k17 3 (Nat.le_of_ble_eq_true rfl : 3 < 9)).trans f16)))))))))))))))))))))))) rfl) ?_
  refine en_s (am_nb (m := 1) (pc1 := 61) (ls1 := [(1, .int 8), (0, .ref 3)]) (st1 := [.int 8, .ref 4]) (H1 := H136) (k1 := 61) (n1 := 11751) (by with_unfolding_all rfl)) ?_
  refine en_new (N := 65) (vs := [.null, .null, .int 0, .null, .null, .null, .null]) (ms := 7) rfl l136 (by with_unfolding_all rfl) ?_
  intro H137 l137 f137 k137
  refine en_s (am_nb (m := 1) (pc1 := 65) (ls1 := [(1, .int 8), (0, .ref 3)]) (st1 := [.ref 65, .ref 65, .int 8, .ref 4]) (H1 := H137) (k1 := 62) (n1 := 11758) (by with_unfolding_all rfl)) ?_
  refine en_cv0 (as := []) (rest := [.ref 65, .int 8, .ref 4]) rfl rfl rfl rfl f137 rfl (by with_unfolding_all rfl) (by with_unfolding_all rfl) (ci_11 l137 f137) ?_
  rintro H150 ⟨⟨f150_66, f150_65, f150_67, f150_68, f150_69, f150_70, f150_71, -⟩, l150, k150⟩
  refine en_aast rfl l150 ((k150 4 (Nat.ne_of_beq_eq_false rfl : 4 ≠ 65) (Nat.le_of_ble_eq_true rfl : 4 < 66)).trans ((k137 4 (Nat.le_of_ble_eq_true rfl : 4 < 65)).trans f136)) f150_65 (by decide) rfl (am_lg_up (i := 8) (l2 := [some 9, some 16, some 23, some 30, some 37, some 44, some 51, some 58, some 65, none, none, none]) (by with_unfolding_all rfl) rfl rfl) ?_
  intro H151 l151 f151 k151
  refine en_s (am_nb (m := 6) (pc1 := 57) (ls1 := [(1, .int 9), (0, .ref 3)]) (st1 := [.ref 3]) (H1 := H151) (k1 := 68) (n1 := 13208) (by with_unfolding_all rfl)) ?_
  refine en_s (st_get rfl ((k151 3 (Nat.ne_of_beq_eq_false rfl : 3 ≠ 4)).trans ((k150 3 (Nat.ne_of_beq_eq_false rfl : 3 ≠ 65) (Nat.le_of_ble_eq_true rfl : 3 < 66)).trans ((k137 3 (Nat.le_of_ble_eq_true rfl : 3 < 65)).trans ((k136 3 (Nat.ne_of_beq_eq_false rfl : 3 ≠ 4)).trans ((k135 3 (Nat.ne_of_beq_eq_false rfl : 3 ≠ 58) (Nat.le_of_ble_eq_true rfl : 3 < 59)).trans ((k122 3 (Nat.le_of_ble_eq_true rfl : 3 < 58)).trans ((k121 3 (Nat.ne_of_beq_eq_false rfl : 3 ≠ 4)).trans ((k120 3 (Nat.ne_of_beq_eq_false rfl : 3 ≠ 51) (Nat.le_of_ble_eq_true rfl : 3 < 52)).trans ((k107 3 (Nat.le_of_ble_eq_true rfl : 3 < 51)).trans ((k106 3 (Nat.ne_of_beq_eq_false rfl : 3 ≠ 4)).trans ((k105 3 (Nat.ne_of_beq_eq_false rfl : 3 ≠ 44) (Nat.le_of_ble_eq_true rfl : 3 < 45)).trans ((k92 3 (Nat.le_of_ble_eq_true rfl : 3 < 44)).trans ((k91 3 (Nat.ne_of_beq_eq_false rfl : 3 ≠ 4)).trans ((k90 3 (Nat.ne_of_beq_eq_false rfl : 3 ≠ 37) (Nat.le_of_ble_eq_true rfl : 3 < 38)).trans ((k77 3 (Nat.le_of_ble_eq_true rfl : 3 < 37)).trans ((k76 3 (Nat.ne_of_beq_eq_false rfl : 3 ≠ 4)).trans ((k75 3 (Nat.ne_of_beq_eq_false rfl : 3 ≠ 30) (Nat.le_of_ble_eq_true rfl : 3 < 31)).trans ((k62 3 (Nat.le_of_ble_eq_true rfl : 3 < 30)).trans ((k61 3 (Nat.ne_of_beq_eq_false rfl : 3 ≠ 4)).trans ((k60 3 (Nat.ne_of_beq_eq_false rfl : 3 ≠ 23) (Nat.le_of_ble_eq_true rfl : 3 < 24)).trans ((k47 3 (Nat.le_of_ble_eq_true rfl : 3 < 23)).trans ((k46 3 (Nat.ne_of_beq_eq_false rfl : 3 ≠ 4)).trans ((k45 3 (Nat.ne_of_beq_eq_false rfl : 3 ≠ 16) (Nat.le_of_ble_eq_true rfl : 3 < 17)).trans ((k32 3 (Nat.le_of_ble_eq_true rfl : 3 < 16)).trans ((k31 3 (Nat.ne_of_beq_eq_false rfl : 3 ≠ 4)).trans ((k30 3 (Nat.ne_of_beq_eq_false rfl : 3 ≠ 9) (Nat.le_of_ble_eq_true rfl : 3 < 10)).trans ((k17 3 (Nat.le_of_ble_eq_true rfl : 3 < 9)).trans f16))))))))))))))))))))))))))) rfl) ?_
  refine en_s (am_nb (m := 1) (pc1 := 61) (ls1 := [(1, .int 9), (0, .ref 3)]) (st1 := [.int 9, .ref 4]) (H1 := H151) (k1 := 68) (n1 := 13208) (by with_unfolding_all rfl)) ?_
  refine en_new (N := 72) (vs := [.null, .null, .int 0, .null, .null, .null, .null]) (ms := 7) rfl l151 (by with_unfolding_all rfl) ?_
  intro H152 l152 f152 k152
  refine en_s (am_nb (m := 1) (pc1 := 65) (ls1 := [(1, .int 9), (0, .ref 3)]) (st1 := [.ref 72, .ref 72, .int 9, .ref 4]) (H1 := H152) (k1 := 69) (n1 := 13215) (by with_unfolding_all rfl)) ?_
  refine en_cv0 (as := []) (rest := [.ref 72, .int 9, .ref 4]) rfl rfl rfl rfl f152 rfl (by with_unfolding_all rfl) (by with_unfolding_all rfl) (ci_12 l152 f152) ?_
  rintro H165 ⟨⟨f165_73, f165_72, f165_74, f165_75, f165_76, f165_77, f165_78, -⟩, l165, k165⟩
  refine en_aast rfl l165 ((k165 4 (Nat.ne_of_beq_eq_false rfl : 4 ≠ 72) (Nat.le_of_ble_eq_true rfl : 4 < 73)).trans ((k152 4 (Nat.le_of_ble_eq_true rfl : 4 < 72)).trans f151)) f165_72 (by decide) rfl (am_lg_up (i := 9) (l2 := [some 9, some 16, some 23, some 30, some 37, some 44, some 51, some 58, some 65, some 72, none, none]) (by with_unfolding_all rfl) rfl rfl) ?_
  intro H166 l166 f166 k166
  refine en_s (am_nb (m := 6) (pc1 := 57) (ls1 := [(1, .int 10), (0, .ref 3)]) (st1 := [.ref 3]) (H1 := H166) (k1 := 75) (n1 := 14665) (by with_unfolding_all rfl)) ?_
  refine en_s (st_get rfl ((k166 3 (Nat.ne_of_beq_eq_false rfl : 3 ≠ 4)).trans ((k165 3 (Nat.ne_of_beq_eq_false rfl : 3 ≠ 72) (Nat.le_of_ble_eq_true rfl : 3 < 73)).trans ((k152 3 (Nat.le_of_ble_eq_true rfl : 3 < 72)).trans ((k151 3 (Nat.ne_of_beq_eq_false rfl : 3 ≠ 4)).trans ((k150 3 (Nat.ne_of_beq_eq_false rfl : 3 ≠ 65) (Nat.le_of_ble_eq_true rfl : 3 < 66)).trans ((k137 3 (Nat.le_of_ble_eq_true rfl : 3 < 65)).trans ((k136 3 (Nat.ne_of_beq_eq_false rfl : 3 ≠ 4)).trans ((k135 3 (Nat.ne_of_beq_eq_false rfl : 3 ≠ 58) (Nat.le_of_ble_eq_true rfl : 3 < 59)).trans ((k122 3 (Nat.le_of_ble_eq_true rfl : 3 < 58)).trans ((k121 3 (Nat.ne_of_beq_eq_false rfl : 3 ≠ 4)).trans ((k120 3 (Nat.ne_of_beq_eq_false rfl : 3 ≠ 51) (Nat.le_of_ble_eq_true rfl : 3 < 52)).trans ((k107 3 (Nat.le_of_ble_eq_true rfl : 3 < 51)).trans ((k106 3 (Nat.ne_of_beq_eq_false rfl : 3 ≠ 4)).trans ((k105 3 (Nat.ne_of_beq_eq_false rfl : 3 ≠ 44) (Nat.le_of_ble_eq_true rfl : 3 < 45)).trans ((k92 3 (Nat.le_of_ble_eq_true rfl : 3 < 44)).trans ((k91 3 (Nat.ne_of_beq_eq_false rfl : 3 ≠ 4)).trans ((k90 3 (Nat.ne_of_beq_eq_false rfl : 3 ≠ 37) (Nat.le_of_ble_eq_true rfl : 3 < 38)).trans ((k77 3 (Nat.le_of_ble_eq_true rfl : 3 < 37)).trans ((k76 3 (Nat.ne_of_beq_eq_false rfl : 3 ≠ 4)).trans ((k75 3 (Nat.ne_of_beq_eq_false rfl : 3 ≠ 30) (Nat.le_of_ble_eq_true rfl : 3 < 31)).trans ((k62 3 (Nat.le_of_ble_eq_true rfl : 3 < 30)).trans ((k61 3 (Nat.ne_of_beq_eq_false rfl : 3 ≠ 4)).trans ((k60 3 (Nat.ne_of_beq_eq_false rfl : 3 ≠ 23) (Nat.le_of_ble_eq_true rfl : 3 < 24)).trans ((k47 3 (Nat.le_of_ble_eq_true rfl : 3 < 23)).trans ((k46 3 (Nat.ne_of_beq_eq_false rfl : 3 ≠ 4)).trans ((k45 3 (Nat.ne_of_beq_eq_false rfl : 3 ≠ 16) (Nat.le_of_ble_eq_true rfl : 3 < 17)).trans ((k32 3 (Nat.le_of_ble_eq_true rfl : 3 < 16)).trans ((k31 3 (Nat.ne_of_beq_eq_false rfl : 3 ≠ 4)).trans ((k30 3 (Nat.ne_of_beq_eq_false rfl : 3 ≠ 9) (Nat.le_of_ble_eq_true rfl : 3 < 10)).trans ((k17 3 (Nat.le_of_ble_eq_true rfl : 3 < 9)).trans f16)))))))))))))))))))))))))))))) rfl) ?_
  refine en_s (am_nb (m := 1) (pc1 := 61) (ls1 := [(1, .int 10), (0, .ref 3)]) (st1 := [.int 10, .ref 4]) (H1 := H166) (k1 := 75) (n1 := 14665) (by with_unfolding_all rfl)) ?_
  refine en_new (N := 79) (vs := [.null, .null, .int 0, .null, .null, .null, .null]) (ms := 7) rfl l166 (by with_unfolding_all rfl) ?_
  intro H167 l167 f167 k167
  refine en_s (am_nb (m := 1) (pc1 := 65) (ls1 := [(1, .int 10), (0, .ref 3)]) (st1 := [.ref 79, .ref 79, .int 10, .ref 4]) (H1 := H167) (k1 := 76) (n1 := 14672) (by with_unfolding_all rfl)) ?_
  refine en_cv0 (as := []) (rest := [.ref 79, .int 10, .ref 4]) rfl rfl rfl rfl f167 rfl (by with_unfolding_all rfl) (by with_unfolding_all rfl) (ci_13 l167 f167) ?_
  rintro H180 ⟨⟨f180_80, f180_79, f180_81, f180_82, f180_83, f180_84, f180_85, -⟩, l180, k180⟩
  refine en_aast rfl l180 ((k180 4 (Nat.ne_of_beq_eq_false rfl : 4 ≠ 79) (Nat.le_of_ble_eq_true rfl : 4 < 80)).trans ((k167 4 (Nat.le_of_ble_eq_true rfl : 4 < 79)).trans f166)) f180_79 (by decide) rfl (am_lg_up (i := 10) (l2 := [some 9, some 16, some 23, some 30, some 37, some 44, some 51, some 58, some 65, some 72, some 79, none]) (by with_unfolding_all rfl) rfl rfl) ?_
  intro H181 l181 f181 k181
  refine en_s (am_nb (m := 6) (pc1 := 57) (ls1 := [(1, .int 11), (0, .ref 3)]) (st1 := [.ref 3]) (H1 := H181) (k1 := 82) (n1 := 16122) (by with_unfolding_all rfl)) ?_
  refine en_s (st_get rfl ((k181 3 (Nat.ne_of_beq_eq_false rfl : 3 ≠ 4)).trans ((k180 3 (Nat.ne_of_beq_eq_false rfl : 3 ≠ 79) (Nat.le_of_ble_eq_true rfl : 3 < 80)).trans ((k167 3 (Nat.le_of_ble_eq_true rfl : 3 < 79)).trans ((k166 3 (Nat.ne_of_beq_eq_false rfl : 3 ≠ 4)).trans ((k165 3 (Nat.ne_of_beq_eq_false rfl : 3 ≠ 72) (Nat.le_of_ble_eq_true rfl : 3 < 73)).trans ((k152 3 (Nat.le_of_ble_eq_true rfl : 3 < 72)).trans ((k151 3 (Nat.ne_of_beq_eq_false rfl : 3 ≠ 4)).trans ((k150 3 (Nat.ne_of_beq_eq_false rfl : 3 ≠ 65) (Nat.le_of_ble_eq_true rfl : 3 < 66)).trans ((k137 3 (Nat.le_of_ble_eq_true rfl : 3 < 65)).trans ((k136 3 (Nat.ne_of_beq_eq_false rfl : 3 ≠ 4)).trans ((k135 3 (Nat.ne_of_beq_eq_false rfl : 3 ≠ 58) (Nat.le_of_ble_eq_true rfl : 3 < 59)).trans ((k122 3 (Nat.le_of_ble_eq_true rfl : 3 < 58)).trans ((k121 3 (Nat.ne_of_beq_eq_false rfl : 3 ≠ 4)).trans ((k120 3 (Nat.ne_of_beq_eq_false rfl : 3 ≠ 51) (Nat.le_of_ble_eq_true rfl : 3 < 52)).trans ((k107 3 (Nat.le_of_ble_eq_true rfl : 3 < 51)).trans ((k106 3 (Nat.ne_of_beq_eq_false rfl : 3 ≠ 4)).trans ((k105 3 (Nat.ne_of_beq_eq_false rfl : 3 ≠ 44) (Nat.le_of_ble_eq_true rfl : 3 < 45)).trans ((k92 3 (Nat.le_of_ble_eq_true rfl : 3 < 44)).trans ((k91 3 (Nat.ne_of_beq_eq_false rfl : 3 ≠ 4)).trans ((k90 3 (Nat.ne_of_beq_eq_false rfl : 3 ≠ 37) (Nat.le_of_ble_eq_true rfl : 3 < 38)).trans ((k77 3 (Nat.le_of_ble_eq_true rfl : 3 < 37)).trans ((k76 3 (Nat.ne_of_beq_eq_false rfl : 3 ≠ 4)).trans ((k75 3 (Nat.ne_of_beq_eq_false rfl : 3 ≠ 30) (Nat.le_of_ble_eq_true rfl : 3 < 31)).trans ((k62 3 (Nat.le_of_ble_eq_true rfl : 3 < 30)).trans ((k61 3 (Nat.ne_of_beq_eq_false rfl : 3 ≠ 4)).trans ((k60 3 (Nat.ne_of_beq_eq_false rfl : 3 ≠ 23) (Nat.le_of_ble_eq_true rfl : 3 < 24)).trans ((k47 3 (Nat.le_of_ble_eq_true rfl : 3 < 23)).trans ((k46 3 (Nat.ne_of_beq_eq_false rfl : 3 ≠ 4)).trans ((k45 3 (Nat.ne_of_beq_eq_false rfl : 3 ≠ 16) (Nat.le_of_ble_eq_true rfl : 3 < 17)).trans ((k32 3 (Nat.le_of_ble_eq_true rfl : 3 < 16)).trans ((k31 3 (Nat.ne_of_beq_eq_false rfl : 3 ≠ 4)).trans ((k30 3 (Nat.ne_of_beq_eq_false rfl : 3 ≠ 9) (Nat.le_of_ble_eq_true rfl : 3 < 10)).trans ((k17 3 (Nat.le_of_ble_eq_true rfl : 3 < 9)).trans f16))))))))))))))))))))))))))))))))) rfl) ?_
  refine en_s (am_nb (m := 1) (pc1 := 61) (ls1 := [(1, .int 11), (0, .ref 3)]) (st1 := [.int 11, .ref 4]) (H1 := H181) (k1 := 82) (n1 := 16122) (by with_unfolding_all rfl)) ?_
  refine en_new (N := 86) (vs := [.null, .null, .int 0, .null, .null, .null, .null]) (ms := 7) rfl l181 (by with_unfolding_all rfl) ?_
  intro H182 l182 f182 k182
  refine en_s (am_nb (m := 1) (pc1 := 65) (ls1 := [(1, .int 11), (0, .ref 3)]) (st1 := [.ref 86, .ref 86, .int 11, .ref 4]) (H1 := H182) (k1 := 83) (n1 := 16129) (by with_unfolding_all rfl)) ?_
  refine en_cv0 (as := []) (rest := [.ref 86, .int 11, .ref 4]) rfl rfl rfl rfl f182 rfl (by with_unfolding_all rfl) (by with_unfolding_all rfl) (ci_14 l182 f182) ?_
  rintro H195 ⟨⟨f195_87, f195_86, f195_88, f195_89, f195_90, f195_91, f195_92, -⟩, l195, k195⟩
  refine en_aast rfl l195 ((k195 4 (Nat.ne_of_beq_eq_false rfl : 4 ≠ 86) (Nat.le_of_ble_eq_true rfl : 4 < 87)).trans ((k182 4 (Nat.le_of_ble_eq_true rfl : 4 < 86)).trans f181)) f195_86 (by decide) rfl (am_lg_up (i := 11) (l2 := [some 9, some 16, some 23, some 30, some 37, some 44, some 51, some 58, some 65, some 72, some 79, some 86]) (by with_unfolding_all rfl) rfl rfl) ?_
  intro H196 l196 f196 k196
  refine en_s (am_nb (m := 5) (pc1 := 75) (ls1 := [(1, .int 12), (0, .ref 3)]) (st1 := []) (H1 := H196) (k1 := 89) (n1 := 17579) (by with_unfolding_all rfl)) ?_
  have K46 : ∀ j : Nat, j < 93 → j ≠ 4 → H196[j]? = H195[j]? := fun j hj n4 => (k196 j n4)
  have K45 : ∀ j : Nat, j < 87 → j ≠ 4 → j ≠ 86 → H196[j]? = H182[j]? := fun j hj n4 n86 => (K46 j (Nat.lt_of_lt_of_le hj (Nat.le_of_ble_eq_true rfl : 87 ≤ 93)) n4).trans (k195 j n86 hj)
  have K44 : ∀ j : Nat, j < 86 → j ≠ 4 → H196[j]? = H181[j]? := fun j hj n4 => (K45 j (Nat.lt_of_lt_of_le hj (Nat.le_of_ble_eq_true rfl : 86 ≤ 87)) n4 (Nat.ne_of_lt (Nat.lt_of_lt_of_le hj (Nat.le_of_ble_eq_true rfl : 86 ≤ 86)))).trans (k182 j hj)
  have K43 : ∀ j : Nat, j < 86 → j ≠ 4 → H196[j]? = H180[j]? := fun j hj n4 => (K44 j hj n4).trans (k181 j n4)
  have K42 : ∀ j : Nat, j < 80 → j ≠ 4 → j ≠ 79 → H196[j]? = H167[j]? := fun j hj n4 n79 => (K43 j (Nat.lt_of_lt_of_le hj (Nat.le_of_ble_eq_true rfl : 80 ≤ 86)) n4).trans (k180 j n79 hj)
  have K41 : ∀ j : Nat, j < 79 → j ≠ 4 → H196[j]? = H166[j]? := fun j hj n4 => (K42 j (Nat.lt_of_lt_of_le hj (Nat.le_of_ble_eq_true rfl : 79 ≤ 80)) n4 (Nat.ne_of_lt (Nat.lt_of_lt_of_le hj (Nat.le_of_ble_eq_true rfl : 79 ≤ 79)))).trans (k167 j hj)
  have K40 : ∀ j : Nat, j < 79 → j ≠ 4 → H196[j]? = H165[j]? := fun j hj n4 => (K41 j hj n4).trans (k166 j n4)
  have K39 : ∀ j : Nat, j < 73 → j ≠ 4 → j ≠ 72 → H196[j]? = H152[j]? := fun j hj n4 n72 => (K40 j (Nat.lt_of_lt_of_le hj (Nat.le_of_ble_eq_true rfl : 73 ≤ 79)) n4).trans (k165 j n72 hj)
  have K38 : ∀ j : Nat, j < 72 → j ≠ 4 → H196[j]? = H151[j]? := fun j hj n4 => (K39 j (Nat.lt_of_lt_of_le hj (Nat.le_of_ble_eq_true rfl : 72 ≤ 73)) n4 (Nat.ne_of_lt (Nat.lt_of_lt_of_le hj (Nat.le_of_ble_eq_true rfl : 72 ≤ 72)))).trans (k152 j hj)
  have K37 : ∀ j : Nat, j < 72 → j ≠ 4 → H196[j]? = H150[j]? := fun j hj n4 => (K38 j hj n4).trans (k151 j n4)
  have K36 : ∀ j : Nat, j < 66 → j ≠ 4 → j ≠ 65 → H196[j]? = H137[j]? := fun j hj n4 n65 => (K37 j (Nat.lt_of_lt_of_le hj (Nat.le_of_ble_eq_true rfl : 66 ≤ 72)) n4).trans (k150 j n65 hj)
  have K35 : ∀ j : Nat, j < 65 → j ≠ 4 → H196[j]? = H136[j]? := fun j hj n4 => (K36 j (Nat.lt_of_lt_of_le hj (Nat.le_of_ble_eq_true rfl : 65 ≤ 66)) n4 (Nat.ne_of_lt (Nat.lt_of_lt_of_le hj (Nat.le_of_ble_eq_true rfl : 65 ≤ 65)))).trans (k137 j hj)
  have K34 : ∀ j : Nat, j < 65 → j ≠ 4 → H196[j]? = H135[j]? := fun j hj n4 => (K35 j hj n4).trans (k136 j n4)
  have K33 : ∀ j : Nat, j < 59 → j ≠ 4 → j ≠ 58 → H196[j]? = H122[j]? := fun j hj n4 n58 => (K34 j (Nat.lt_of_lt_of_le hj (Nat.le_of_ble_eq_true rfl : 59 ≤ 65)) n4).trans (k135 j n58 hj)
  have K32 : ∀ j : Nat, j < 58 → j ≠ 4 → H196[j]? = H121[j]? := fun j hj n4 => (K33 j (Nat.lt_of_lt_of_le hj (Nat.le_of_ble_eq_true rfl : 58 ≤ 59)) n4 (Nat.ne_of_lt (Nat.lt_of_lt_of_le hj (Nat.le_of_ble_eq_true rfl : 58 ≤ 58)))).trans (k122 j hj)
  have K31 : ∀ j : Nat, j < 58 → j ≠ 4 → H196[j]? = H120[j]? := fun j hj n4 => (K32 j hj n4).trans (k121 j n4)
  have K30 : ∀ j : Nat, j < 52 → j ≠ 4 → j ≠ 51 → H196[j]? = H107[j]? := fun j hj n4 n51 => (K31 j (Nat.lt_of_lt_of_le hj (Nat.le_of_ble_eq_true rfl : 52 ≤ 58)) n4).trans (k120 j n51 hj)
  have K29 : ∀ j : Nat, j < 51 → j ≠ 4 → H196[j]? = H106[j]? := fun j hj n4 => (K30 j (Nat.lt_of_lt_of_le hj (Nat.le_of_ble_eq_true rfl : 51 ≤ 52)) n4 (Nat.ne_of_lt (Nat.lt_of_lt_of_le hj (Nat.le_of_ble_eq_true rfl : 51 ≤ 51)))).trans (k107 j hj)
  have K28 : ∀ j : Nat, j < 51 → j ≠ 4 → H196[j]? = H105[j]? := fun j hj n4 => (K29 j hj n4).trans (k106 j n4)
  have K27 : ∀ j : Nat, j < 45 → j ≠ 4 → j ≠ 44 → H196[j]? = H92[j]? := fun j hj n4 n44 => (K28 j (Nat.lt_of_lt_of_le hj (Nat.le_of_ble_eq_true rfl : 45 ≤ 51)) n4).trans (k105 j n44 hj)
  have K26 : ∀ j : Nat, j < 44 → j ≠ 4 → H196[j]? = H91[j]? := fun j hj n4 => (K27 j (Nat.lt_of_lt_of_le hj (Nat.le_of_ble_eq_true rfl : 44 ≤ 45)) n4 (Nat.ne_of_lt (Nat.lt_of_lt_of_le hj (Nat.le_of_ble_eq_true rfl : 44 ≤ 44)))).trans (k92 j hj)
  have K25 : ∀ j : Nat, j < 44 → j ≠ 4 → H196[j]? = H90[j]? := fun j hj n4 => (K26 j hj n4).trans (k91 j n4)
  have K24 : ∀ j : Nat, j < 38 → j ≠ 4 → j ≠ 37 → H196[j]? = H77[j]? := fun j hj n4 n37 => (K25 j (Nat.lt_of_lt_of_le hj (Nat.le_of_ble_eq_true rfl : 38 ≤ 44)) n4).trans (k90 j n37 hj)
  have K23 : ∀ j : Nat, j < 37 → j ≠ 4 → H196[j]? = H76[j]? := fun j hj n4 => (K24 j (Nat.lt_of_lt_of_le hj (Nat.le_of_ble_eq_true rfl : 37 ≤ 38)) n4 (Nat.ne_of_lt (Nat.lt_of_lt_of_le hj (Nat.le_of_ble_eq_true rfl : 37 ≤ 37)))).trans (k77 j hj)
  have K22 : ∀ j : Nat, j < 37 → j ≠ 4 → H196[j]? = H75[j]? := fun j hj n4 => (K23 j hj n4).trans (k76 j n4)
  have K21 : ∀ j : Nat, j < 31 → j ≠ 4 → j ≠ 30 → H196[j]? = H62[j]? := fun j hj n4 n30 => (K22 j (Nat.lt_of_lt_of_le hj (Nat.le_of_ble_eq_true rfl : 31 ≤ 37)) n4).trans (k75 j n30 hj)
  have K20 : ∀ j : Nat, j < 30 → j ≠ 4 → H196[j]? = H61[j]? := fun j hj n4 => (K21 j (Nat.lt_of_lt_of_le hj (Nat.le_of_ble_eq_true rfl : 30 ≤ 31)) n4 (Nat.ne_of_lt (Nat.lt_of_lt_of_le hj (Nat.le_of_ble_eq_true rfl : 30 ≤ 30)))).trans (k62 j hj)
  have K19 : ∀ j : Nat, j < 30 → j ≠ 4 → H196[j]? = H60[j]? := fun j hj n4 => (K20 j hj n4).trans (k61 j n4)
  have K18 : ∀ j : Nat, j < 24 → j ≠ 4 → j ≠ 23 → H196[j]? = H47[j]? := fun j hj n4 n23 => (K19 j (Nat.lt_of_lt_of_le hj (Nat.le_of_ble_eq_true rfl : 24 ≤ 30)) n4).trans (k60 j n23 hj)
  have K17 : ∀ j : Nat, j < 23 → j ≠ 4 → H196[j]? = H46[j]? := fun j hj n4 => (K18 j (Nat.lt_of_lt_of_le hj (Nat.le_of_ble_eq_true rfl : 23 ≤ 24)) n4 (Nat.ne_of_lt (Nat.lt_of_lt_of_le hj (Nat.le_of_ble_eq_true rfl : 23 ≤ 23)))).trans (k47 j hj)
  have K16 : ∀ j : Nat, j < 23 → j ≠ 4 → H196[j]? = H45[j]? := fun j hj n4 => (K17 j hj n4).trans (k46 j n4)
  have K15 : ∀ j : Nat, j < 17 → j ≠ 4 → j ≠ 16 → H196[j]? = H32[j]? := fun j hj n4 n16 => (K16 j (Nat.lt_of_lt_of_le hj (Nat.le_of_ble_eq_true rfl : 17 ≤ 23)) n4).trans (k45 j n16 hj)
  have K14 : ∀ j : Nat, j < 16 → j ≠ 4 → H196[j]? = H31[j]? := fun j hj n4 => (K15 j (Nat.lt_of_lt_of_le hj (Nat.le_of_ble_eq_true rfl : 16 ≤ 17)) n4 (Nat.ne_of_lt (Nat.lt_of_lt_of_le hj (Nat.le_of_ble_eq_true rfl : 16 ≤ 16)))).trans (k32 j hj)
  have K13 : ∀ j : Nat, j < 16 → j ≠ 4 → H196[j]? = H30[j]? := fun j hj n4 => (K14 j hj n4).trans (k31 j n4)
  have K12 : ∀ j : Nat, j < 10 → j ≠ 4 → j ≠ 9 → H196[j]? = H17[j]? := fun j hj n4 n9 => (K13 j (Nat.lt_of_lt_of_le hj (Nat.le_of_ble_eq_true rfl : 10 ≤ 16)) n4).trans (k30 j n9 hj)
  have K11 : ∀ j : Nat, j < 9 → j ≠ 4 → H196[j]? = H16[j]? := fun j hj n4 => (K12 j (Nat.lt_of_lt_of_le hj (Nat.le_of_ble_eq_true rfl : 9 ≤ 10)) n4 (Nat.ne_of_lt (Nat.lt_of_lt_of_le hj (Nat.le_of_ble_eq_true rfl : 9 ≤ 9)))).trans (k17 j hj)
  have K10 : ∀ j : Nat, j < 9 → j ≠ 3 → j ≠ 4 → H196[j]? = H15[j]? := fun j hj n3 n4 => (K11 j hj n4).trans (k16 j n3)
  have K9 : ∀ j : Nat, j < 8 → j ≠ 3 → j ≠ 4 → H196[j]? = H14[j]? := fun j hj n3 n4 => (K10 j (Nat.lt_of_lt_of_le hj (Nat.le_of_ble_eq_true rfl : 8 ≤ 9)) n3 n4).trans (k15 j hj)
  have K8 : ∀ j : Nat, j < 8 → j ≠ 3 → j ≠ 4 → H196[j]? = H13[j]? := fun j hj n3 n4 => (K9 j hj n3 n4).trans (k14 j n3)
  have K7 : ∀ j : Nat, j < 7 → j ≠ 3 → j ≠ 4 → H196[j]? = H12[j]? := fun j hj n3 n4 => (K8 j (Nat.lt_of_lt_of_le hj (Nat.le_of_ble_eq_true rfl : 7 ≤ 8)) n3 n4).trans (k13 j hj)
  have K6 : ∀ j : Nat, j < 7 → j ≠ 3 → j ≠ 4 → H196[j]? = H11[j]? := fun j hj n3 n4 => (K7 j hj n3 n4).trans (k12 j n3)
  have K5 : ∀ j : Nat, j < 6 → j ≠ 3 → j ≠ 4 → H196[j]? = H10[j]? := fun j hj n3 n4 => (K6 j (Nat.lt_of_lt_of_le hj (Nat.le_of_ble_eq_true rfl : 6 ≤ 7)) n3 n4).trans (k11 j hj)
  have K4 : ∀ j : Nat, j < 6 → j ≠ 3 → j ≠ 4 → H196[j]? = H9[j]? := fun j hj n3 n4 => (K5 j hj n3 n4).trans (k10 j n3)
  have K3 : ∀ j : Nat, j < 5 → j ≠ 3 → j ≠ 4 → H196[j]? = H8[j]? := fun j hj n3 n4 => (K4 j (Nat.lt_of_lt_of_le hj (Nat.le_of_ble_eq_true rfl : 5 ≤ 6)) n3 n4).trans (k9 j hj)
  have K2 : ∀ j : Nat, j < 5 → j ≠ 3 → j ≠ 4 → H196[j]? = H7[j]? := fun j hj n3 n4 => (K3 j hj n3 n4).trans (k8 j n3)
  have K1 : ∀ j : Nat, j < 5 → j ≠ 3 → j ≠ 4 → H196[j]? = H6[j]? := fun j hj n3 n4 => (K2 j hj n3 n4).trans (k7 j n3)
  have K0 : ∀ j : Nat, j < 4 → j ≠ 3 → H196[j]? = H[j]? := fun j hj n3 => (K1 j (Nat.lt_of_lt_of_le hj (Nat.le_of_ble_eq_true rfl : 4 ≤ 5)) n3 (Nat.ne_of_lt (Nat.lt_of_lt_of_le hj (Nat.le_of_ble_eq_true rfl : 4 ≤ 4)))).trans (k6 j hj)
  exact en_r (st_vret rfl rfl) ⟨⟨f196, ((K44 3 (Nat.le_of_ble_eq_true rfl : 3 < 86) (Nat.ne_of_beq_eq_false rfl : 3 ≠ 4)).trans ((k181 3 (Nat.ne_of_beq_eq_false rfl : 3 ≠ 4)).trans ((k180 3 (Nat.ne_of_beq_eq_false rfl : 3 ≠ 79) (Nat.le_of_ble_eq_true rfl : 3 < 80)).trans ((k167 3 (Nat.le_of_ble_eq_true rfl : 3 < 79)).trans ((k166 3 (Nat.ne_of_beq_eq_false rfl : 3 ≠ 4)).trans ((k165 3 (Nat.ne_of_beq_eq_false rfl : 3 ≠ 72) (Nat.le_of_ble_eq_true rfl : 3 < 73)).trans ((k152 3 (Nat.le_of_ble_eq_true rfl : 3 < 72)).trans ((k151 3 (Nat.ne_of_beq_eq_false rfl : 3 ≠ 4)).trans ((k150 3 (Nat.ne_of_beq_eq_false rfl : 3 ≠ 65) (Nat.le_of_ble_eq_true rfl : 3 < 66)).trans ((k137 3 (Nat.le_of_ble_eq_true rfl : 3 < 65)).trans ((k136 3 (Nat.ne_of_beq_eq_false rfl : 3 ≠ 4)).trans ((k135 3 (Nat.ne_of_beq_eq_false rfl : 3 ≠ 58) (Nat.le_of_ble_eq_true rfl : 3 < 59)).trans ((k122 3 (Nat.le_of_ble_eq_true rfl : 3 < 58)).trans ((k121 3 (Nat.ne_of_beq_eq_false rfl : 3 ≠ 4)).trans ((k120 3 (Nat.ne_of_beq_eq_false rfl : 3 ≠ 51) (Nat.le_of_ble_eq_true rfl : 3 < 52)).trans ((k107 3 (Nat.le_of_ble_eq_true rfl : 3 < 51)).trans ((k106 3 (Nat.ne_of_beq_eq_false rfl : 3 ≠ 4)).trans ((k105 3 (Nat.ne_of_beq_eq_false rfl : 3 ≠ 44) (Nat.le_of_ble_eq_true rfl : 3 < 45)).trans ((k92 3 (Nat.le_of_ble_eq_true rfl : 3 < 44)).trans ((k91 3 (Nat.ne_of_beq_eq_false rfl : 3 ≠ 4)).trans ((k90 3 (Nat.ne_of_beq_eq_false rfl : 3 ≠ 37) (Nat.le_of_ble_eq_true rfl : 3 < 38)).trans ((k77 3 (Nat.le_of_ble_eq_true rfl : 3 < 37)).trans ((k76 3 (Nat.ne_of_beq_eq_false rfl : 3 ≠ 4)).trans ((k75 3 (Nat.ne_of_beq_eq_false rfl : 3 ≠ 30) (Nat.le_of_ble_eq_true rfl : 3 < 31)).trans ((k62 3 (Nat.le_of_ble_eq_true rfl : 3 < 30)).trans ((k61 3 (Nat.ne_of_beq_eq_false rfl : 3 ≠ 4)).trans ((k60 3 (Nat.ne_of_beq_eq_false rfl : 3 ≠ 23) (Nat.le_of_ble_eq_true rfl : 3 < 24)).trans ((k47 3 (Nat.le_of_ble_eq_true rfl : 3 < 23)).trans ((k46 3 (Nat.ne_of_beq_eq_false rfl : 3 ≠ 4)).trans ((k45 3 (Nat.ne_of_beq_eq_false rfl : 3 ≠ 16) (Nat.le_of_ble_eq_true rfl : 3 < 17)).trans ((k32 3 (Nat.le_of_ble_eq_true rfl : 3 < 16)).trans ((k31 3 (Nat.ne_of_beq_eq_false rfl : 3 ≠ 4)).trans ((k30 3 (Nat.ne_of_beq_eq_false rfl : 3 ≠ 9) (Nat.le_of_ble_eq_true rfl : 3 < 10)).trans ((k17 3 (Nat.le_of_ble_eq_true rfl : 3 < 9)).trans f16)))))))))))))))))))))))))))))))))), ((K4 5 (Nat.le_of_ble_eq_true rfl : 5 < 6) (Nat.ne_of_beq_eq_false rfl : 5 ≠ 3) (Nat.ne_of_beq_eq_false rfl : 5 ≠ 4)).trans f9), ((K6 6 (Nat.le_of_ble_eq_true rfl : 6 < 7) (Nat.ne_of_beq_eq_false rfl : 6 ≠ 3) (Nat.ne_of_beq_eq_false rfl : 6 ≠ 4)).trans f11), ((K8 7 (Nat.le_of_ble_eq_true rfl : 7 < 8) (Nat.ne_of_beq_eq_false rfl : 7 ≠ 3) (Nat.ne_of_beq_eq_false rfl : 7 ≠ 4)).trans f13), ((K10 8 (Nat.le_of_ble_eq_true rfl : 8 < 9) (Nat.ne_of_beq_eq_false rfl : 8 ≠ 3) (Nat.ne_of_beq_eq_false rfl : 8 ≠ 4)).trans f15), ((K13 9 (Nat.le_of_ble_eq_true rfl : 9 < 16) (Nat.ne_of_beq_eq_false rfl : 9 ≠ 4)).trans f30_9), ((K13 10 (Nat.le_of_ble_eq_true rfl : 10 < 16) (Nat.ne_of_beq_eq_false rfl : 10 ≠ 4)).trans f30_10), ((K13 11 (Nat.le_of_ble_eq_true rfl : 11 < 16) (Nat.ne_of_beq_eq_false rfl : 11 ≠ 4)).trans f30_11), ((K13 12 (Nat.le_of_ble_eq_true rfl : 12 < 16) (Nat.ne_of_beq_eq_false rfl : 12 ≠ 4)).trans f30_12), ((K13 13 (Nat.le_of_ble_eq_true rfl : 13 < 16) (Nat.ne_of_beq_eq_false rfl : 13 ≠ 4)).trans f30_13), ((K13 14 (Nat.le_of_ble_eq_true rfl : 14 < 16) (Nat.ne_of_beq_eq_false rfl : 14 ≠ 4)).trans f30_14), ((K13 15 (Nat.le_of_ble_eq_true rfl : 15 < 16) (Nat.ne_of_beq_eq_false rfl : 15 ≠ 4)).trans f30_15), ((K16 16 (Nat.le_of_ble_eq_true rfl : 16 < 23) (Nat.ne_of_beq_eq_false rfl : 16 ≠ 4)).trans f45_16), ((K16 17 (Nat.le_of_ble_eq_true rfl : 17 < 23) (Nat.ne_of_beq_eq_false rfl : 17 ≠ 4)).trans f45_17), ((K16 18 (Nat.le_of_ble_eq_true rfl : 18 < 23) (Nat.ne_of_beq_eq_false rfl : 18 ≠ 4)).trans f45_18), ((K16 19 (Nat.le_of_ble_eq_true rfl : 19 < 23) (Nat.ne_of_beq_eq_false rfl : 19 ≠ 4)).trans f45_19), ((K16 20 (Nat.le_of_ble_eq_true rfl : 20 < 23) (Nat.ne_of_beq_eq_false rfl : 20 ≠ 4)).trans f45_20), ((K16 21 (Nat.le_of_ble_eq_true rfl : 21 < 23) (Nat.ne_of_beq_eq_false rfl : 21 ≠ 4)).trans f45_21), ((K16 22 (Nat.le_of_ble_eq_true rfl : 22 < 23) (Nat.ne_of_beq_eq_false rfl : 22 ≠ 4)).trans f45_22), ((K19 23 (Nat.le_of_ble_eq_true rfl : 23 < 30) (Nat.ne_of_beq_eq_false rfl : 23 ≠ 4)).trans f60_23), ((K19 24 (Nat.le_of_ble_eq_true rfl : 24 < 30) (Nat.ne_of_beq_eq_false rfl : 24 ≠ 4)).trans f60_24), ((K19 25 (Nat.le_of_ble_eq_true rfl : 25 < 30) (Nat.ne_of_beq_eq_false rfl : 25 ≠ 4)).trans f60_25), ((K19 26 (Nat.le_of_ble_eq_true rfl : 26 < 30) (Nat.ne_of_beq_eq_false rfl : 26 ≠ 4)).trans f60_26), ((K19 27 (Nat.le_of_ble_eq_true rfl : 27 < 30) (Nat.ne_of_beq_eq_false rfl : 27 ≠ 4)).trans f60_27), ((K19 28 (Nat.le_of_ble_eq_true rfl : 28 < 30) (Nat.ne_of_beq_eq_false rfl : 28 ≠ 4)).trans f60_28), ((K19 29 (Nat.le_of_ble_eq_true rfl : 29 < 30) (Nat.ne_of_beq_eq_false rfl : 29 ≠ 4)).trans f60_29), ((K22 30 (Nat.le_of_ble_eq_true rfl : 30 < 37) (Nat.ne_of_beq_eq_false rfl : 30 ≠ 4)).trans f75_30), ((K22 31 (Nat.le_of_ble_eq_true rfl : 31 < 37) (Nat.ne_of_beq_eq_false rfl : 31 ≠ 4)).trans f75_31), ((K22 32 (Nat.le_of_ble_eq_true rfl : 32 < 37) (Nat.ne_of_beq_eq_false rfl : 32 ≠ 4)).trans f75_32), ((K22 33 (Nat.le_of_ble_eq_true rfl : 33 < 37) (Nat.ne_of_beq_eq_false rfl : 33 ≠ 4)).trans f75_33), ((K22 34 (Nat.le_of_ble_eq_true rfl : 34 < 37) (Nat.ne_of_beq_eq_false rfl : 34 ≠ 4)).trans f75_34), ((K22 35 (Nat.le_of_ble_eq_true rfl : 35 < 37) (Nat.ne_of_beq_eq_false rfl : 35 ≠ 4)).trans f75_35), ((K22 36 (Nat.le_of_ble_eq_true rfl : 36 < 37) (Nat.ne_of_beq_eq_false rfl : 36 ≠ 4)).trans f75_36), ((K25 37 (Nat.le_of_ble_eq_true rfl : 37 < 44) (Nat.ne_of_beq_eq_false rfl : 37 ≠ 4)).trans f90_37), ((K25 38 (Nat.le_of_ble_eq_true rfl : 38 < 44) (Nat.ne_of_beq_eq_false rfl : 38 ≠ 4)).trans f90_38), ((K25 39 (Nat.le_of_ble_eq_true rfl : 39 < 44) (Nat.ne_of_beq_eq_false rfl : 39 ≠ 4)).trans f90_39), ((K25 40 (Nat.le_of_ble_eq_true rfl : 40 < 44) (Nat.ne_of_beq_eq_false rfl : 40 ≠ 4)).trans f90_40), ((K25 41 (Nat.le_of_ble_eq_true rfl : 41 < 44) (Nat.ne_of_beq_eq_false rfl : 41 ≠ 4)).trans f90_41), ((K25 42 (Nat.le_of_ble_eq_true rfl : 42 < 44) (Nat.ne_of_beq_eq_false rfl : 42 ≠ 4)).trans f90_42), ((K25 43 (Nat.le_of_ble_eq_true rfl : 43 < 44) (Nat.ne_of_beq_eq_false rfl : 43 ≠ 4)).trans f90_43), ((K28 44 (Nat.le_of_ble_eq_true rfl : 44 < 51) (Nat.ne_of_beq_eq_false rfl : 44 ≠ 4)).trans f105_44), ((K28 45 (Nat.le_of_ble_eq_true rfl : 45 < 51) (Nat.ne_of_beq_eq_false rfl : 45 ≠ 4)).trans f105_45), ((K28 46 (Nat.le_of_ble_eq_true rfl : 46 < 51) (Nat.ne_of_beq_eq_false rfl : 46 ≠ 4)).trans f105_46), ((K28 47 (Nat.le_of_ble_eq_true rfl : 47 < 51) (Nat.ne_of_beq_eq_false rfl : 47 ≠ 4)).trans f105_47), ((K28 48 (Nat.le_of_ble_eq_true rfl : 48 < 51) (Nat.ne_of_beq_eq_false rfl : 48 ≠ 4)).trans f105_48), ((K28 49 (Nat.le_of_ble_eq_true rfl : 49 < 51) (Nat.ne_of_beq_eq_false rfl : 49 ≠ 4)).trans f105_49), ((K28 50 (Nat.le_of_ble_eq_true rfl : 50 < 51) (Nat.ne_of_beq_eq_false rfl : 50 ≠ 4)).trans f105_50), ((K31 51 (Nat.le_of_ble_eq_true rfl : 51 < 58) (Nat.ne_of_beq_eq_false rfl : 51 ≠ 4)).trans f120_51), ((K31 52 (Nat.le_of_ble_eq_true rfl : 52 < 58) (Nat.ne_of_beq_eq_false rfl : 52 ≠ 4)).trans f120_52), ((K31 53 (Nat.le_of_ble_eq_true rfl : 53 < 58) (Nat.ne_of_beq_eq_false rfl : 53 ≠ 4)).trans f120_53), ((K31 54 (Nat.le_of_ble_eq_true rfl : 54 < 58) (Nat.ne_of_beq_eq_false rfl : 54 ≠ 4)).trans f120_54), ((K31 55 (Nat.le_of_ble_eq_true rfl : 55 < 58) (Nat.ne_of_beq_eq_false rfl : 55 ≠ 4)).trans f120_55), ((K31 56 (Nat.le_of_ble_eq_true rfl : 56 < 58) (Nat.ne_of_beq_eq_false rfl : 56 ≠ 4)).trans f120_56), ((K31 57 (Nat.le_of_ble_eq_true rfl : 57 < 58) (Nat.ne_of_beq_eq_false rfl : 57 ≠ 4)).trans f120_57), ((K34 58 (Nat.le_of_ble_eq_true rfl : 58 < 65) (Nat.ne_of_beq_eq_false rfl : 58 ≠ 4)).trans f135_58), ((K34 59 (Nat.le_of_ble_eq_true rfl : 59 < 65) (Nat.ne_of_beq_eq_false rfl : 59 ≠ 4)).trans f135_59), ((K34 60 (Nat.le_of_ble_eq_true rfl : 60 < 65) (Nat.ne_of_beq_eq_false rfl : 60 ≠ 4)).trans f135_60), ((K34 61 (Nat.le_of_ble_eq_true rfl : 61 < 65) (Nat.ne_of_beq_eq_false rfl : 61 ≠ 4)).trans f135_61), ((K34 62 (Nat.le_of_ble_eq_true rfl : 62 < 65) (Nat.ne_of_beq_eq_false rfl : 62 ≠ 4)).trans f135_62), ((K34 63 (Nat.le_of_ble_eq_true rfl : 63 < 65) (Nat.ne_of_beq_eq_false rfl : 63 ≠ 4)).trans f135_63), ((K34 64 (Nat.le_of_ble_eq_true rfl : 64 < 65) (Nat.ne_of_beq_eq_false rfl : 64 ≠ 4)).trans f135_64), ((K37 65 (Nat.le_of_ble_eq_true rfl : 65 < 72) (Nat.ne_of_beq_eq_false rfl : 65 ≠ 4)).trans f150_65), ((K37 66 (Nat.le_of_ble_eq_true rfl : 66 < 72) (Nat.ne_of_beq_eq_false rfl : 66 ≠ 4)).trans f150_66), ((K37 67 (Nat.le_of_ble_eq_true rfl : 67 < 72) (Nat.ne_of_beq_eq_false rfl : 67 ≠ 4)).trans f150_67), ((K37 68 (Nat.le_of_ble_eq_true rfl : 68 < 72) (Nat.ne_of_beq_eq_false rfl : 68 ≠ 4)).trans f150_68), ((K37 69 (Nat.le_of_ble_eq_true rfl : 69 < 72) (Nat.ne_of_beq_eq_false rfl : 69 ≠ 4)).trans f150_69), ((K37 70 (Nat.le_of_ble_eq_true rfl : 70 < 72) (Nat.ne_of_beq_eq_false rfl : 70 ≠ 4)).trans f150_70), ((K37 71 (Nat.le_of_ble_eq_true rfl : 71 < 72) (Nat.ne_of_beq_eq_false rfl : 71 ≠ 4)).trans f150_71), ((K40 72 (Nat.le_of_ble_eq_true rfl : 72 < 79) (Nat.ne_of_beq_eq_false rfl : 72 ≠ 4)).trans f165_72), ((K40 73 (Nat.le_of_ble_eq_true rfl : 73 < 79) (Nat.ne_of_beq_eq_false rfl : 73 ≠ 4)).trans f165_73), ((K40 74 (Nat.le_of_ble_eq_true rfl : 74 < 79) (Nat.ne_of_beq_eq_false rfl : 74 ≠ 4)).trans f165_74), ((K40 75 (Nat.le_of_ble_eq_true rfl : 75 < 79) (Nat.ne_of_beq_eq_false rfl : 75 ≠ 4)).trans f165_75), ((K40 76 (Nat.le_of_ble_eq_true rfl : 76 < 79) (Nat.ne_of_beq_eq_false rfl : 76 ≠ 4)).trans f165_76), ((K40 77 (Nat.le_of_ble_eq_true rfl : 77 < 79) (Nat.ne_of_beq_eq_false rfl : 77 ≠ 4)).trans f165_77), ((K40 78 (Nat.le_of_ble_eq_true rfl : 78 < 79) (Nat.ne_of_beq_eq_false rfl : 78 ≠ 4)).trans f165_78), ((K43 79 (Nat.le_of_ble_eq_true rfl : 79 < 86) (Nat.ne_of_beq_eq_false rfl : 79 ≠ 4)).trans f180_79), ((K43 80 (Nat.le_of_ble_eq_true rfl : 80 < 86) (Nat.ne_of_beq_eq_false rfl : 80 ≠ 4)).trans f180_80), ((K43 81 (Nat.le_of_ble_eq_true rfl : 81 < 86) (Nat.ne_of_beq_eq_false rfl : 81 ≠ 4)).trans f180_81), ((K43 82 (Nat.le_of_ble_eq_true rfl : 82 < 86) (Nat.ne_of_beq_eq_false rfl : 82 ≠ 4)).trans f180_82), ((K43 83 (Nat.le_of_ble_eq_true rfl : 83 < 86) (Nat.ne_of_beq_eq_false rfl : 83 ≠ 4)).trans f180_83), ((K43 84 (Nat.le_of_ble_eq_true rfl : 84 < 86) (Nat.ne_of_beq_eq_false rfl : 84 ≠ 4)).trans f180_84), ((K43 85 (Nat.le_of_ble_eq_true rfl : 85 < 86) (Nat.ne_of_beq_eq_false rfl : 85 ≠ 4)).trans f180_85), ((K46 86 (Nat.le_of_ble_eq_true rfl : 86 < 93) (Nat.ne_of_beq_eq_false rfl : 86 ≠ 4)).trans f195_86), ((K46 87 (Nat.le_of_ble_eq_true rfl : 87 < 93) (Nat.ne_of_beq_eq_false rfl : 87 ≠ 4)).trans f195_87), ((K46 88 (Nat.le_of_ble_eq_true rfl : 88 < 93) (Nat.ne_of_beq_eq_false rfl : 88 ≠ 4)).trans f195_88), ((K46 89 (Nat.le_of_ble_eq_true rfl : 89 < 93) (Nat.ne_of_beq_eq_false rfl : 89 ≠ 4)).trans f195_89), ((K46 90 (Nat.le_of_ble_eq_true rfl : 90 < 93) (Nat.ne_of_beq_eq_false rfl : 90 ≠ 4)).trans f195_90), ((K46 91 (Nat.le_of_ble_eq_true rfl : 91 < 93) (Nat.ne_of_beq_eq_false rfl : 91 ≠ 4)).trans f195_91), ((K46 92 (Nat.le_of_ble_eq_true rfl : 92 < 93) (Nat.ne_of_beq_eq_false rfl : 92 ≠ 4)).trans f195_92), trivial⟩, l196, fun j n3 hj => K0 j hj n3⟩

def ci_15F  (H H1 : am_H) : Prop := (am_is H1 94 (.inl (.int, (8, .inl (fun _ => 0)))) ∧ am_is H1 93 (.inr (5, [.ref 94, .int 0, .ref 95, .ref 96, .int 0])) ∧ am_is H1 95 (.inl (.int, (4, .inl (fun _ => 0)))) ∧ am_is H1 96 (.inl (.int, (60, .inl (fun _ => 0)))) ∧ True) ∧ H1.length = 97 ∧ ∀ j : Nat, j ≠ 93 → j < 94 → H1[j]? = H[j]?
set_option maxRecDepth 100000 in
theorem ci_15 {sL : Nat} {sx : Nat → Int32} {cs : Nat → Nat → Option Int32} {H : am_H}  (hl : H.length = 94) (h93 : H[93]? = some (.inr (5, [.null, .int 0, .null, .null, .int 0]))) :
    am_NW sL sx cs 3 0 [(0, .ref 93)] [] H 0 0 none 3 72 (ci_15F H) := by
  refine en_s (am_nb (m := 4) (pc1 := 7) (ls1 := [(0, .ref 93)]) (st1 := [.int 8, .ref 93]) (H1 := H) (k1 := 0) (n1 := 0) (by with_unfolding_all rfl)) ?_
  refine en_newa (N := 94) (m := 8) (ty := .int) rfl hl rfl (by decide) (by with_unfolding_all rfl) rfl rfl ?_
  intro H200 l200 f200 k200
  refine en_put rfl l200 ((k200 93 (Nat.le_of_ble_eq_true rfl : 93 < 94)).trans h93) rfl rfl rfl ?_
  intro H201 l201 f201 k201
  refine en_s (am_nb (m := 2) (pc1 := 14) (ls1 := [(0, .ref 93)]) (st1 := [.int 4, .ref 93]) (H1 := H201) (k1 := 1) (n1 := 8) (by with_unfolding_all rfl)) ?_
  refine en_newa (N := 95) (m := 4) (ty := .int) rfl l201 rfl (by decide) (by with_unfolding_all rfl) rfl rfl ?_
  intro H202 l202 f202 k202
  refine en_put rfl l202 ((k202 93 (Nat.le_of_ble_eq_true rfl : 93 < 95)).trans f201) rfl rfl rfl ?_
  intro H203 l203 f203 k203
  refine en_s (am_nb (m := 2) (pc1 := 22) (ls1 := [(0, .ref 93)]) (st1 := [.int 60, .ref 93]) (H1 := H203) (k1 := 2) (n1 := 12) (by with_unfolding_all rfl)) ?_
  refine en_newa (N := 96) (m := 60) (ty := .int) rfl l203 rfl (by decide) (by with_unfolding_all rfl) rfl rfl ?_
  intro H204 l204 f204 k204
  refine en_put rfl l204 ((k204 93 (Nat.le_of_ble_eq_true rfl : 93 < 96)).trans f203) rfl rfl rfl ?_
  intro H205 l205 f205 k205
  have K5 : ∀ j : Nat, j < 97 → j ≠ 93 → H205[j]? = H204[j]? := fun j hj n93 => (k205 j n93)
  have K4 : ∀ j : Nat, j < 96 → j ≠ 93 → H205[j]? = H203[j]? := fun j hj n93 => (K5 j (Nat.lt_of_lt_of_le hj (Nat.le_of_ble_eq_true rfl : 96 ≤ 97)) n93).trans (k204 j hj)
  have K3 : ∀ j : Nat, j < 96 → j ≠ 93 → H205[j]? = H202[j]? := fun j hj n93 => (K4 j hj n93).trans (k203 j n93)
  have K2 : ∀ j : Nat, j < 95 → j ≠ 93 → H205[j]? = H201[j]? := fun j hj n93 => (K3 j (Nat.lt_of_lt_of_le hj (Nat.le_of_ble_eq_true rfl : 95 ≤ 96)) n93).trans (k202 j hj)
  have K1 : ∀ j : Nat, j < 95 → j ≠ 93 → H205[j]? = H200[j]? := fun j hj n93 => (K2 j hj n93).trans (k201 j n93)
  have K0 : ∀ j : Nat, j < 94 → j ≠ 93 → H205[j]? = H[j]? := fun j hj n93 => (K1 j (Nat.lt_of_lt_of_le hj (Nat.le_of_ble_eq_true rfl : 94 ≤ 95)) n93).trans (k200 j hj)
  exact en_r (st_vret rfl rfl) ⟨⟨((K1 94 (Nat.le_of_ble_eq_true rfl : 94 < 95) (Nat.ne_of_beq_eq_false rfl : 94 ≠ 93)).trans f200), f205, ((K3 95 (Nat.le_of_ble_eq_true rfl : 95 < 96) (Nat.ne_of_beq_eq_false rfl : 95 ≠ 93)).trans f202), ((K5 96 (Nat.le_of_ble_eq_true rfl : 96 < 97) (Nat.ne_of_beq_eq_false rfl : 96 ≠ 93)).trans f204), trivial⟩, l205, fun j n93 hj => K0 j hj n93⟩

def ci_17F  (H H1 : am_H) : Prop := (am_is H1 99 (.inl (.int, (1920, .inl (fun _ => 0)))) ∧ am_is H1 98 (.inr (9, [.ref 99, .int 0, .int 0, .int 0, .int 0, .int 0, .int 0, .int 0, .int 0, .int 0])) ∧ True) ∧ H1.length = 100 ∧ ∀ j : Nat, j ≠ 98 → j < 99 → H1[j]? = H[j]?
set_option maxRecDepth 100000 in
theorem ci_17 {sL : Nat} {sx : Nat → Int32} {cs : Nat → Nat → Option Int32} {H : am_H}  (hl : H.length = 99) (h98 : H[98]? = some (.inr (9, [.null, .int 0, .int 0, .int 0, .int 0, .int 0, .int 0, .int 0, .int 0, .int 0]))) :
    am_NW sL sx cs 5 0 [(0, .ref 98)] [] H 0 0 none 1 1920 (ci_17F H) := by
  refine en_s (am_nb (m := 4) (pc1 := 8) (ls1 := [(0, .ref 98)]) (st1 := [.int 1920, .ref 98]) (H1 := H) (k1 := 0) (n1 := 0) (by with_unfolding_all rfl)) ?_
  refine en_newa (N := 99) (m := 1920) (ty := .int) rfl hl rfl (by decide) (by with_unfolding_all rfl) rfl rfl ?_
  intro H210 l210 f210 k210
  refine en_put rfl l210 ((k210 98 (Nat.le_of_ble_eq_true rfl : 98 < 99)).trans h98) rfl rfl rfl ?_
  intro H211 l211 f211 k211
  have K1 : ∀ j : Nat, j < 100 → j ≠ 98 → H211[j]? = H210[j]? := fun j hj n98 => (k211 j n98)
  have K0 : ∀ j : Nat, j < 99 → j ≠ 98 → H211[j]? = H[j]? := fun j hj n98 => (K1 j (Nat.lt_of_lt_of_le hj (Nat.le_of_ble_eq_true rfl : 99 ≤ 100)) n98).trans (k210 j hj)
  exact en_r (st_vret rfl rfl) ⟨⟨((K1 99 (Nat.le_of_ble_eq_true rfl : 99 < 100) (Nat.ne_of_beq_eq_false rfl : 99 ≠ 98)).trans f210), f211, trivial⟩, l211, fun j n98 hj => K0 j hj n98⟩

def ci_18F  (H H1 : am_H) : Prop := (am_is H1 101 (.inl (.int, (1920, .inl (fun _ => 0)))) ∧ am_is H1 100 (.inr (9, [.ref 101, .int 0, .int 0, .int 0, .int 0, .int 0, .int 0, .int 0, .int 0, .int 0])) ∧ True) ∧ H1.length = 102 ∧ ∀ j : Nat, j ≠ 100 → j < 101 → H1[j]? = H[j]?
set_option maxRecDepth 100000 in
theorem ci_18 {sL : Nat} {sx : Nat → Int32} {cs : Nat → Nat → Option Int32} {H : am_H}  (hl : H.length = 101) (h100 : H[100]? = some (.inr (9, [.null, .int 0, .int 0, .int 0, .int 0, .int 0, .int 0, .int 0, .int 0, .int 0]))) :
    am_NW sL sx cs 5 0 [(0, .ref 100)] [] H 0 0 none 1 1920 (ci_18F H) := by
  refine en_s (am_nb (m := 4) (pc1 := 8) (ls1 := [(0, .ref 100)]) (st1 := [.int 1920, .ref 100]) (H1 := H) (k1 := 0) (n1 := 0) (by with_unfolding_all rfl)) ?_
  refine en_newa (N := 101) (m := 1920) (ty := .int) rfl hl rfl (by decide) (by with_unfolding_all rfl) rfl rfl ?_
  intro H215 l215 f215 k215
  refine en_put rfl l215 ((k215 100 (Nat.le_of_ble_eq_true rfl : 100 < 101)).trans h100) rfl rfl rfl ?_
  intro H216 l216 f216 k216
  have K1 : ∀ j : Nat, j < 102 → j ≠ 100 → H216[j]? = H215[j]? := fun j hj n100 => (k216 j n100)
  have K0 : ∀ j : Nat, j < 101 → j ≠ 100 → H216[j]? = H[j]? := fun j hj n100 => (K1 j (Nat.lt_of_lt_of_le hj (Nat.le_of_ble_eq_true rfl : 101 ≤ 102)) n100).trans (k215 j hj)
  exact en_r (st_vret rfl rfl) ⟨⟨((K1 101 (Nat.le_of_ble_eq_true rfl : 101 < 102) (Nat.ne_of_beq_eq_false rfl : 101 ≠ 100)).trans f215), f216, trivial⟩, l216, fun j n100 hj => K0 j hj n100⟩

def ci_19F  (H H1 : am_H) : Prop := (am_is H1 103 (.inl (.int, (1920, .inl (fun _ => 0)))) ∧ am_is H1 102 (.inr (9, [.ref 103, .int 0, .int 0, .int 0, .int 0, .int 0, .int 0, .int 0, .int 0, .int 0])) ∧ True) ∧ H1.length = 104 ∧ ∀ j : Nat, j ≠ 102 → j < 103 → H1[j]? = H[j]?
set_option maxRecDepth 100000 in
theorem ci_19 {sL : Nat} {sx : Nat → Int32} {cs : Nat → Nat → Option Int32} {H : am_H}  (hl : H.length = 103) (h102 : H[102]? = some (.inr (9, [.null, .int 0, .int 0, .int 0, .int 0, .int 0, .int 0, .int 0, .int 0, .int 0]))) :
    am_NW sL sx cs 5 0 [(0, .ref 102)] [] H 0 0 none 1 1920 (ci_19F H) := by
  refine en_s (am_nb (m := 4) (pc1 := 8) (ls1 := [(0, .ref 102)]) (st1 := [.int 1920, .ref 102]) (H1 := H) (k1 := 0) (n1 := 0) (by with_unfolding_all rfl)) ?_
  refine en_newa (N := 103) (m := 1920) (ty := .int) rfl hl rfl (by decide) (by with_unfolding_all rfl) rfl rfl ?_
  intro H220 l220 f220 k220
  refine en_put rfl l220 ((k220 102 (Nat.le_of_ble_eq_true rfl : 102 < 103)).trans h102) rfl rfl rfl ?_
  intro H221 l221 f221 k221
  have K1 : ∀ j : Nat, j < 104 → j ≠ 102 → H221[j]? = H220[j]? := fun j hj n102 => (k221 j n102)
  have K0 : ∀ j : Nat, j < 103 → j ≠ 102 → H221[j]? = H[j]? := fun j hj n102 => (K1 j (Nat.lt_of_lt_of_le hj (Nat.le_of_ble_eq_true rfl : 103 ≤ 104)) n102).trans (k220 j hj)
  exact en_r (st_vret rfl rfl) ⟨⟨((K1 103 (Nat.le_of_ble_eq_true rfl : 103 < 104) (Nat.ne_of_beq_eq_false rfl : 103 ≠ 102)).trans f220), f221, trivial⟩, l221, fun j n102 hj => K0 j hj n102⟩

def ci_16F  (H H1 : am_H) : Prop := (am_is H1 98 (.inr (9, [.ref 99, .int 0, .int 0, .int 0, .int 0, .int 0, .int 0, .int 0, .int 0, .int 0])) ∧ am_is H1 99 (.inl (.int, (1920, .inl (fun _ => 0)))) ∧ am_is H1 97 (.inr (6, [.ref 98, .ref 100, .ref 102, .ref 104, .ref 105, .int 0, .null, .null, .int 0, .int 0, .int 0, .int 0, .int 0, .int 0, .int 0, .ref 106, .ref 107, .ref 114, .int 0])) ∧ am_is H1 100 (.inr (9, [.ref 101, .int 0, .int 0, .int 0, .int 0, .int 0, .int 0, .int 0, .int 0, .int 0])) ∧ am_is H1 101 (.inl (.int, (1920, .inl (fun _ => 0)))) ∧ am_is H1 102 (.inr (9, [.ref 103, .int 0, .int 0, .int 0, .int 0, .int 0, .int 0, .int 0, .int 0, .int 0])) ∧ am_is H1 103 (.inl (.int, (1920, .inl (fun _ => 0)))) ∧ am_is H1 104 (.inl (.int, (1920, .inl (fun _ => 0)))) ∧ am_is H1 105 (.inl (.int, (6000, .inl (fun _ => 0)))) ∧ am_is H1 106 (.inl (.int, (39, .inl (fun _ => 0)))) ∧ am_is H1 107 (.inl ((.array .int), (6, .inr (.inr (.inr (.inr (am_lg [some 108, some 109, some 110, some 111, some 112, some 113]))))))) ∧ am_is H1 108 (.inl (.int, (80, .inl (fun _ => 0)))) ∧ am_is H1 109 (.inl (.int, (80, .inl (fun _ => 0)))) ∧ am_is H1 110 (.inl (.int, (80, .inl (fun _ => 0)))) ∧ am_is H1 111 (.inl (.int, (80, .inl (fun _ => 0)))) ∧ am_is H1 112 (.inl (.int, (80, .inl (fun _ => 0)))) ∧ am_is H1 113 (.inl (.int, (80, .inl (fun _ => 0)))) ∧ am_is H1 114 (.inl (.int, (20, .inl (fun _ => 0)))) ∧ True) ∧ H1.length = 115 ∧ ∀ j : Nat, j ≠ 97 → j < 98 → H1[j]? = H[j]?
set_option maxRecDepth 100000 in
theorem ci_16 {sL : Nat} {sx : Nat → Int32} {cs : Nat → Nat → Option Int32} {H : am_H}  (hl : H.length = 98) (h97 : H[97]? = some (.inr (6, [.null, .null, .null, .null, .null, .int 0, .null, .null, .int 0, .int 0, .int 0, .int 0, .int 0, .int 0, .int 0, .null, .null, .null, .int 0]))) :
    am_NW sL sx cs 4 0 [(0, .ref 97)] [] H 0 0 none 17 14255 (ci_16F H) := by
  refine en_s (am_nb (m := 3) (pc1 := 5) (ls1 := [(0, .ref 97)]) (st1 := [.ref 97]) (H1 := H) (k1 := 0) (n1 := 0) (by with_unfolding_all rfl)) ?_
  refine en_new (N := 98) (vs := [.null, .int 0, .int 0, .int 0, .int 0, .int 0, .int 0, .int 0, .int 0, .int 0]) (ms := 10) rfl hl (by with_unfolding_all rfl) ?_
  intro H209 l209 f209 k209
  refine en_s (am_nb (m := 1) (pc1 := 9) (ls1 := [(0, .ref 97)]) (st1 := [.ref 98, .ref 98, .ref 97]) (H1 := H209) (k1 := 1) (n1 := 10) (by with_unfolding_all rfl)) ?_
  refine en_cv0 (as := []) (rest := [.ref 98, .ref 97]) rfl rfl rfl rfl f209 rfl (by with_unfolding_all rfl) (by with_unfolding_all rfl) (ci_17 l209 f209) ?_
  rintro H212 ⟨⟨f212_99, f212_98, -⟩, l212, k212⟩
  refine en_put rfl l212 ((k212 97 (Nat.ne_of_beq_eq_false rfl : 97 ≠ 98) (Nat.le_of_ble_eq_true rfl : 97 < 99)).trans ((k209 97 (Nat.le_of_ble_eq_true rfl : 97 < 98)).trans h97)) rfl rfl rfl ?_
  intro H213 l213 f213 k213
  refine en_s (am_nb (m := 1) (pc1 := 16) (ls1 := [(0, .ref 97)]) (st1 := [.ref 97]) (H1 := H213) (k1 := 2) (n1 := 1930) (by with_unfolding_all rfl)) ?_
  refine en_new (N := 100) (vs := [.null, .int 0, .int 0, .int 0, .int 0, .int 0, .int 0, .int 0, .int 0, .int 0]) (ms := 10) rfl l213 (by with_unfolding_all rfl) ?_
  intro H214 l214 f214 k214
  refine en_s (am_nb (m := 1) (pc1 := 20) (ls1 := [(0, .ref 97)]) (st1 := [.ref 100, .ref 100, .ref 97]) (H1 := H214) (k1 := 3) (n1 := 1940) (by with_unfolding_all rfl)) ?_
  refine en_cv0 (as := []) (rest := [.ref 100, .ref 97]) rfl rfl rfl rfl f214 rfl (by with_unfolding_all rfl) (by with_unfolding_all rfl) (ci_18 l214 f214) ?_
  rintro H217 ⟨⟨f217_101, f217_100, -⟩, l217, k217⟩
  refine en_put rfl l217 ((k217 97 (Nat.ne_of_beq_eq_false rfl : 97 ≠ 100) (Nat.le_of_ble_eq_true rfl : 97 < 101)).trans ((k214 97 (Nat.le_of_ble_eq_true rfl : 97 < 100)).trans f213)) rfl rfl rfl ?_
  intro H218 l218 f218 k218
  refine en_s (am_nb (m := 1) (pc1 := 27) (ls1 := [(0, .ref 97)]) (st1 := [.ref 97]) (H1 := H218) (k1 := 4) (n1 := 3860) (by with_unfolding_all rfl)) ?_
  refine en_new (N := 102) (vs := [.null, .int 0, .int 0, .int 0, .int 0, .int 0, .int 0, .int 0, .int 0, .int 0]) (ms := 10) rfl l218 (by with_unfolding_all rfl) ?_
  intro H219 l219 f219 k219
  refine en_s (am_nb (m := 1) (pc1 := 31) (ls1 := [(0, .ref 97)]) (st1 := [.ref 102, .ref 102, .ref 97]) (H1 := H219) (k1 := 5) (n1 := 3870) (by with_unfolding_all rfl)) ?_
  refine en_cv0 (as := []) (rest := [.ref 102, .ref 97]) rfl rfl rfl rfl f219 rfl (by with_unfolding_all rfl) (by with_unfolding_all rfl) (ci_19 l219 f219) ?_
  rintro H222 ⟨⟨f222_103, f222_102, -⟩, l222, k222⟩
  refine en_put rfl l222 ((k222 97 (Nat.ne_of_beq_eq_false rfl : 97 ≠ 102) (Nat.le_of_ble_eq_true rfl : 97 < 103)).trans ((k219 97 (Nat.le_of_ble_eq_true rfl : 97 < 102)).trans f218)) rfl rfl rfl ?_
  intro H223 l223 f223 k223
  refine en_s (am_nb (m := 2) (pc1 := 41) (ls1 := [(0, .ref 97)]) (st1 := [.int 1920, .ref 97]) (H1 := H223) (k1 := 6) (n1 := 5790) (by with_unfolding_all rfl)) ?_
  refine en_newa (N := 104) (m := 1920) (ty := .int) rfl l223 rfl (by decide) (by with_unfolding_all rfl) rfl rfl ?_
  intro H224 l224 f224 k224
  refine en_put rfl l224 ((k224 97 (Nat.le_of_ble_eq_true rfl : 97 < 104)).trans f223) rfl rfl rfl ?_
  intro H225 l225 f225 k225
  refine en_s (am_nb (m := 2) (pc1 := 50) (ls1 := [(0, .ref 97)]) (st1 := [.int 6000, .ref 97]) (H1 := H225) (k1 := 7) (n1 := 7710) (by with_unfolding_all rfl)) ?_
  refine en_newa (N := 105) (m := 6000) (ty := .int) rfl l225 rfl (by decide) (by with_unfolding_all rfl) rfl rfl ?_
  intro H226 l226 f226 k226
  refine en_put rfl l226 ((k226 97 (Nat.le_of_ble_eq_true rfl : 97 < 105)).trans f225) rfl rfl rfl ?_
  intro H227 l227 f227 k227
  refine en_s (am_nb (m := 2) (pc1 := 58) (ls1 := [(0, .ref 97)]) (st1 := [.int 39, .ref 97]) (H1 := H227) (k1 := 8) (n1 := 13710) (by with_unfolding_all rfl)) ?_
  refine en_newa (N := 106) (m := 39) (ty := .int) rfl l227 rfl (by decide) (by with_unfolding_all rfl) rfl rfl ?_
  intro H228 l228 f228 k228
  refine en_put rfl l228 ((k228 97 (Nat.le_of_ble_eq_true rfl : 97 < 106)).trans f227) rfl rfl rfl ?_
  intro H229 l229 f229 k229
  refine en_s (am_nb (m := 3) (pc1 := 68) (ls1 := [(0, .ref 97)]) (st1 := [.int 80, .int 6, .ref 97]) (H1 := H229) (k1 := 9) (n1 := 13749) (by with_unfolding_all rfl)) ?_
  refine en_mnal (N := 107) (p := 6) (m := 80) (l := [some 108, some 109, some 110, some 111, some 112, some 113]) rfl l229 (by decide) (by decide) (by with_unfolding_all rfl) (by with_unfolding_all rfl) rfl rfl rfl ?_
  intro H230 l230 f230 e230 k230
  refine en_put rfl l230 ((k230 97 (Nat.le_of_ble_eq_true rfl : 97 < 107)).trans f229) rfl rfl rfl ?_
  intro H231 l231 f231 k231
  refine en_s (am_nb (m := 2) (pc1 := 78) (ls1 := [(0, .ref 97)]) (st1 := [.int 20, .ref 97]) (H1 := H231) (k1 := 16) (n1 := 14235) (by with_unfolding_all rfl)) ?_
  refine en_newa (N := 114) (m := 20) (ty := .int) rfl l231 rfl (by decide) (by with_unfolding_all rfl) rfl rfl ?_
  intro H232 l232 f232 k232
  refine en_put rfl l232 ((k232 97 (Nat.le_of_ble_eq_true rfl : 97 < 114)).trans f231) rfl rfl rfl ?_
  intro H233 l233 f233 k233
  have K18 : ∀ j : Nat, j < 115 → j ≠ 97 → H233[j]? = H232[j]? := fun j hj n97 => (k233 j n97)
  have K17 : ∀ j : Nat, j < 114 → j ≠ 97 → H233[j]? = H231[j]? := fun j hj n97 => (K18 j (Nat.lt_of_lt_of_le hj (Nat.le_of_ble_eq_true rfl : 114 ≤ 115)) n97).trans (k232 j hj)
  have K16 : ∀ j : Nat, j < 114 → j ≠ 97 → H233[j]? = H230[j]? := fun j hj n97 => (K17 j hj n97).trans (k231 j n97)
  have K15 : ∀ j : Nat, j < 107 → j ≠ 97 → H233[j]? = H229[j]? := fun j hj n97 => (K16 j (Nat.lt_of_lt_of_le hj (Nat.le_of_ble_eq_true rfl : 107 ≤ 114)) n97).trans (k230 j hj)
  have K14 : ∀ j : Nat, j < 107 → j ≠ 97 → H233[j]? = H228[j]? := fun j hj n97 => (K15 j hj n97).trans (k229 j n97)
  have K13 : ∀ j : Nat, j < 106 → j ≠ 97 → H233[j]? = H227[j]? := fun j hj n97 => (K14 j (Nat.lt_of_lt_of_le hj (Nat.le_of_ble_eq_true rfl : 106 ≤ 107)) n97).trans (k228 j hj)
  have K12 : ∀ j : Nat, j < 106 → j ≠ 97 → H233[j]? = H226[j]? := fun j hj n97 => (K13 j hj n97).trans (k227 j n97)
  have K11 : ∀ j : Nat, j < 105 → j ≠ 97 → H233[j]? = H225[j]? := fun j hj n97 => (K12 j (Nat.lt_of_lt_of_le hj (Nat.le_of_ble_eq_true rfl : 105 ≤ 106)) n97).trans (k226 j hj)
  have K10 : ∀ j : Nat, j < 105 → j ≠ 97 → H233[j]? = H224[j]? := fun j hj n97 => (K11 j hj n97).trans (k225 j n97)
  have K9 : ∀ j : Nat, j < 104 → j ≠ 97 → H233[j]? = H223[j]? := fun j hj n97 => (K10 j (Nat.lt_of_lt_of_le hj (Nat.le_of_ble_eq_true rfl : 104 ≤ 105)) n97).trans (k224 j hj)
  have K8 : ∀ j : Nat, j < 104 → j ≠ 97 → H233[j]? = H222[j]? := fun j hj n97 => (K9 j hj n97).trans (k223 j n97)
  have K7 : ∀ j : Nat, j < 103 → j ≠ 97 → j ≠ 102 → H233[j]? = H219[j]? := fun j hj n97 n102 => (K8 j (Nat.lt_of_lt_of_le hj (Nat.le_of_ble_eq_true rfl : 103 ≤ 104)) n97).trans (k222 j n102 hj)
  have K6 : ∀ j : Nat, j < 102 → j ≠ 97 → H233[j]? = H218[j]? := fun j hj n97 => (K7 j (Nat.lt_of_lt_of_le hj (Nat.le_of_ble_eq_true rfl : 102 ≤ 103)) n97 (Nat.ne_of_lt (Nat.lt_of_lt_of_le hj (Nat.le_of_ble_eq_true rfl : 102 ≤ 102)))).trans (k219 j hj)
  have K5 : ∀ j : Nat, j < 102 → j ≠ 97 → H233[j]? = H217[j]? := fun j hj n97 => (K6 j hj n97).trans (k218 j n97)
  have K4 : ∀ j : Nat, j < 101 → j ≠ 97 → j ≠ 100 → H233[j]? = H214[j]? := fun j hj n97 n100 => (K5 j (Nat.lt_of_lt_of_le hj (Nat.le_of_ble_eq_true rfl : 101 ≤ 102)) n97).trans (k217 j n100 hj)
  have K3 : ∀ j : Nat, j < 100 → j ≠ 97 → H233[j]? = H213[j]? := fun j hj n97 => (K4 j (Nat.lt_of_lt_of_le hj (Nat.le_of_ble_eq_true rfl : 100 ≤ 101)) n97 (Nat.ne_of_lt (Nat.lt_of_lt_of_le hj (Nat.le_of_ble_eq_true rfl : 100 ≤ 100)))).trans (k214 j hj)
  have K2 : ∀ j : Nat, j < 100 → j ≠ 97 → H233[j]? = H212[j]? := fun j hj n97 => (K3 j hj n97).trans (k213 j n97)
  have K1 : ∀ j : Nat, j < 99 → j ≠ 97 → j ≠ 98 → H233[j]? = H209[j]? := fun j hj n97 n98 => (K2 j (Nat.lt_of_lt_of_le hj (Nat.le_of_ble_eq_true rfl : 99 ≤ 100)) n97).trans (k212 j n98 hj)
  have K0 : ∀ j : Nat, j < 98 → j ≠ 97 → H233[j]? = H[j]? := fun j hj n97 => (K1 j (Nat.lt_of_lt_of_le hj (Nat.le_of_ble_eq_true rfl : 98 ≤ 99)) n97 (Nat.ne_of_lt (Nat.lt_of_lt_of_le hj (Nat.le_of_ble_eq_true rfl : 98 ≤ 98)))).trans (k209 j hj)
  exact en_r (st_vret rfl rfl) ⟨⟨((K2 98 (Nat.le_of_ble_eq_true rfl : 98 < 100) (Nat.ne_of_beq_eq_false rfl : 98 ≠ 97)).trans f212_98), ((K2 99 (Nat.le_of_ble_eq_true rfl : 99 < 100) (Nat.ne_of_beq_eq_false rfl : 99 ≠ 97)).trans f212_99), f233, ((K5 100 (Nat.le_of_ble_eq_true rfl : 100 < 102) (Nat.ne_of_beq_eq_false rfl : 100 ≠ 97)).trans f217_100), ((K5 101 (Nat.le_of_ble_eq_true rfl : 101 < 102) (Nat.ne_of_beq_eq_false rfl : 101 ≠ 97)).trans f217_101), ((K8 102 (Nat.le_of_ble_eq_true rfl : 102 < 104) (Nat.ne_of_beq_eq_false rfl : 102 ≠ 97)).trans f222_102), ((K8 103 (Nat.le_of_ble_eq_true rfl : 103 < 104) (Nat.ne_of_beq_eq_false rfl : 103 ≠ 97)).trans f222_103), ((K10 104 (Nat.le_of_ble_eq_true rfl : 104 < 105) (Nat.ne_of_beq_eq_false rfl : 104 ≠ 97)).trans f224), ((K12 105 (Nat.le_of_ble_eq_true rfl : 105 < 106) (Nat.ne_of_beq_eq_false rfl : 105 ≠ 97)).trans f226), ((K14 106 (Nat.le_of_ble_eq_true rfl : 106 < 107) (Nat.ne_of_beq_eq_false rfl : 106 ≠ 97)).trans f228), ((K16 107 (Nat.le_of_ble_eq_true rfl : 107 < 114) (Nat.ne_of_beq_eq_false rfl : 107 ≠ 97)).trans f230), ((K16 108 (Nat.le_of_ble_eq_true rfl : 108 < 114) (Nat.ne_of_beq_eq_false rfl : 108 ≠ 97)).trans (e230 0 (Nat.le_of_ble_eq_true rfl : 0 < 6))), ((K16 109 (Nat.le_of_ble_eq_true rfl : 109 < 114) (Nat.ne_of_beq_eq_false rfl : 109 ≠ 97)).trans (e230 1 (Nat.le_of_ble_eq_true rfl : 1 < 6))), ((K16 110 (Nat.le_of_ble_eq_true rfl : 110 < 114) (Nat.ne_of_beq_eq_false rfl : 110 ≠ 97)).trans (e230 2 (Nat.le_of_ble_eq_true rfl : 2 < 6))), ((K16 111 (Nat.le_of_ble_eq_true rfl : 111 < 114) (Nat.ne_of_beq_eq_false rfl : 111 ≠ 97)).trans (e230 3 (Nat.le_of_ble_eq_true rfl : 3 < 6))), ((K16 112 (Nat.le_of_ble_eq_true rfl : 112 < 114) (Nat.ne_of_beq_eq_false rfl : 112 ≠ 97)).trans (e230 4 (Nat.le_of_ble_eq_true rfl : 4 < 6))), ((K16 113 (Nat.le_of_ble_eq_true rfl : 113 < 114) (Nat.ne_of_beq_eq_false rfl : 113 ≠ 97)).trans (e230 5 (Nat.le_of_ble_eq_true rfl : 5 < 6))), ((K18 114 (Nat.le_of_ble_eq_true rfl : 114 < 115) (Nat.ne_of_beq_eq_false rfl : 114 ≠ 97)).trans f232), trivial⟩, l233, fun j n97 hj => K0 j hj n97⟩

def ci_21F  (H H1 : am_H) : Prop := (am_is H1 118 (.inl (.int, (8000, .inl (fun _ => 0)))) ∧ am_is H1 117 (.inr (0, [.ref 118, .int 0, .int 0])) ∧ True) ∧ H1.length = 119 ∧ ∀ j : Nat, j ≠ 117 → j < 118 → H1[j]? = H[j]?
set_option maxRecDepth 100000 in
theorem ci_21 {sL : Nat} {sx : Nat → Int32} {cs : Nat → Nat → Option Int32} {H : am_H}  (hl : H.length = 118) (h117 : H[117]? = some (.inr (0, [.null, .int 0, .int 0]))) :
    am_NW sL sx cs 7 0 [(0, .ref 117), (1, .int 8000)] [] H 0 0 none 1 8000 (ci_21F H) := by
  refine en_s (am_nb (m := 6) (pc1 := 10) (ls1 := [(0, .ref 117), (1, .int 8000)]) (st1 := [.int 8000, .ref 117]) (H1 := H) (k1 := 0) (n1 := 0) (by with_unfolding_all rfl)) ?_
  refine en_newa (N := 118) (m := 8000) (ty := .int) rfl hl rfl (by decide) (by with_unfolding_all rfl) rfl rfl ?_
  intro H240 l240 f240 k240
  refine en_put rfl l240 ((k240 117 (Nat.le_of_ble_eq_true rfl : 117 < 118)).trans h117) rfl rfl rfl ?_
  intro H241 l241 f241 k241
  have K1 : ∀ j : Nat, j < 119 → j ≠ 117 → H241[j]? = H240[j]? := fun j hj n117 => (k241 j n117)
  have K0 : ∀ j : Nat, j < 118 → j ≠ 117 → H241[j]? = H[j]? := fun j hj n117 => (K1 j (Nat.lt_of_lt_of_le hj (Nat.le_of_ble_eq_true rfl : 118 ≤ 119)) n117).trans (k240 j hj)
  exact en_r (st_vret rfl rfl) ⟨⟨((K1 118 (Nat.le_of_ble_eq_true rfl : 118 < 119) (Nat.ne_of_beq_eq_false rfl : 118 ≠ 117)).trans f240), f241, trivial⟩, l241, fun j n117 hj => K0 j hj n117⟩

def ci_22F  (H H1 : am_H) : Prop := (am_is H1 120 (.inl (.int, (100, .inl (fun _ => 0)))) ∧ am_is H1 119 (.inr (0, [.ref 120, .int 0, .int 0])) ∧ True) ∧ H1.length = 121 ∧ ∀ j : Nat, j ≠ 119 → j < 120 → H1[j]? = H[j]?
set_option maxRecDepth 100000 in
theorem ci_22 {sL : Nat} {sx : Nat → Int32} {cs : Nat → Nat → Option Int32} {H : am_H}  (hl : H.length = 120) (h119 : H[119]? = some (.inr (0, [.null, .int 0, .int 0]))) :
    am_NW sL sx cs 7 0 [(0, .ref 119), (1, .int 100)] [] H 0 0 none 1 100 (ci_22F H) := by
  refine en_s (am_nb (m := 6) (pc1 := 10) (ls1 := [(0, .ref 119), (1, .int 100)]) (st1 := [.int 100, .ref 119]) (H1 := H) (k1 := 0) (n1 := 0) (by with_unfolding_all rfl)) ?_
  refine en_newa (N := 120) (m := 100) (ty := .int) rfl hl rfl (by decide) (by with_unfolding_all rfl) rfl rfl ?_
  intro H245 l245 f245 k245
  refine en_put rfl l245 ((k245 119 (Nat.le_of_ble_eq_true rfl : 119 < 120)).trans h119) rfl rfl rfl ?_
  intro H246 l246 f246 k246
  have K1 : ∀ j : Nat, j < 121 → j ≠ 119 → H246[j]? = H245[j]? := fun j hj n119 => (k246 j n119)
  have K0 : ∀ j : Nat, j < 120 → j ≠ 119 → H246[j]? = H[j]? := fun j hj n119 => (K1 j (Nat.lt_of_lt_of_le hj (Nat.le_of_ble_eq_true rfl : 120 ≤ 121)) n119).trans (k245 j hj)
  exact en_r (st_vret rfl rfl) ⟨⟨((K1 120 (Nat.le_of_ble_eq_true rfl : 120 < 121) (Nat.ne_of_beq_eq_false rfl : 120 ≠ 119)).trans f245), f246, trivial⟩, l246, fun j n119 hj => K0 j hj n119⟩

def ci_23F  (H H1 : am_H) : Prop := (am_is H1 122 (.inl (.int, (300, .inl (fun _ => 0)))) ∧ am_is H1 121 (.inr (0, [.ref 122, .int 0, .int 0])) ∧ True) ∧ H1.length = 123 ∧ ∀ j : Nat, j ≠ 121 → j < 122 → H1[j]? = H[j]?
set_option maxRecDepth 100000 in
theorem ci_23 {sL : Nat} {sx : Nat → Int32} {cs : Nat → Nat → Option Int32} {H : am_H}  (hl : H.length = 122) (h121 : H[121]? = some (.inr (0, [.null, .int 0, .int 0]))) :
    am_NW sL sx cs 7 0 [(0, .ref 121), (1, .int 300)] [] H 0 0 none 1 300 (ci_23F H) := by
  refine en_s (am_nb (m := 6) (pc1 := 10) (ls1 := [(0, .ref 121), (1, .int 300)]) (st1 := [.int 300, .ref 121]) (H1 := H) (k1 := 0) (n1 := 0) (by with_unfolding_all rfl)) ?_
  refine en_newa (N := 122) (m := 300) (ty := .int) rfl hl rfl (by decide) (by with_unfolding_all rfl) rfl rfl ?_
  intro H250 l250 f250 k250
  refine en_put rfl l250 ((k250 121 (Nat.le_of_ble_eq_true rfl : 121 < 122)).trans h121) rfl rfl rfl ?_
  intro H251 l251 f251 k251
  have K1 : ∀ j : Nat, j < 123 → j ≠ 121 → H251[j]? = H250[j]? := fun j hj n121 => (k251 j n121)
  have K0 : ∀ j : Nat, j < 122 → j ≠ 121 → H251[j]? = H[j]? := fun j hj n121 => (K1 j (Nat.lt_of_lt_of_le hj (Nat.le_of_ble_eq_true rfl : 122 ≤ 123)) n121).trans (k250 j hj)
  exact en_r (st_vret rfl rfl) ⟨⟨((K1 122 (Nat.le_of_ble_eq_true rfl : 122 < 123) (Nat.ne_of_beq_eq_false rfl : 122 ≠ 121)).trans f250), f251, trivial⟩, l251, fun j n121 hj => K0 j hj n121⟩

def ci_20F  (H H1 : am_H) : Prop := (am_is H1 117 (.inr (0, [.ref 118, .int 0, .int 0])) ∧ am_is H1 118 (.inl (.int, (8000, .inl (fun _ => 0)))) ∧ am_is H1 116 (.inr (1, [.ref 117, .ref 119, .ref 121, .int 127, .int 0, .int 0, .int 0, .int 0, .int 0, .int 0])) ∧ am_is H1 119 (.inr (0, [.ref 120, .int 0, .int 0])) ∧ am_is H1 120 (.inl (.int, (100, .inl (fun _ => 0)))) ∧ am_is H1 121 (.inr (0, [.ref 122, .int 0, .int 0])) ∧ am_is H1 122 (.inl (.int, (300, .inl (fun _ => 0)))) ∧ True) ∧ H1.length = 123 ∧ ∀ j : Nat, j ≠ 116 → j < 117 → H1[j]? = H[j]?
set_option maxRecDepth 100000 in
theorem ci_20 {sL : Nat} {sx : Nat → Int32} {cs : Nat → Nat → Option Int32} {H : am_H}  (hl : H.length = 117) (h116 : H[116]? = some (.inr (1, [.null, .null, .null, .int 0, .int 0, .int 0, .int 0, .int 0, .int 0, .int 0]))) :
    am_NW sL sx cs 6 0 [(0, .ref 116)] [] H 0 0 none 6 8409 (ci_20F H) := by
  refine en_s (am_nb (m := 3) (pc1 := 5) (ls1 := [(0, .ref 116)]) (st1 := [.ref 116]) (H1 := H) (k1 := 0) (n1 := 0) (by with_unfolding_all rfl)) ?_
  refine en_new (N := 117) (vs := [.null, .int 0, .int 0]) (ms := 3) rfl hl (by with_unfolding_all rfl) ?_
  intro H239 l239 f239 k239
  refine en_s (am_nb (m := 2) (pc1 := 12) (ls1 := [(0, .ref 116)]) (st1 := [.int 8000, .ref 117, .ref 117, .ref 116]) (H1 := H239) (k1 := 1) (n1 := 3) (by with_unfolding_all rfl)) ?_
  refine en_cv0 (as := [.int 8000]) (rest := [.ref 117, .ref 116]) rfl rfl rfl rfl f239 rfl (by with_unfolding_all rfl) (by with_unfolding_all rfl) (ci_21 l239 f239) ?_
  rintro H242 ⟨⟨f242_118, f242_117, -⟩, l242, k242⟩
  refine en_put rfl l242 ((k242 116 (Nat.ne_of_beq_eq_false rfl : 116 ≠ 117) (Nat.le_of_ble_eq_true rfl : 116 < 118)).trans ((k239 116 (Nat.le_of_ble_eq_true rfl : 116 < 117)).trans h116)) rfl rfl rfl ?_
  intro H243 l243 f243 k243
  refine en_s (am_nb (m := 1) (pc1 := 19) (ls1 := [(0, .ref 116)]) (st1 := [.ref 116]) (H1 := H243) (k1 := 2) (n1 := 8003) (by with_unfolding_all rfl)) ?_
  refine en_new (N := 119) (vs := [.null, .int 0, .int 0]) (ms := 3) rfl l243 (by with_unfolding_all rfl) ?_
  intro H244 l244 f244 k244
  refine en_s (am_nb (m := 2) (pc1 := 25) (ls1 := [(0, .ref 116)]) (st1 := [.int 100, .ref 119, .ref 119, .ref 116]) (H1 := H244) (k1 := 3) (n1 := 8006) (by with_unfolding_all rfl)) ?_
  refine en_cv0 (as := [.int 100]) (rest := [.ref 119, .ref 116]) rfl rfl rfl rfl f244 rfl (by with_unfolding_all rfl) (by with_unfolding_all rfl) (ci_22 l244 f244) ?_
  rintro H247 ⟨⟨f247_120, f247_119, -⟩, l247, k247⟩
  refine en_put rfl l247 ((k247 116 (Nat.ne_of_beq_eq_false rfl : 116 ≠ 119) (Nat.le_of_ble_eq_true rfl : 116 < 120)).trans ((k244 116 (Nat.le_of_ble_eq_true rfl : 116 < 119)).trans f243)) rfl rfl rfl ?_
  intro H248 l248 f248 k248
  refine en_s (am_nb (m := 1) (pc1 := 32) (ls1 := [(0, .ref 116)]) (st1 := [.ref 116]) (H1 := H248) (k1 := 4) (n1 := 8106) (by with_unfolding_all rfl)) ?_
  refine en_new (N := 121) (vs := [.null, .int 0, .int 0]) (ms := 3) rfl l248 (by with_unfolding_all rfl) ?_
  intro H249 l249 f249 k249
  refine en_s (am_nb (m := 2) (pc1 := 39) (ls1 := [(0, .ref 116)]) (st1 := [.int 300, .ref 121, .ref 121, .ref 116]) (H1 := H249) (k1 := 5) (n1 := 8109) (by with_unfolding_all rfl)) ?_
  refine en_cv0 (as := [.int 300]) (rest := [.ref 121, .ref 116]) rfl rfl rfl rfl f249 rfl (by with_unfolding_all rfl) (by with_unfolding_all rfl) (ci_23 l249 f249) ?_
  rintro H252 ⟨⟨f252_122, f252_121, -⟩, l252, k252⟩
  refine en_put rfl l252 ((k252 116 (Nat.ne_of_beq_eq_false rfl : 116 ≠ 121) (Nat.le_of_ble_eq_true rfl : 116 < 122)).trans ((k249 116 (Nat.le_of_ble_eq_true rfl : 116 < 121)).trans f248)) rfl rfl rfl ?_
  intro H253 l253 f253 k253
  refine en_s (am_nb (m := 2) (pc1 := 48) (ls1 := [(0, .ref 116)]) (st1 := [.int 127, .ref 116]) (H1 := H253) (k1 := 6) (n1 := 8409) (by with_unfolding_all rfl)) ?_
  refine en_put rfl l253 f253 rfl rfl rfl ?_
  intro H254 l254 f254 k254
  have K9 : ∀ j : Nat, j < 123 → j ≠ 116 → H254[j]? = H253[j]? := fun j hj n116 => (k254 j n116)
  have K8 : ∀ j : Nat, j < 123 → j ≠ 116 → H254[j]? = H252[j]? := fun j hj n116 => (K9 j hj n116).trans (k253 j n116)
  have K7 : ∀ j : Nat, j < 122 → j ≠ 116 → j ≠ 121 → H254[j]? = H249[j]? := fun j hj n116 n121 => (K8 j (Nat.lt_of_lt_of_le hj (Nat.le_of_ble_eq_true rfl : 122 ≤ 123)) n116).trans (k252 j n121 hj)
  have K6 : ∀ j : Nat, j < 121 → j ≠ 116 → H254[j]? = H248[j]? := fun j hj n116 => (K7 j (Nat.lt_of_lt_of_le hj (Nat.le_of_ble_eq_true rfl : 121 ≤ 122)) n116 (Nat.ne_of_lt (Nat.lt_of_lt_of_le hj (Nat.le_of_ble_eq_true rfl : 121 ≤ 121)))).trans (k249 j hj)
  have K5 : ∀ j : Nat, j < 121 → j ≠ 116 → H254[j]? = H247[j]? := fun j hj n116 => (K6 j hj n116).trans (k248 j n116)
  have K4 : ∀ j : Nat, j < 120 → j ≠ 116 → j ≠ 119 → H254[j]? = H244[j]? := fun j hj n116 n119 => (K5 j (Nat.lt_of_lt_of_le hj (Nat.le_of_ble_eq_true rfl : 120 ≤ 121)) n116).trans (k247 j n119 hj)
  have K3 : ∀ j : Nat, j < 119 → j ≠ 116 → H254[j]? = H243[j]? := fun j hj n116 => (K4 j (Nat.lt_of_lt_of_le hj (Nat.le_of_ble_eq_true rfl : 119 ≤ 120)) n116 (Nat.ne_of_lt (Nat.lt_of_lt_of_le hj (Nat.le_of_ble_eq_true rfl : 119 ≤ 119)))).trans (k244 j hj)
  have K2 : ∀ j : Nat, j < 119 → j ≠ 116 → H254[j]? = H242[j]? := fun j hj n116 => (K3 j hj n116).trans (k243 j n116)
  have K1 : ∀ j : Nat, j < 118 → j ≠ 116 → j ≠ 117 → H254[j]? = H239[j]? := fun j hj n116 n117 => (K2 j (Nat.lt_of_lt_of_le hj (Nat.le_of_ble_eq_true rfl : 118 ≤ 119)) n116).trans (k242 j n117 hj)
  have K0 : ∀ j : Nat, j < 117 → j ≠ 116 → H254[j]? = H[j]? := fun j hj n116 => (K1 j (Nat.lt_of_lt_of_le hj (Nat.le_of_ble_eq_true rfl : 117 ≤ 118)) n116 (Nat.ne_of_lt (Nat.lt_of_lt_of_le hj (Nat.le_of_ble_eq_true rfl : 117 ≤ 117)))).trans (k239 j hj)
  exact en_r (st_vret rfl rfl) ⟨⟨((K2 117 (Nat.le_of_ble_eq_true rfl : 117 < 119) (Nat.ne_of_beq_eq_false rfl : 117 ≠ 116)).trans f242_117), ((K2 118 (Nat.le_of_ble_eq_true rfl : 118 < 119) (Nat.ne_of_beq_eq_false rfl : 118 ≠ 116)).trans f242_118), f254, ((K5 119 (Nat.le_of_ble_eq_true rfl : 119 < 121) (Nat.ne_of_beq_eq_false rfl : 119 ≠ 116)).trans f247_119), ((K5 120 (Nat.le_of_ble_eq_true rfl : 120 < 121) (Nat.ne_of_beq_eq_false rfl : 120 ≠ 116)).trans f247_120), ((K8 121 (Nat.le_of_ble_eq_true rfl : 121 < 123) (Nat.ne_of_beq_eq_false rfl : 121 ≠ 116)).trans f252_121), ((K8 122 (Nat.le_of_ble_eq_true rfl : 122 < 123) (Nat.ne_of_beq_eq_false rfl : 122 ≠ 116)).trans f252_122), trivial⟩, l254, fun j n116 hj => K0 j hj n116⟩

def ci_24F  (H H1 : am_H) : Prop := (am_is H1 124 (.inl (.boolean, (127, .inl (fun _ => 0)))) ∧ am_is H1 123 (.inr (4, [.ref 124, .ref 125, .int 0, .int (-1), .int 0, .ref 126])) ∧ am_is H1 125 (.inl (.boolean, (127, .inl (fun _ => 0)))) ∧ am_is H1 126 (.inl (.int, (3, .inl (fun _ => 0)))) ∧ True) ∧ H1.length = 127 ∧ ∀ j : Nat, j ≠ 123 → j < 124 → H1[j]? = H[j]?
set_option maxRecDepth 100000 in
theorem ci_24 {sL : Nat} {sx : Nat → Int32} {cs : Nat → Nat → Option Int32} {H : am_H}  (hl : H.length = 124) (h123 : H[123]? = some (.inr (4, [.null, .null, .int 0, .int 0, .int 0, .null]))) :
    am_NW sL sx cs 8 0 [(0, .ref 123)] [] H 0 0 none 3 257 (ci_24F H) := by
  refine en_s (am_nb (m := 4) (pc1 := 7) (ls1 := [(0, .ref 123)]) (st1 := [.int 127, .ref 123]) (H1 := H) (k1 := 0) (n1 := 0) (by with_unfolding_all rfl)) ?_
  refine en_newa (N := 124) (m := 127) (ty := .boolean) rfl hl rfl (by decide) (by with_unfolding_all rfl) rfl rfl ?_
  intro H258 l258 f258 k258
  refine en_put rfl l258 ((k258 123 (Nat.le_of_ble_eq_true rfl : 123 < 124)).trans h123) rfl rfl rfl ?_
  intro H259 l259 f259 k259
  refine en_s (am_nb (m := 2) (pc1 := 15) (ls1 := [(0, .ref 123)]) (st1 := [.int 127, .ref 123]) (H1 := H259) (k1 := 1) (n1 := 127) (by with_unfolding_all rfl)) ?_
  refine en_newa (N := 125) (m := 127) (ty := .boolean) rfl l259 rfl (by decide) (by with_unfolding_all rfl) rfl rfl ?_
  intro H260 l260 f260 k260
  refine en_put rfl l260 ((k260 123 (Nat.le_of_ble_eq_true rfl : 123 < 125)).trans f259) rfl rfl rfl ?_
  intro H261 l261 f261 k261
  refine en_s (am_nb (m := 2) (pc1 := 22) (ls1 := [(0, .ref 123)]) (st1 := [.int (-1), .ref 123]) (H1 := H261) (k1 := 2) (n1 := 254) (by with_unfolding_all rfl)) ?_
  refine en_put rfl l261 f261 rfl rfl rfl ?_
  intro H262 l262 f262 k262
  refine en_s (am_nb (m := 2) (pc1 := 27) (ls1 := [(0, .ref 123)]) (st1 := [.int 3, .ref 123]) (H1 := H262) (k1 := 2) (n1 := 254) (by with_unfolding_all rfl)) ?_
  refine en_newa (N := 126) (m := 3) (ty := .int) rfl l262 rfl (by decide) (by with_unfolding_all rfl) rfl rfl ?_
  intro H263 l263 f263 k263
  refine en_put rfl l263 ((k263 123 (Nat.le_of_ble_eq_true rfl : 123 < 126)).trans f262) rfl rfl rfl ?_
  intro H264 l264 f264 k264
  have K6 : ∀ j : Nat, j < 127 → j ≠ 123 → H264[j]? = H263[j]? := fun j hj n123 => (k264 j n123)
  have K5 : ∀ j : Nat, j < 126 → j ≠ 123 → H264[j]? = H262[j]? := fun j hj n123 => (K6 j (Nat.lt_of_lt_of_le hj (Nat.le_of_ble_eq_true rfl : 126 ≤ 127)) n123).trans (k263 j hj)
  have K4 : ∀ j : Nat, j < 126 → j ≠ 123 → H264[j]? = H261[j]? := fun j hj n123 => (K5 j hj n123).trans (k262 j n123)
  have K3 : ∀ j : Nat, j < 126 → j ≠ 123 → H264[j]? = H260[j]? := fun j hj n123 => (K4 j hj n123).trans (k261 j n123)
  have K2 : ∀ j : Nat, j < 125 → j ≠ 123 → H264[j]? = H259[j]? := fun j hj n123 => (K3 j (Nat.lt_of_lt_of_le hj (Nat.le_of_ble_eq_true rfl : 125 ≤ 126)) n123).trans (k260 j hj)
  have K1 : ∀ j : Nat, j < 125 → j ≠ 123 → H264[j]? = H258[j]? := fun j hj n123 => (K2 j hj n123).trans (k259 j n123)
  have K0 : ∀ j : Nat, j < 124 → j ≠ 123 → H264[j]? = H[j]? := fun j hj n123 => (K1 j (Nat.lt_of_lt_of_le hj (Nat.le_of_ble_eq_true rfl : 124 ≤ 125)) n123).trans (k258 j hj)
  exact en_r (st_vret rfl rfl) ⟨⟨((K1 124 (Nat.le_of_ble_eq_true rfl : 124 < 125) (Nat.ne_of_beq_eq_false rfl : 124 ≠ 123)).trans f258), f264, ((K3 125 (Nat.le_of_ble_eq_true rfl : 125 < 126) (Nat.ne_of_beq_eq_false rfl : 125 ≠ 123)).trans f260), ((K6 126 (Nat.le_of_ble_eq_true rfl : 126 < 127) (Nat.ne_of_beq_eq_false rfl : 126 ≠ 123)).trans f263), trivial⟩, l264, fun j n123 hj => K0 j hj n123⟩

def ci_25F  (H H1 : am_H) : Prop := (am_is H1 127 (.inr (10, [.int (-1), .int 0, .int 0, .int 0])) ∧ True) ∧ H1.length = 128 ∧ ∀ j : Nat, j ≠ 127 → j < 128 → H1[j]? = H[j]?
set_option maxRecDepth 100000 in
theorem ci_25 {sL : Nat} {sx : Nat → Int32} {cs : Nat → Nat → Option Int32} {H : am_H}  (hl : H.length = 128) (h127 : H[127]? = some (.inr (10, [.int 0, .int 0, .int 0, .int 0]))) :
    am_NW sL sx cs 9 0 [(0, .ref 127)] [] H 0 0 none 0 0 (ci_25F H) := by
  refine en_s (am_nb (m := 4) (pc1 := 6) (ls1 := [(0, .ref 127)]) (st1 := [.int (-1), .ref 127]) (H1 := H) (k1 := 0) (n1 := 0) (by with_unfolding_all rfl)) ?_
  refine en_put rfl hl h127 rfl rfl rfl ?_
  intro H268 l268 f268 k268
  have K0 : ∀ j : Nat, j < 128 → j ≠ 127 → H268[j]? = H[j]? := fun j hj n127 => (k268 j n127)
  exact en_r (st_vret rfl rfl) ⟨⟨f268, trivial⟩, l268, fun j n127 hj => K0 j hj n127⟩

def ci_26F  (H H1 : am_H) : Prop := (am_is H1 128 (.inr (10, [.int (-1), .int 0, .int 0, .int 0])) ∧ True) ∧ H1.length = 129 ∧ ∀ j : Nat, j ≠ 128 → j < 129 → H1[j]? = H[j]?
set_option maxRecDepth 100000 in
theorem ci_26 {sL : Nat} {sx : Nat → Int32} {cs : Nat → Nat → Option Int32} {H : am_H}  (hl : H.length = 129) (h128 : H[128]? = some (.inr (10, [.int 0, .int 0, .int 0, .int 0]))) :
    am_NW sL sx cs 9 0 [(0, .ref 128)] [] H 0 0 none 0 0 (ci_26F H) := by
  refine en_s (am_nb (m := 4) (pc1 := 6) (ls1 := [(0, .ref 128)]) (st1 := [.int (-1), .ref 128]) (H1 := H) (k1 := 0) (n1 := 0) (by with_unfolding_all rfl)) ?_
  refine en_put rfl hl h128 rfl rfl rfl ?_
  intro H272 l272 f272 k272
  have K0 : ∀ j : Nat, j < 129 → j ≠ 128 → H272[j]? = H[j]? := fun j hj n128 => (k272 j n128)
  exact en_r (st_vret rfl rfl) ⟨⟨f272, trivial⟩, l272, fun j n128 hj => K0 j hj n128⟩

def ci_28F  (H H1 : am_H) : Prop := (am_is H1 131 (.inl (.int, (64, .inl (fun _ => 0)))) ∧ am_is H1 130 (.inr (0, [.ref 131, .int 0, .int 0])) ∧ True) ∧ H1.length = 132 ∧ ∀ j : Nat, j ≠ 130 → j < 131 → H1[j]? = H[j]?
set_option maxRecDepth 100000 in
theorem ci_28 {sL : Nat} {sx : Nat → Int32} {cs : Nat → Nat → Option Int32} {H : am_H}  (hl : H.length = 131) (h130 : H[130]? = some (.inr (0, [.null, .int 0, .int 0]))) :
    am_NW sL sx cs 7 0 [(0, .ref 130), (1, .int 64)] [] H 0 0 none 1 64 (ci_28F H) := by
  refine en_s (am_nb (m := 6) (pc1 := 10) (ls1 := [(0, .ref 130), (1, .int 64)]) (st1 := [.int 64, .ref 130]) (H1 := H) (k1 := 0) (n1 := 0) (by with_unfolding_all rfl)) ?_
  refine en_newa (N := 131) (m := 64) (ty := .int) rfl hl rfl (by decide) (by with_unfolding_all rfl) rfl rfl ?_
  intro H277 l277 f277 k277
  refine en_put rfl l277 ((k277 130 (Nat.le_of_ble_eq_true rfl : 130 < 131)).trans h130) rfl rfl rfl ?_
  intro H278 l278 f278 k278
  have K1 : ∀ j : Nat, j < 132 → j ≠ 130 → H278[j]? = H277[j]? := fun j hj n130 => (k278 j n130)
  have K0 : ∀ j : Nat, j < 131 → j ≠ 130 → H278[j]? = H[j]? := fun j hj n130 => (K1 j (Nat.lt_of_lt_of_le hj (Nat.le_of_ble_eq_true rfl : 131 ≤ 132)) n130).trans (k277 j hj)
  exact en_r (st_vret rfl rfl) ⟨⟨((K1 131 (Nat.le_of_ble_eq_true rfl : 131 < 132) (Nat.ne_of_beq_eq_false rfl : 131 ≠ 130)).trans f277), f278, trivial⟩, l278, fun j n130 hj => K0 j hj n130⟩

def ci_29F  (H H1 : am_H) : Prop := (am_is H1 133 (.inl (.int, (32, .inl (fun _ => 0)))) ∧ am_is H1 132 (.inr (0, [.ref 133, .int 0, .int 0])) ∧ True) ∧ H1.length = 134 ∧ ∀ j : Nat, j ≠ 132 → j < 133 → H1[j]? = H[j]?
set_option maxRecDepth 100000 in
theorem ci_29 {sL : Nat} {sx : Nat → Int32} {cs : Nat → Nat → Option Int32} {H : am_H}  (hl : H.length = 133) (h132 : H[132]? = some (.inr (0, [.null, .int 0, .int 0]))) :
    am_NW sL sx cs 7 0 [(0, .ref 132), (1, .int 32)] [] H 0 0 none 1 32 (ci_29F H) := by
  refine en_s (am_nb (m := 6) (pc1 := 10) (ls1 := [(0, .ref 132), (1, .int 32)]) (st1 := [.int 32, .ref 132]) (H1 := H) (k1 := 0) (n1 := 0) (by with_unfolding_all rfl)) ?_
  refine en_newa (N := 133) (m := 32) (ty := .int) rfl hl rfl (by decide) (by with_unfolding_all rfl) rfl rfl ?_
  intro H282 l282 f282 k282
  refine en_put rfl l282 ((k282 132 (Nat.le_of_ble_eq_true rfl : 132 < 133)).trans h132) rfl rfl rfl ?_
  intro H283 l283 f283 k283
  have K1 : ∀ j : Nat, j < 134 → j ≠ 132 → H283[j]? = H282[j]? := fun j hj n132 => (k283 j n132)
  have K0 : ∀ j : Nat, j < 133 → j ≠ 132 → H283[j]? = H[j]? := fun j hj n132 => (K1 j (Nat.lt_of_lt_of_le hj (Nat.le_of_ble_eq_true rfl : 133 ≤ 134)) n132).trans (k282 j hj)
  exact en_r (st_vret rfl rfl) ⟨⟨((K1 133 (Nat.le_of_ble_eq_true rfl : 133 < 134) (Nat.ne_of_beq_eq_false rfl : 133 ≠ 132)).trans f282), f283, trivial⟩, l283, fun j n132 hj => K0 j hj n132⟩

def ci_33F  (H H1 : am_H) : Prop := (True) ∧ H1.length = 141 ∧ ∀ j : Nat, j < 141 → H1[j]? = H[j]?
set_option maxRecDepth 100000 in
theorem ci_33 {sL : Nat} {sx : Nat → Int32} {cs : Nat → Nat → Option Int32} {H : am_H} {h : Nat} {b : Nat} (hl : H.length = 141) (h136 : H[136]? = some (.inr (3, [.int (Int32.ofNat h), .int (Int32.ofNat b), .ref 138, .ref 139, .ref 140, .int 0, .int 0, .int 0, .int 0, .int ((Int32.ofNat h) - 1), .int 96, .int 0, .int 0, .int 0, .int 0, .int 0, .int 0, .ref 137]))) (h139 : H[139]? = some (.inl (.int, (h, .inl (fun _ => 0))))) (hi0 : ¬ ((0 : Int32) < 0 ∨ h ≤ (0 : Int32).toNatClampNeg)) :
    am_NW sL sx cs 17 0 [(0, .ref 136)] [] H 0 0 (some (.int ((Int32.ofNat b) - 1))) 0 0 (ci_33F H) := by
  refine en_s (am_nb (m := 1) (pc1 := 1) (ls1 := [(0, .ref 136)]) (st1 := [.ref 136]) (H1 := H) (k1 := 0) (n1 := 0) (by with_unfolding_all rfl)) ?_
  refine en_s (st_get rfl h136 rfl) ?_
  refine en_s (am_nb (m := 1) (pc1 := 5) (ls1 := [(0, .ref 136)]) (st1 := [.ref 136, .ref 139]) (H1 := H) (k1 := 0) (n1 := 0) (by with_unfolding_all rfl)) ?_
  refine en_s (st_get rfl h136 rfl) ?_
  refine en_s (st_iald rfl h139 hi0) ?_
  refine en_s (am_nb (m := 2) (pc1 := 13) (ls1 := [(0, .ref 136)]) (st1 := [.ref 136]) (H1 := H) (k1 := 0) (n1 := 0) (by with_unfolding_all rfl)) ?_
  refine en_s (st_get rfl h136 rfl) ?_
  refine en_s (am_nb (m := 3) (pc1 := 29) (ls1 := [(0, .ref 136)]) (st1 := [.int ((Int32.ofNat b) - 1)]) (H1 := H) (k1 := 0) (n1 := 0) (by with_unfolding_all rfl)) ?_
  exact en_r (st_iret rfl rfl rfl) ⟨trivial, hl, fun j hj => rfl⟩

def ci_32F (h : Nat) (b : Nat) (H H1 : am_H) : Prop := (am_is H1 136 (.inr (3, [.int (Int32.ofNat h), .int (Int32.ofNat b), .ref 138, .ref 139, .ref 140, .int 0, .int 0, .int 0, .int 0, .int ((Int32.ofNat h) - 1), .int 96, .int 0, .int 0, .int 0, .int 0, .int 0, .int 0, .ref 137])) ∧ True) ∧ H1.length = 141 ∧ ∀ j : Nat, j ≠ 136 → j < 141 → H1[j]? = H[j]?
set_option maxRecDepth 100000 in
theorem ci_32 {sL : Nat} {sx : Nat → Int32} {cs : Nat → Nat → Option Int32} {H : am_H} {h : Nat} {b : Nat} (hl : H.length = 141) (h136 : H[136]? = some (.inr (3, [.int (Int32.ofNat h), .int (Int32.ofNat b), .ref 138, .ref 139, .ref 140, .int 0, .int 0, .int 0, .int 0, .int ((Int32.ofNat h) - 1), .int 96, .int 0, .int 0, .int 0, .int 0, .int 0, .int 0, .ref 137]))) (h139 : H[139]? = some (.inl (.int, (h, .inl (fun _ => 0))))) (ez1 : am_near 0 0 (Int32.ofNat h - 1) = 0) (ez2 : am_near 0 0 (Int32.ofNat b - 1) = 0) (hi0 : ¬ ((0 : Int32) < 0 ∨ h ≤ (0 : Int32).toNatClampNeg)) :
    am_NW sL sx cs 16 0 [(0, .ref 136), (1, .int 0), (2, .int 0)] [] H 0 0 none 0 0 (ci_32F h b H) := by
  refine en_s (am_nb (m := 4) (pc1 := 4) (ls1 := [(0, .ref 136), (1, .int 0), (2, .int 0)]) (st1 := [.ref 136, .int 0, .int 0, .ref 136]) (H1 := H) (k1 := 0) (n1 := 0) (by with_unfolding_all rfl)) ?_
  refine en_s (st_get rfl h136 rfl) ?_
  refine en_s (am_nb (m := 2) (pc1 := 9) (ls1 := [(0, .ref 136), (1, .int 0), (2, .int 0)]) (st1 := [.int ((Int32.ofNat h) - 1), .int 0, .int 0, .ref 136]) (H1 := H) (k1 := 0) (n1 := 0) (by with_unfolding_all rfl)) ?_
  refine en_s (st_cs1 (as := [.int 0, .int 0, .int ((Int32.ofNat h) - 1)]) (rest := [.ref 136]) rfl (by decide) rfl rfl (by with_unfolding_all rfl) (by with_unfolding_all rfl) (nr_ok ez1)) ?_
  refine en_put rfl hl h136 rfl rfl rfl ?_
  intro H311 l311 f311 k311
  refine en_s (am_nb (m := 4) (pc1 := 19) (ls1 := [(0, .ref 136), (1, .int 0), (2, .int 0)]) (st1 := [.ref 136, .int 0, .int 0, .ref 136]) (H1 := H311) (k1 := 0) (n1 := 0) (by with_unfolding_all rfl)) ?_
  refine en_cv1 (as := []) (rest := [.int 0, .int 0, .ref 136]) rfl rfl rfl rfl f311 rfl (by with_unfolding_all rfl) (by with_unfolding_all rfl) (ci_33 l311 f311 ((k311 139 (Nat.ne_of_beq_eq_false rfl : 139 ≠ 136)).trans h139) hi0) ?_
  rintro H312 ⟨-, l312, k312⟩
  refine en_s (st_cs1 (as := [.int 0, .int 0, .int ((Int32.ofNat b) - 1)]) (rest := [.ref 136]) rfl (by decide) rfl rfl (by with_unfolding_all rfl) (by with_unfolding_all rfl) (nr_ok ez2)) ?_
  refine en_put rfl l312 ((k312 136 (Nat.le_of_ble_eq_true rfl : 136 < 141)).trans f311) rfl rfl rfl ?_
  intro H313 l313 f313 k313
  refine en_s (am_nb (m := 2) (pc1 := 30) (ls1 := [(0, .ref 136), (1, .int 0), (2, .int 0)]) (st1 := [.int 0, .ref 136]) (H1 := H313) (k1 := 0) (n1 := 0) (by with_unfolding_all rfl)) ?_
  refine en_put rfl l313 f313 rfl rfl rfl ?_
  intro H314 l314 f314 k314
  have K3 : ∀ j : Nat, j < 141 → j ≠ 136 → H314[j]? = H313[j]? := fun j hj n136 => (k314 j n136)
  have K2 : ∀ j : Nat, j < 141 → j ≠ 136 → H314[j]? = H312[j]? := fun j hj n136 => (K3 j hj n136).trans (k313 j n136)
  have K1 : ∀ j : Nat, j < 141 → j ≠ 136 → H314[j]? = H311[j]? := fun j hj n136 => (K2 j hj n136).trans (k312 j hj)
  have K0 : ∀ j : Nat, j < 141 → j ≠ 136 → H314[j]? = H[j]? := fun j hj n136 => (K1 j hj n136).trans (k311 j n136)
  exact en_r (st_vret rfl rfl) ⟨⟨f314, trivial⟩, l314, fun j n136 hj => K0 j hj n136⟩

def ci_34F  (H H1 : am_H) : Prop := (am_is H1 137 (.inl (.int, (6, .inl (upd (upd (upd (upd (upd (upd (fun _ => 0) ((0 : Int32).toNatClampNeg) 0) ((1 : Int32).toNatClampNeg) 0) ((2 : Int32).toNatClampNeg) 0) ((3 : Int32).toNatClampNeg) 0) ((4 : Int32).toNatClampNeg) 0) ((5 : Int32).toNatClampNeg) 0)))) ∧ True) ∧ H1.length = 141 ∧ ∀ j : Nat, j ≠ 137 → j < 141 → H1[j]? = H[j]?
set_option maxRecDepth 100000 in
theorem ci_34 {sL : Nat} {sx : Nat → Int32} {cs : Nat → Nat → Option Int32} {H : am_H} {h : Nat} {b : Nat} (hl : H.length = 141) (h136 : H[136]? = some (.inr (3, [.int (Int32.ofNat h), .int (Int32.ofNat b), .ref 138, .ref 139, .ref 140, .int 0, .int 0, .int 0, .int 0, .int ((Int32.ofNat h) - 1), .int 96, .int 0, .int 0, .int 0, .int 0, .int 0, .int 0, .ref 137]))) (h137 : H[137]? = some (.inl (.int, (6, .inl (fun _ => 0))))) :
    am_NW sL sx cs 18 0 [(0, .ref 136)] [] H 0 0 none 0 0 (ci_34F H) := by
  refine en_s (am_nb (m := 1) (pc1 := 1) (ls1 := [(0, .ref 136)]) (st1 := [.ref 136]) (H1 := H) (k1 := 0) (n1 := 0) (by with_unfolding_all rfl)) ?_
  refine en_s (st_get rfl h136 rfl) ?_
  refine en_s (am_nb (m := 2) (pc1 := 6) (ls1 := [(0, .ref 136)]) (st1 := [.ref 136, .int 0, .ref 137]) (H1 := H) (k1 := 0) (n1 := 0) (by with_unfolding_all rfl)) ?_
  refine en_s (st_get rfl h136 rfl) ?_
  refine en_set (st_iast rfl h137 (by decide)) hl h137 ?_
  intro H316 l316 f316 k316
  refine en_s (am_nb (m := 1) (pc1 := 11) (ls1 := [(0, .ref 136)]) (st1 := [.ref 136]) (H1 := H316) (k1 := 0) (n1 := 0) (by with_unfolding_all rfl)) ?_
  refine en_s (st_get rfl ((k316 136 (Nat.ne_of_beq_eq_false rfl : 136 ≠ 137)).trans h136) rfl) ?_
  refine en_s (am_nb (m := 2) (pc1 := 16) (ls1 := [(0, .ref 136)]) (st1 := [.ref 136, .int 1, .ref 137]) (H1 := H316) (k1 := 0) (n1 := 0) (by with_unfolding_all rfl)) ?_
  refine en_s (st_get rfl ((k316 136 (Nat.ne_of_beq_eq_false rfl : 136 ≠ 137)).trans h136) rfl) ?_
  refine en_set (st_iast rfl f316 (by decide)) l316 f316 ?_
  intro H317 l317 f317 k317
  refine en_s (am_nb (m := 1) (pc1 := 21) (ls1 := [(0, .ref 136)]) (st1 := [.ref 136]) (H1 := H317) (k1 := 0) (n1 := 0) (by with_unfolding_all rfl)) ?_
  refine en_s (st_get rfl ((k317 136 (Nat.ne_of_beq_eq_false rfl : 136 ≠ 137)).trans ((k316 136 (Nat.ne_of_beq_eq_false rfl : 136 ≠ 137)).trans h136)) rfl) ?_
  refine en_s (am_nb (m := 2) (pc1 := 26) (ls1 := [(0, .ref 136)]) (st1 := [.ref 136, .int 2, .ref 137]) (H1 := H317) (k1 := 0) (n1 := 0) (by with_unfolding_all rfl)) ?_
  refine en_s (st_get rfl ((k317 136 (Nat.ne_of_beq_eq_false rfl : 136 ≠ 137)).trans ((k316 136 (Nat.ne_of_beq_eq_false rfl : 136 ≠ 137)).trans h136)) rfl) ?_
  refine en_set (st_iast rfl f317 (by decide)) l317 f317 ?_
  intro H318 l318 f318 k318
  refine en_s (am_nb (m := 1) (pc1 := 31) (ls1 := [(0, .ref 136)]) (st1 := [.ref 136]) (H1 := H318) (k1 := 0) (n1 := 0) (by with_unfolding_all rfl)) ?_
  refine en_s (st_get rfl ((k318 136 (Nat.ne_of_beq_eq_false rfl : 136 ≠ 137)).trans ((k317 136 (Nat.ne_of_beq_eq_false rfl : 136 ≠ 137)).trans ((k316 136 (Nat.ne_of_beq_eq_false rfl : 136 ≠ 137)).trans h136))) rfl) ?_
  refine en_s (am_nb (m := 2) (pc1 := 36) (ls1 := [(0, .ref 136)]) (st1 := [.ref 136, .int 3, .ref 137]) (H1 := H318) (k1 := 0) (n1 := 0) (by with_unfolding_all rfl)) ?_
  refine en_s (st_get rfl ((k318 136 (Nat.ne_of_beq_eq_false rfl : 136 ≠ 137)).trans ((k317 136 (Nat.ne_of_beq_eq_false rfl : 136 ≠ 137)).trans ((k316 136 (Nat.ne_of_beq_eq_false rfl : 136 ≠ 137)).trans h136))) rfl) ?_
  refine en_set (st_iast rfl f318 (by decide)) l318 f318 ?_
  intro H319 l319 f319 k319
  refine en_s (am_nb (m := 1) (pc1 := 41) (ls1 := [(0, .ref 136)]) (st1 := [.ref 136]) (H1 := H319) (k1 := 0) (n1 := 0) (by with_unfolding_all rfl)) ?_
  refine en_s (st_get rfl ((k319 136 (Nat.ne_of_beq_eq_false rfl : 136 ≠ 137)).trans ((k318 136 (Nat.ne_of_beq_eq_false rfl : 136 ≠ 137)).trans ((k317 136 (Nat.ne_of_beq_eq_false rfl : 136 ≠ 137)).trans ((k316 136 (Nat.ne_of_beq_eq_false rfl : 136 ≠ 137)).trans h136)))) rfl) ?_
  refine en_s (am_nb (m := 2) (pc1 := 46) (ls1 := [(0, .ref 136)]) (st1 := [.ref 136, .int 4, .ref 137]) (H1 := H319) (k1 := 0) (n1 := 0) (by with_unfolding_all rfl)) ?_
  refine en_s (st_get rfl ((k319 136 (Nat.ne_of_beq_eq_false rfl : 136 ≠ 137)).trans ((k318 136 (Nat.ne_of_beq_eq_false rfl : 136 ≠ 137)).trans ((k317 136 (Nat.ne_of_beq_eq_false rfl : 136 ≠ 137)).trans ((k316 136 (Nat.ne_of_beq_eq_false rfl : 136 ≠ 137)).trans h136)))) rfl) ?_
  refine en_set (st_iast rfl f319 (by decide)) l319 f319 ?_
  intro H320 l320 f320 k320
  refine en_s (am_nb (m := 1) (pc1 := 51) (ls1 := [(0, .ref 136)]) (st1 := [.ref 136]) (H1 := H320) (k1 := 0) (n1 := 0) (by with_unfolding_all rfl)) ?_
  refine en_s (st_get rfl ((k320 136 (Nat.ne_of_beq_eq_false rfl : 136 ≠ 137)).trans ((k319 136 (Nat.ne_of_beq_eq_false rfl : 136 ≠ 137)).trans ((k318 136 (Nat.ne_of_beq_eq_false rfl : 136 ≠ 137)).trans ((k317 136 (Nat.ne_of_beq_eq_false rfl : 136 ≠ 137)).trans ((k316 136 (Nat.ne_of_beq_eq_false rfl : 136 ≠ 137)).trans h136))))) rfl) ?_
  refine en_s (am_nb (m := 2) (pc1 := 56) (ls1 := [(0, .ref 136)]) (st1 := [.ref 136, .int 5, .ref 137]) (H1 := H320) (k1 := 0) (n1 := 0) (by with_unfolding_all rfl)) ?_
  refine en_s (st_get rfl ((k320 136 (Nat.ne_of_beq_eq_false rfl : 136 ≠ 137)).trans ((k319 136 (Nat.ne_of_beq_eq_false rfl : 136 ≠ 137)).trans ((k318 136 (Nat.ne_of_beq_eq_false rfl : 136 ≠ 137)).trans ((k317 136 (Nat.ne_of_beq_eq_false rfl : 136 ≠ 137)).trans ((k316 136 (Nat.ne_of_beq_eq_false rfl : 136 ≠ 137)).trans h136))))) rfl) ?_
  refine en_s (am_nb (m := 2) (pc1 := 62) (ls1 := [(0, .ref 136)]) (st1 := [.int 0, .int 5, .ref 137]) (H1 := H320) (k1 := 0) (n1 := 0) (by with_unfolding_all rfl)) ?_
  refine en_set (st_iast rfl f320 (by decide)) l320 f320 ?_
  intro H321 l321 f321 k321
  have K5 : ∀ j : Nat, j < 141 → j ≠ 137 → H321[j]? = H320[j]? := fun j hj n137 => (k321 j n137)
  have K4 : ∀ j : Nat, j < 141 → j ≠ 137 → H321[j]? = H319[j]? := fun j hj n137 => (K5 j hj n137).trans (k320 j n137)
  have K3 : ∀ j : Nat, j < 141 → j ≠ 137 → H321[j]? = H318[j]? := fun j hj n137 => (K4 j hj n137).trans (k319 j n137)
  have K2 : ∀ j : Nat, j < 141 → j ≠ 137 → H321[j]? = H317[j]? := fun j hj n137 => (K3 j hj n137).trans (k318 j n137)
  have K1 : ∀ j : Nat, j < 141 → j ≠ 137 → H321[j]? = H316[j]? := fun j hj n137 => (K2 j hj n137).trans (k317 j n137)
  have K0 : ∀ j : Nat, j < 141 → j ≠ 137 → H321[j]? = H[j]? := fun j hj n137 => (K1 j hj n137).trans (k316 j n137)
  exact en_r (st_vret rfl rfl) ⟨⟨f321, trivial⟩, l321, fun j n137 hj => K0 j hj n137⟩

def ci_31F (h : Nat) (b : Nat) (H H1 : am_H) : Prop := (am_is H1 138 (.inl (.int, ((h * b), .inl (am_fll (fun _ => 0) 0 (h * b) 32)))) ∧ am_is H1 139 (.inl (.int, (h, .inl (fun _ => 0)))) ∧ am_is H1 140 (.inl (.boolean, (b, .inl (am_stp (fun _ => 0) b)))) ∧ am_is H1 136 (.inr (3, [.int (Int32.ofNat h), .int (Int32.ofNat b), .ref 138, .ref 139, .ref 140, .int 0, .int 0, .int 0, .int 0, .int ((Int32.ofNat h) - 1), .int 96, .int 0, .int 0, .int 0, .int 0, .int 0, .int 0, .ref 137])) ∧ am_is H1 137 (.inl (.int, (6, .inl (upd (upd (upd (upd (upd (upd (fun _ => 0) ((0 : Int32).toNatClampNeg) 0) ((1 : Int32).toNatClampNeg) 0) ((2 : Int32).toNatClampNeg) 0) ((3 : Int32).toNatClampNeg) 0) ((4 : Int32).toNatClampNeg) 0) ((5 : Int32).toNatClampNeg) 0)))) ∧ True) ∧ H1.length = 141 ∧ ∀ j : Nat, j ≠ 136 → j ≠ 137 → j ≠ 138 → j ≠ 139 → j ≠ 140 → j < 141 → H1[j]? = H[j]?
set_option maxRecDepth 100000 in
theorem ci_31 {sL : Nat} {sx : Nat → Int32} {cs : Nat → Nat → Option Int32} {H : am_H} {h : Nat} {b : Nat} (hl : H.length = 141) (h136 : H[136]? = some (.inr (3, [.int (Int32.ofNat h), .int (Int32.ofNat b), .ref 138, .ref 139, .ref 140, .int 0, .int 0, .int 0, .int 0, .int 0, .int 0, .int 0, .int 0, .int 0, .int 0, .int 0, .int 0, .ref 137]))) (h138 : H[138]? = some (.inl (.int, ((h * b), .inl (fun _ => 0))))) (h139 : H[139]? = some (.inl (.int, (h, .inl (fun _ => 0))))) (h140 : H[140]? = some (.inl (.boolean, (b, .inl (fun _ => 0))))) (h137 : H[137]? = some (.inl (.int, (6, .inl (fun _ => 0))))) (hgt : h * b < 2 ^ 31) (hht : h < 2 ^ 31) (hbt : b < 2 ^ 31) (ez1 : am_near 0 0 (Int32.ofNat h - 1) = 0) (ez2 : am_near 0 0 (Int32.ofNat b - 1) = 0) (hi0 : ¬ ((0 : Int32) < 0 ∨ h ≤ (0 : Int32).toNatClampNeg)) :
    am_NW sL sx cs 13 0 [(0, .ref 136)] [] H 0 0 none 0 0 (ci_31F h b H) := by
  refine en_s (am_nb (m := 1) (pc1 := 1) (ls1 := [(0, .ref 136)]) (st1 := [.ref 136]) (H1 := H) (k1 := 0) (n1 := 0) (by with_unfolding_all rfl)) ?_
  refine en_s (st_get rfl h136 rfl) ?_
  refine en_s (am_nb (m := 2) (pc1 := 6) (ls1 := [(0, .ref 136)]) (st1 := [.ref 136, .int 0, .ref 138]) (H1 := H) (k1 := 0) (n1 := 0) (by with_unfolding_all rfl)) ?_
  refine en_s (st_get rfl h136 rfl) ?_
  refine en_s (st_alen rfl h138) ?_
  refine en_s (am_nb (m := 1) (pc1 := 12) (ls1 := [(0, .ref 136)]) (st1 := [.int 32, .int (Int32.ofNat (h * b)), .int 0, .ref 138]) (H1 := H) (k1 := 0) (n1 := 0) (by with_unfolding_all rfl)) ?_
  refine en_set (st_cs0 (as := [.ref 138, .int 0, .int (Int32.ofNat (h * b)), .int 32]) (rest := []) rfl (by decide) rfl rfl (by with_unfolding_all rfl) (by with_unfolding_all rfl) (fl_ok (A := 0) (T := (h * b)) h138 (Nat.zero_le _) (Nat.le_refl _) hgt)) hl h138 ?_
  intro H301 l301 f301 k301
  refine en_s (am_nb (m := 1) (pc1 := 16) (ls1 := [(0, .ref 136)]) (st1 := [.ref 136]) (H1 := H301) (k1 := 0) (n1 := 0) (by with_unfolding_all rfl)) ?_
  refine en_s (st_get rfl ((k301 136 (Nat.ne_of_beq_eq_false rfl : 136 ≠ 138)).trans h136) rfl) ?_
  refine en_s (am_nb (m := 2) (pc1 := 21) (ls1 := [(0, .ref 136)]) (st1 := [.ref 136, .int 0, .ref 139]) (H1 := H301) (k1 := 0) (n1 := 0) (by with_unfolding_all rfl)) ?_
  refine en_s (st_get rfl ((k301 136 (Nat.ne_of_beq_eq_false rfl : 136 ≠ 138)).trans h136) rfl) ?_
  refine en_s (am_nb (m := 1) (pc1 := 25) (ls1 := [(0, .ref 136)]) (st1 := [.int 0, .int (Int32.ofNat h), .int 0, .ref 139]) (H1 := H301) (k1 := 0) (n1 := 0) (by with_unfolding_all rfl)) ?_
  refine en_set (st_cs0 (as := [.ref 139, .int 0, .int (Int32.ofNat h), .int 0]) (rest := []) rfl (by decide) rfl rfl (by with_unfolding_all rfl) (by with_unfolding_all rfl) (fl_ok (A := 0) (T := h) ((k301 139 (Nat.ne_of_beq_eq_false rfl : 139 ≠ 138)).trans h139) (Nat.zero_le _) (Nat.le_refl _) hht)) l301 ((k301 139 (Nat.ne_of_beq_eq_false rfl : 139 ≠ 138)).trans h139) ?_
  intro H302 l302 f302 k302
  rw [am_fll_z] at f302
  refine en_s (am_nb (m := 2) (pc1 := 30) (ls1 := [(1, .int 0), (0, .ref 136)]) (st1 := []) (H1 := H302) (k1 := 0) (n1 := 0) (by with_unfolding_all rfl)) ?_
  refine en_set (gs_ok ((k302 136 (Nat.ne_of_beq_eq_false rfl : 136 ≠ 139)).trans ((k301 136 (Nat.ne_of_beq_eq_false rfl : 136 ≠ 138)).trans h136)) rfl rfl ((k302 140 (Nat.ne_of_beq_eq_false rfl : 140 ≠ 139)).trans ((k301 140 (Nat.ne_of_beq_eq_false rfl : 140 ≠ 138)).trans h140)) hbt (Nat.ne_of_beq_eq_false rfl : 140 ≠ 136)) l302 ((k302 140 (Nat.ne_of_beq_eq_false rfl : 140 ≠ 139)).trans ((k301 140 (Nat.ne_of_beq_eq_false rfl : 140 ≠ 138)).trans h140)) ?_
  intro H303 l303 f303 k303
  refine en_s (am_nb (m := 2) (pc1 := 68) (ls1 := [(1, .int (Int32.ofNat b)), (0, .ref 136)]) (st1 := [.int 0, .ref 136]) (H1 := H303) (k1 := 0) (n1 := 0) (by with_unfolding_all rfl)) ?_
  refine en_put rfl l303 ((k303 136 (Nat.ne_of_beq_eq_false rfl : 136 ≠ 140)).trans ((k302 136 (Nat.ne_of_beq_eq_false rfl : 136 ≠ 139)).trans ((k301 136 (Nat.ne_of_beq_eq_false rfl : 136 ≠ 138)).trans h136))) rfl rfl rfl ?_
  intro H304 l304 f304 k304
  refine en_s (am_nb (m := 2) (pc1 := 73) (ls1 := [(1, .int (Int32.ofNat b)), (0, .ref 136)]) (st1 := [.ref 136, .ref 136]) (H1 := H304) (k1 := 0) (n1 := 0) (by with_unfolding_all rfl)) ?_
  refine en_s (st_get rfl f304 rfl) ?_
  refine en_s (am_nb (m := 2) (pc1 := 78) (ls1 := [(1, .int (Int32.ofNat b)), (0, .ref 136)]) (st1 := [.int ((Int32.ofNat h) - 1), .ref 136]) (H1 := H304) (k1 := 0) (n1 := 0) (by with_unfolding_all rfl)) ?_
  refine en_put rfl l304 f304 rfl rfl rfl ?_
  intro H305 l305 f305 k305
  refine en_s (am_nb (m := 2) (pc1 := 84) (ls1 := [(1, .int (Int32.ofNat b)), (0, .ref 136)]) (st1 := [.int 96, .ref 136]) (H1 := H305) (k1 := 0) (n1 := 0) (by with_unfolding_all rfl)) ?_
  refine en_put rfl l305 f305 rfl rfl rfl ?_
  intro H306 l306 f306 k306
  refine en_s (am_nb (m := 2) (pc1 := 89) (ls1 := [(1, .int (Int32.ofNat b)), (0, .ref 136)]) (st1 := [.int 0, .ref 136]) (H1 := H306) (k1 := 0) (n1 := 0) (by with_unfolding_all rfl)) ?_
  refine en_put rfl l306 f306 rfl rfl rfl ?_
  intro H307 l307 f307 k307
  refine en_s (am_nb (m := 2) (pc1 := 94) (ls1 := [(1, .int (Int32.ofNat b)), (0, .ref 136)]) (st1 := [.int 0, .ref 136]) (H1 := H307) (k1 := 0) (n1 := 0) (by with_unfolding_all rfl)) ?_
  refine en_put rfl l307 f307 rfl rfl rfl ?_
  intro H308 l308 f308 k308
  refine en_s (am_nb (m := 2) (pc1 := 99) (ls1 := [(1, .int (Int32.ofNat b)), (0, .ref 136)]) (st1 := [.int 0, .ref 136]) (H1 := H308) (k1 := 0) (n1 := 0) (by with_unfolding_all rfl)) ?_
  refine en_put rfl l308 f308 rfl rfl rfl ?_
  intro H309 l309 f309 k309
  refine en_s (am_nb (m := 2) (pc1 := 104) (ls1 := [(1, .int (Int32.ofNat b)), (0, .ref 136)]) (st1 := [.int 0, .ref 136]) (H1 := H309) (k1 := 0) (n1 := 0) (by with_unfolding_all rfl)) ?_
  refine en_put rfl l309 f309 rfl rfl rfl ?_
  intro H310 l310 f310 k310
  refine en_s (am_nb (m := 3) (pc1 := 110) (ls1 := [(1, .int (Int32.ofNat b)), (0, .ref 136)]) (st1 := [.int 0, .int 0, .ref 136]) (H1 := H310) (k1 := 0) (n1 := 0) (by with_unfolding_all rfl)) ?_
  refine en_cv0 (as := [.int 0, .int 0]) (rest := []) rfl rfl rfl rfl f310 rfl (by with_unfolding_all rfl) (by with_unfolding_all rfl) (ci_32 l310 f310 ((k310 139 (Nat.ne_of_beq_eq_false rfl : 139 ≠ 136)).trans ((k309 139 (Nat.ne_of_beq_eq_false rfl : 139 ≠ 136)).trans ((k308 139 (Nat.ne_of_beq_eq_false rfl : 139 ≠ 136)).trans ((k307 139 (Nat.ne_of_beq_eq_false rfl : 139 ≠ 136)).trans ((k306 139 (Nat.ne_of_beq_eq_false rfl : 139 ≠ 136)).trans ((k305 139 (Nat.ne_of_beq_eq_false rfl : 139 ≠ 136)).trans ((k304 139 (Nat.ne_of_beq_eq_false rfl : 139 ≠ 136)).trans ((k303 139 (Nat.ne_of_beq_eq_false rfl : 139 ≠ 140)).trans f302)))))))) ez1 ez2 hi0) ?_
  rintro H315 ⟨⟨f315_136, -⟩, l315, k315⟩
  refine en_s (am_nb (m := 1) (pc1 := 114) (ls1 := [(1, .int (Int32.ofNat b)), (0, .ref 136)]) (st1 := [.ref 136]) (H1 := H315) (k1 := 0) (n1 := 0) (by with_unfolding_all rfl)) ?_
  refine en_cv0 (as := []) (rest := []) rfl rfl rfl rfl f315_136 rfl (by with_unfolding_all rfl) (by with_unfolding_all rfl) (ci_34 l315 f315_136 ((k315 137 (Nat.ne_of_beq_eq_false rfl : 137 ≠ 136) (Nat.le_of_ble_eq_true rfl : 137 < 141)).trans ((k310 137 (Nat.ne_of_beq_eq_false rfl : 137 ≠ 136)).trans ((k309 137 (Nat.ne_of_beq_eq_false rfl : 137 ≠ 136)).trans ((k308 137 (Nat.ne_of_beq_eq_false rfl : 137 ≠ 136)).trans ((k307 137 (Nat.ne_of_beq_eq_false rfl : 137 ≠ 136)).trans ((k306 137 (Nat.ne_of_beq_eq_false rfl : 137 ≠ 136)).trans ((k305 137 (Nat.ne_of_beq_eq_false rfl : 137 ≠ 136)).trans ((k304 137 (Nat.ne_of_beq_eq_false rfl : 137 ≠ 136)).trans ((k303 137 (Nat.ne_of_beq_eq_false rfl : 137 ≠ 140)).trans ((k302 137 (Nat.ne_of_beq_eq_false rfl : 137 ≠ 139)).trans ((k301 137 (Nat.ne_of_beq_eq_false rfl : 137 ≠ 138)).trans h137)))))))))))) ?_
  rintro H322 ⟨⟨f322_137, -⟩, l322, k322⟩
  have K11 : ∀ j : Nat, j < 141 → j ≠ 137 → H322[j]? = H315[j]? := fun j hj n137 => (k322 j n137 hj)
  have K10 : ∀ j : Nat, j < 141 → j ≠ 136 → j ≠ 137 → H322[j]? = H310[j]? := fun j hj n136 n137 => (K11 j hj n137).trans (k315 j n136 hj)
  have K9 : ∀ j : Nat, j < 141 → j ≠ 136 → j ≠ 137 → H322[j]? = H309[j]? := fun j hj n136 n137 => (K10 j hj n136 n137).trans (k310 j n136)
  have K8 : ∀ j : Nat, j < 141 → j ≠ 136 → j ≠ 137 → H322[j]? = H308[j]? := fun j hj n136 n137 => (K9 j hj n136 n137).trans (k309 j n136)
  have K7 : ∀ j : Nat, j < 141 → j ≠ 136 → j ≠ 137 → H322[j]? = H307[j]? := fun j hj n136 n137 => (K8 j hj n136 n137).trans (k308 j n136)
  have K6 : ∀ j : Nat, j < 141 → j ≠ 136 → j ≠ 137 → H322[j]? = H306[j]? := fun j hj n136 n137 => (K7 j hj n136 n137).trans (k307 j n136)
  have K5 : ∀ j : Nat, j < 141 → j ≠ 136 → j ≠ 137 → H322[j]? = H305[j]? := fun j hj n136 n137 => (K6 j hj n136 n137).trans (k306 j n136)
  have K4 : ∀ j : Nat, j < 141 → j ≠ 136 → j ≠ 137 → H322[j]? = H304[j]? := fun j hj n136 n137 => (K5 j hj n136 n137).trans (k305 j n136)
  have K3 : ∀ j : Nat, j < 141 → j ≠ 136 → j ≠ 137 → H322[j]? = H303[j]? := fun j hj n136 n137 => (K4 j hj n136 n137).trans (k304 j n136)
  have K2 : ∀ j : Nat, j < 141 → j ≠ 136 → j ≠ 137 → j ≠ 140 → H322[j]? = H302[j]? := fun j hj n136 n137 n140 => (K3 j hj n136 n137).trans (k303 j n140)
  have K1 : ∀ j : Nat, j < 141 → j ≠ 136 → j ≠ 137 → j ≠ 139 → j ≠ 140 → H322[j]? = H301[j]? := fun j hj n136 n137 n139 n140 => (K2 j hj n136 n137 n140).trans (k302 j n139)
  have K0 : ∀ j : Nat, j < 141 → j ≠ 136 → j ≠ 137 → j ≠ 138 → j ≠ 139 → j ≠ 140 → H322[j]? = H[j]? := fun j hj n136 n137 n138 n139 n140 => (K1 j hj n136 n137 n139 n140).trans (k301 j n138)
  exact en_r (st_vret rfl rfl) ⟨⟨((K1 138 (Nat.le_of_ble_eq_true rfl : 138 < 141) (Nat.ne_of_beq_eq_false rfl : 138 ≠ 136) (Nat.ne_of_beq_eq_false rfl : 138 ≠ 137) (Nat.ne_of_beq_eq_false rfl : 138 ≠ 139) (Nat.ne_of_beq_eq_false rfl : 138 ≠ 140)).trans f301), ((K10 139 (Nat.le_of_ble_eq_true rfl : 139 < 141) (Nat.ne_of_beq_eq_false rfl : 139 ≠ 136) (Nat.ne_of_beq_eq_false rfl : 139 ≠ 137)).trans ((k310 139 (Nat.ne_of_beq_eq_false rfl : 139 ≠ 136)).trans ((k309 139 (Nat.ne_of_beq_eq_false rfl : 139 ≠ 136)).trans ((k308 139 (Nat.ne_of_beq_eq_false rfl : 139 ≠ 136)).trans ((k307 139 (Nat.ne_of_beq_eq_false rfl : 139 ≠ 136)).trans ((k306 139 (Nat.ne_of_beq_eq_false rfl : 139 ≠ 136)).trans ((k305 139 (Nat.ne_of_beq_eq_false rfl : 139 ≠ 136)).trans ((k304 139 (Nat.ne_of_beq_eq_false rfl : 139 ≠ 136)).trans ((k303 139 (Nat.ne_of_beq_eq_false rfl : 139 ≠ 140)).trans f302))))))))), ((K3 140 (Nat.le_of_ble_eq_true rfl : 140 < 141) (Nat.ne_of_beq_eq_false rfl : 140 ≠ 136) (Nat.ne_of_beq_eq_false rfl : 140 ≠ 137)).trans f303), ((K11 136 (Nat.le_of_ble_eq_true rfl : 136 < 141) (Nat.ne_of_beq_eq_false rfl : 136 ≠ 137)).trans f315_136), f322_137, trivial⟩, l322, fun j n136 n137 n138 n139 n140 hj => K0 j hj n136 n137 n138 n139 n140⟩

def ci_30F (h : Nat) (b : Nat) (H H1 : am_H) : Prop := (am_is H1 137 (.inl (.int, (6, .inl (upd (upd (upd (upd (upd (upd (fun _ => 0) ((0 : Int32).toNatClampNeg) 0) ((1 : Int32).toNatClampNeg) 0) ((2 : Int32).toNatClampNeg) 0) ((3 : Int32).toNatClampNeg) 0) ((4 : Int32).toNatClampNeg) 0) ((5 : Int32).toNatClampNeg) 0)))) ∧ am_is H1 136 (.inr (3, [.int (Int32.ofNat h), .int (Int32.ofNat b), .ref 138, .ref 139, .ref 140, .int 0, .int 0, .int 0, .int 0, .int ((Int32.ofNat h) - 1), .int 96, .int 0, .int 0, .int 0, .int 0, .int 0, .int 0, .ref 137])) ∧ am_is H1 138 (.inl (.int, ((h * b), .inl (am_fll (fun _ => 0) 0 (h * b) 32)))) ∧ am_is H1 139 (.inl (.int, (h, .inl (fun _ => 0)))) ∧ am_is H1 140 (.inl (.boolean, (b, .inl (am_stp (fun _ => 0) b)))) ∧ True) ∧ H1.length = 141 ∧ ∀ j : Nat, j ≠ 136 → j < 137 → H1[j]? = H[j]?
set_option maxRecDepth 100000 in
theorem ci_30 {sL : Nat} {sx : Nat → Int32} {cs : Nat → Nat → Option Int32} {H : am_H} {h : Nat} {b : Nat} (hl : H.length = 137) (h136 : H[136]? = some (.inr (3, [.int 0, .int 0, .null, .null, .null, .int 0, .int 0, .int 0, .int 0, .int 0, .int 0, .int 0, .int 0, .int 0, .int 0, .int 0, .int 0, .null]))) (eg1 : am_near (Int32.ofNat h) 1 24 = Int32.ofNat h) (eg2 : am_near (Int32.ofNat b) 2 80 = Int32.ofNat b) (hp : ¬ Int32.ofNat h * Int32.ofNat b < 0) (hq : (Int32.ofNat h * Int32.ofNat b).toNatClampNeg = h * b) (hr : Nat.ble (h * b * 8) 536870912 = true) (hh1 : ¬ Int32.ofNat h < 0) (hh2 : (Int32.ofNat h).toNatClampNeg = h) (hh3 : Nat.ble (h * 8) 536870912 = true) (hb1 : ¬ Int32.ofNat b < 0) (hb2 : (Int32.ofNat b).toNatClampNeg = b) (hb3 : Nat.ble (b * 8) 536870912 = true) (hgt : h * b < 2 ^ 31) (hht : h < 2 ^ 31) (hbt : b < 2 ^ 31) (ez1 : am_near 0 0 (Int32.ofNat h - 1) = 0) (ez2 : am_near 0 0 (Int32.ofNat b - 1) = 0) (hi0 : ¬ ((0 : Int32) < 0 ∨ h ≤ (0 : Int32).toNatClampNeg)) :
    am_NW sL sx cs 12 0 [(0, .ref 136), (1, .int (Int32.ofNat h)), (2, .int (Int32.ofNat b))] [] H 0 0 none 4 ((((6 + (h * b)) + h) + b) + 0) (ci_30F h b H) := by
  refine en_s (am_nb (m := 4) (pc1 := 7) (ls1 := [(0, .ref 136), (1, .int (Int32.ofNat h)), (2, .int (Int32.ofNat b))]) (st1 := [.int 6, .ref 136]) (H1 := H) (k1 := 0) (n1 := 0) (by with_unfolding_all rfl)) ?_
  refine en_newa (N := 137) (m := 6) (ty := .int) rfl hl rfl (by decide) (by with_unfolding_all rfl) rfl rfl ?_
  intro H291 l291 f291 k291
  refine en_put rfl l291 ((k291 136 (Nat.le_of_ble_eq_true rfl : 136 < 137)).trans h136) rfl rfl rfl ?_
  intro H292 l292 f292 k292
  refine en_s (am_nb (m := 4) (pc1 := 17) (ls1 := [(0, .ref 136), (1, .int (Int32.ofNat h)), (2, .int (Int32.ofNat b))]) (st1 := [.int 24, .int 1, .int (Int32.ofNat h), .ref 136]) (H1 := H292) (k1 := 1) (n1 := 6) (by with_unfolding_all rfl)) ?_
  refine en_s (st_cs1 (as := [.int (Int32.ofNat h), .int 1, .int 24]) (rest := [.ref 136]) rfl (by decide) rfl rfl (by with_unfolding_all rfl) (by with_unfolding_all rfl) (nr_ok eg1)) ?_
  refine en_put rfl l292 f292 rfl rfl rfl ?_
  intro H293 l293 f293 k293
  refine en_s (am_nb (m := 4) (pc1 := 28) (ls1 := [(0, .ref 136), (1, .int (Int32.ofNat h)), (2, .int (Int32.ofNat b))]) (st1 := [.int 80, .int 2, .int (Int32.ofNat b), .ref 136]) (H1 := H293) (k1 := 1) (n1 := 6) (by with_unfolding_all rfl)) ?_
  refine en_s (st_cs1 (as := [.int (Int32.ofNat b), .int 2, .int 80]) (rest := [.ref 136]) rfl (by decide) rfl rfl (by with_unfolding_all rfl) (by with_unfolding_all rfl) (nr_ok eg2)) ?_
  refine en_put rfl l293 f293 rfl rfl rfl ?_
  intro H294 l294 f294 k294
  refine en_s (am_nb (m := 2) (pc1 := 36) (ls1 := [(0, .ref 136), (1, .int (Int32.ofNat h)), (2, .int (Int32.ofNat b))]) (st1 := [.ref 136, .ref 136]) (H1 := H294) (k1 := 1) (n1 := 6) (by with_unfolding_all rfl)) ?_
  refine en_s (st_get rfl f294 rfl) ?_
  refine en_s (am_nb (m := 1) (pc1 := 40) (ls1 := [(0, .ref 136), (1, .int (Int32.ofNat h)), (2, .int (Int32.ofNat b))]) (st1 := [.ref 136, .int (Int32.ofNat h), .ref 136]) (H1 := H294) (k1 := 1) (n1 := 6) (by with_unfolding_all rfl)) ?_
  refine en_s (st_get rfl f294 rfl) ?_
  refine en_s (am_nb (m := 1) (pc1 := 44) (ls1 := [(0, .ref 136), (1, .int (Int32.ofNat h)), (2, .int (Int32.ofNat b))]) (st1 := [.int ((Int32.ofNat h) * (Int32.ofNat b)), .ref 136]) (H1 := H294) (k1 := 1) (n1 := 6) (by with_unfolding_all rfl)) ?_
  refine en_newa (N := 138) (m := (h * b)) (ty := .int) rfl l294 rfl hp hq hr rfl ?_
  intro H295 l295 f295 k295
  refine en_put rfl l295 ((k295 136 (Nat.le_of_ble_eq_true rfl : 136 < 138)).trans f294) rfl rfl rfl ?_
  intro H296 l296 f296 k296
  refine en_s (am_nb (m := 2) (pc1 := 51) (ls1 := [(0, .ref 136), (1, .int (Int32.ofNat h)), (2, .int (Int32.ofNat b))]) (st1 := [.ref 136, .ref 136]) (H1 := H296) (k1 := 2) (n1 := (6 + (h * b))) (by with_unfolding_all rfl)) ?_
  refine en_s (st_get rfl f296 rfl) ?_
  refine en_newa (N := 139) (m := h) (ty := .int) rfl l296 rfl hh1 hh2 hh3 rfl ?_
  intro H297 l297 f297 k297
  refine en_put rfl l297 ((k297 136 (Nat.le_of_ble_eq_true rfl : 136 < 139)).trans f296) rfl rfl rfl ?_
  intro H298 l298 f298 k298
  refine en_s (am_nb (m := 2) (pc1 := 61) (ls1 := [(0, .ref 136), (1, .int (Int32.ofNat h)), (2, .int (Int32.ofNat b))]) (st1 := [.ref 136, .ref 136]) (H1 := H298) (k1 := 3) (n1 := ((6 + (h * b)) + h)) (by with_unfolding_all rfl)) ?_
  refine en_s (st_get rfl f298 rfl) ?_
  refine en_newa (N := 140) (m := b) (ty := .boolean) rfl l298 rfl hb1 hb2 hb3 rfl ?_
  intro H299 l299 f299 k299
  refine en_put rfl l299 ((k299 136 (Nat.le_of_ble_eq_true rfl : 136 < 140)).trans f298) rfl rfl rfl ?_
  intro H300 l300 f300 k300
  refine en_s (am_nb (m := 1) (pc1 := 70) (ls1 := [(0, .ref 136), (1, .int (Int32.ofNat h)), (2, .int (Int32.ofNat b))]) (st1 := [.ref 136]) (H1 := H300) (k1 := 4) (n1 := (((6 + (h * b)) + h) + b)) (by with_unfolding_all rfl)) ?_
  refine en_cv0 (as := []) (rest := []) rfl rfl rfl rfl f300 rfl (by with_unfolding_all rfl) (by with_unfolding_all rfl) (ci_31 l300 f300 ((k300 138 (Nat.ne_of_beq_eq_false rfl : 138 ≠ 136)).trans ((k299 138 (Nat.le_of_ble_eq_true rfl : 138 < 140)).trans ((k298 138 (Nat.ne_of_beq_eq_false rfl : 138 ≠ 136)).trans ((k297 138 (Nat.le_of_ble_eq_true rfl : 138 < 139)).trans ((k296 138 (Nat.ne_of_beq_eq_false rfl : 138 ≠ 136)).trans f295))))) ((k300 139 (Nat.ne_of_beq_eq_false rfl : 139 ≠ 136)).trans ((k299 139 (Nat.le_of_ble_eq_true rfl : 139 < 140)).trans ((k298 139 (Nat.ne_of_beq_eq_false rfl : 139 ≠ 136)).trans f297))) ((k300 140 (Nat.ne_of_beq_eq_false rfl : 140 ≠ 136)).trans f299) ((k300 137 (Nat.ne_of_beq_eq_false rfl : 137 ≠ 136)).trans ((k299 137 (Nat.le_of_ble_eq_true rfl : 137 < 140)).trans ((k298 137 (Nat.ne_of_beq_eq_false rfl : 137 ≠ 136)).trans ((k297 137 (Nat.le_of_ble_eq_true rfl : 137 < 139)).trans ((k296 137 (Nat.ne_of_beq_eq_false rfl : 137 ≠ 136)).trans ((k295 137 (Nat.le_of_ble_eq_true rfl : 137 < 138)).trans ((k294 137 (Nat.ne_of_beq_eq_false rfl : 137 ≠ 136)).trans ((k293 137 (Nat.ne_of_beq_eq_false rfl : 137 ≠ 136)).trans ((k292 137 (Nat.ne_of_beq_eq_false rfl : 137 ≠ 136)).trans f291))))))))) hgt hht hbt ez1 ez2 hi0) ?_
  rintro H323 ⟨⟨f323_138, f323_139, f323_140, f323_136, f323_137, -⟩, l323, k323⟩
  have K10 : ∀ j : Nat, j < 141 → j ≠ 136 → j ≠ 137 → j ≠ 138 → j ≠ 139 → j ≠ 140 → H323[j]? = H300[j]? := fun j hj n136 n137 n138 n139 n140 => (k323 j n136 n137 n138 n139 n140 hj)
  have K9 : ∀ j : Nat, j < 141 → j ≠ 136 → j ≠ 137 → j ≠ 138 → j ≠ 139 → j ≠ 140 → H323[j]? = H299[j]? := fun j hj n136 n137 n138 n139 n140 => (K10 j hj n136 n137 n138 n139 n140).trans (k300 j n136)
  have K8 : ∀ j : Nat, j < 140 → j ≠ 136 → j ≠ 137 → j ≠ 138 → j ≠ 139 → H323[j]? = H298[j]? := fun j hj n136 n137 n138 n139 => (K9 j (Nat.lt_of_lt_of_le hj (Nat.le_of_ble_eq_true rfl : 140 ≤ 141)) n136 n137 n138 n139 (Nat.ne_of_lt (Nat.lt_of_lt_of_le hj (Nat.le_of_ble_eq_true rfl : 140 ≤ 140)))).trans (k299 j hj)
  have K7 : ∀ j : Nat, j < 140 → j ≠ 136 → j ≠ 137 → j ≠ 138 → j ≠ 139 → H323[j]? = H297[j]? := fun j hj n136 n137 n138 n139 => (K8 j hj n136 n137 n138 n139).trans (k298 j n136)
  have K6 : ∀ j : Nat, j < 139 → j ≠ 136 → j ≠ 137 → j ≠ 138 → H323[j]? = H296[j]? := fun j hj n136 n137 n138 => (K7 j (Nat.lt_of_lt_of_le hj (Nat.le_of_ble_eq_true rfl : 139 ≤ 140)) n136 n137 n138 (Nat.ne_of_lt (Nat.lt_of_lt_of_le hj (Nat.le_of_ble_eq_true rfl : 139 ≤ 139)))).trans (k297 j hj)
  have K5 : ∀ j : Nat, j < 139 → j ≠ 136 → j ≠ 137 → j ≠ 138 → H323[j]? = H295[j]? := fun j hj n136 n137 n138 => (K6 j hj n136 n137 n138).trans (k296 j n136)
  have K4 : ∀ j : Nat, j < 138 → j ≠ 136 → j ≠ 137 → H323[j]? = H294[j]? := fun j hj n136 n137 => (K5 j (Nat.lt_of_lt_of_le hj (Nat.le_of_ble_eq_true rfl : 138 ≤ 139)) n136 n137 (Nat.ne_of_lt (Nat.lt_of_lt_of_le hj (Nat.le_of_ble_eq_true rfl : 138 ≤ 138)))).trans (k295 j hj)
  have K3 : ∀ j : Nat, j < 138 → j ≠ 136 → j ≠ 137 → H323[j]? = H293[j]? := fun j hj n136 n137 => (K4 j hj n136 n137).trans (k294 j n136)
  have K2 : ∀ j : Nat, j < 138 → j ≠ 136 → j ≠ 137 → H323[j]? = H292[j]? := fun j hj n136 n137 => (K3 j hj n136 n137).trans (k293 j n136)
  have K1 : ∀ j : Nat, j < 138 → j ≠ 136 → j ≠ 137 → H323[j]? = H291[j]? := fun j hj n136 n137 => (K2 j hj n136 n137).trans (k292 j n136)
  have K0 : ∀ j : Nat, j < 137 → j ≠ 136 → H323[j]? = H[j]? := fun j hj n136 => (K1 j (Nat.lt_of_lt_of_le hj (Nat.le_of_ble_eq_true rfl : 137 ≤ 138)) n136 (Nat.ne_of_lt (Nat.lt_of_lt_of_le hj (Nat.le_of_ble_eq_true rfl : 137 ≤ 137)))).trans (k291 j hj)
  exact en_r (st_vret rfl rfl) ⟨⟨f323_137, f323_136, f323_138, f323_139, f323_140, trivial⟩, l323, fun j n136 hj => K0 j hj n136⟩

def ci_27F (h : Nat) (b : Nat) (H H1 : am_H) : Prop := (am_is H1 130 (.inr (0, [.ref 131, .int 0, .int 0])) ∧ am_is H1 131 (.inl (.int, (64, .inl (fun _ => 0)))) ∧ am_is H1 129 (.inr (8, [.ref 136, .ref 130, .ref 132, .ref 134, .int 0, .int 0, .int 0, .int 0, .int 0, .int 0, .int 0, .ref 135, .int 0, .int 0, .int 0])) ∧ am_is H1 132 (.inr (0, [.ref 133, .int 0, .int 0])) ∧ am_is H1 133 (.inl (.int, (32, .inl (fun _ => 0)))) ∧ am_is H1 134 (.inl (.int, (32, .inl (fun _ => 0)))) ∧ am_is H1 135 (.inl (.int, (8, .inl (fun _ => 0)))) ∧ am_is H1 136 (.inr (3, [.int (Int32.ofNat h), .int (Int32.ofNat b), .ref 138, .ref 139, .ref 140, .int 0, .int 0, .int 0, .int 0, .int ((Int32.ofNat h) - 1), .int 96, .int 0, .int 0, .int 0, .int 0, .int 0, .int 0, .ref 137])) ∧ am_is H1 137 (.inl (.int, (6, .inl (upd (upd (upd (upd (upd (upd (fun _ => 0) ((0 : Int32).toNatClampNeg) 0) ((1 : Int32).toNatClampNeg) 0) ((2 : Int32).toNatClampNeg) 0) ((3 : Int32).toNatClampNeg) 0) ((4 : Int32).toNatClampNeg) 0) ((5 : Int32).toNatClampNeg) 0)))) ∧ am_is H1 138 (.inl (.int, ((h * b), .inl (am_fll (fun _ => 0) 0 (h * b) 32)))) ∧ am_is H1 139 (.inl (.int, (h, .inl (fun _ => 0)))) ∧ am_is H1 140 (.inl (.boolean, (b, .inl (am_stp (fun _ => 0) b)))) ∧ True) ∧ H1.length = 141 ∧ ∀ j : Nat, j ≠ 129 → j < 130 → H1[j]? = H[j]?
set_option maxRecDepth 100000 in
theorem ci_27 {sL : Nat} {sx : Nat → Int32} {cs : Nat → Nat → Option Int32} {H : am_H} {h : Nat} {b : Nat} (hl : H.length = 130) (h129 : H[129]? = some (.inr (8, [.null, .null, .null, .null, .int 0, .int 0, .int 0, .int 0, .int 0, .int 0, .int 0, .null, .int 0, .int 0, .int 0]))) (eg1 : am_near (Int32.ofNat h) 1 24 = Int32.ofNat h) (eg2 : am_near (Int32.ofNat b) 2 80 = Int32.ofNat b) (hp : ¬ Int32.ofNat h * Int32.ofNat b < 0) (hq : (Int32.ofNat h * Int32.ofNat b).toNatClampNeg = h * b) (hr : Nat.ble (h * b * 8) 536870912 = true) (hh1 : ¬ Int32.ofNat h < 0) (hh2 : (Int32.ofNat h).toNatClampNeg = h) (hh3 : Nat.ble (h * 8) 536870912 = true) (hb1 : ¬ Int32.ofNat b < 0) (hb2 : (Int32.ofNat b).toNatClampNeg = b) (hb3 : Nat.ble (b * 8) 536870912 = true) (hgt : h * b < 2 ^ 31) (hht : h < 2 ^ 31) (hbt : b < 2 ^ 31) (ez1 : am_near 0 0 (Int32.ofNat h - 1) = 0) (ez2 : am_near 0 0 (Int32.ofNat b - 1) = 0) (hi0 : ¬ ((0 : Int32) < 0 ∨ h ≤ (0 : Int32).toNatClampNeg)) :
    am_NW sL sx cs 11 0 [(0, .ref 129), (1, .int (Int32.ofNat h)), (2, .int (Int32.ofNat b))] [] H 0 0 none 11 (160 + ((((6 + (h * b)) + h) + b) + 0)) (ci_27F h b H) := by
  refine en_s (am_nb (m := 3) (pc1 := 5) (ls1 := [(0, .ref 129), (1, .int (Int32.ofNat h)), (2, .int (Int32.ofNat b))]) (st1 := [.ref 129]) (H1 := H) (k1 := 0) (n1 := 0) (by with_unfolding_all rfl)) ?_
  refine en_new (N := 130) (vs := [.null, .int 0, .int 0]) (ms := 3) rfl hl (by with_unfolding_all rfl) ?_
  intro H276 l276 f276 k276
  refine en_s (am_nb (m := 2) (pc1 := 11) (ls1 := [(0, .ref 129), (1, .int (Int32.ofNat h)), (2, .int (Int32.ofNat b))]) (st1 := [.int 64, .ref 130, .ref 130, .ref 129]) (H1 := H276) (k1 := 1) (n1 := 3) (by with_unfolding_all rfl)) ?_
  refine en_cv0 (as := [.int 64]) (rest := [.ref 130, .ref 129]) rfl rfl rfl rfl f276 rfl (by with_unfolding_all rfl) (by with_unfolding_all rfl) (ci_28 l276 f276) ?_
  rintro H279 ⟨⟨f279_131, f279_130, -⟩, l279, k279⟩
  refine en_put rfl l279 ((k279 129 (Nat.ne_of_beq_eq_false rfl : 129 ≠ 130) (Nat.le_of_ble_eq_true rfl : 129 < 131)).trans ((k276 129 (Nat.le_of_ble_eq_true rfl : 129 < 130)).trans h129)) rfl rfl rfl ?_
  intro H280 l280 f280 k280
  refine en_s (am_nb (m := 1) (pc1 := 18) (ls1 := [(0, .ref 129), (1, .int (Int32.ofNat h)), (2, .int (Int32.ofNat b))]) (st1 := [.ref 129]) (H1 := H280) (k1 := 2) (n1 := 67) (by with_unfolding_all rfl)) ?_
  refine en_new (N := 132) (vs := [.null, .int 0, .int 0]) (ms := 3) rfl l280 (by with_unfolding_all rfl) ?_
  intro H281 l281 f281 k281
  refine en_s (am_nb (m := 2) (pc1 := 24) (ls1 := [(0, .ref 129), (1, .int (Int32.ofNat h)), (2, .int (Int32.ofNat b))]) (st1 := [.int 32, .ref 132, .ref 132, .ref 129]) (H1 := H281) (k1 := 3) (n1 := 70) (by with_unfolding_all rfl)) ?_
  refine en_cv0 (as := [.int 32]) (rest := [.ref 132, .ref 129]) rfl rfl rfl rfl f281 rfl (by with_unfolding_all rfl) (by with_unfolding_all rfl) (ci_29 l281 f281) ?_
  rintro H284 ⟨⟨f284_133, f284_132, -⟩, l284, k284⟩
  refine en_put rfl l284 ((k284 129 (Nat.ne_of_beq_eq_false rfl : 129 ≠ 132) (Nat.le_of_ble_eq_true rfl : 129 < 133)).trans ((k281 129 (Nat.le_of_ble_eq_true rfl : 129 < 132)).trans f280)) rfl rfl rfl ?_
  intro H285 l285 f285 k285
  refine en_s (am_nb (m := 2) (pc1 := 33) (ls1 := [(0, .ref 129), (1, .int (Int32.ofNat h)), (2, .int (Int32.ofNat b))]) (st1 := [.int 32, .ref 129]) (H1 := H285) (k1 := 4) (n1 := 102) (by with_unfolding_all rfl)) ?_
  refine en_newa (N := 134) (m := 32) (ty := .int) rfl l285 rfl (by decide) (by with_unfolding_all rfl) rfl rfl ?_
  intro H286 l286 f286 k286
  refine en_put rfl l286 ((k286 129 (Nat.le_of_ble_eq_true rfl : 129 < 134)).trans f285) rfl rfl rfl ?_
  intro H287 l287 f287 k287
  refine en_s (am_nb (m := 2) (pc1 := 41) (ls1 := [(0, .ref 129), (1, .int (Int32.ofNat h)), (2, .int (Int32.ofNat b))]) (st1 := [.int 8, .ref 129]) (H1 := H287) (k1 := 5) (n1 := 134) (by with_unfolding_all rfl)) ?_
  refine en_newa (N := 135) (m := 8) (ty := .int) rfl l287 rfl (by decide) (by with_unfolding_all rfl) rfl rfl ?_
  intro H288 l288 f288 k288
  refine en_put rfl l288 ((k288 129 (Nat.le_of_ble_eq_true rfl : 129 < 135)).trans f287) rfl rfl rfl ?_
  intro H289 l289 f289 k289
  refine en_s (am_nb (m := 1) (pc1 := 47) (ls1 := [(0, .ref 129), (1, .int (Int32.ofNat h)), (2, .int (Int32.ofNat b))]) (st1 := [.ref 129]) (H1 := H289) (k1 := 6) (n1 := 142) (by with_unfolding_all rfl)) ?_
  refine en_new (N := 136) (vs := [.int 0, .int 0, .null, .null, .null, .int 0, .int 0, .int 0, .int 0, .int 0, .int 0, .int 0, .int 0, .int 0, .int 0, .int 0, .int 0, .null]) (ms := 18) rfl l289 (by with_unfolding_all rfl) ?_
  intro H290 l290 f290 k290
  refine en_s (am_nb (m := 3) (pc1 := 53) (ls1 := [(0, .ref 129), (1, .int (Int32.ofNat h)), (2, .int (Int32.ofNat b))]) (st1 := [.int (Int32.ofNat b), .int (Int32.ofNat h), .ref 136, .ref 136, .ref 129]) (H1 := H290) (k1 := 7) (n1 := 160) (by with_unfolding_all rfl)) ?_
  refine en_cv0 (as := [.int (Int32.ofNat h), .int (Int32.ofNat b)]) (rest := [.ref 136, .ref 129]) rfl rfl rfl rfl f290 rfl (by with_unfolding_all rfl) (by with_unfolding_all rfl) (ci_30 l290 f290 eg1 eg2 hp hq hr hh1 hh2 hh3 hb1 hb2 hb3 hgt hht hbt ez1 ez2 hi0) ?_
  rintro H324 ⟨⟨f324_137, f324_136, f324_138, f324_139, f324_140, -⟩, l324, k324⟩
  refine en_put rfl l324 ((k324 129 (Nat.ne_of_beq_eq_false rfl : 129 ≠ 136) (Nat.le_of_ble_eq_true rfl : 129 < 137)).trans ((k290 129 (Nat.le_of_ble_eq_true rfl : 129 < 136)).trans f289)) rfl rfl rfl ?_
  intro H325 l325 f325 k325
  have K12 : ∀ j : Nat, j < 141 → j ≠ 129 → H325[j]? = H324[j]? := fun j hj n129 => (k325 j n129)
  have K11 : ∀ j : Nat, j < 137 → j ≠ 129 → j ≠ 136 → H325[j]? = H290[j]? := fun j hj n129 n136 => (K12 j (Nat.lt_of_lt_of_le hj (Nat.le_of_ble_eq_true rfl : 137 ≤ 141)) n129).trans (k324 j n136 hj)
  have K10 : ∀ j : Nat, j < 136 → j ≠ 129 → H325[j]? = H289[j]? := fun j hj n129 => (K11 j (Nat.lt_of_lt_of_le hj (Nat.le_of_ble_eq_true rfl : 136 ≤ 137)) n129 (Nat.ne_of_lt (Nat.lt_of_lt_of_le hj (Nat.le_of_ble_eq_true rfl : 136 ≤ 136)))).trans (k290 j hj)
  have K9 : ∀ j : Nat, j < 136 → j ≠ 129 → H325[j]? = H288[j]? := fun j hj n129 => (K10 j hj n129).trans (k289 j n129)
  have K8 : ∀ j : Nat, j < 135 → j ≠ 129 → H325[j]? = H287[j]? := fun j hj n129 => (K9 j (Nat.lt_of_lt_of_le hj (Nat.le_of_ble_eq_true rfl : 135 ≤ 136)) n129).trans (k288 j hj)
  have K7 : ∀ j : Nat, j < 135 → j ≠ 129 → H325[j]? = H286[j]? := fun j hj n129 => (K8 j hj n129).trans (k287 j n129)
  have K6 : ∀ j : Nat, j < 134 → j ≠ 129 → H325[j]? = H285[j]? := fun j hj n129 => (K7 j (Nat.lt_of_lt_of_le hj (Nat.le_of_ble_eq_true rfl : 134 ≤ 135)) n129).trans (k286 j hj)
  have K5 : ∀ j : Nat, j < 134 → j ≠ 129 → H325[j]? = H284[j]? := fun j hj n129 => (K6 j hj n129).trans (k285 j n129)
  have K4 : ∀ j : Nat, j < 133 → j ≠ 129 → j ≠ 132 → H325[j]? = H281[j]? := fun j hj n129 n132 => (K5 j (Nat.lt_of_lt_of_le hj (Nat.le_of_ble_eq_true rfl : 133 ≤ 134)) n129).trans (k284 j n132 hj)
  have K3 : ∀ j : Nat, j < 132 → j ≠ 129 → H325[j]? = H280[j]? := fun j hj n129 => (K4 j (Nat.lt_of_lt_of_le hj (Nat.le_of_ble_eq_true rfl : 132 ≤ 133)) n129 (Nat.ne_of_lt (Nat.lt_of_lt_of_le hj (Nat.le_of_ble_eq_true rfl : 132 ≤ 132)))).trans (k281 j hj)
  have K2 : ∀ j : Nat, j < 132 → j ≠ 129 → H325[j]? = H279[j]? := fun j hj n129 => (K3 j hj n129).trans (k280 j n129)
  have K1 : ∀ j : Nat, j < 131 → j ≠ 129 → j ≠ 130 → H325[j]? = H276[j]? := fun j hj n129 n130 => (K2 j (Nat.lt_of_lt_of_le hj (Nat.le_of_ble_eq_true rfl : 131 ≤ 132)) n129).trans (k279 j n130 hj)
  have K0 : ∀ j : Nat, j < 130 → j ≠ 129 → H325[j]? = H[j]? := fun j hj n129 => (K1 j (Nat.lt_of_lt_of_le hj (Nat.le_of_ble_eq_true rfl : 130 ≤ 131)) n129 (Nat.ne_of_lt (Nat.lt_of_lt_of_le hj (Nat.le_of_ble_eq_true rfl : 130 ≤ 130)))).trans (k276 j hj)
  exact en_r (st_vret rfl rfl) ⟨⟨((K2 130 (Nat.le_of_ble_eq_true rfl : 130 < 132) (Nat.ne_of_beq_eq_false rfl : 130 ≠ 129)).trans f279_130), ((K2 131 (Nat.le_of_ble_eq_true rfl : 131 < 132) (Nat.ne_of_beq_eq_false rfl : 131 ≠ 129)).trans f279_131), f325, ((K5 132 (Nat.le_of_ble_eq_true rfl : 132 < 134) (Nat.ne_of_beq_eq_false rfl : 132 ≠ 129)).trans f284_132), ((K5 133 (Nat.le_of_ble_eq_true rfl : 133 < 134) (Nat.ne_of_beq_eq_false rfl : 133 ≠ 129)).trans f284_133), ((K7 134 (Nat.le_of_ble_eq_true rfl : 134 < 135) (Nat.ne_of_beq_eq_false rfl : 134 ≠ 129)).trans f286), ((K9 135 (Nat.le_of_ble_eq_true rfl : 135 < 136) (Nat.ne_of_beq_eq_false rfl : 135 ≠ 129)).trans f288), ((K12 136 (Nat.le_of_ble_eq_true rfl : 136 < 141) (Nat.ne_of_beq_eq_false rfl : 136 ≠ 129)).trans f324_136), ((K12 137 (Nat.le_of_ble_eq_true rfl : 137 < 141) (Nat.ne_of_beq_eq_false rfl : 137 ≠ 129)).trans f324_137), ((K12 138 (Nat.le_of_ble_eq_true rfl : 138 < 141) (Nat.ne_of_beq_eq_false rfl : 138 ≠ 129)).trans f324_138), ((K12 139 (Nat.le_of_ble_eq_true rfl : 139 < 141) (Nat.ne_of_beq_eq_false rfl : 139 ≠ 129)).trans f324_139), ((K12 140 (Nat.le_of_ble_eq_true rfl : 140 < 141) (Nat.ne_of_beq_eq_false rfl : 140 ≠ 129)).trans f324_140), trivial⟩, l325, fun j n129 hj => K0 j hj n129⟩

def ci_35F  (H H1 : am_H) : Prop := (am_is H1 142 (.inl (.int, (1920, .inl (fun _ => 0)))) ∧ am_is H1 141 (.inr (9, [.ref 142, .int 0, .int 0, .int 0, .int 0, .int 0, .int 0, .int 0, .int 0, .int 0])) ∧ True) ∧ H1.length = 143 ∧ ∀ j : Nat, j ≠ 141 → j < 142 → H1[j]? = H[j]?
set_option maxRecDepth 100000 in
theorem ci_35 {sL : Nat} {sx : Nat → Int32} {cs : Nat → Nat → Option Int32} {H : am_H}  (hl : H.length = 142) (h141 : H[141]? = some (.inr (9, [.null, .int 0, .int 0, .int 0, .int 0, .int 0, .int 0, .int 0, .int 0, .int 0]))) :
    am_NW sL sx cs 5 0 [(0, .ref 141)] [] H 0 0 none 1 1920 (ci_35F H) := by
  refine en_s (am_nb (m := 4) (pc1 := 8) (ls1 := [(0, .ref 141)]) (st1 := [.int 1920, .ref 141]) (H1 := H) (k1 := 0) (n1 := 0) (by with_unfolding_all rfl)) ?_
  refine en_newa (N := 142) (m := 1920) (ty := .int) rfl hl rfl (by decide) (by with_unfolding_all rfl) rfl rfl ?_
  intro H330 l330 f330 k330
  refine en_put rfl l330 ((k330 141 (Nat.le_of_ble_eq_true rfl : 141 < 142)).trans h141) rfl rfl rfl ?_
  intro H331 l331 f331 k331
  have K1 : ∀ j : Nat, j < 143 → j ≠ 141 → H331[j]? = H330[j]? := fun j hj n141 => (k331 j n141)
  have K0 : ∀ j : Nat, j < 142 → j ≠ 141 → H331[j]? = H[j]? := fun j hj n141 => (K1 j (Nat.lt_of_lt_of_le hj (Nat.le_of_ble_eq_true rfl : 142 ≤ 143)) n141).trans (k330 j hj)
  exact en_r (st_vret rfl rfl) ⟨⟨((K1 142 (Nat.le_of_ble_eq_true rfl : 142 < 143) (Nat.ne_of_beq_eq_false rfl : 142 ≠ 141)).trans f330), f331, trivial⟩, l331, fun j n141 hj => K0 j hj n141⟩

def ci_36F  (H H1 : am_H) : Prop := (am_is H1 144 (.inl (.int, (1920, .inl (fun _ => 0)))) ∧ am_is H1 143 (.inr (9, [.ref 144, .int 0, .int 0, .int 0, .int 0, .int 0, .int 0, .int 0, .int 0, .int 0])) ∧ True) ∧ H1.length = 145 ∧ ∀ j : Nat, j ≠ 143 → j < 144 → H1[j]? = H[j]?
set_option maxRecDepth 100000 in
theorem ci_36 {sL : Nat} {sx : Nat → Int32} {cs : Nat → Nat → Option Int32} {H : am_H}  (hl : H.length = 144) (h143 : H[143]? = some (.inr (9, [.null, .int 0, .int 0, .int 0, .int 0, .int 0, .int 0, .int 0, .int 0, .int 0]))) :
    am_NW sL sx cs 5 0 [(0, .ref 143)] [] H 0 0 none 1 1920 (ci_36F H) := by
  refine en_s (am_nb (m := 4) (pc1 := 8) (ls1 := [(0, .ref 143)]) (st1 := [.int 1920, .ref 143]) (H1 := H) (k1 := 0) (n1 := 0) (by with_unfolding_all rfl)) ?_
  refine en_newa (N := 144) (m := 1920) (ty := .int) rfl hl rfl (by decide) (by with_unfolding_all rfl) rfl rfl ?_
  intro H335 l335 f335 k335
  refine en_put rfl l335 ((k335 143 (Nat.le_of_ble_eq_true rfl : 143 < 144)).trans h143) rfl rfl rfl ?_
  intro H336 l336 f336 k336
  have K1 : ∀ j : Nat, j < 145 → j ≠ 143 → H336[j]? = H335[j]? := fun j hj n143 => (k336 j n143)
  have K0 : ∀ j : Nat, j < 144 → j ≠ 143 → H336[j]? = H[j]? := fun j hj n143 => (K1 j (Nat.lt_of_lt_of_le hj (Nat.le_of_ble_eq_true rfl : 144 ≤ 145)) n143).trans (k335 j hj)
  exact en_r (st_vret rfl rfl) ⟨⟨((K1 144 (Nat.le_of_ble_eq_true rfl : 144 < 145) (Nat.ne_of_beq_eq_false rfl : 144 ≠ 143)).trans f335), f336, trivial⟩, l336, fun j n143 hj => K0 j hj n143⟩

def ci_37F  (H H1 : am_H) : Prop := (am_is H1 146 (.inl (.int, (1920, .inl (fun _ => 0)))) ∧ am_is H1 145 (.inr (9, [.ref 146, .int 0, .int 0, .int 0, .int 0, .int 0, .int 0, .int 0, .int 0, .int 0])) ∧ True) ∧ H1.length = 147 ∧ ∀ j : Nat, j ≠ 145 → j < 146 → H1[j]? = H[j]?
set_option maxRecDepth 100000 in
theorem ci_37 {sL : Nat} {sx : Nat → Int32} {cs : Nat → Nat → Option Int32} {H : am_H}  (hl : H.length = 146) (h145 : H[145]? = some (.inr (9, [.null, .int 0, .int 0, .int 0, .int 0, .int 0, .int 0, .int 0, .int 0, .int 0]))) :
    am_NW sL sx cs 5 0 [(0, .ref 145)] [] H 0 0 none 1 1920 (ci_37F H) := by
  refine en_s (am_nb (m := 4) (pc1 := 8) (ls1 := [(0, .ref 145)]) (st1 := [.int 1920, .ref 145]) (H1 := H) (k1 := 0) (n1 := 0) (by with_unfolding_all rfl)) ?_
  refine en_newa (N := 146) (m := 1920) (ty := .int) rfl hl rfl (by decide) (by with_unfolding_all rfl) rfl rfl ?_
  intro H340 l340 f340 k340
  refine en_put rfl l340 ((k340 145 (Nat.le_of_ble_eq_true rfl : 145 < 146)).trans h145) rfl rfl rfl ?_
  intro H341 l341 f341 k341
  have K1 : ∀ j : Nat, j < 147 → j ≠ 145 → H341[j]? = H340[j]? := fun j hj n145 => (k341 j n145)
  have K0 : ∀ j : Nat, j < 146 → j ≠ 145 → H341[j]? = H[j]? := fun j hj n145 => (K1 j (Nat.lt_of_lt_of_le hj (Nat.le_of_ble_eq_true rfl : 146 ≤ 147)) n145).trans (k340 j hj)
  exact en_r (st_vret rfl rfl) ⟨⟨((K1 146 (Nat.le_of_ble_eq_true rfl : 146 < 147) (Nat.ne_of_beq_eq_false rfl : 146 ≠ 145)).trans f340), f341, trivial⟩, l341, fun j n145 hj => K0 j hj n145⟩

def ci_38F  (H H1 : am_H) : Prop := (am_is H1 148 (.inl (.int, (1920, .inl (fun _ => 0)))) ∧ am_is H1 147 (.inr (9, [.ref 148, .int 0, .int 0, .int 0, .int 0, .int 0, .int 0, .int 0, .int 0, .int 0])) ∧ True) ∧ H1.length = 149 ∧ ∀ j : Nat, j ≠ 147 → j < 148 → H1[j]? = H[j]?
set_option maxRecDepth 100000 in
theorem ci_38 {sL : Nat} {sx : Nat → Int32} {cs : Nat → Nat → Option Int32} {H : am_H}  (hl : H.length = 148) (h147 : H[147]? = some (.inr (9, [.null, .int 0, .int 0, .int 0, .int 0, .int 0, .int 0, .int 0, .int 0, .int 0]))) :
    am_NW sL sx cs 5 0 [(0, .ref 147)] [] H 0 0 none 1 1920 (ci_38F H) := by
  refine en_s (am_nb (m := 4) (pc1 := 8) (ls1 := [(0, .ref 147)]) (st1 := [.int 1920, .ref 147]) (H1 := H) (k1 := 0) (n1 := 0) (by with_unfolding_all rfl)) ?_
  refine en_newa (N := 148) (m := 1920) (ty := .int) rfl hl rfl (by decide) (by with_unfolding_all rfl) rfl rfl ?_
  intro H345 l345 f345 k345
  refine en_put rfl l345 ((k345 147 (Nat.le_of_ble_eq_true rfl : 147 < 148)).trans h147) rfl rfl rfl ?_
  intro H346 l346 f346 k346
  have K1 : ∀ j : Nat, j < 149 → j ≠ 147 → H346[j]? = H345[j]? := fun j hj n147 => (k346 j n147)
  have K0 : ∀ j : Nat, j < 148 → j ≠ 147 → H346[j]? = H[j]? := fun j hj n147 => (K1 j (Nat.lt_of_lt_of_le hj (Nat.le_of_ble_eq_true rfl : 148 ≤ 149)) n147).trans (k345 j hj)
  exact en_r (st_vret rfl rfl) ⟨⟨((K1 148 (Nat.le_of_ble_eq_true rfl : 148 < 149) (Nat.ne_of_beq_eq_false rfl : 148 ≠ 147)).trans f345), f346, trivial⟩, l346, fun j n147 hj => K0 j hj n147⟩

def ci_39F  (H H1 : am_H) : Prop := (am_is H1 150 (.inl (.int, (1920, .inl (fun _ => 0)))) ∧ am_is H1 149 (.inr (9, [.ref 150, .int 0, .int 0, .int 0, .int 0, .int 0, .int 0, .int 0, .int 0, .int 0])) ∧ True) ∧ H1.length = 151 ∧ ∀ j : Nat, j ≠ 149 → j < 150 → H1[j]? = H[j]?
set_option maxRecDepth 100000 in
theorem ci_39 {sL : Nat} {sx : Nat → Int32} {cs : Nat → Nat → Option Int32} {H : am_H}  (hl : H.length = 150) (h149 : H[149]? = some (.inr (9, [.null, .int 0, .int 0, .int 0, .int 0, .int 0, .int 0, .int 0, .int 0, .int 0]))) :
    am_NW sL sx cs 5 0 [(0, .ref 149)] [] H 0 0 none 1 1920 (ci_39F H) := by
  refine en_s (am_nb (m := 4) (pc1 := 8) (ls1 := [(0, .ref 149)]) (st1 := [.int 1920, .ref 149]) (H1 := H) (k1 := 0) (n1 := 0) (by with_unfolding_all rfl)) ?_
  refine en_newa (N := 150) (m := 1920) (ty := .int) rfl hl rfl (by decide) (by with_unfolding_all rfl) rfl rfl ?_
  intro H350 l350 f350 k350
  refine en_put rfl l350 ((k350 149 (Nat.le_of_ble_eq_true rfl : 149 < 150)).trans h149) rfl rfl rfl ?_
  intro H351 l351 f351 k351
  have K1 : ∀ j : Nat, j < 151 → j ≠ 149 → H351[j]? = H350[j]? := fun j hj n149 => (k351 j n149)
  have K0 : ∀ j : Nat, j < 150 → j ≠ 149 → H351[j]? = H[j]? := fun j hj n149 => (K1 j (Nat.lt_of_lt_of_le hj (Nat.le_of_ble_eq_true rfl : 150 ≤ 151)) n149).trans (k350 j hj)
  exact en_r (st_vret rfl rfl) ⟨⟨((K1 150 (Nat.le_of_ble_eq_true rfl : 150 < 151) (Nat.ne_of_beq_eq_false rfl : 150 ≠ 149)).trans f350), f351, trivial⟩, l351, fun j n149 hj => K0 j hj n149⟩

def ci_40F  (H H1 : am_H) : Prop := (am_is H1 152 (.inl (.int, (1920, .inl (fun _ => 0)))) ∧ am_is H1 151 (.inr (9, [.ref 152, .int 0, .int 0, .int 0, .int 0, .int 0, .int 0, .int 0, .int 0, .int 0])) ∧ True) ∧ H1.length = 153 ∧ ∀ j : Nat, j ≠ 151 → j < 152 → H1[j]? = H[j]?
set_option maxRecDepth 100000 in
theorem ci_40 {sL : Nat} {sx : Nat → Int32} {cs : Nat → Nat → Option Int32} {H : am_H}  (hl : H.length = 152) (h151 : H[151]? = some (.inr (9, [.null, .int 0, .int 0, .int 0, .int 0, .int 0, .int 0, .int 0, .int 0, .int 0]))) :
    am_NW sL sx cs 5 0 [(0, .ref 151)] [] H 0 0 none 1 1920 (ci_40F H) := by
  refine en_s (am_nb (m := 4) (pc1 := 8) (ls1 := [(0, .ref 151)]) (st1 := [.int 1920, .ref 151]) (H1 := H) (k1 := 0) (n1 := 0) (by with_unfolding_all rfl)) ?_
  refine en_newa (N := 152) (m := 1920) (ty := .int) rfl hl rfl (by decide) (by with_unfolding_all rfl) rfl rfl ?_
  intro H355 l355 f355 k355
  refine en_put rfl l355 ((k355 151 (Nat.le_of_ble_eq_true rfl : 151 < 152)).trans h151) rfl rfl rfl ?_
  intro H356 l356 f356 k356
  have K1 : ∀ j : Nat, j < 153 → j ≠ 151 → H356[j]? = H355[j]? := fun j hj n151 => (k356 j n151)
  have K0 : ∀ j : Nat, j < 152 → j ≠ 151 → H356[j]? = H[j]? := fun j hj n151 => (K1 j (Nat.lt_of_lt_of_le hj (Nat.le_of_ble_eq_true rfl : 152 ≤ 153)) n151).trans (k355 j hj)
  exact en_r (st_vret rfl rfl) ⟨⟨((K1 152 (Nat.le_of_ble_eq_true rfl : 152 < 153) (Nat.ne_of_beq_eq_false rfl : 152 ≠ 151)).trans f355), f356, trivial⟩, l356, fun j n151 hj => K0 j hj n151⟩

def ci_41F  (H H1 : am_H) : Prop := (am_is H1 154 (.inl (.int, (1920, .inl (fun _ => 0)))) ∧ am_is H1 153 (.inr (9, [.ref 154, .int 0, .int 0, .int 0, .int 0, .int 0, .int 0, .int 0, .int 0, .int 0])) ∧ True) ∧ H1.length = 155 ∧ ∀ j : Nat, j ≠ 153 → j < 154 → H1[j]? = H[j]?
set_option maxRecDepth 100000 in
theorem ci_41 {sL : Nat} {sx : Nat → Int32} {cs : Nat → Nat → Option Int32} {H : am_H}  (hl : H.length = 154) (h153 : H[153]? = some (.inr (9, [.null, .int 0, .int 0, .int 0, .int 0, .int 0, .int 0, .int 0, .int 0, .int 0]))) :
    am_NW sL sx cs 5 0 [(0, .ref 153)] [] H 0 0 none 1 1920 (ci_41F H) := by
  refine en_s (am_nb (m := 4) (pc1 := 8) (ls1 := [(0, .ref 153)]) (st1 := [.int 1920, .ref 153]) (H1 := H) (k1 := 0) (n1 := 0) (by with_unfolding_all rfl)) ?_
  refine en_newa (N := 154) (m := 1920) (ty := .int) rfl hl rfl (by decide) (by with_unfolding_all rfl) rfl rfl ?_
  intro H360 l360 f360 k360
  refine en_put rfl l360 ((k360 153 (Nat.le_of_ble_eq_true rfl : 153 < 154)).trans h153) rfl rfl rfl ?_
  intro H361 l361 f361 k361
  have K1 : ∀ j : Nat, j < 155 → j ≠ 153 → H361[j]? = H360[j]? := fun j hj n153 => (k361 j n153)
  have K0 : ∀ j : Nat, j < 154 → j ≠ 153 → H361[j]? = H[j]? := fun j hj n153 => (K1 j (Nat.lt_of_lt_of_le hj (Nat.le_of_ble_eq_true rfl : 154 ≤ 155)) n153).trans (k360 j hj)
  exact en_r (st_vret rfl rfl) ⟨⟨((K1 154 (Nat.le_of_ble_eq_true rfl : 154 < 155) (Nat.ne_of_beq_eq_false rfl : 154 ≠ 153)).trans f360), f361, trivial⟩, l361, fun j n153 hj => K0 j hj n153⟩

def ci_42F  (H H1 : am_H) : Prop := (am_is H1 156 (.inl (.int, (1920, .inl (fun _ => 0)))) ∧ am_is H1 155 (.inr (9, [.ref 156, .int 0, .int 0, .int 0, .int 0, .int 0, .int 0, .int 0, .int 0, .int 0])) ∧ True) ∧ H1.length = 157 ∧ ∀ j : Nat, j ≠ 155 → j < 156 → H1[j]? = H[j]?
set_option maxRecDepth 100000 in
theorem ci_42 {sL : Nat} {sx : Nat → Int32} {cs : Nat → Nat → Option Int32} {H : am_H}  (hl : H.length = 156) (h155 : H[155]? = some (.inr (9, [.null, .int 0, .int 0, .int 0, .int 0, .int 0, .int 0, .int 0, .int 0, .int 0]))) :
    am_NW sL sx cs 5 0 [(0, .ref 155)] [] H 0 0 none 1 1920 (ci_42F H) := by
  refine en_s (am_nb (m := 4) (pc1 := 8) (ls1 := [(0, .ref 155)]) (st1 := [.int 1920, .ref 155]) (H1 := H) (k1 := 0) (n1 := 0) (by with_unfolding_all rfl)) ?_
  refine en_newa (N := 156) (m := 1920) (ty := .int) rfl hl rfl (by decide) (by with_unfolding_all rfl) rfl rfl ?_
  intro H365 l365 f365 k365
  refine en_put rfl l365 ((k365 155 (Nat.le_of_ble_eq_true rfl : 155 < 156)).trans h155) rfl rfl rfl ?_
  intro H366 l366 f366 k366
  have K1 : ∀ j : Nat, j < 157 → j ≠ 155 → H366[j]? = H365[j]? := fun j hj n155 => (k366 j n155)
  have K0 : ∀ j : Nat, j < 156 → j ≠ 155 → H366[j]? = H[j]? := fun j hj n155 => (K1 j (Nat.lt_of_lt_of_le hj (Nat.le_of_ble_eq_true rfl : 156 ≤ 157)) n155).trans (k365 j hj)
  exact en_r (st_vret rfl rfl) ⟨⟨((K1 156 (Nat.le_of_ble_eq_true rfl : 156 < 157) (Nat.ne_of_beq_eq_false rfl : 156 ≠ 155)).trans f365), f366, trivial⟩, l366, fun j n155 hj => K0 j hj n155⟩

def ci_1F (v3 : Int32) (h : Nat) (b : Nat) (H H1 : am_H) : Prop := (am_is H1 1 (.inl (.int, (3000, .inl (fun _ => 0)))) ∧ am_is H1 0 (.inr (11, [.ref 1, .int 0, .ref 2, .int 0, .ref 3, .ref 93, .ref 97, .ref 115, .ref 116, .ref 129, .ref 123, .ref 127, .ref 128, .int v3, .null, .int 0])) ∧ am_is H1 2 (.inl (.int, (300, .inl (fun _ => 0)))) ∧ am_is H1 3 (.inr (7, [.ref 4, .int 0, .int 0, .int (-1), .ref 5, .int 0, .int 0, .int 0, .null, .ref 6, .ref 7, .int 0, .ref 8, .int 0])) ∧ am_is H1 4 (.inl ((.object "TerminalHouse$Entry"), (12, .inr (.inr (.inr (.inr (am_lg [some 9, some 16, some 23, some 30, some 37, some 44, some 51, some 58, some 65, some 72, some 79, some 86]))))))) ∧ am_is H1 5 (.inl (.int, (0, .inl (fun _ => 0)))) ∧ am_is H1 6 (.inl (.boolean, (39, .inl (fun _ => 0)))) ∧ am_is H1 7 (.inl (.int, (4, .inl (fun _ => 0)))) ∧ am_is H1 8 (.inl (.int, (40, .inl (fun _ => 0)))) ∧ am_is H1 9 (.inr (2, [.ref 10, .ref 11, .int 0, .ref 12, .ref 13, .ref 14, .ref 15])) ∧ am_is H1 10 (.inl (.int, (48, .inl (fun _ => 0)))) ∧ am_is H1 11 (.inl (.int, (4, .inl (fun _ => 0)))) ∧ am_is H1 12 (.inl (.boolean, (39, .inl (fun _ => 0)))) ∧ am_is H1 13 (.inl (.int, (6, .inl (fun _ => 0)))) ∧ am_is H1 14 (.inl (.int, (1320, .inl (fun _ => 0)))) ∧ am_is H1 15 (.inl (.int, (33, .inl (fun _ => 0)))) ∧ am_is H1 16 (.inr (2, [.ref 17, .ref 18, .int 0, .ref 19, .ref 20, .ref 21, .ref 22])) ∧ am_is H1 17 (.inl (.int, (48, .inl (fun _ => 0)))) ∧ am_is H1 18 (.inl (.int, (4, .inl (fun _ => 0)))) ∧ am_is H1 19 (.inl (.boolean, (39, .inl (fun _ => 0)))) ∧ am_is H1 20 (.inl (.int, (6, .inl (fun _ => 0)))) ∧ am_is H1 21 (.inl (.int, (1320, .inl (fun _ => 0)))) ∧ am_is H1 22 (.inl (.int, (33, .inl (fun _ => 0)))) ∧ am_is H1 23 (.inr (2, [.ref 24, .ref 25, .int 0, .ref 26, .ref 27, .ref 28, .ref 29])) ∧ am_is H1 24 (.inl (.int, (48, .inl (fun _ => 0)))) ∧ am_is H1 25 (.inl (.int, (4, .inl (fun _ => 0)))) ∧ am_is H1 26 (.inl (.boolean, (39, .inl (fun _ => 0)))) ∧ am_is H1 27 (.inl (.int, (6, .inl (fun _ => 0)))) ∧ am_is H1 28 (.inl (.int, (1320, .inl (fun _ => 0)))) ∧ am_is H1 29 (.inl (.int, (33, .inl (fun _ => 0)))) ∧ am_is H1 30 (.inr (2, [.ref 31, .ref 32, .int 0, .ref 33, .ref 34, .ref 35, .ref 36])) ∧ am_is H1 31 (.inl (.int, (48, .inl (fun _ => 0)))) ∧ am_is H1 32 (.inl (.int, (4, .inl (fun _ => 0)))) ∧ am_is H1 33 (.inl (.boolean, (39, .inl (fun _ => 0)))) ∧ am_is H1 34 (.inl (.int, (6, .inl (fun _ => 0)))) ∧ am_is H1 35 (.inl (.int, (1320, .inl (fun _ => 0)))) ∧ am_is H1 36 (.inl (.int, (33, .inl (fun _ => 0)))) ∧ am_is H1 37 (.inr (2, [.ref 38, .ref 39, .int 0, .ref 40, .ref 41, .ref 42, .ref 43])) ∧ am_is H1 38 (.inl (.int, (48, .inl (fun _ => 0)))) ∧ am_is H1 39 (.inl (.int, (4, .inl (fun _ => 0)))) ∧ am_is H1 40 (.inl (.boolean, (39, .inl (fun _ => 0)))) ∧ am_is H1 41 (.inl (.int, (6, .inl (fun _ => 0)))) ∧ am_is H1 42 (.inl (.int, (1320, .inl (fun _ => 0)))) ∧ am_is H1 43 (.inl (.int, (33, .inl (fun _ => 0)))) ∧ am_is H1 44 (.inr (2, [.ref 45, .ref 46, .int 0, .ref 47, .ref 48, .ref 49, .ref 50])) ∧ am_is H1 45 (.inl (.int, (48, .inl (fun _ => 0)))) ∧ am_is H1 46 (.inl (.int, (4, .inl (fun _ => 0)))) ∧ am_is H1 47 (.inl (.boolean, (39, .inl (fun _ => 0)))) ∧ am_is H1 48 (.inl (.int, (6, .inl (fun _ => 0)))) ∧ am_is H1 49 (.inl (.int, (1320, .inl (fun _ => 0)))) ∧ am_is H1 50 (.inl (.int, (33, .inl (fun _ => 0)))) ∧ am_is H1 51 (.inr (2, [.ref 52, .ref 53, .int 0, .ref 54, .ref 55, .ref 56, .ref 57])) ∧ am_is H1 52 (.inl (.int, (48, .inl (fun _ => 0)))) ∧ am_is H1 53 (.inl (.int, (4, .inl (fun _ => 0)))) ∧ am_is H1 54 (.inl (.boolean, (39, .inl (fun _ => 0)))) ∧ am_is H1 55 (.inl (.int, (6, .inl (fun _ => 0)))) ∧ am_is H1 56 (.inl (.int, (1320, .inl (fun _ => 0)))) ∧ am_is H1 57 (.inl (.int, (33, .inl (fun _ => 0)))) ∧ am_is H1 58 (.inr (2, [.ref 59, .ref 60, .int 0, .ref 61, .ref 62, .ref 63, .ref 64])) ∧ am_is H1 59 (.inl (.int, (48, .inl (fun _ => 0)))) ∧ am_is H1 60 (.inl (.int, (4, .inl (fun _ => 0)))) ∧ am_is H1 61 (.inl (.boolean, (39, .inl (fun _ => 0)))) ∧ am_is H1 62 (.inl (.int, (6, .inl (fun _ => 0)))) ∧ am_is H1 63 (.inl (.int, (1320, .inl (fun _ => 0)))) ∧ am_is H1 64 (.inl (.int, (33, .inl (fun _ => 0)))) ∧ am_is H1 65 (.inr (2, [.ref 66, .ref 67, .int 0, .ref 68, .ref 69, .ref 70, .ref 71])) ∧ am_is H1 66 (.inl (.int, (48, .inl (fun _ => 0)))) ∧ am_is H1 67 (.inl (.int, (4, .inl (fun _ => 0)))) ∧ am_is H1 68 (.inl (.boolean, (39, .inl (fun _ => 0)))) ∧ am_is H1 69 (.inl (.int, (6, .inl (fun _ => 0)))) ∧ am_is H1 70 (.inl (.int, (1320, .inl (fun _ => 0)))) ∧ am_is H1 71 (.inl (.int, (33, .inl (fun _ => 0)))) ∧ am_is H1 72 (.inr (2, [.ref 73, .ref 74, .int 0, .ref 75, .ref 76, .ref 77, .ref 78])) ∧ am_is H1 73 (.inl (.int, (48, .inl (fun _ => 0)))) ∧ am_is H1 74 (.inl (.int, (4, .inl (fun _ => 0)))) ∧ am_is H1 75 (.inl (.boolean, (39, .inl (fun _ => 0)))) ∧ am_is H1 76 (.inl (.int, (6, .inl (fun _ => 0)))) ∧ am_is H1 77 (.inl (.int, (1320, .inl (fun _ => 0)))) ∧ am_is H1 78 (.inl (.int, (33, .inl (fun _ => 0)))) ∧ am_is H1 79 (.inr (2, [.ref 80, .ref 81, .int 0, .ref 82, .ref 83, .ref 84, .ref 85])) ∧ am_is H1 80 (.inl (.int, (48, .inl (fun _ => 0)))) ∧ am_is H1 81 (.inl (.int, (4, .inl (fun _ => 0)))) ∧ am_is H1 82 (.inl (.boolean, (39, .inl (fun _ => 0)))) ∧ am_is H1 83 (.inl (.int, (6, .inl (fun _ => 0)))) ∧ am_is H1 84 (.inl (.int, (1320, .inl (fun _ => 0)))) ∧ am_is H1 85 (.inl (.int, (33, .inl (fun _ => 0)))) ∧ am_is H1 86 (.inr (2, [.ref 87, .ref 88, .int 0, .ref 89, .ref 90, .ref 91, .ref 92])) ∧ am_is H1 87 (.inl (.int, (48, .inl (fun _ => 0)))) ∧ am_is H1 88 (.inl (.int, (4, .inl (fun _ => 0)))) ∧ am_is H1 89 (.inl (.boolean, (39, .inl (fun _ => 0)))) ∧ am_is H1 90 (.inl (.int, (6, .inl (fun _ => 0)))) ∧ am_is H1 91 (.inl (.int, (1320, .inl (fun _ => 0)))) ∧ am_is H1 92 (.inl (.int, (33, .inl (fun _ => 0)))) ∧ am_is H1 93 (.inr (5, [.ref 94, .int 0, .ref 95, .ref 96, .int 0])) ∧ am_is H1 94 (.inl (.int, (8, .inl (fun _ => 0)))) ∧ am_is H1 95 (.inl (.int, (4, .inl (fun _ => 0)))) ∧ am_is H1 96 (.inl (.int, (60, .inl (fun _ => 0)))) ∧ am_is H1 97 (.inr (6, [.ref 98, .ref 100, .ref 102, .ref 104, .ref 105, .int 0, .null, .null, .int 0, .int 0, .int 0, .int 0, .int 0, .int 0, .int 0, .ref 106, .ref 107, .ref 114, .int 0])) ∧ am_is H1 98 (.inr (9, [.ref 99, .int 0, .int 0, .int 0, .int 0, .int 0, .int 0, .int 0, .int 0, .int 0])) ∧ am_is H1 99 (.inl (.int, (1920, .inl (fun _ => 0)))) ∧ am_is H1 100 (.inr (9, [.ref 101, .int 0, .int 0, .int 0, .int 0, .int 0, .int 0, .int 0, .int 0, .int 0])) ∧ am_is H1 101 (.inl (.int, (1920, .inl (fun _ => 0)))) ∧ am_is H1 102 (.inr (9, [.ref 103, .int 0, .int 0, .int 0, .int 0, .int 0, .int 0, .int 0, .int 0, .int 0])) ∧ am_is H1 103 (.inl (.int, (1920, .inl (fun _ => 0)))) ∧ am_is H1 104 (.inl (.int, (1920, .inl (fun _ => 0)))) ∧ am_is H1 105 (.inl (.int, (6000, .inl (fun _ => 0)))) ∧ am_is H1 106 (.inl (.int, (39, .inl (fun _ => 0)))) ∧ am_is H1 107 (.inl ((.array .int), (6, .inr (.inr (.inr (.inr (am_lg [some 108, some 109, some 110, some 111, some 112, some 113]))))))) ∧ am_is H1 108 (.inl (.int, (80, .inl (fun _ => 0)))) ∧ am_is H1 109 (.inl (.int, (80, .inl (fun _ => 0)))) ∧ am_is H1 110 (.inl (.int, (80, .inl (fun _ => 0)))) ∧ am_is H1 111 (.inl (.int, (80, .inl (fun _ => 0)))) ∧ am_is H1 112 (.inl (.int, (80, .inl (fun _ => 0)))) ∧ am_is H1 113 (.inl (.int, (80, .inl (fun _ => 0)))) ∧ am_is H1 114 (.inl (.int, (20, .inl (fun _ => 0)))) ∧ am_is H1 115 (.inl ((.object "TerminalHouse$Window"), (8, .inr (.inr (.inr (.inr (am_lg [some 141, some 143, some 145, some 147, some 149, some 151, some 153, some 155]))))))) ∧ am_is H1 116 (.inr (1, [.ref 117, .ref 119, .ref 121, .int 127, .int 0, .int 0, .int 0, .int 0, .int 0, .int 0])) ∧ am_is H1 117 (.inr (0, [.ref 118, .int 0, .int 0])) ∧ am_is H1 118 (.inl (.int, (8000, .inl (fun _ => 0)))) ∧ am_is H1 119 (.inr (0, [.ref 120, .int 0, .int 0])) ∧ am_is H1 120 (.inl (.int, (100, .inl (fun _ => 0)))) ∧ am_is H1 121 (.inr (0, [.ref 122, .int 0, .int 0])) ∧ am_is H1 122 (.inl (.int, (300, .inl (fun _ => 0)))) ∧ am_is H1 123 (.inr (4, [.ref 124, .ref 125, .int 0, .int (-1), .int 0, .ref 126])) ∧ am_is H1 124 (.inl (.boolean, (127, .inl (fun _ => 0)))) ∧ am_is H1 125 (.inl (.boolean, (127, .inl (fun _ => 0)))) ∧ am_is H1 126 (.inl (.int, (3, .inl (fun _ => 0)))) ∧ am_is H1 127 (.inr (10, [.int (-1), .int 0, .int 0, .int 0])) ∧ am_is H1 128 (.inr (10, [.int (-1), .int 0, .int 0, .int 0])) ∧ am_is H1 129 (.inr (8, [.ref 136, .ref 130, .ref 132, .ref 134, .int 0, .int 0, .int 0, .int 0, .int 0, .int 0, .int 0, .ref 135, .int 0, .int 0, .int 0])) ∧ am_is H1 130 (.inr (0, [.ref 131, .int 0, .int 0])) ∧ am_is H1 131 (.inl (.int, (64, .inl (fun _ => 0)))) ∧ am_is H1 132 (.inr (0, [.ref 133, .int 0, .int 0])) ∧ am_is H1 133 (.inl (.int, (32, .inl (fun _ => 0)))) ∧ am_is H1 134 (.inl (.int, (32, .inl (fun _ => 0)))) ∧ am_is H1 135 (.inl (.int, (8, .inl (fun _ => 0)))) ∧ am_is H1 136 (.inr (3, [.int (Int32.ofNat h), .int (Int32.ofNat b), .ref 138, .ref 139, .ref 140, .int 0, .int 0, .int 0, .int 0, .int ((Int32.ofNat h) - 1), .int 96, .int 0, .int 0, .int 0, .int 0, .int 0, .int 0, .ref 137])) ∧ am_is H1 137 (.inl (.int, (6, .inl (upd (upd (upd (upd (upd (upd (fun _ => 0) ((0 : Int32).toNatClampNeg) 0) ((1 : Int32).toNatClampNeg) 0) ((2 : Int32).toNatClampNeg) 0) ((3 : Int32).toNatClampNeg) 0) ((4 : Int32).toNatClampNeg) 0) ((5 : Int32).toNatClampNeg) 0)))) ∧ am_is H1 138 (.inl (.int, ((h * b), .inl (am_fll (fun _ => 0) 0 (h * b) 32)))) ∧ am_is H1 139 (.inl (.int, (h, .inl (fun _ => 0)))) ∧ am_is H1 140 (.inl (.boolean, (b, .inl (am_stp (fun _ => 0) b)))) ∧ am_is H1 141 (.inr (9, [.ref 142, .int 0, .int 0, .int 0, .int 0, .int 0, .int 0, .int 0, .int 0, .int 0])) ∧ am_is H1 142 (.inl (.int, (1920, .inl (fun _ => 0)))) ∧ am_is H1 143 (.inr (9, [.ref 144, .int 0, .int 0, .int 0, .int 0, .int 0, .int 0, .int 0, .int 0, .int 0])) ∧ am_is H1 144 (.inl (.int, (1920, .inl (fun _ => 0)))) ∧ am_is H1 145 (.inr (9, [.ref 146, .int 0, .int 0, .int 0, .int 0, .int 0, .int 0, .int 0, .int 0, .int 0])) ∧ am_is H1 146 (.inl (.int, (1920, .inl (fun _ => 0)))) ∧ am_is H1 147 (.inr (9, [.ref 148, .int 0, .int 0, .int 0, .int 0, .int 0, .int 0, .int 0, .int 0, .int 0])) ∧ am_is H1 148 (.inl (.int, (1920, .inl (fun _ => 0)))) ∧ am_is H1 149 (.inr (9, [.ref 150, .int 0, .int 0, .int 0, .int 0, .int 0, .int 0, .int 0, .int 0, .int 0])) ∧ am_is H1 150 (.inl (.int, (1920, .inl (fun _ => 0)))) ∧ am_is H1 151 (.inr (9, [.ref 152, .int 0, .int 0, .int 0, .int 0, .int 0, .int 0, .int 0, .int 0, .int 0])) ∧ am_is H1 152 (.inl (.int, (1920, .inl (fun _ => 0)))) ∧ am_is H1 153 (.inr (9, [.ref 154, .int 0, .int 0, .int 0, .int 0, .int 0, .int 0, .int 0, .int 0, .int 0])) ∧ am_is H1 154 (.inl (.int, (1920, .inl (fun _ => 0)))) ∧ am_is H1 155 (.inr (9, [.ref 156, .int 0, .int 0, .int 0, .int 0, .int 0, .int 0, .int 0, .int 0, .int 0])) ∧ am_is H1 156 (.inl (.int, (1920, .inl (fun _ => 0)))) ∧ True) ∧ H1.length = 157 ∧ ∀ j : Nat, j ≠ 0 → j < 1 → H1[j]? = H[j]?
set_option maxRecDepth 100000 in
theorem ci_1 {sL : Nat} {sx : Nat → Int32} {cs : Nat → Nat → Option Int32} {H : am_H} {x1 : Int32} {x2 : Int32} {x3 : Int32} {w2 : Int32} {v3 : Int32} {h : Nat} {b : Nat} (hl : H.length = 1) (h0 : H[0]? = some (.inr (11, [.null, .int 0, .null, .int 0, .null, .null, .null, .null, .null, .null, .null, .null, .null, .int 0, .null, .int 0]))) (e1 : am_near x1 4 24 = Int32.ofNat h) (e2 : am_near x2 16 80 = w2) (e2b : w2 / 2 * 2 = Int32.ofNat b) (e3 : am_near x3 1 16 = v3) (eg1 : am_near (Int32.ofNat h) 1 24 = Int32.ofNat h) (eg2 : am_near (Int32.ofNat b) 2 80 = Int32.ofNat b) (hp : ¬ Int32.ofNat h * Int32.ofNat b < 0) (hq : (Int32.ofNat h * Int32.ofNat b).toNatClampNeg = h * b) (hr : Nat.ble (h * b * 8) 536870912 = true) (hh1 : ¬ Int32.ofNat h < 0) (hh2 : (Int32.ofNat h).toNatClampNeg = h) (hh3 : Nat.ble (h * 8) 536870912 = true) (hb1 : ¬ Int32.ofNat b < 0) (hb2 : (Int32.ofNat b).toNatClampNeg = b) (hb3 : Nat.ble (b * 8) 536870912 = true) (hgt : h * b < 2 ^ 31) (hht : h < 2 ^ 31) (hbt : b < 2 ^ 31) (ez1 : am_near 0 0 (Int32.ofNat h - 1) = 0) (ez2 : am_near 0 0 (Int32.ofNat b - 1) = 0) (hi0 : ¬ ((0 : Int32) < 0 ∨ h ≤ (0 : Int32).toNatClampNeg)) :
    am_NW sL sx cs 0 0 [(0, .ref 0), (1, .int x1), (2, .int x2), (3, .int x3)] [] H 0 0 none 156 (((((((((((((((((43957 + (160 + ((((6 + (h * b)) + h) + b) + 0))) + 10) + 1920) + 10) + 1920) + 10) + 1920) + 10) + 1920) + 10) + 1920) + 10) + 1920) + 10) + 1920) + 10) + 1920) (ci_1F v3 h b H) := by
  refine en_s (am_nb (m := 4) (pc1 := 8) (ls1 := [(0, .ref 0), (1, .int x1), (2, .int x2), (3, .int x3)]) (st1 := [.int 3000, .ref 0]) (H1 := H) (k1 := 0) (n1 := 0) (by with_unfolding_all rfl)) ?_
  refine en_newa (N := 1) (m := 3000) (ty := .int) rfl hl rfl (by decide) (by with_unfolding_all rfl) rfl rfl ?_
  intro H1 l1 f1 k1
  refine en_put rfl l1 ((k1 0 (Nat.le_of_ble_eq_true rfl : 0 < 1)).trans h0) rfl rfl rfl ?_
  intro H2 l2 f2 k2
  refine en_s (am_nb (m := 2) (pc1 := 17) (ls1 := [(0, .ref 0), (1, .int x1), (2, .int x2), (3, .int x3)]) (st1 := [.int 300, .ref 0]) (H1 := H2) (k1 := 1) (n1 := 3000) (by with_unfolding_all rfl)) ?_
  refine en_newa (N := 2) (m := 300) (ty := .int) rfl l2 rfl (by decide) (by with_unfolding_all rfl) rfl rfl ?_
  intro H3 l3 f3 k3
  refine en_put rfl l3 ((k3 0 (Nat.le_of_ble_eq_true rfl : 0 < 2)).trans f2) rfl rfl rfl ?_
  intro H4 l4 f4 k4
  refine en_s (am_nb (m := 1) (pc1 := 23) (ls1 := [(0, .ref 0), (1, .int x1), (2, .int x2), (3, .int x3)]) (st1 := [.ref 0]) (H1 := H4) (k1 := 2) (n1 := 3300) (by with_unfolding_all rfl)) ?_
  refine en_new (N := 3) (vs := [.null, .int 0, .int 0, .int 0, .null, .int 0, .int 0, .int 0, .null, .null, .null, .int 0, .null, .int 0]) (ms := 14) rfl l4 (by with_unfolding_all rfl) ?_
  intro H5 l5 f5 k5
  refine en_s (am_nb (m := 1) (pc1 := 27) (ls1 := [(0, .ref 0), (1, .int x1), (2, .int x2), (3, .int x3)]) (st1 := [.ref 3, .ref 3, .ref 0]) (H1 := H5) (k1 := 3) (n1 := 3314) (by with_unfolding_all rfl)) ?_
  refine en_cv0 (as := []) (rest := [.ref 3, .ref 0]) rfl rfl rfl rfl f5 rfl (by with_unfolding_all rfl) (by with_unfolding_all rfl) (ci_2 l5 f5) ?_
  rintro H197 ⟨⟨f197_4, f197_3, f197_5, f197_6, f197_7, f197_8, f197_9, f197_10, f197_11, f197_12, f197_13, f197_14, f197_15, f197_16, f197_17, f197_18, f197_19, f197_20, f197_21, f197_22, f197_23, f197_24, f197_25, f197_26, f197_27, f197_28, f197_29, f197_30, f197_31, f197_32, f197_33, f197_34, f197_35, f197_36, f197_37, f197_38, f197_39, f197_40, f197_41, f197_42, f197_43, f197_44, f197_45, f197_46, f197_47, f197_48, f197_49, f197_50, f197_51, f197_52, f197_53, f197_54, f197_55, f197_56, f197_57, f197_58, f197_59, f197_60, f197_61, f197_62, f197_63, f197_64, f197_65, f197_66, f197_67, f197_68, f197_69, f197_70, f197_71, f197_72, f197_73, f197_74, f197_75, f197_76, f197_77, f197_78, f197_79, f197_80, f197_81, f197_82, f197_83, f197_84, f197_85, f197_86, f197_87, f197_88, f197_89, f197_90, f197_91, f197_92, -⟩, l197, k197⟩
  refine en_put rfl l197 ((k197 0 (Nat.ne_of_beq_eq_false rfl : 0 ≠ 3) (Nat.le_of_ble_eq_true rfl : 0 < 4)).trans ((k5 0 (Nat.le_of_ble_eq_true rfl : 0 < 3)).trans f4)) rfl rfl rfl ?_
  intro H198 l198 f198 k198
  refine en_s (am_nb (m := 1) (pc1 := 34) (ls1 := [(0, .ref 0), (1, .int x1), (2, .int x2), (3, .int x3)]) (st1 := [.ref 0]) (H1 := H198) (k1 := 92) (n1 := 20893) (by with_unfolding_all rfl)) ?_
  refine en_new (N := 93) (vs := [.null, .int 0, .null, .null, .int 0]) (ms := 5) rfl l198 (by with_unfolding_all rfl) ?_
  intro H199 l199 f199 k199
  refine en_s (am_nb (m := 1) (pc1 := 38) (ls1 := [(0, .ref 0), (1, .int x1), (2, .int x2), (3, .int x3)]) (st1 := [.ref 93, .ref 93, .ref 0]) (H1 := H199) (k1 := 93) (n1 := 20898) (by with_unfolding_all rfl)) ?_
  refine en_cv0 (as := []) (rest := [.ref 93, .ref 0]) rfl rfl rfl rfl f199 rfl (by with_unfolding_all rfl) (by with_unfolding_all rfl) (ci_15 l199 f199) ?_
  rintro H206 ⟨⟨f206_94, f206_93, f206_95, f206_96, -⟩, l206, k206⟩
  refine en_put rfl l206 ((k206 0 (Nat.ne_of_beq_eq_false rfl : 0 ≠ 93) (Nat.le_of_ble_eq_true rfl : 0 < 94)).trans ((k199 0 (Nat.le_of_ble_eq_true rfl : 0 < 93)).trans f198)) rfl rfl rfl ?_
  intro H207 l207 f207 k207
  refine en_s (am_nb (m := 1) (pc1 := 45) (ls1 := [(0, .ref 0), (1, .int x1), (2, .int x2), (3, .int x3)]) (st1 := [.ref 0]) (H1 := H207) (k1 := 96) (n1 := 20970) (by with_unfolding_all rfl)) ?_
  refine en_new (N := 97) (vs := [.null, .null, .null, .null, .null, .int 0, .null, .null, .int 0, .int 0, .int 0, .int 0, .int 0, .int 0, .int 0, .null, .null, .null, .int 0]) (ms := 19) rfl l207 (by with_unfolding_all rfl) ?_
  intro H208 l208 f208 k208
  refine en_s (am_nb (m := 1) (pc1 := 49) (ls1 := [(0, .ref 0), (1, .int x1), (2, .int x2), (3, .int x3)]) (st1 := [.ref 97, .ref 97, .ref 0]) (H1 := H208) (k1 := 97) (n1 := 20989) (by with_unfolding_all rfl)) ?_
  refine en_cv0 (as := []) (rest := [.ref 97, .ref 0]) rfl rfl rfl rfl f208 rfl (by with_unfolding_all rfl) (by with_unfolding_all rfl) (ci_16 l208 f208) ?_
  rintro H234 ⟨⟨f234_98, f234_99, f234_97, f234_100, f234_101, f234_102, f234_103, f234_104, f234_105, f234_106, f234_107, f234_108, f234_109, f234_110, f234_111, f234_112, f234_113, f234_114, -⟩, l234, k234⟩
  refine en_put rfl l234 ((k234 0 (Nat.ne_of_beq_eq_false rfl : 0 ≠ 97) (Nat.le_of_ble_eq_true rfl : 0 < 98)).trans ((k208 0 (Nat.le_of_ble_eq_true rfl : 0 < 97)).trans f207)) rfl rfl rfl ?_
  intro H235 l235 f235 k235
  refine en_s (am_nb (m := 2) (pc1 := 58) (ls1 := [(0, .ref 0), (1, .int x1), (2, .int x2), (3, .int x3)]) (st1 := [.int 8, .ref 0]) (H1 := H235) (k1 := 114) (n1 := 35244) (by with_unfolding_all rfl)) ?_
  refine en_anewl (N := 115) (m := 8) (C := "TerminalHouse$Window") (l := [none, none, none, none, none, none, none, none]) rfl l235 rfl (by decide) (by with_unfolding_all rfl) rfl rfl ?_
  intro H236 l236 f236 k236
  refine en_put rfl l236 ((k236 0 (Nat.le_of_ble_eq_true rfl : 0 < 115)).trans f235) rfl rfl rfl ?_
  intro H237 l237 f237 k237
  refine en_s (am_nb (m := 1) (pc1 := 65) (ls1 := [(0, .ref 0), (1, .int x1), (2, .int x2), (3, .int x3)]) (st1 := [.ref 0]) (H1 := H237) (k1 := 115) (n1 := 35252) (by with_unfolding_all rfl)) ?_
  refine en_new (N := 116) (vs := [.null, .null, .null, .int 0, .int 0, .int 0, .int 0, .int 0, .int 0, .int 0]) (ms := 10) rfl l237 (by with_unfolding_all rfl) ?_
  intro H238 l238 f238 k238
  refine en_s (am_nb (m := 1) (pc1 := 69) (ls1 := [(0, .ref 0), (1, .int x1), (2, .int x2), (3, .int x3)]) (st1 := [.ref 116, .ref 116, .ref 0]) (H1 := H238) (k1 := 116) (n1 := 35262) (by with_unfolding_all rfl)) ?_
  refine en_cv0 (as := []) (rest := [.ref 116, .ref 0]) rfl rfl rfl rfl f238 rfl (by with_unfolding_all rfl) (by with_unfolding_all rfl) (ci_20 l238 f238) ?_
  rintro H255 ⟨⟨f255_117, f255_118, f255_116, f255_119, f255_120, f255_121, f255_122, -⟩, l255, k255⟩
  refine en_put rfl l255 ((k255 0 (Nat.ne_of_beq_eq_false rfl : 0 ≠ 116) (Nat.le_of_ble_eq_true rfl : 0 < 117)).trans ((k238 0 (Nat.le_of_ble_eq_true rfl : 0 < 116)).trans f237)) rfl rfl rfl ?_
  intro H256 l256 f256 k256
  refine en_s (am_nb (m := 1) (pc1 := 76) (ls1 := [(0, .ref 0), (1, .int x1), (2, .int x2), (3, .int x3)]) (st1 := [.ref 0]) (H1 := H256) (k1 := 122) (n1 := 43671) (by with_unfolding_all rfl)) ?_
  refine en_new (N := 123) (vs := [.null, .null, .int 0, .int 0, .int 0, .null]) (ms := 6) rfl l256 (by with_unfolding_all rfl) ?_
  intro H257 l257 f257 k257
  refine en_s (am_nb (m := 1) (pc1 := 80) (ls1 := [(0, .ref 0), (1, .int x1), (2, .int x2), (3, .int x3)]) (st1 := [.ref 123, .ref 123, .ref 0]) (H1 := H257) (k1 := 123) (n1 := 43677) (by with_unfolding_all rfl)) ?_
  refine en_cv0 (as := []) (rest := [.ref 123, .ref 0]) rfl rfl rfl rfl f257 rfl (by with_unfolding_all rfl) (by with_unfolding_all rfl) (ci_24 l257 f257) ?_
  rintro H265 ⟨⟨f265_124, f265_123, f265_125, f265_126, -⟩, l265, k265⟩
  refine en_put rfl l265 ((k265 0 (Nat.ne_of_beq_eq_false rfl : 0 ≠ 123) (Nat.le_of_ble_eq_true rfl : 0 < 124)).trans ((k257 0 (Nat.le_of_ble_eq_true rfl : 0 < 123)).trans f256)) rfl rfl rfl ?_
  intro H266 l266 f266 k266
  refine en_s (am_nb (m := 1) (pc1 := 87) (ls1 := [(0, .ref 0), (1, .int x1), (2, .int x2), (3, .int x3)]) (st1 := [.ref 0]) (H1 := H266) (k1 := 126) (n1 := 43934) (by with_unfolding_all rfl)) ?_
  refine en_new (N := 127) (vs := [.int 0, .int 0, .int 0, .int 0]) (ms := 4) rfl l266 (by with_unfolding_all rfl) ?_
  intro H267 l267 f267 k267
  refine en_s (am_nb (m := 1) (pc1 := 91) (ls1 := [(0, .ref 0), (1, .int x1), (2, .int x2), (3, .int x3)]) (st1 := [.ref 127, .ref 127, .ref 0]) (H1 := H267) (k1 := 127) (n1 := 43938) (by with_unfolding_all rfl)) ?_
  refine en_cv0 (as := []) (rest := [.ref 127, .ref 0]) rfl rfl rfl rfl f267 rfl (by with_unfolding_all rfl) (by with_unfolding_all rfl) (ci_25 l267 f267) ?_
  rintro H269 ⟨⟨f269_127, -⟩, l269, k269⟩
  refine en_put rfl l269 ((k269 0 (Nat.ne_of_beq_eq_false rfl : 0 ≠ 127) (Nat.le_of_ble_eq_true rfl : 0 < 128)).trans ((k267 0 (Nat.le_of_ble_eq_true rfl : 0 < 127)).trans f266)) rfl rfl rfl ?_
  intro H270 l270 f270 k270
  refine en_s (am_nb (m := 1) (pc1 := 98) (ls1 := [(0, .ref 0), (1, .int x1), (2, .int x2), (3, .int x3)]) (st1 := [.ref 0]) (H1 := H270) (k1 := 127) (n1 := 43938) (by with_unfolding_all rfl)) ?_
  refine en_new (N := 128) (vs := [.int 0, .int 0, .int 0, .int 0]) (ms := 4) rfl l270 (by with_unfolding_all rfl) ?_
  intro H271 l271 f271 k271
  refine en_s (am_nb (m := 1) (pc1 := 102) (ls1 := [(0, .ref 0), (1, .int x1), (2, .int x2), (3, .int x3)]) (st1 := [.ref 128, .ref 128, .ref 0]) (H1 := H271) (k1 := 128) (n1 := 43942) (by with_unfolding_all rfl)) ?_
  refine en_cv0 (as := []) (rest := [.ref 128, .ref 0]) rfl rfl rfl rfl f271 rfl (by with_unfolding_all rfl) (by with_unfolding_all rfl) (ci_26 l271 f271) ?_
  rintro H273 ⟨⟨f273_128, -⟩, l273, k273⟩
  refine en_put rfl l273 ((k273 0 (Nat.ne_of_beq_eq_false rfl : 0 ≠ 128) (Nat.le_of_ble_eq_true rfl : 0 < 129)).trans ((k271 0 (Nat.le_of_ble_eq_true rfl : 0 < 128)).trans f270)) rfl rfl rfl ?_
  intro H274 l274 f274 k274
  refine en_s (am_nb (m := 3) (pc1 := 113) (ls1 := [(0, .ref 0), (1, .int x1), (2, .int x2), (3, .int x3)]) (st1 := [.int 80, .int 16, .int x2]) (H1 := H274) (k1 := 128) (n1 := 43942) (by with_unfolding_all rfl)) ?_
  refine en_s (st_cs1 (as := [.int x2, .int 16, .int 80]) (rest := []) rfl (by decide) rfl rfl (by with_unfolding_all rfl) (by with_unfolding_all rfl) (nr_ok e2)) ?_
  refine en_s (am_nb (m := 5) (pc1 := 122) (ls1 := [(4, .int ((w2 / 2) * 2)), (0, .ref 0), (1, .int x1), (2, .int x2), (3, .int x3)]) (st1 := []) (H1 := H274) (k1 := 128) (n1 := 43942) (by with_unfolding_all rfl)) ?_
  rw [e2b]
  refine en_s (am_nb (m := 1) (pc1 := 123) (ls1 := [(4, .int (Int32.ofNat b)), (0, .ref 0), (1, .int x1), (2, .int x2), (3, .int x3)]) (st1 := [.ref 0]) (H1 := H274) (k1 := 128) (n1 := 43942) (by with_unfolding_all rfl)) ?_
  refine en_new (N := 129) (vs := [.null, .null, .null, .null, .int 0, .int 0, .int 0, .int 0, .int 0, .int 0, .int 0, .null, .int 0, .int 0, .int 0]) (ms := 15) rfl l274 (by with_unfolding_all rfl) ?_
  intro H275 l275 f275 k275
  refine en_s (am_nb (m := 4) (pc1 := 131) (ls1 := [(4, .int (Int32.ofNat b)), (0, .ref 0), (1, .int x1), (2, .int x2), (3, .int x3)]) (st1 := [.int 24, .int 4, .int x1, .ref 129, .ref 129, .ref 0]) (H1 := H275) (k1 := 129) (n1 := 43957) (by with_unfolding_all rfl)) ?_
  refine en_s (st_cs1 (as := [.int x1, .int 4, .int 24]) (rest := [.ref 129, .ref 129, .ref 0]) rfl (by decide) rfl rfl (by with_unfolding_all rfl) (by with_unfolding_all rfl) (nr_ok e1)) ?_
  refine en_s (am_nb (m := 1) (pc1 := 136) (ls1 := [(4, .int (Int32.ofNat b)), (0, .ref 0), (1, .int x1), (2, .int x2), (3, .int x3)]) (st1 := [.int (Int32.ofNat b), .int (Int32.ofNat h), .ref 129, .ref 129, .ref 0]) (H1 := H275) (k1 := 129) (n1 := 43957) (by with_unfolding_all rfl)) ?_
  refine en_cv0 (as := [.int (Int32.ofNat h), .int (Int32.ofNat b)]) (rest := [.ref 129, .ref 0]) rfl rfl rfl rfl f275 rfl (by with_unfolding_all rfl) (by with_unfolding_all rfl) (ci_27 l275 f275 eg1 eg2 hp hq hr hh1 hh2 hh3 hb1 hb2 hb3 hgt hht hbt ez1 ez2 hi0) ?_
  rintro H326 ⟨⟨f326_130, f326_131, f326_129, f326_132, f326_133, f326_134, f326_135, f326_136, f326_137, f326_138, f326_139, f326_140, -⟩, l326, k326⟩
  refine en_put rfl l326 ((k326 0 (Nat.ne_of_beq_eq_false rfl : 0 ≠ 129) (Nat.le_of_ble_eq_true rfl : 0 < 130)).trans ((k275 0 (Nat.le_of_ble_eq_true rfl : 0 < 129)).trans f274)) rfl rfl rfl ?_
  intro H327 l327 f327 k327
  refine en_s (am_nb (m := 4) (pc1 := 147) (ls1 := [(4, .int (Int32.ofNat b)), (0, .ref 0), (1, .int x1), (2, .int x2), (3, .int x3)]) (st1 := [.int 16, .int 1, .int x3, .ref 0]) (H1 := H327) (k1 := 140) (n1 := (43957 + (160 + ((((6 + (h * b)) + h) + b) + 0)))) (by with_unfolding_all rfl)) ?_
  refine en_s (st_cs1 (as := [.int x3, .int 1, .int 16]) (rest := [.ref 0]) rfl (by decide) rfl rfl (by with_unfolding_all rfl) (by with_unfolding_all rfl) (nr_ok e3)) ?_
  refine en_put rfl l327 f327 rfl rfl rfl ?_
  intro H328 l328 f328 k328
  refine en_s (am_nb (m := 6) (pc1 := 164) (ls1 := [(5, .int 0), (4, .int (Int32.ofNat b)), (0, .ref 0), (1, .int x1), (2, .int x2), (3, .int x3)]) (st1 := [.ref 0]) (H1 := H328) (k1 := 140) (n1 := (43957 + (160 + ((((6 + (h * b)) + h) + b) + 0)))) (by with_unfolding_all rfl)) ?_
  refine en_s (st_get rfl f328 rfl) ?_
  refine en_s (am_nb (m := 1) (pc1 := 169) (ls1 := [(5, .int 0), (4, .int (Int32.ofNat b)), (0, .ref 0), (1, .int x1), (2, .int x2), (3, .int x3)]) (st1 := [.int 0, .ref 115]) (H1 := H328) (k1 := 140) (n1 := (43957 + (160 + ((((6 + (h * b)) + h) + b) + 0)))) (by with_unfolding_all rfl)) ?_
  refine en_new (N := 141) (vs := [.null, .int 0, .int 0, .int 0, .int 0, .int 0, .int 0, .int 0, .int 0, .int 0]) (ms := 10) rfl l328 (by with_unfolding_all rfl) ?_
  intro H329 l329 f329 k329
  refine en_s (am_nb (m := 1) (pc1 := 173) (ls1 := [(5, .int 0), (4, .int (Int32.ofNat b)), (0, .ref 0), (1, .int x1), (2, .int x2), (3, .int x3)]) (st1 := [.ref 141, .ref 141, .int 0, .ref 115]) (H1 := H329) (k1 := 141) (n1 := ((43957 + (160 + ((((6 + (h * b)) + h) + b) + 0))) + 10)) (by with_unfolding_all rfl)) ?_
  refine en_cv0 (as := []) (rest := [.ref 141, .int 0, .ref 115]) rfl rfl rfl rfl f329 rfl (by with_unfolding_all rfl) (by with_unfolding_all rfl) (ci_35 l329 f329) ?_
  rintro H332 ⟨⟨f332_142, f332_141, -⟩, l332, k332⟩
  refine en_aast rfl l332 ((k332 115 (Nat.ne_of_beq_eq_false rfl : 115 ≠ 141) (Nat.le_of_ble_eq_true rfl : 115 < 142)).trans ((k329 115 (Nat.le_of_ble_eq_true rfl : 115 < 141)).trans ((k328 115 (Nat.ne_of_beq_eq_false rfl : 115 ≠ 0)).trans ((k327 115 (Nat.ne_of_beq_eq_false rfl : 115 ≠ 0)).trans ((k326 115 (Nat.ne_of_beq_eq_false rfl : 115 ≠ 129) (Nat.le_of_ble_eq_true rfl : 115 < 130)).trans ((k275 115 (Nat.le_of_ble_eq_true rfl : 115 < 129)).trans ((k274 115 (Nat.ne_of_beq_eq_false rfl : 115 ≠ 0)).trans ((k273 115 (Nat.ne_of_beq_eq_false rfl : 115 ≠ 128) (Nat.le_of_ble_eq_true rfl : 115 < 129)).trans ((k271 115 (Nat.le_of_ble_eq_true rfl : 115 < 128)).trans ((k270 115 (Nat.ne_of_beq_eq_false rfl : 115 ≠ 0)).trans ((k269 115 (Nat.ne_of_beq_eq_false rfl : 115 ≠ 127) (Nat.le_of_ble_eq_true rfl : 115 < 128)).trans ((k267 115 (Nat.le_of_ble_eq_true rfl : 115 < 127)).trans ((k266 115 (Nat.ne_of_beq_eq_false rfl : 115 ≠ 0)).trans ((k265 115 (Nat.ne_of_beq_eq_false rfl : 115 ≠ 123) (Nat.le_of_ble_eq_true rfl : 115 < 124)).trans ((k257 115 (Nat.le_of_ble_eq_true rfl : 115 < 123)).trans ((k256 115 (Nat.ne_of_beq_eq_false rfl : 115 ≠ 0)).trans ((k255 115 (Nat.ne_of_beq_eq_false rfl : 115 ≠ 116) (Nat.le_of_ble_eq_true rfl : 115 < 117)).trans ((k238 115 (Nat.le_of_ble_eq_true rfl : 115 < 116)).trans ((k237 115 (Nat.ne_of_beq_eq_false rfl : 115 ≠ 0)).trans f236))))))))))))))))))) f332_141 (by decide) rfl (am_lg_up (i := 0) (l2 := [some 141, none, none, none, none, none, none, none]) (by with_unfolding_all rfl) rfl rfl) ?_
  intro H333 l333 f333 k333
  refine en_s (am_nb (m := 6) (pc1 := 164) (ls1 := [(5, .int 1), (4, .int (Int32.ofNat b)), (0, .ref 0), (1, .int x1), (2, .int x2), (3, .int x3)]) (st1 := [.ref 0]) (H1 := H333) (k1 := 142) (n1 := (((43957 + (160 + ((((6 + (h * b)) + h) + b) + 0))) + 10) + 1920)) (by with_unfolding_all rfl)) ?_
  refine en_s (st_get rfl ((k333 0 (Nat.ne_of_beq_eq_false rfl : 0 ≠ 115)).trans ((k332 0 (Nat.ne_of_beq_eq_false rfl : 0 ≠ 141) (Nat.le_of_ble_eq_true rfl : 0 < 142)).trans ((k329 0 (Nat.le_of_ble_eq_true rfl : 0 < 141)).trans f328))) rfl) ?_
  refine en_s (am_nb (m := 1) (pc1 := 169) (ls1 := [(5, .int 1), (4, .int (Int32.ofNat b)), (0, .ref 0), (1, .int x1), (2, .int x2), (3, .int x3)]) (st1 := [.int 1, .ref 115]) (H1 := H333) (k1 := 142) (n1 := (((43957 + (160 + ((((6 + (h * b)) + h) + b) + 0))) + 10) + 1920)) (by with_unfolding_all rfl)) ?_
  refine en_new (N := 143) (vs := [.null, .int 0, .int 0, .int 0, .int 0, .int 0, .int 0, .int 0, .int 0, .int 0]) (ms := 10) rfl l333 (by with_unfolding_all rfl) ?_
  intro H334 l334 f334 k334
  refine en_s (am_nb (m := 1) (pc1 := 173) (ls1 := [(5, .int 1), (4, .int (Int32.ofNat b)), (0, .ref 0), (1, .int x1), (2, .int x2), (3, .int x3)]) (st1 := [.ref 143, .ref 143, .int 1, .ref 115]) (H1 := H334) (k1 := 143) (n1 := ((((43957 + (160 + ((((6 + (h * b)) + h) + b) + 0))) + 10) + 1920) + 10)) (by with_unfolding_all rfl)) ?_
  refine en_cv0 (as := []) (rest := [.ref 143, .int 1, .ref 115]) rfl rfl rfl rfl f334 rfl (by with_unfolding_all rfl) (by with_unfolding_all rfl) (ci_36 l334 f334) ?_
  rintro H337 ⟨⟨f337_144, f337_143, -⟩, l337, k337⟩
  refine en_aast rfl l337 ((k337 115 (Nat.ne_of_beq_eq_false rfl : 115 ≠ 143) (Nat.le_of_ble_eq_true rfl : 115 < 144)).trans ((k334 115 (Nat.le_of_ble_eq_true rfl : 115 < 143)).trans f333)) f337_143 (by decide) rfl (am_lg_up (i := 1) (l2 := [some 141, some 143, none, none, none, none, none, none]) (by with_unfolding_all rfl) rfl rfl) ?_
  intro H338 l338 f338 k338
  refine en_s (am_nb (m := 6) (pc1 := 164) (ls1 := [(5, .int 2), (4, .int (Int32.ofNat b)), (0, .ref 0), (1, .int x1), (2, .int x2), (3, .int x3)]) (st1 := [.ref 0]) (H1 := H338) (k1 := 144) (n1 := (((((43957 + (160 + ((((6 + (h * b)) + h) + b) + 0))) + 10) + 1920) + 10) + 1920)) (by with_unfolding_all rfl)) ?_
  refine en_s (st_get rfl ((k338 0 (Nat.ne_of_beq_eq_false rfl : 0 ≠ 115)).trans ((k337 0 (Nat.ne_of_beq_eq_false rfl : 0 ≠ 143) (Nat.le_of_ble_eq_true rfl : 0 < 144)).trans ((k334 0 (Nat.le_of_ble_eq_true rfl : 0 < 143)).trans ((k333 0 (Nat.ne_of_beq_eq_false rfl : 0 ≠ 115)).trans ((k332 0 (Nat.ne_of_beq_eq_false rfl : 0 ≠ 141) (Nat.le_of_ble_eq_true rfl : 0 < 142)).trans ((k329 0 (Nat.le_of_ble_eq_true rfl : 0 < 141)).trans f328)))))) rfl) ?_
  refine en_s (am_nb (m := 1) (pc1 := 169) (ls1 := [(5, .int 2), (4, .int (Int32.ofNat b)), (0, .ref 0), (1, .int x1), (2, .int x2), (3, .int x3)]) (st1 := [.int 2, .ref 115]) (H1 := H338) (k1 := 144) (n1 := (((((43957 + (160 + ((((6 + (h * b)) + h) + b) + 0))) + 10) + 1920) + 10) + 1920)) (by with_unfolding_all rfl)) ?_
  refine en_new (N := 145) (vs := [.null, .int 0, .int 0, .int 0, .int 0, .int 0, .int 0, .int 0, .int 0, .int 0]) (ms := 10) rfl l338 (by with_unfolding_all rfl) ?_
  intro H339 l339 f339 k339
  refine en_s (am_nb (m := 1) (pc1 := 173) (ls1 := [(5, .int 2), (4, .int (Int32.ofNat b)), (0, .ref 0), (1, .int x1), (2, .int x2), (3, .int x3)]) (st1 := [.ref 145, .ref 145, .int 2, .ref 115]) (H1 := H339) (k1 := 145) (n1 := ((((((43957 + (160 + ((((6 + (h * b)) + h) + b) + 0))) + 10) + 1920) + 10) + 1920) + 10)) (by with_unfolding_all rfl)) ?_
  refine en_cv0 (as := []) (rest := [.ref 145, .int 2, .ref 115]) rfl rfl rfl rfl f339 rfl (by with_unfolding_all rfl) (by with_unfolding_all rfl) (ci_37 l339 f339) ?_
  rintro H342 ⟨⟨f342_146, f342_145, -⟩, l342, k342⟩
  refine en_aast rfl l342 ((k342 115 (Nat.ne_of_beq_eq_false rfl : 115 ≠ 145) (Nat.le_of_ble_eq_true rfl : 115 < 146)).trans ((k339 115 (Nat.le_of_ble_eq_true rfl : 115 < 145)).trans f338)) f342_145 (by decide) rfl (am_lg_up (i := 2) (l2 := [some 141, some 143, some 145, none, none, none, none, none]) (by with_unfolding_all rfl) rfl rfl) ?_
  intro H343 l343 f343 k343
  refine en_s (am_nb (m := 6) (pc1 := 164) (ls1 := [(5, .int 3), (4, .int (Int32.ofNat b)), (0, .ref 0), (1, .int x1), (2, .int x2), (3, .int x3)]) (st1 := [.ref 0]) (H1 := H343) (k1 := 146) (n1 := (((((((43957 + (160 + ((((6 + (h * b)) + h) + b) + 0))) + 10) + 1920) + 10) + 1920) + 10) + 1920)) (by with_unfolding_all rfl)) ?_
  refine en_s (st_get rfl ((k343 0 (Nat.ne_of_beq_eq_false rfl : 0 ≠ 115)).trans ((k342 0 (Nat.ne_of_beq_eq_false rfl : 0 ≠ 145) (Nat.le_of_ble_eq_true rfl : 0 < 146)).trans ((k339 0 (Nat.le_of_ble_eq_true rfl : 0 < 145)).trans ((k338 0 (Nat.ne_of_beq_eq_false rfl : 0 ≠ 115)).trans ((k337 0 (Nat.ne_of_beq_eq_false rfl : 0 ≠ 143) (Nat.le_of_ble_eq_true rfl : 0 < 144)).trans ((k334 0 (Nat.le_of_ble_eq_true rfl : 0 < 143)).trans ((k333 0 (Nat.ne_of_beq_eq_false rfl : 0 ≠ 115)).trans ((k332 0 (Nat.ne_of_beq_eq_false rfl : 0 ≠ 141) (Nat.le_of_ble_eq_true rfl : 0 < 142)).trans ((k329 0 (Nat.le_of_ble_eq_true rfl : 0 < 141)).trans f328))))))))) rfl) ?_
  refine en_s (am_nb (m := 1) (pc1 := 169) (ls1 := [(5, .int 3), (4, .int (Int32.ofNat b)), (0, .ref 0), (1, .int x1), (2, .int x2), (3, .int x3)]) (st1 := [.int 3, .ref 115]) (H1 := H343) (k1 := 146) (n1 := (((((((43957 + (160 + ((((6 + (h * b)) + h) + b) + 0))) + 10) + 1920) + 10) + 1920) + 10) + 1920)) (by with_unfolding_all rfl)) ?_
  refine en_new (N := 147) (vs := [.null, .int 0, .int 0, .int 0, .int 0, .int 0, .int 0, .int 0, .int 0, .int 0]) (ms := 10) rfl l343 (by with_unfolding_all rfl) ?_
  intro H344 l344 f344 k344
  refine en_s (am_nb (m := 1) (pc1 := 173) (ls1 := [(5, .int 3), (4, .int (Int32.ofNat b)), (0, .ref 0), (1, .int x1), (2, .int x2), (3, .int x3)]) (st1 := [.ref 147, .ref 147, .int 3, .ref 115]) (H1 := H344) (k1 := 147) (n1 := ((((((((43957 + (160 + ((((6 + (h * b)) + h) + b) + 0))) + 10) + 1920) + 10) + 1920) + 10) + 1920) + 10)) (by with_unfolding_all rfl)) ?_
  refine en_cv0 (as := []) (rest := [.ref 147, .int 3, .ref 115]) rfl rfl rfl rfl f344 rfl (by with_unfolding_all rfl) (by with_unfolding_all rfl) (ci_38 l344 f344) ?_
  rintro H347 ⟨⟨f347_148, f347_147, -⟩, l347, k347⟩
  refine en_aast rfl l347 ((k347 115 (Nat.ne_of_beq_eq_false rfl : 115 ≠ 147) (Nat.le_of_ble_eq_true rfl : 115 < 148)).trans ((k344 115 (Nat.le_of_ble_eq_true rfl : 115 < 147)).trans f343)) f347_147 (by decide) rfl (am_lg_up (i := 3) (l2 := [some 141, some 143, some 145, some 147, none, none, none, none]) (by with_unfolding_all rfl) rfl rfl) ?_
  intro H348 l348 f348 k348
  refine en_s (am_nb (m := 6) (pc1 := 164) (ls1 := [(5, .int 4), (4, .int (Int32.ofNat b)), (0, .ref 0), (1, .int x1), (2, .int x2), (3, .int x3)]) (st1 := [.ref 0]) (H1 := H348) (k1 := 148) (n1 := (((((((((43957 + (160 + ((((6 + (h * b)) + h) + b) + 0))) + 10) + 1920) + 10) + 1920) + 10) + 1920) + 10) + 1920)) (by with_unfolding_all rfl)) ?_
  refine en_s (st_get rfl ((k348 0 (Nat.ne_of_beq_eq_false rfl : 0 ≠ 115)).trans ((k347 0 (Nat.ne_of_beq_eq_false rfl : 0 ≠ 147) (Nat.le_of_ble_eq_true rfl : 0 < 148)).trans ((k344 0 (Nat.le_of_ble_eq_true rfl : 0 < 147)).trans ((k343 0 (Nat.ne_of_beq_eq_false rfl : 0 ≠ 115)).trans ((k342 0 (Nat.ne_of_beq_eq_false rfl : 0 ≠ 145) (Nat.le_of_ble_eq_true rfl : 0 < 146)).trans ((k339 0 (Nat.le_of_ble_eq_true rfl : 0 < 145)).trans ((k338 0 (Nat.ne_of_beq_eq_false rfl : 0 ≠ 115)).trans ((k337 0 (Nat.ne_of_beq_eq_false rfl : 0 ≠ 143) (Nat.le_of_ble_eq_true rfl : 0 < 144)).trans ((k334 0 (Nat.le_of_ble_eq_true rfl : 0 < 143)).trans ((k333 0 (Nat.ne_of_beq_eq_false rfl : 0 ≠ 115)).trans ((k332 0 (Nat.ne_of_beq_eq_false rfl : 0 ≠ 141) (Nat.le_of_ble_eq_true rfl : 0 < 142)).trans ((k329 0 (Nat.le_of_ble_eq_true rfl : 0 < 141)).trans f328)))))))))))) rfl) ?_
  refine en_s (am_nb (m := 1) (pc1 := 169) (ls1 := [(5, .int 4), (4, .int (Int32.ofNat b)), (0, .ref 0), (1, .int x1), (2, .int x2), (3, .int x3)]) (st1 := [.int 4, .ref 115]) (H1 := H348) (k1 := 148) (n1 := (((((((((43957 + (160 + ((((6 + (h * b)) + h) + b) + 0))) + 10) + 1920) + 10) + 1920) + 10) + 1920) + 10) + 1920)) (by with_unfolding_all rfl)) ?_
  refine en_new (N := 149) (vs := [.null, .int 0, .int 0, .int 0, .int 0, .int 0, .int 0, .int 0, .int 0, .int 0]) (ms := 10) rfl l348 (by with_unfolding_all rfl) ?_
  intro H349 l349 f349 k349
  refine en_s (am_nb (m := 1) (pc1 := 173) (ls1 := [(5, .int 4), (4, .int (Int32.ofNat b)), (0, .ref 0), (1, .int x1), (2, .int x2), (3, .int x3)]) (st1 := [.ref 149, .ref 149, .int 4, .ref 115]) (H1 := H349) (k1 := 149) (n1 := ((((((((((43957 + (160 + ((((6 + (h * b)) + h) + b) + 0))) + 10) + 1920) + 10) + 1920) + 10) + 1920) + 10) + 1920) + 10)) (by with_unfolding_all rfl)) ?_
  refine en_cv0 (as := []) (rest := [.ref 149, .int 4, .ref 115]) rfl rfl rfl rfl f349 rfl (by with_unfolding_all rfl) (by with_unfolding_all rfl) (ci_39 l349 f349) ?_
  rintro H352 ⟨⟨f352_150, f352_149, -⟩, l352, k352⟩
  refine en_aast rfl l352 ((k352 115 (Nat.ne_of_beq_eq_false rfl : 115 ≠ 149) (Nat.le_of_ble_eq_true rfl : 115 < 150)).trans ((k349 115 (Nat.le_of_ble_eq_true rfl : 115 < 149)).trans f348)) f352_149 (by decide) rfl (am_lg_up (i := 4) (l2 := [some 141, some 143, some 145, some 147, some 149, none, none, none]) (by with_unfolding_all rfl) rfl rfl) ?_
  intro H353 l353 f353 k353
  refine en_s (am_nb (m := 6) (pc1 := 164) (ls1 := [(5, .int 5), (4, .int (Int32.ofNat b)), (0, .ref 0), (1, .int x1), (2, .int x2), (3, .int x3)]) (st1 := [.ref 0]) (H1 := H353) (k1 := 150) (n1 := (((((((((((43957 + (160 + ((((6 + (h * b)) + h) + b) + 0))) + 10) + 1920) + 10) + 1920) + 10) + 1920) + 10) + 1920) + 10) + 1920)) (by with_unfolding_all rfl)) ?_
  refine en_s (st_get rfl ((k353 0 (Nat.ne_of_beq_eq_false rfl : 0 ≠ 115)).trans ((k352 0 (Nat.ne_of_beq_eq_false rfl : 0 ≠ 149) (Nat.le_of_ble_eq_true rfl : 0 < 150)).trans ((k349 0 (Nat.le_of_ble_eq_true rfl : 0 < 149)).trans ((k348 0 (Nat.ne_of_beq_eq_false rfl : 0 ≠ 115)).trans ((k347 0 (Nat.ne_of_beq_eq_false rfl : 0 ≠ 147) (Nat.le_of_ble_eq_true rfl : 0 < 148)).trans ((k344 0 (Nat.le_of_ble_eq_true rfl : 0 < 147)).trans ((k343 0 (Nat.ne_of_beq_eq_false rfl : 0 ≠ 115)).trans ((k342 0 (Nat.ne_of_beq_eq_false rfl : 0 ≠ 145) (Nat.le_of_ble_eq_true rfl : 0 < 146)).trans ((k339 0 (Nat.le_of_ble_eq_true rfl : 0 < 145)).trans ((k338 0 (Nat.ne_of_beq_eq_false rfl : 0 ≠ 115)).trans ((k337 0 (Nat.ne_of_beq_eq_false rfl : 0 ≠ 143) (Nat.le_of_ble_eq_true rfl : 0 < 144)).trans ((k334 0 (Nat.le_of_ble_eq_true rfl : 0 < 143)).trans ((k333 0 (Nat.ne_of_beq_eq_false rfl : 0 ≠ 115)).trans ((k332 0 (Nat.ne_of_beq_eq_false rfl : 0 ≠ 141) (Nat.le_of_ble_eq_true rfl : 0 < 142)).trans ((k329 0 (Nat.le_of_ble_eq_true rfl : 0 < 141)).trans f328))))))))))))))) rfl) ?_
  refine en_s (am_nb (m := 1) (pc1 := 169) (ls1 := [(5, .int 5), (4, .int (Int32.ofNat b)), (0, .ref 0), (1, .int x1), (2, .int x2), (3, .int x3)]) (st1 := [.int 5, .ref 115]) (H1 := H353) (k1 := 150) (n1 := (((((((((((43957 + (160 + ((((6 + (h * b)) + h) + b) + 0))) + 10) + 1920) + 10) + 1920) + 10) + 1920) + 10) + 1920) + 10) + 1920)) (by with_unfolding_all rfl)) ?_
  refine en_new (N := 151) (vs := [.null, .int 0, .int 0, .int 0, .int 0, .int 0, .int 0, .int 0, .int 0, .int 0]) (ms := 10) rfl l353 (by with_unfolding_all rfl) ?_
  intro H354 l354 f354 k354
  refine en_s (am_nb (m := 1) (pc1 := 173) (ls1 := [(5, .int 5), (4, .int (Int32.ofNat b)), (0, .ref 0), (1, .int x1), (2, .int x2), (3, .int x3)]) (st1 := [.ref 151, .ref 151, .int 5, .ref 115]) (H1 := H354) (k1 := 151) (n1 := ((((((((((((43957 + (160 + ((((6 + (h * b)) + h) + b) + 0))) + 10) + 1920) + 10) + 1920) + 10) + 1920) + 10) + 1920) + 10) + 1920) + 10)) (by with_unfolding_all rfl)) ?_
  refine en_cv0 (as := []) (rest := [.ref 151, .int 5, .ref 115]) rfl rfl rfl rfl f354 rfl (by with_unfolding_all rfl) (by with_unfolding_all rfl) (ci_40 l354 f354) ?_
  rintro H357 ⟨⟨f357_152, f357_151, -⟩, l357, k357⟩
  refine en_aast rfl l357 ((k357 115 (Nat.ne_of_beq_eq_false rfl : 115 ≠ 151) (Nat.le_of_ble_eq_true rfl : 115 < 152)).trans ((k354 115 (Nat.le_of_ble_eq_true rfl : 115 < 151)).trans f353)) f357_151 (by decide) rfl (am_lg_up (i := 5) (l2 := [some 141, some 143, some 145, some 147, some 149, some 151, none, none]) (by with_unfolding_all rfl) rfl rfl) ?_
  intro H358 l358 f358 k358
  refine en_s (am_nb (m := 6) (pc1 := 164) (ls1 := [(5, .int 6), (4, .int (Int32.ofNat b)), (0, .ref 0), (1, .int x1), (2, .int x2), (3, .int x3)]) (st1 := [.ref 0]) (H1 := H358) (k1 := 152) (n1 := (((((((((((((43957 + (160 + ((((6 + (h * b)) + h) + b) + 0))) + 10) + 1920) + 10) + 1920) + 10) + 1920) + 10) + 1920) + 10) + 1920) + 10) + 1920)) (by with_unfolding_all rfl)) ?_
  refine en_s (st_get rfl ((k358 0 (Nat.ne_of_beq_eq_false rfl : 0 ≠ 115)).trans ((k357 0 (Nat.ne_of_beq_eq_false rfl : 0 ≠ 151) (Nat.le_of_ble_eq_true rfl : 0 < 152)).trans ((k354 0 (Nat.le_of_ble_eq_true rfl : 0 < 151)).trans ((k353 0 (Nat.ne_of_beq_eq_false rfl : 0 ≠ 115)).trans ((k352 0 (Nat.ne_of_beq_eq_false rfl : 0 ≠ 149) (Nat.le_of_ble_eq_true rfl : 0 < 150)).trans ((k349 0 (Nat.le_of_ble_eq_true rfl : 0 < 149)).trans ((k348 0 (Nat.ne_of_beq_eq_false rfl : 0 ≠ 115)).trans ((k347 0 (Nat.ne_of_beq_eq_false rfl : 0 ≠ 147) (Nat.le_of_ble_eq_true rfl : 0 < 148)).trans ((k344 0 (Nat.le_of_ble_eq_true rfl : 0 < 147)).trans ((k343 0 (Nat.ne_of_beq_eq_false rfl : 0 ≠ 115)).trans ((k342 0 (Nat.ne_of_beq_eq_false rfl : 0 ≠ 145) (Nat.le_of_ble_eq_true rfl : 0 < 146)).trans ((k339 0 (Nat.le_of_ble_eq_true rfl : 0 < 145)).trans ((k338 0 (Nat.ne_of_beq_eq_false rfl : 0 ≠ 115)).trans ((k337 0 (Nat.ne_of_beq_eq_false rfl : 0 ≠ 143) (Nat.le_of_ble_eq_true rfl : 0 < 144)).trans ((k334 0 (Nat.le_of_ble_eq_true rfl : 0 < 143)).trans ((k333 0 (Nat.ne_of_beq_eq_false rfl : 0 ≠ 115)).trans ((k332 0 (Nat.ne_of_beq_eq_false rfl : 0 ≠ 141) (Nat.le_of_ble_eq_true rfl : 0 < 142)).trans ((k329 0 (Nat.le_of_ble_eq_true rfl : 0 < 141)).trans f328)))))))))))))))))) rfl) ?_
  refine en_s (am_nb (m := 1) (pc1 := 169) (ls1 := [(5, .int 6), (4, .int (Int32.ofNat b)), (0, .ref 0), (1, .int x1), (2, .int x2), (3, .int x3)]) (st1 := [.int 6, .ref 115]) (H1 := H358) (k1 := 152) (n1 := (((((((((((((43957 + (160 + ((((6 + (h * b)) + h) + b) + 0))) + 10) + 1920) + 10) + 1920) + 10) + 1920) + 10) + 1920) + 10) + 1920) + 10) + 1920)) (by with_unfolding_all rfl)) ?_
  refine en_new (N := 153) (vs := [.null, .int 0, .int 0, .int 0, .int 0, .int 0, .int 0, .int 0, .int 0, .int 0]) (ms := 10) rfl l358 (by with_unfolding_all rfl) ?_
  intro H359 l359 f359 k359
  refine en_s (am_nb (m := 1) (pc1 := 173) (ls1 := [(5, .int 6), (4, .int (Int32.ofNat b)), (0, .ref 0), (1, .int x1), (2, .int x2), (3, .int x3)]) (st1 := [.ref 153, .ref 153, .int 6, .ref 115]) (H1 := H359) (k1 := 153) (n1 := ((((((((((((((43957 + (160 + ((((6 + (h * b)) + h) + b) + 0))) + 10) + 1920) + 10) + 1920) + 10) + 1920) + 10) + 1920) + 10) + 1920) + 10) + 1920) + 10)) (by with_unfolding_all rfl)) ?_
  refine en_cv0 (as := []) (rest := [.ref 153, .int 6, .ref 115]) rfl rfl rfl rfl f359 rfl (by with_unfolding_all rfl) (by with_unfolding_all rfl) (ci_41 l359 f359) ?_
  rintro H362 ⟨⟨f362_154, f362_153, -⟩, l362, k362⟩
  refine en_aast rfl l362 ((k362 115 (Nat.ne_of_beq_eq_false rfl : 115 ≠ 153) (Nat.le_of_ble_eq_true rfl : 115 < 154)).trans ((k359 115 (Nat.le_of_ble_eq_true rfl : 115 < 153)).trans f358)) f362_153 (by decide) rfl (am_lg_up (i := 6) (l2 := [some 141, some 143, some 145, some 147, some 149, some 151, some 153, none]) (by with_unfolding_all rfl) rfl rfl) ?_
  intro H363 l363 f363 k363
  refine en_s (am_nb (m := 6) (pc1 := 164) (ls1 := [(5, .int 7), (4, .int (Int32.ofNat b)), (0, .ref 0), (1, .int x1), (2, .int x2), (3, .int x3)]) (st1 := [.ref 0]) (H1 := H363) (k1 := 154) (n1 := (((((((((((((((43957 + (160 + ((((6 + (h * b)) + h) + b) + 0))) + 10) + 1920) + 10) + 1920) + 10) + 1920) + 10) + 1920) + 10) + 1920) + 10) + 1920) + 10) + 1920)) (by with_unfolding_all rfl)) ?_
  refine en_s (st_get rfl ((k363 0 (Nat.ne_of_beq_eq_false rfl : 0 ≠ 115)).trans ((k362 0 (Nat.ne_of_beq_eq_false rfl : 0 ≠ 153) (Nat.le_of_ble_eq_true rfl : 0 < 154)).trans ((k359 0 (Nat.le_of_ble_eq_true rfl : 0 < 153)).trans ((k358 0 (Nat.ne_of_beq_eq_false rfl : 0 ≠ 115)).trans ((k357 0 (Nat.ne_of_beq_eq_false rfl : 0 ≠ 151) (Nat.le_of_ble_eq_true rfl : 0 < 152)).trans ((k354 0 (Nat.le_of_ble_eq_true rfl : 0 < 151)).trans ((k353 0 (Nat.ne_of_beq_eq_false rfl : 0 ≠ 115)).trans ((k352 0 (Nat.ne_of_beq_eq_false rfl : 0 ≠ 149) (Nat.le_of_ble_eq_true rfl : 0 < 150)).trans ((k349 0 (Nat.le_of_ble_eq_true rfl : 0 < 149)).trans ((k348 0 (Nat.ne_of_beq_eq_false rfl : 0 ≠ 115)).trans ((k347 0 (Nat.ne_of_beq_eq_false rfl : 0 ≠ 147) (Nat.le_of_ble_eq_true rfl : 0 < 148)).trans ((k344 0 (Nat.le_of_ble_eq_true rfl : 0 < 147)).trans ((k343 0 (Nat.ne_of_beq_eq_false rfl : 0 ≠ 115)).trans ((k342 0 (Nat.ne_of_beq_eq_false rfl : 0 ≠ 145) (Nat.le_of_ble_eq_true rfl : 0 < 146)).trans ((k339 0 (Nat.le_of_ble_eq_true rfl : 0 < 145)).trans ((k338 0 (Nat.ne_of_beq_eq_false rfl : 0 ≠ 115)).trans ((k337 0 (Nat.ne_of_beq_eq_false rfl : 0 ≠ 143) (Nat.le_of_ble_eq_true rfl : 0 < 144)).trans ((k334 0 (Nat.le_of_ble_eq_true rfl : 0 < 143)).trans ((k333 0 (Nat.ne_of_beq_eq_false rfl : 0 ≠ 115)).trans ((k332 0 (Nat.ne_of_beq_eq_false rfl : 0 ≠ 141) (Nat.le_of_ble_eq_true rfl : 0 < 142)).trans ((k329 0 (Nat.le_of_ble_eq_true rfl : 0 < 141)).trans f328))))))))))))))))))))) rfl) ?_
  refine en_s (am_nb (m := 1) (pc1 := 169) (ls1 := [(5, .int 7), (4, .int (Int32.ofNat b)), (0, .ref 0), (1, .int x1), (2, .int x2), (3, .int x3)]) (st1 := [.int 7, .ref 115]) (H1 := H363) (k1 := 154) (n1 := (((((((((((((((43957 + (160 + ((((6 + (h * b)) + h) + b) + 0))) + 10) + 1920) + 10) + 1920) + 10) + 1920) + 10) + 1920) + 10) + 1920) + 10) + 1920) + 10) + 1920)) (by with_unfolding_all rfl)) ?_
  refine en_new (N := 155) (vs := [.null, .int 0, .int 0, .int 0, .int 0, .int 0, .int 0, .int 0, .int 0, .int 0]) (ms := 10) rfl l363 (by with_unfolding_all rfl) ?_
  intro H364 l364 f364 k364
  refine en_s (am_nb (m := 1) (pc1 := 173) (ls1 := [(5, .int 7), (4, .int (Int32.ofNat b)), (0, .ref 0), (1, .int x1), (2, .int x2), (3, .int x3)]) (st1 := [.ref 155, .ref 155, .int 7, .ref 115]) (H1 := H364) (k1 := 155) (n1 := ((((((((((((((((43957 + (160 + ((((6 + (h * b)) + h) + b) + 0))) + 10) + 1920) + 10) + 1920) + 10) + 1920) + 10) + 1920) + 10) + 1920) + 10) + 1920) + 10) + 1920) + 10)) (by with_unfolding_all rfl)) ?_
  refine en_cv0 (as := []) (rest := [.ref 155, .int 7, .ref 115]) rfl rfl rfl rfl f364 rfl (by with_unfolding_all rfl) (by with_unfolding_all rfl) (ci_42 l364 f364) ?_
  rintro H367 ⟨⟨f367_156, f367_155, -⟩, l367, k367⟩
  refine en_aast rfl l367 ((k367 115 (Nat.ne_of_beq_eq_false rfl : 115 ≠ 155) (Nat.le_of_ble_eq_true rfl : 115 < 156)).trans ((k364 115 (Nat.le_of_ble_eq_true rfl : 115 < 155)).trans f363)) f367_155 (by decide) rfl (am_lg_up (i := 7) (l2 := [some 141, some 143, some 145, some 147, some 149, some 151, some 153, some 155]) (by with_unfolding_all rfl) rfl rfl) ?_
  intro H368 l368 f368 k368
  refine en_s (am_nb (m := 5) (pc1 := 183) (ls1 := [(5, .int 8), (4, .int (Int32.ofNat b)), (0, .ref 0), (1, .int x1), (2, .int x2), (3, .int x3)]) (st1 := []) (H1 := H368) (k1 := 156) (n1 := (((((((((((((((((43957 + (160 + ((((6 + (h * b)) + h) + b) + 0))) + 10) + 1920) + 10) + 1920) + 10) + 1920) + 10) + 1920) + 10) + 1920) + 10) + 1920) + 10) + 1920) + 10) + 1920)) (by with_unfolding_all rfl)) ?_
  have K54 : ∀ j : Nat, j < 157 → j ≠ 115 → H368[j]? = H367[j]? := fun j hj n115 => (k368 j n115)
  have K53 : ∀ j : Nat, j < 156 → j ≠ 115 → j ≠ 155 → H368[j]? = H364[j]? := fun j hj n115 n155 => (K54 j (Nat.lt_of_lt_of_le hj (Nat.le_of_ble_eq_true rfl : 156 ≤ 157)) n115).trans (k367 j n155 hj)
  have K52 : ∀ j : Nat, j < 155 → j ≠ 115 → H368[j]? = H363[j]? := fun j hj n115 => (K53 j (Nat.lt_of_lt_of_le hj (Nat.le_of_ble_eq_true rfl : 155 ≤ 156)) n115 (Nat.ne_of_lt (Nat.lt_of_lt_of_le hj (Nat.le_of_ble_eq_true rfl : 155 ≤ 155)))).trans (k364 j hj)
  have K51 : ∀ j : Nat, j < 155 → j ≠ 115 → H368[j]? = H362[j]? := fun j hj n115 => (K52 j hj n115).trans (k363 j n115)
  have K50 : ∀ j : Nat, j < 154 → j ≠ 115 → j ≠ 153 → H368[j]? = H359[j]? := fun j hj n115 n153 => (K51 j (Nat.lt_of_lt_of_le hj (Nat.le_of_ble_eq_true rfl : 154 ≤ 155)) n115).trans (k362 j n153 hj)
  have K49 : ∀ j : Nat, j < 153 → j ≠ 115 → H368[j]? = H358[j]? := fun j hj n115 => (K50 j (Nat.lt_of_lt_of_le hj (Nat.le_of_ble_eq_true rfl : 153 ≤ 154)) n115 (Nat.ne_of_lt (Nat.lt_of_lt_of_le hj (Nat.le_of_ble_eq_true rfl : 153 ≤ 153)))).trans (k359 j hj)
  have K48 : ∀ j : Nat, j < 153 → j ≠ 115 → H368[j]? = H357[j]? := fun j hj n115 => (K49 j hj n115).trans (k358 j n115)
  have K47 : ∀ j : Nat, j < 152 → j ≠ 115 → j ≠ 151 → H368[j]? = H354[j]? := fun j hj n115 n151 => (K48 j (Nat.lt_of_lt_of_le hj (Nat.le_of_ble_eq_true rfl : 152 ≤ 153)) n115).trans (k357 j n151 hj)
  have K46 : ∀ j : Nat, j < 151 → j ≠ 115 → H368[j]? = H353[j]? := fun j hj n115 => (K47 j (Nat.lt_of_lt_of_le hj (Nat.le_of_ble_eq_true rfl : 151 ≤ 152)) n115 (Nat.ne_of_lt (Nat.lt_of_lt_of_le hj (Nat.le_of_ble_eq_true rfl : 151 ≤ 151)))).trans (k354 j hj)
  have K45 : ∀ j : Nat, j < 151 → j ≠ 115 → H368[j]? = H352[j]? := fun j hj n115 => (K46 j hj n115).trans (k353 j n115)
  have K44 : ∀ j : Nat, j < 150 → j ≠ 115 → j ≠ 149 → H368[j]? = H349[j]? := fun j hj n115 n149 => (K45 j (Nat.lt_of_lt_of_le hj (Nat.le_of_ble_eq_true rfl : 150 ≤ 151)) n115).trans (k352 j n149 hj)
  have K43 : ∀ j : Nat, j < 149 → j ≠ 115 → H368[j]? = H348[j]? := fun j hj n115 => (K44 j (Nat.lt_of_lt_of_le hj (Nat.le_of_ble_eq_true rfl : 149 ≤ 150)) n115 (Nat.ne_of_lt (Nat.lt_of_lt_of_le hj (Nat.le_of_ble_eq_true rfl : 149 ≤ 149)))).trans (k349 j hj)
  have K42 : ∀ j : Nat, j < 149 → j ≠ 115 → H368[j]? = H347[j]? := fun j hj n115 => (K43 j hj n115).trans (k348 j n115)
  have K41 : ∀ j : Nat, j < 148 → j ≠ 115 → j ≠ 147 → H368[j]? = H344[j]? := fun j hj n115 n147 => (K42 j (Nat.lt_of_lt_of_le hj (Nat.le_of_ble_eq_true rfl : 148 ≤ 149)) n115).trans (k347 j n147 hj)
  have K40 : ∀ j : Nat, j < 147 → j ≠ 115 → H368[j]? = H343[j]? := fun j hj n115 => (K41 j (Nat.lt_of_lt_of_le hj (Nat.le_of_ble_eq_true rfl : 147 ≤ 148)) n115 (Nat.ne_of_lt (Nat.lt_of_lt_of_le hj (Nat.le_of_ble_eq_true rfl : 147 ≤ 147)))).trans (k344 j hj)
  have K39 : ∀ j : Nat, j < 147 → j ≠ 115 → H368[j]? = H342[j]? := fun j hj n115 => (K40 j hj n115).trans (k343 j n115)
  have K38 : ∀ j : Nat, j < 146 → j ≠ 115 → j ≠ 145 → H368[j]? = H339[j]? := fun j hj n115 n145 => (K39 j (Nat.lt_of_lt_of_le hj (Nat.le_of_ble_eq_true rfl : 146 ≤ 147)) n115).trans (k342 j n145 hj)
  have K37 : ∀ j : Nat, j < 145 → j ≠ 115 → H368[j]? = H338[j]? := fun j hj n115 => (K38 j (Nat.lt_of_lt_of_le hj (Nat.le_of_ble_eq_true rfl : 145 ≤ 146)) n115 (Nat.ne_of_lt (Nat.lt_of_lt_of_le hj (Nat.le_of_ble_eq_true rfl : 145 ≤ 145)))).trans (k339 j hj)
  have K36 : ∀ j : Nat, j < 145 → j ≠ 115 → H368[j]? = H337[j]? := fun j hj n115 => (K37 j hj n115).trans (k338 j n115)
  have K35 : ∀ j : Nat, j < 144 → j ≠ 115 → j ≠ 143 → H368[j]? = H334[j]? := fun j hj n115 n143 => (K36 j (Nat.lt_of_lt_of_le hj (Nat.le_of_ble_eq_true rfl : 144 ≤ 145)) n115).trans (k337 j n143 hj)
  have K34 : ∀ j : Nat, j < 143 → j ≠ 115 → H368[j]? = H333[j]? := fun j hj n115 => (K35 j (Nat.lt_of_lt_of_le hj (Nat.le_of_ble_eq_true rfl : 143 ≤ 144)) n115 (Nat.ne_of_lt (Nat.lt_of_lt_of_le hj (Nat.le_of_ble_eq_true rfl : 143 ≤ 143)))).trans (k334 j hj)
  have K33 : ∀ j : Nat, j < 143 → j ≠ 115 → H368[j]? = H332[j]? := fun j hj n115 => (K34 j hj n115).trans (k333 j n115)
  have K32 : ∀ j : Nat, j < 142 → j ≠ 115 → j ≠ 141 → H368[j]? = H329[j]? := fun j hj n115 n141 => (K33 j (Nat.lt_of_lt_of_le hj (Nat.le_of_ble_eq_true rfl : 142 ≤ 143)) n115).trans (k332 j n141 hj)
  have K31 : ∀ j : Nat, j < 141 → j ≠ 115 → H368[j]? = H328[j]? := fun j hj n115 => (K32 j (Nat.lt_of_lt_of_le hj (Nat.le_of_ble_eq_true rfl : 141 ≤ 142)) n115 (Nat.ne_of_lt (Nat.lt_of_lt_of_le hj (Nat.le_of_ble_eq_true rfl : 141 ≤ 141)))).trans (k329 j hj)
  have K30 : ∀ j : Nat, j < 141 → j ≠ 0 → j ≠ 115 → H368[j]? = H327[j]? := fun j hj n0 n115 => (K31 j hj n115).trans (k328 j n0)
  have K29 : ∀ j : Nat, j < 141 → j ≠ 0 → j ≠ 115 → H368[j]? = H326[j]? := fun j hj n0 n115 => (K30 j hj n0 n115).trans (k327 j n0)
  have K28 : ∀ j : Nat, j < 130 → j ≠ 0 → j ≠ 115 → j ≠ 129 → H368[j]? = H275[j]? := fun j hj n0 n115 n129 => (K29 j (Nat.lt_of_lt_of_le hj (Nat.le_of_ble_eq_true rfl : 130 ≤ 141)) n0 n115).trans (k326 j n129 hj)
  have K27 : ∀ j : Nat, j < 129 → j ≠ 0 → j ≠ 115 → H368[j]? = H274[j]? := fun j hj n0 n115 => (K28 j (Nat.lt_of_lt_of_le hj (Nat.le_of_ble_eq_true rfl : 129 ≤ 130)) n0 n115 (Nat.ne_of_lt (Nat.lt_of_lt_of_le hj (Nat.le_of_ble_eq_true rfl : 129 ≤ 129)))).trans (k275 j hj)
  have K26 : ∀ j : Nat, j < 129 → j ≠ 0 → j ≠ 115 → H368[j]? = H273[j]? := fun j hj n0 n115 => (K27 j hj n0 n115).trans (k274 j n0)
  have K25 : ∀ j : Nat, j < 129 → j ≠ 0 → j ≠ 115 → j ≠ 128 → H368[j]? = H271[j]? := fun j hj n0 n115 n128 => (K26 j hj n0 n115).trans (k273 j n128 hj)
  have K24 : ∀ j : Nat, j < 128 → j ≠ 0 → j ≠ 115 → H368[j]? = H270[j]? := fun j hj n0 n115 => (K25 j (Nat.lt_of_lt_of_le hj (Nat.le_of_ble_eq_true rfl : 128 ≤ 129)) n0 n115 (Nat.ne_of_lt (Nat.lt_of_lt_of_le hj (Nat.le_of_ble_eq_true rfl : 128 ≤ 128)))).trans (k271 j hj)
  have K23 : ∀ j : Nat, j < 128 → j ≠ 0 → j ≠ 115 → H368[j]? = H269[j]? := fun j hj n0 n115 => (K24 j hj n0 n115).trans (k270 j n0)
  have K22 : ∀ j : Nat, j < 128 → j ≠ 0 → j ≠ 115 → j ≠ 127 → H368[j]? = H267[j]? := fun j hj n0 n115 n127 => (K23 j hj n0 n115).trans (k269 j n127 hj)
  have K21 : ∀ j : Nat, j < 127 → j ≠ 0 → j ≠ 115 → H368[j]? = H266[j]? := fun j hj n0 n115 => (K22 j (Nat.lt_of_lt_of_le hj (Nat.le_of_ble_eq_true rfl : 127 ≤ 128)) n0 n115 (Nat.ne_of_lt (Nat.lt_of_lt_of_le hj (Nat.le_of_ble_eq_true rfl : 127 ≤ 127)))).trans (k267 j hj)
  have K20 : ∀ j : Nat, j < 127 → j ≠ 0 → j ≠ 115 → H368[j]? = H265[j]? := fun j hj n0 n115 => (K21 j hj n0 n115).trans (k266 j n0)
  have K19 : ∀ j : Nat, j < 124 → j ≠ 0 → j ≠ 115 → j ≠ 123 → H368[j]? = H257[j]? := fun j hj n0 n115 n123 => (K20 j (Nat.lt_of_lt_of_le hj (Nat.le_of_ble_eq_true rfl : 124 ≤ 127)) n0 n115).trans (k265 j n123 hj)
  have K18 : ∀ j : Nat, j < 123 → j ≠ 0 → j ≠ 115 → H368[j]? = H256[j]? := fun j hj n0 n115 => (K19 j (Nat.lt_of_lt_of_le hj (Nat.le_of_ble_eq_true rfl : 123 ≤ 124)) n0 n115 (Nat.ne_of_lt (Nat.lt_of_lt_of_le hj (Nat.le_of_ble_eq_true rfl : 123 ≤ 123)))).trans (k257 j hj)
  have K17 : ∀ j : Nat, j < 123 → j ≠ 0 → j ≠ 115 → H368[j]? = H255[j]? := fun j hj n0 n115 => (K18 j hj n0 n115).trans (k256 j n0)
  have K16 : ∀ j : Nat, j < 117 → j ≠ 0 → j ≠ 115 → j ≠ 116 → H368[j]? = H238[j]? := fun j hj n0 n115 n116 => (K17 j (Nat.lt_of_lt_of_le hj (Nat.le_of_ble_eq_true rfl : 117 ≤ 123)) n0 n115).trans (k255 j n116 hj)
  have K15 : ∀ j : Nat, j < 116 → j ≠ 0 → j ≠ 115 → H368[j]? = H237[j]? := fun j hj n0 n115 => (K16 j (Nat.lt_of_lt_of_le hj (Nat.le_of_ble_eq_true rfl : 116 ≤ 117)) n0 n115 (Nat.ne_of_lt (Nat.lt_of_lt_of_le hj (Nat.le_of_ble_eq_true rfl : 116 ≤ 116)))).trans (k238 j hj)
  have K14 : ∀ j : Nat, j < 116 → j ≠ 0 → j ≠ 115 → H368[j]? = H236[j]? := fun j hj n0 n115 => (K15 j hj n0 n115).trans (k237 j n0)
  have K13 : ∀ j : Nat, j < 115 → j ≠ 0 → H368[j]? = H235[j]? := fun j hj n0 => (K14 j (Nat.lt_of_lt_of_le hj (Nat.le_of_ble_eq_true rfl : 115 ≤ 116)) n0 (Nat.ne_of_lt (Nat.lt_of_lt_of_le hj (Nat.le_of_ble_eq_true rfl : 115 ≤ 115)))).trans (k236 j hj)
  have K12 : ∀ j : Nat, j < 115 → j ≠ 0 → H368[j]? = H234[j]? := fun j hj n0 => (K13 j hj n0).trans (k235 j n0)
  have K11 : ∀ j : Nat, j < 98 → j ≠ 0 → j ≠ 97 → H368[j]? = H208[j]? := fun j hj n0 n97 => (K12 j (Nat.lt_of_lt_of_le hj (Nat.le_of_ble_eq_true rfl : 98 ≤ 115)) n0).trans (k234 j n97 hj)
  have K10 : ∀ j : Nat, j < 97 → j ≠ 0 → H368[j]? = H207[j]? := fun j hj n0 => (K11 j (Nat.lt_of_lt_of_le hj (Nat.le_of_ble_eq_true rfl : 97 ≤ 98)) n0 (Nat.ne_of_lt (Nat.lt_of_lt_of_le hj (Nat.le_of_ble_eq_true rfl : 97 ≤ 97)))).trans (k208 j hj)
  have K9 : ∀ j : Nat, j < 97 → j ≠ 0 → H368[j]? = H206[j]? := fun j hj n0 => (K10 j hj n0).trans (k207 j n0)
  have K8 : ∀ j : Nat, j < 94 → j ≠ 0 → j ≠ 93 → H368[j]? = H199[j]? := fun j hj n0 n93 => (K9 j (Nat.lt_of_lt_of_le hj (Nat.le_of_ble_eq_true rfl : 94 ≤ 97)) n0).trans (k206 j n93 hj)
  have K7 : ∀ j : Nat, j < 93 → j ≠ 0 → H368[j]? = H198[j]? := fun j hj n0 => (K8 j (Nat.lt_of_lt_of_le hj (Nat.le_of_ble_eq_true rfl : 93 ≤ 94)) n0 (Nat.ne_of_lt (Nat.lt_of_lt_of_le hj (Nat.le_of_ble_eq_true rfl : 93 ≤ 93)))).trans (k199 j hj)
  have K6 : ∀ j : Nat, j < 93 → j ≠ 0 → H368[j]? = H197[j]? := fun j hj n0 => (K7 j hj n0).trans (k198 j n0)
  have K5 : ∀ j : Nat, j < 4 → j ≠ 0 → j ≠ 3 → H368[j]? = H5[j]? := fun j hj n0 n3 => (K6 j (Nat.lt_of_lt_of_le hj (Nat.le_of_ble_eq_true rfl : 4 ≤ 93)) n0).trans (k197 j n3 hj)
  have K4 : ∀ j : Nat, j < 3 → j ≠ 0 → H368[j]? = H4[j]? := fun j hj n0 => (K5 j (Nat.lt_of_lt_of_le hj (Nat.le_of_ble_eq_true rfl : 3 ≤ 4)) n0 (Nat.ne_of_lt (Nat.lt_of_lt_of_le hj (Nat.le_of_ble_eq_true rfl : 3 ≤ 3)))).trans (k5 j hj)
  have K3 : ∀ j : Nat, j < 3 → j ≠ 0 → H368[j]? = H3[j]? := fun j hj n0 => (K4 j hj n0).trans (k4 j n0)
  have K2 : ∀ j : Nat, j < 2 → j ≠ 0 → H368[j]? = H2[j]? := fun j hj n0 => (K3 j (Nat.lt_of_lt_of_le hj (Nat.le_of_ble_eq_true rfl : 2 ≤ 3)) n0).trans (k3 j hj)
  have K1 : ∀ j : Nat, j < 2 → j ≠ 0 → H368[j]? = H1[j]? := fun j hj n0 => (K2 j hj n0).trans (k2 j n0)
  have K0 : ∀ j : Nat, j < 1 → j ≠ 0 → H368[j]? = H[j]? := fun j hj n0 => (K1 j (Nat.lt_of_lt_of_le hj (Nat.le_of_ble_eq_true rfl : 1 ≤ 2)) n0).trans (k1 j hj)
  exact en_r (st_vret rfl rfl) ⟨⟨((K1 1 (Nat.le_of_ble_eq_true rfl : 1 < 2) (Nat.ne_of_beq_eq_false rfl : 1 ≠ 0)).trans f1), ((K52 0 (Nat.le_of_ble_eq_true rfl : 0 < 155) (Nat.ne_of_beq_eq_false rfl : 0 ≠ 115)).trans ((k363 0 (Nat.ne_of_beq_eq_false rfl : 0 ≠ 115)).trans ((k362 0 (Nat.ne_of_beq_eq_false rfl : 0 ≠ 153) (Nat.le_of_ble_eq_true rfl : 0 < 154)).trans ((k359 0 (Nat.le_of_ble_eq_true rfl : 0 < 153)).trans ((k358 0 (Nat.ne_of_beq_eq_false rfl : 0 ≠ 115)).trans ((k357 0 (Nat.ne_of_beq_eq_false rfl : 0 ≠ 151) (Nat.le_of_ble_eq_true rfl : 0 < 152)).trans ((k354 0 (Nat.le_of_ble_eq_true rfl : 0 < 151)).trans ((k353 0 (Nat.ne_of_beq_eq_false rfl : 0 ≠ 115)).trans ((k352 0 (Nat.ne_of_beq_eq_false rfl : 0 ≠ 149) (Nat.le_of_ble_eq_true rfl : 0 < 150)).trans ((k349 0 (Nat.le_of_ble_eq_true rfl : 0 < 149)).trans ((k348 0 (Nat.ne_of_beq_eq_false rfl : 0 ≠ 115)).trans ((k347 0 (Nat.ne_of_beq_eq_false rfl : 0 ≠ 147) (Nat.le_of_ble_eq_true rfl : 0 < 148)).trans ((k344 0 (Nat.le_of_ble_eq_true rfl : 0 < 147)).trans ((k343 0 (Nat.ne_of_beq_eq_false rfl : 0 ≠ 115)).trans ((k342 0 (Nat.ne_of_beq_eq_false rfl : 0 ≠ 145) (Nat.le_of_ble_eq_true rfl : 0 < 146)).trans ((k339 0 (Nat.le_of_ble_eq_true rfl : 0 < 145)).trans ((k338 0 (Nat.ne_of_beq_eq_false rfl : 0 ≠ 115)).trans ((k337 0 (Nat.ne_of_beq_eq_false rfl : 0 ≠ 143) (Nat.le_of_ble_eq_true rfl : 0 < 144)).trans ((k334 0 (Nat.le_of_ble_eq_true rfl : 0 < 143)).trans ((k333 0 (Nat.ne_of_beq_eq_false rfl : 0 ≠ 115)).trans ((k332 0 (Nat.ne_of_beq_eq_false rfl : 0 ≠ 141) (Nat.le_of_ble_eq_true rfl : 0 < 142)).trans ((k329 0 (Nat.le_of_ble_eq_true rfl : 0 < 141)).trans f328)))))))))))))))))))))), ((K3 2 (Nat.le_of_ble_eq_true rfl : 2 < 3) (Nat.ne_of_beq_eq_false rfl : 2 ≠ 0)).trans f3), ((K6 3 (Nat.le_of_ble_eq_true rfl : 3 < 93) (Nat.ne_of_beq_eq_false rfl : 3 ≠ 0)).trans f197_3), ((K6 4 (Nat.le_of_ble_eq_true rfl : 4 < 93) (Nat.ne_of_beq_eq_false rfl : 4 ≠ 0)).trans f197_4), ((K6 5 (Nat.le_of_ble_eq_true rfl : 5 < 93) (Nat.ne_of_beq_eq_false rfl : 5 ≠ 0)).trans f197_5), ((K6 6 (Nat.le_of_ble_eq_true rfl : 6 < 93) (Nat.ne_of_beq_eq_false rfl : 6 ≠ 0)).trans f197_6), ((K6 7 (Nat.le_of_ble_eq_true rfl : 7 < 93) (Nat.ne_of_beq_eq_false rfl : 7 ≠ 0)).trans f197_7), ((K6 8 (Nat.le_of_ble_eq_true rfl : 8 < 93) (Nat.ne_of_beq_eq_false rfl : 8 ≠ 0)).trans f197_8), ((K6 9 (Nat.le_of_ble_eq_true rfl : 9 < 93) (Nat.ne_of_beq_eq_false rfl : 9 ≠ 0)).trans f197_9), ((K6 10 (Nat.le_of_ble_eq_true rfl : 10 < 93) (Nat.ne_of_beq_eq_false rfl : 10 ≠ 0)).trans f197_10), ((K6 11 (Nat.le_of_ble_eq_true rfl : 11 < 93) (Nat.ne_of_beq_eq_false rfl : 11 ≠ 0)).trans f197_11), ((K6 12 (Nat.le_of_ble_eq_true rfl : 12 < 93) (Nat.ne_of_beq_eq_false rfl : 12 ≠ 0)).trans f197_12), ((K6 13 (Nat.le_of_ble_eq_true rfl : 13 < 93) (Nat.ne_of_beq_eq_false rfl : 13 ≠ 0)).trans f197_13), ((K6 14 (Nat.le_of_ble_eq_true rfl : 14 < 93) (Nat.ne_of_beq_eq_false rfl : 14 ≠ 0)).trans f197_14), ((K6 15 (Nat.le_of_ble_eq_true rfl : 15 < 93) (Nat.ne_of_beq_eq_false rfl : 15 ≠ 0)).trans f197_15), ((K6 16 (Nat.le_of_ble_eq_true rfl : 16 < 93) (Nat.ne_of_beq_eq_false rfl : 16 ≠ 0)).trans f197_16), ((K6 17 (Nat.le_of_ble_eq_true rfl : 17 < 93) (Nat.ne_of_beq_eq_false rfl : 17 ≠ 0)).trans f197_17), ((K6 18 (Nat.le_of_ble_eq_true rfl : 18 < 93) (Nat.ne_of_beq_eq_false rfl : 18 ≠ 0)).trans f197_18), ((K6 19 (Nat.le_of_ble_eq_true rfl : 19 < 93) (Nat.ne_of_beq_eq_false rfl : 19 ≠ 0)).trans f197_19), ((K6 20 (Nat.le_of_ble_eq_true rfl : 20 < 93) (Nat.ne_of_beq_eq_false rfl : 20 ≠ 0)).trans f197_20), ((K6 21 (Nat.le_of_ble_eq_true rfl : 21 < 93) (Nat.ne_of_beq_eq_false rfl : 21 ≠ 0)).trans f197_21), ((K6 22 (Nat.le_of_ble_eq_true rfl : 22 < 93) (Nat.ne_of_beq_eq_false rfl : 22 ≠ 0)).trans f197_22), ((K6 23 (Nat.le_of_ble_eq_true rfl : 23 < 93) (Nat.ne_of_beq_eq_false rfl : 23 ≠ 0)).trans f197_23), ((K6 24 (Nat.le_of_ble_eq_true rfl : 24 < 93) (Nat.ne_of_beq_eq_false rfl : 24 ≠ 0)).trans f197_24), ((K6 25 (Nat.le_of_ble_eq_true rfl : 25 < 93) (Nat.ne_of_beq_eq_false rfl : 25 ≠ 0)).trans f197_25), ((K6 26 (Nat.le_of_ble_eq_true rfl : 26 < 93) (Nat.ne_of_beq_eq_false rfl : 26 ≠ 0)).trans f197_26), ((K6 27 (Nat.le_of_ble_eq_true rfl : 27 < 93) (Nat.ne_of_beq_eq_false rfl : 27 ≠ 0)).trans f197_27), ((K6 28 (Nat.le_of_ble_eq_true rfl : 28 < 93) (Nat.ne_of_beq_eq_false rfl : 28 ≠ 0)).trans f197_28), ((K6 29 (Nat.le_of_ble_eq_true rfl : 29 < 93) (Nat.ne_of_beq_eq_false rfl : 29 ≠ 0)).trans f197_29), ((K6 30 (Nat.le_of_ble_eq_true rfl : 30 < 93) (Nat.ne_of_beq_eq_false rfl : 30 ≠ 0)).trans f197_30), ((K6 31 (Nat.le_of_ble_eq_true rfl : 31 < 93) (Nat.ne_of_beq_eq_false rfl : 31 ≠ 0)).trans f197_31), ((K6 32 (Nat.le_of_ble_eq_true rfl : 32 < 93) (Nat.ne_of_beq_eq_false rfl : 32 ≠ 0)).trans f197_32), ((K6 33 (Nat.le_of_ble_eq_true rfl : 33 < 93) (Nat.ne_of_beq_eq_false rfl : 33 ≠ 0)).trans f197_33), ((K6 34 (Nat.le_of_ble_eq_true rfl : 34 < 93) (Nat.ne_of_beq_eq_false rfl : 34 ≠ 0)).trans f197_34), ((K6 35 (Nat.le_of_ble_eq_true rfl : 35 < 93) (Nat.ne_of_beq_eq_false rfl : 35 ≠ 0)).trans f197_35), ((K6 36 (Nat.le_of_ble_eq_true rfl : 36 < 93) (Nat.ne_of_beq_eq_false rfl : 36 ≠ 0)).trans f197_36), ((K6 37 (Nat.le_of_ble_eq_true rfl : 37 < 93) (Nat.ne_of_beq_eq_false rfl : 37 ≠ 0)).trans f197_37), ((K6 38 (Nat.le_of_ble_eq_true rfl : 38 < 93) (Nat.ne_of_beq_eq_false rfl : 38 ≠ 0)).trans f197_38), ((K6 39 (Nat.le_of_ble_eq_true rfl : 39 < 93) (Nat.ne_of_beq_eq_false rfl : 39 ≠ 0)).trans f197_39), ((K6 40 (Nat.le_of_ble_eq_true rfl : 40 < 93) (Nat.ne_of_beq_eq_false rfl : 40 ≠ 0)).trans f197_40), ((K6 41 (Nat.le_of_ble_eq_true rfl : 41 < 93) (Nat.ne_of_beq_eq_false rfl : 41 ≠ 0)).trans f197_41), ((K6 42 (Nat.le_of_ble_eq_true rfl : 42 < 93) (Nat.ne_of_beq_eq_false rfl : 42 ≠ 0)).trans f197_42), ((K6 43 (Nat.le_of_ble_eq_true rfl : 43 < 93) (Nat.ne_of_beq_eq_false rfl : 43 ≠ 0)).trans f197_43), ((K6 44 (Nat.le_of_ble_eq_true rfl : 44 < 93) (Nat.ne_of_beq_eq_false rfl : 44 ≠ 0)).trans f197_44), ((K6 45 (Nat.le_of_ble_eq_true rfl : 45 < 93) (Nat.ne_of_beq_eq_false rfl : 45 ≠ 0)).trans f197_45), ((K6 46 (Nat.le_of_ble_eq_true rfl : 46 < 93) (Nat.ne_of_beq_eq_false rfl : 46 ≠ 0)).trans f197_46), ((K6 47 (Nat.le_of_ble_eq_true rfl : 47 < 93) (Nat.ne_of_beq_eq_false rfl : 47 ≠ 0)).trans f197_47), ((K6 48 (Nat.le_of_ble_eq_true rfl : 48 < 93) (Nat.ne_of_beq_eq_false rfl : 48 ≠ 0)).trans f197_48), ((K6 49 (Nat.le_of_ble_eq_true rfl : 49 < 93) (Nat.ne_of_beq_eq_false rfl : 49 ≠ 0)).trans f197_49), ((K6 50 (Nat.le_of_ble_eq_true rfl : 50 < 93) (Nat.ne_of_beq_eq_false rfl : 50 ≠ 0)).trans f197_50), ((K6 51 (Nat.le_of_ble_eq_true rfl : 51 < 93) (Nat.ne_of_beq_eq_false rfl : 51 ≠ 0)).trans f197_51), ((K6 52 (Nat.le_of_ble_eq_true rfl : 52 < 93) (Nat.ne_of_beq_eq_false rfl : 52 ≠ 0)).trans f197_52), ((K6 53 (Nat.le_of_ble_eq_true rfl : 53 < 93) (Nat.ne_of_beq_eq_false rfl : 53 ≠ 0)).trans f197_53), ((K6 54 (Nat.le_of_ble_eq_true rfl : 54 < 93) (Nat.ne_of_beq_eq_false rfl : 54 ≠ 0)).trans f197_54), ((K6 55 (Nat.le_of_ble_eq_true rfl : 55 < 93) (Nat.ne_of_beq_eq_false rfl : 55 ≠ 0)).trans f197_55), ((K6 56 (Nat.le_of_ble_eq_true rfl : 56 < 93) (Nat.ne_of_beq_eq_false rfl : 56 ≠ 0)).trans f197_56), ((K6 57 (Nat.le_of_ble_eq_true rfl : 57 < 93) (Nat.ne_of_beq_eq_false rfl : 57 ≠ 0)).trans f197_57), ((K6 58 (Nat.le_of_ble_eq_true rfl : 58 < 93) (Nat.ne_of_beq_eq_false rfl : 58 ≠ 0)).trans f197_58), ((K6 59 (Nat.le_of_ble_eq_true rfl : 59 < 93) (Nat.ne_of_beq_eq_false rfl : 59 ≠ 0)).trans f197_59), ((K6 60 (Nat.le_of_ble_eq_true rfl : 60 < 93) (Nat.ne_of_beq_eq_false rfl : 60 ≠ 0)).trans f197_60), ((K6 61 (Nat.le_of_ble_eq_true rfl : 61 < 93) (Nat.ne_of_beq_eq_false rfl : 61 ≠ 0)).trans f197_61), ((K6 62 (Nat.le_of_ble_eq_true rfl : 62 < 93) (Nat.ne_of_beq_eq_false rfl : 62 ≠ 0)).trans f197_62), ((K6 63 (Nat.le_of_ble_eq_true rfl : 63 < 93) (Nat.ne_of_beq_eq_false rfl : 63 ≠ 0)).trans f197_63), ((K6 64 (Nat.le_of_ble_eq_true rfl : 64 < 93) (Nat.ne_of_beq_eq_false rfl : 64 ≠ 0)).trans f197_64), ((K6 65 (Nat.le_of_ble_eq_true rfl : 65 < 93) (Nat.ne_of_beq_eq_false rfl : 65 ≠ 0)).trans f197_65), ((K6 66 (Nat.le_of_ble_eq_true rfl : 66 < 93) (Nat.ne_of_beq_eq_false rfl : 66 ≠ 0)).trans f197_66), ((K6 67 (Nat.le_of_ble_eq_true rfl : 67 < 93) (Nat.ne_of_beq_eq_false rfl : 67 ≠ 0)).trans f197_67), ((K6 68 (Nat.le_of_ble_eq_true rfl : 68 < 93) (Nat.ne_of_beq_eq_false rfl : 68 ≠ 0)).trans f197_68), ((K6 69 (Nat.le_of_ble_eq_true rfl : 69 < 93) (Nat.ne_of_beq_eq_false rfl : 69 ≠ 0)).trans f197_69), ((K6 70 (Nat.le_of_ble_eq_true rfl : 70 < 93) (Nat.ne_of_beq_eq_false rfl : 70 ≠ 0)).trans f197_70), ((K6 71 (Nat.le_of_ble_eq_true rfl : 71 < 93) (Nat.ne_of_beq_eq_false rfl : 71 ≠ 0)).trans f197_71), ((K6 72 (Nat.le_of_ble_eq_true rfl : 72 < 93) (Nat.ne_of_beq_eq_false rfl : 72 ≠ 0)).trans f197_72), ((K6 73 (Nat.le_of_ble_eq_true rfl : 73 < 93) (Nat.ne_of_beq_eq_false rfl : 73 ≠ 0)).trans f197_73), ((K6 74 (Nat.le_of_ble_eq_true rfl : 74 < 93) (Nat.ne_of_beq_eq_false rfl : 74 ≠ 0)).trans f197_74), ((K6 75 (Nat.le_of_ble_eq_true rfl : 75 < 93) (Nat.ne_of_beq_eq_false rfl : 75 ≠ 0)).trans f197_75), ((K6 76 (Nat.le_of_ble_eq_true rfl : 76 < 93) (Nat.ne_of_beq_eq_false rfl : 76 ≠ 0)).trans f197_76), ((K6 77 (Nat.le_of_ble_eq_true rfl : 77 < 93) (Nat.ne_of_beq_eq_false rfl : 77 ≠ 0)).trans f197_77), ((K6 78 (Nat.le_of_ble_eq_true rfl : 78 < 93) (Nat.ne_of_beq_eq_false rfl : 78 ≠ 0)).trans f197_78), ((K6 79 (Nat.le_of_ble_eq_true rfl : 79 < 93) (Nat.ne_of_beq_eq_false rfl : 79 ≠ 0)).trans f197_79), ((K6 80 (Nat.le_of_ble_eq_true rfl : 80 < 93) (Nat.ne_of_beq_eq_false rfl : 80 ≠ 0)).trans f197_80), ((K6 81 (Nat.le_of_ble_eq_true rfl : 81 < 93) (Nat.ne_of_beq_eq_false rfl : 81 ≠ 0)).trans f197_81), ((K6 82 (Nat.le_of_ble_eq_true rfl : 82 < 93) (Nat.ne_of_beq_eq_false rfl : 82 ≠ 0)).trans f197_82), ((K6 83 (Nat.le_of_ble_eq_true rfl : 83 < 93) (Nat.ne_of_beq_eq_false rfl : 83 ≠ 0)).trans f197_83), ((K6 84 (Nat.le_of_ble_eq_true rfl : 84 < 93) (Nat.ne_of_beq_eq_false rfl : 84 ≠ 0)).trans f197_84), ((K6 85 (Nat.le_of_ble_eq_true rfl : 85 < 93) (Nat.ne_of_beq_eq_false rfl : 85 ≠ 0)).trans f197_85), ((K6 86 (Nat.le_of_ble_eq_true rfl : 86 < 93) (Nat.ne_of_beq_eq_false rfl : 86 ≠ 0)).trans f197_86), ((K6 87 (Nat.le_of_ble_eq_true rfl : 87 < 93) (Nat.ne_of_beq_eq_false rfl : 87 ≠ 0)).trans f197_87), ((K6 88 (Nat.le_of_ble_eq_true rfl : 88 < 93) (Nat.ne_of_beq_eq_false rfl : 88 ≠ 0)).trans f197_88), ((K6 89 (Nat.le_of_ble_eq_true rfl : 89 < 93) (Nat.ne_of_beq_eq_false rfl : 89 ≠ 0)).trans f197_89), ((K6 90 (Nat.le_of_ble_eq_true rfl : 90 < 93) (Nat.ne_of_beq_eq_false rfl : 90 ≠ 0)).trans f197_90), ((K6 91 (Nat.le_of_ble_eq_true rfl : 91 < 93) (Nat.ne_of_beq_eq_false rfl : 91 ≠ 0)).trans f197_91), ((K6 92 (Nat.le_of_ble_eq_true rfl : 92 < 93) (Nat.ne_of_beq_eq_false rfl : 92 ≠ 0)).trans f197_92), ((K9 93 (Nat.le_of_ble_eq_true rfl : 93 < 97) (Nat.ne_of_beq_eq_false rfl : 93 ≠ 0)).trans f206_93), ((K9 94 (Nat.le_of_ble_eq_true rfl : 94 < 97) (Nat.ne_of_beq_eq_false rfl : 94 ≠ 0)).trans f206_94), ((K9 95 (Nat.le_of_ble_eq_true rfl : 95 < 97) (Nat.ne_of_beq_eq_false rfl : 95 ≠ 0)).trans f206_95), ((K9 96 (Nat.le_of_ble_eq_true rfl : 96 < 97) (Nat.ne_of_beq_eq_false rfl : 96 ≠ 0)).trans f206_96), ((K12 97 (Nat.le_of_ble_eq_true rfl : 97 < 115) (Nat.ne_of_beq_eq_false rfl : 97 ≠ 0)).trans f234_97), ((K12 98 (Nat.le_of_ble_eq_true rfl : 98 < 115) (Nat.ne_of_beq_eq_false rfl : 98 ≠ 0)).trans f234_98), ((K12 99 (Nat.le_of_ble_eq_true rfl : 99 < 115) (Nat.ne_of_beq_eq_false rfl : 99 ≠ 0)).trans f234_99), ((K12 100 (Nat.le_of_ble_eq_true rfl : 100 < 115) (Nat.ne_of_beq_eq_false rfl : 100 ≠ 0)).trans f234_100), ((K12 101 (Nat.le_of_ble_eq_true rfl : 101 < 115) (Nat.ne_of_beq_eq_false rfl : 101 ≠ 0)).trans f234_101), ((K12 102 (Nat.le_of_ble_eq_true rfl : 102 < 115) (Nat.ne_of_beq_eq_false rfl : 102 ≠ 0)).trans f234_102), ((K12 103 (Nat.le_of_ble_eq_true rfl : 103 < 115) (Nat.ne_of_beq_eq_false rfl : 103 ≠ 0)).trans f234_103), ((K12 104 (Nat.le_of_ble_eq_true rfl : 104 < 115) (Nat.ne_of_beq_eq_false rfl : 104 ≠ 0)).trans f234_104), ((K12 105 (Nat.le_of_ble_eq_true rfl : 105 < 115) (Nat.ne_of_beq_eq_false rfl : 105 ≠ 0)).trans f234_105), ((K12 106 (Nat.le_of_ble_eq_true rfl : 106 < 115) (Nat.ne_of_beq_eq_false rfl : 106 ≠ 0)).trans f234_106), ((K12 107 (Nat.le_of_ble_eq_true rfl : 107 < 115) (Nat.ne_of_beq_eq_false rfl : 107 ≠ 0)).trans f234_107), ((K12 108 (Nat.le_of_ble_eq_true rfl : 108 < 115) (Nat.ne_of_beq_eq_false rfl : 108 ≠ 0)).trans f234_108), ((K12 109 (Nat.le_of_ble_eq_true rfl : 109 < 115) (Nat.ne_of_beq_eq_false rfl : 109 ≠ 0)).trans f234_109), ((K12 110 (Nat.le_of_ble_eq_true rfl : 110 < 115) (Nat.ne_of_beq_eq_false rfl : 110 ≠ 0)).trans f234_110), ((K12 111 (Nat.le_of_ble_eq_true rfl : 111 < 115) (Nat.ne_of_beq_eq_false rfl : 111 ≠ 0)).trans f234_111), ((K12 112 (Nat.le_of_ble_eq_true rfl : 112 < 115) (Nat.ne_of_beq_eq_false rfl : 112 ≠ 0)).trans f234_112), ((K12 113 (Nat.le_of_ble_eq_true rfl : 113 < 115) (Nat.ne_of_beq_eq_false rfl : 113 ≠ 0)).trans f234_113), ((K12 114 (Nat.le_of_ble_eq_true rfl : 114 < 115) (Nat.ne_of_beq_eq_false rfl : 114 ≠ 0)).trans f234_114), f368, ((K17 116 (Nat.le_of_ble_eq_true rfl : 116 < 123) (Nat.ne_of_beq_eq_false rfl : 116 ≠ 0) (Nat.ne_of_beq_eq_false rfl : 116 ≠ 115)).trans f255_116), ((K17 117 (Nat.le_of_ble_eq_true rfl : 117 < 123) (Nat.ne_of_beq_eq_false rfl : 117 ≠ 0) (Nat.ne_of_beq_eq_false rfl : 117 ≠ 115)).trans f255_117), ((K17 118 (Nat.le_of_ble_eq_true rfl : 118 < 123) (Nat.ne_of_beq_eq_false rfl : 118 ≠ 0) (Nat.ne_of_beq_eq_false rfl : 118 ≠ 115)).trans f255_118), ((K17 119 (Nat.le_of_ble_eq_true rfl : 119 < 123) (Nat.ne_of_beq_eq_false rfl : 119 ≠ 0) (Nat.ne_of_beq_eq_false rfl : 119 ≠ 115)).trans f255_119), ((K17 120 (Nat.le_of_ble_eq_true rfl : 120 < 123) (Nat.ne_of_beq_eq_false rfl : 120 ≠ 0) (Nat.ne_of_beq_eq_false rfl : 120 ≠ 115)).trans f255_120), ((K17 121 (Nat.le_of_ble_eq_true rfl : 121 < 123) (Nat.ne_of_beq_eq_false rfl : 121 ≠ 0) (Nat.ne_of_beq_eq_false rfl : 121 ≠ 115)).trans f255_121), ((K17 122 (Nat.le_of_ble_eq_true rfl : 122 < 123) (Nat.ne_of_beq_eq_false rfl : 122 ≠ 0) (Nat.ne_of_beq_eq_false rfl : 122 ≠ 115)).trans f255_122), ((K20 123 (Nat.le_of_ble_eq_true rfl : 123 < 127) (Nat.ne_of_beq_eq_false rfl : 123 ≠ 0) (Nat.ne_of_beq_eq_false rfl : 123 ≠ 115)).trans f265_123), ((K20 124 (Nat.le_of_ble_eq_true rfl : 124 < 127) (Nat.ne_of_beq_eq_false rfl : 124 ≠ 0) (Nat.ne_of_beq_eq_false rfl : 124 ≠ 115)).trans f265_124), ((K20 125 (Nat.le_of_ble_eq_true rfl : 125 < 127) (Nat.ne_of_beq_eq_false rfl : 125 ≠ 0) (Nat.ne_of_beq_eq_false rfl : 125 ≠ 115)).trans f265_125), ((K20 126 (Nat.le_of_ble_eq_true rfl : 126 < 127) (Nat.ne_of_beq_eq_false rfl : 126 ≠ 0) (Nat.ne_of_beq_eq_false rfl : 126 ≠ 115)).trans f265_126), ((K23 127 (Nat.le_of_ble_eq_true rfl : 127 < 128) (Nat.ne_of_beq_eq_false rfl : 127 ≠ 0) (Nat.ne_of_beq_eq_false rfl : 127 ≠ 115)).trans f269_127), ((K26 128 (Nat.le_of_ble_eq_true rfl : 128 < 129) (Nat.ne_of_beq_eq_false rfl : 128 ≠ 0) (Nat.ne_of_beq_eq_false rfl : 128 ≠ 115)).trans f273_128), ((K29 129 (Nat.le_of_ble_eq_true rfl : 129 < 141) (Nat.ne_of_beq_eq_false rfl : 129 ≠ 0) (Nat.ne_of_beq_eq_false rfl : 129 ≠ 115)).trans f326_129), ((K29 130 (Nat.le_of_ble_eq_true rfl : 130 < 141) (Nat.ne_of_beq_eq_false rfl : 130 ≠ 0) (Nat.ne_of_beq_eq_false rfl : 130 ≠ 115)).trans f326_130), ((K29 131 (Nat.le_of_ble_eq_true rfl : 131 < 141) (Nat.ne_of_beq_eq_false rfl : 131 ≠ 0) (Nat.ne_of_beq_eq_false rfl : 131 ≠ 115)).trans f326_131), ((K29 132 (Nat.le_of_ble_eq_true rfl : 132 < 141) (Nat.ne_of_beq_eq_false rfl : 132 ≠ 0) (Nat.ne_of_beq_eq_false rfl : 132 ≠ 115)).trans f326_132), ((K29 133 (Nat.le_of_ble_eq_true rfl : 133 < 141) (Nat.ne_of_beq_eq_false rfl : 133 ≠ 0) (Nat.ne_of_beq_eq_false rfl : 133 ≠ 115)).trans f326_133), ((K29 134 (Nat.le_of_ble_eq_true rfl : 134 < 141) (Nat.ne_of_beq_eq_false rfl : 134 ≠ 0) (Nat.ne_of_beq_eq_false rfl : 134 ≠ 115)).trans f326_134), ((K29 135 (Nat.le_of_ble_eq_true rfl : 135 < 141) (Nat.ne_of_beq_eq_false rfl : 135 ≠ 0) (Nat.ne_of_beq_eq_false rfl : 135 ≠ 115)).trans f326_135), ((K29 136 (Nat.le_of_ble_eq_true rfl : 136 < 141) (Nat.ne_of_beq_eq_false rfl : 136 ≠ 0) (Nat.ne_of_beq_eq_false rfl : 136 ≠ 115)).trans f326_136), ((K29 137 (Nat.le_of_ble_eq_true rfl : 137 < 141) (Nat.ne_of_beq_eq_false rfl : 137 ≠ 0) (Nat.ne_of_beq_eq_false rfl : 137 ≠ 115)).trans f326_137), ((K29 138 (Nat.le_of_ble_eq_true rfl : 138 < 141) (Nat.ne_of_beq_eq_false rfl : 138 ≠ 0) (Nat.ne_of_beq_eq_false rfl : 138 ≠ 115)).trans f326_138), ((K29 139 (Nat.le_of_ble_eq_true rfl : 139 < 141) (Nat.ne_of_beq_eq_false rfl : 139 ≠ 0) (Nat.ne_of_beq_eq_false rfl : 139 ≠ 115)).trans f326_139), ((K29 140 (Nat.le_of_ble_eq_true rfl : 140 < 141) (Nat.ne_of_beq_eq_false rfl : 140 ≠ 0) (Nat.ne_of_beq_eq_false rfl : 140 ≠ 115)).trans f326_140), ((K33 141 (Nat.le_of_ble_eq_true rfl : 141 < 143) (Nat.ne_of_beq_eq_false rfl : 141 ≠ 115)).trans f332_141), ((K33 142 (Nat.le_of_ble_eq_true rfl : 142 < 143) (Nat.ne_of_beq_eq_false rfl : 142 ≠ 115)).trans f332_142), ((K36 143 (Nat.le_of_ble_eq_true rfl : 143 < 145) (Nat.ne_of_beq_eq_false rfl : 143 ≠ 115)).trans f337_143), ((K36 144 (Nat.le_of_ble_eq_true rfl : 144 < 145) (Nat.ne_of_beq_eq_false rfl : 144 ≠ 115)).trans f337_144), ((K39 145 (Nat.le_of_ble_eq_true rfl : 145 < 147) (Nat.ne_of_beq_eq_false rfl : 145 ≠ 115)).trans f342_145), ((K39 146 (Nat.le_of_ble_eq_true rfl : 146 < 147) (Nat.ne_of_beq_eq_false rfl : 146 ≠ 115)).trans f342_146), ((K42 147 (Nat.le_of_ble_eq_true rfl : 147 < 149) (Nat.ne_of_beq_eq_false rfl : 147 ≠ 115)).trans f347_147), ((K42 148 (Nat.le_of_ble_eq_true rfl : 148 < 149) (Nat.ne_of_beq_eq_false rfl : 148 ≠ 115)).trans f347_148), ((K45 149 (Nat.le_of_ble_eq_true rfl : 149 < 151) (Nat.ne_of_beq_eq_false rfl : 149 ≠ 115)).trans f352_149), ((K45 150 (Nat.le_of_ble_eq_true rfl : 150 < 151) (Nat.ne_of_beq_eq_false rfl : 150 ≠ 115)).trans f352_150), ((K48 151 (Nat.le_of_ble_eq_true rfl : 151 < 153) (Nat.ne_of_beq_eq_false rfl : 151 ≠ 115)).trans f357_151), ((K48 152 (Nat.le_of_ble_eq_true rfl : 152 < 153) (Nat.ne_of_beq_eq_false rfl : 152 ≠ 115)).trans f357_152), ((K51 153 (Nat.le_of_ble_eq_true rfl : 153 < 155) (Nat.ne_of_beq_eq_false rfl : 153 ≠ 115)).trans f362_153), ((K51 154 (Nat.le_of_ble_eq_true rfl : 154 < 155) (Nat.ne_of_beq_eq_false rfl : 154 ≠ 115)).trans f362_154), ((K54 155 (Nat.le_of_ble_eq_true rfl : 155 < 157) (Nat.ne_of_beq_eq_false rfl : 155 ≠ 115)).trans f367_155), ((K54 156 (Nat.le_of_ble_eq_true rfl : 156 < 157) (Nat.ne_of_beq_eq_false rfl : 156 ≠ 115)).trans f367_156), trivial⟩, l368, fun j n0 hj => K0 j hj n0⟩
