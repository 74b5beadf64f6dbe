def cr_2F  (H H1 : am_H) : Prop := (H1[10]? = some (.inl (.int, (48, .inl (fun _ => 0)))) ∧ H1[9]? = some (.inr (2, [.ref 10, .ref 11, .int 0, .ref 12, .ref 13, .ref 14, .ref 15])) ∧ H1[11]? = some (.inl (.int, (4, .inl (fun _ => 0)))) ∧ H1[12]? = some (.inl (.boolean, (39, .inl (fun _ => 0)))) ∧ H1[13]? = some (.inl (.int, (6, .inl (fun _ => 0)))) ∧ H1[14]? = some (.inl (.int, (1320, .inl (fun _ => 0)))) ∧ H1[15]? = some (.inl (.int, (33, .inl (fun _ => 0)))) ∧ True) ∧ H1.length = 16 ∧ ∀ j : Nat, j ≠ 9 → j < 10 → H1[j]? = H[j]?
set_option maxRecDepth 100000 in
theorem cr_2 {sL : Nat} {sx : Nat → Int32} {cs : Nat → Nat → Option Int32} {H : am_H}  (hl : H.length = 10) (h9 : H[9]? = some (.inr (2, [.null, .null, .int 0, .null, .null, .null, .null]))) :
    am_NW sL sx cs 2 0 [(0, .ref 9)] [] H 0 0 none 6 1450 (cr_2F H) := by
  refine en_s (am_nb (m := 4) (pc1 := 7) (ls1 := [(0, .ref 9)]) (st1 := [.int 48, .ref 9]) (H1 := H) (k1 := 0) (n1 := 0) (by with_unfolding_all rfl)) ?_
  refine en_newa (N := 10) (m := 48) (ty := .int) rfl hl rfl (by decide) (by with_unfolding_all rfl) rfl rfl ?_
  intro H13 l13 f13 k13
  refine en_put rfl l13 ((k13 9 (Nat.le_of_ble_eq_true rfl : 9 < 10)).trans h9) rfl rfl rfl ?_
  intro H14 l14 f14 k14
  refine en_s (am_nb (m := 2) (pc1 := 14) (ls1 := [(0, .ref 9)]) (st1 := [.int 4, .ref 9]) (H1 := H14) (k1 := 1) (n1 := 48) (by with_unfolding_all rfl)) ?_
  refine en_newa (N := 11) (m := 4) (ty := .int) rfl l14 rfl (by decide) (by with_unfolding_all rfl) rfl rfl ?_
  intro H15 l15 f15 k15
  refine en_put rfl l15 ((k15 9 (Nat.le_of_ble_eq_true rfl : 9 < 11)).trans f14) rfl rfl rfl ?_
  intro H16 l16 f16 k16
  refine en_s (am_nb (m := 2) (pc1 := 22) (ls1 := [(0, .ref 9)]) (st1 := [.int 39, .ref 9]) (H1 := H16) (k1 := 2) (n1 := 52) (by with_unfolding_all rfl)) ?_
  refine en_newa (N := 12) (m := 39) (ty := .boolean) rfl l16 rfl (by decide) (by with_unfolding_all rfl) rfl rfl ?_
  intro H17 l17 f17 k17
  refine en_put rfl l17 ((k17 9 (Nat.le_of_ble_eq_true rfl : 9 < 12)).trans f16) rfl rfl rfl ?_
  intro H18 l18 f18 k18
  refine en_s (am_nb (m := 2) (pc1 := 30) (ls1 := [(0, .ref 9)]) (st1 := [.int 6, .ref 9]) (H1 := H18) (k1 := 3) (n1 := 91) (by with_unfolding_all rfl)) ?_
  refine en_newa (N := 13) (m := 6) (ty := .int) rfl l18 rfl (by decide) (by with_unfolding_all rfl) rfl rfl ?_
  intro H19 l19 f19 k19
  refine en_put rfl l19 ((k19 9 (Nat.le_of_ble_eq_true rfl : 9 < 13)).trans f18) rfl rfl rfl ?_
  intro H20 l20 f20 k20
  refine en_s (am_nb (m := 2) (pc1 := 39) (ls1 := [(0, .ref 9)]) (st1 := [.int 1320, .ref 9]) (H1 := H20) (k1 := 4) (n1 := 97) (by with_unfolding_all rfl)) ?_
  refine en_newa (N := 14) (m := 1320) (ty := .int) rfl l20 rfl (by decide) (by with_unfolding_all rfl) rfl rfl ?_
  intro H21 l21 f21 k21
  refine en_put rfl l21 ((k21 9 (Nat.le_of_ble_eq_true rfl : 9 < 14)).trans f20) rfl rfl rfl ?_
  intro H22 l22 f22 k22
  refine en_s (am_nb (m := 2) (pc1 := 47) (ls1 := [(0, .ref 9)]) (st1 := [.int 33, .ref 9]) (H1 := H22) (k1 := 5) (n1 := 1417) (by with_unfolding_all rfl)) ?_
  refine en_newa (N := 15) (m := 33) (ty := .int) rfl l22 rfl (by decide) (by with_unfolding_all rfl) rfl rfl ?_
  intro H23 l23 f23 k23
  refine en_put rfl l23 ((k23 9 (Nat.le_of_ble_eq_true rfl : 9 < 15)).trans f22) rfl rfl rfl ?_
  intro H24 l24 f24 k24
  have K11 : ∀ j : Nat, j < 16 → j ≠ 9 → H24[j]? = H23[j]? := fun j hj n9 => (k24 j n9)
  have K10 : ∀ j : Nat, j < 15 → j ≠ 9 → H24[j]? = H22[j]? := fun j hj n9 => (K11 j (Nat.lt_of_lt_of_le hj (Nat.le_of_ble_eq_true rfl : 15 ≤ 16)) n9).trans (k23 j hj)
  have K9 : ∀ j : Nat, j < 15 → j ≠ 9 → H24[j]? = H21[j]? := fun j hj n9 => (K10 j hj n9).trans (k22 j n9)
  have K8 : ∀ j : Nat, j < 14 → j ≠ 9 → H24[j]? = H20[j]? := fun j hj n9 => (K9 j (Nat.lt_of_lt_of_le hj (Nat.le_of_ble_eq_true rfl : 14 ≤ 15)) n9).trans (k21 j hj)
  have K7 : ∀ j : Nat, j < 14 → j ≠ 9 → H24[j]? = H19[j]? := fun j hj n9 => (K8 j hj n9).trans (k20 j n9)
  have K6 : ∀ j : Nat, j < 13 → j ≠ 9 → H24[j]? = H18[j]? := fun j hj n9 => (K7 j (Nat.lt_of_lt_of_le hj (Nat.le_of_ble_eq_true rfl : 13 ≤ 14)) n9).trans (k19 j hj)
  have K5 : ∀ j : Nat, j < 13 → j ≠ 9 → H24[j]? = H17[j]? := fun j hj n9 => (K6 j hj n9).trans (k18 j n9)
  have K4 : ∀ j : Nat, j < 12 → j ≠ 9 → H24[j]? = H16[j]? := fun j hj n9 => (K5 j (Nat.lt_of_lt_of_le hj (Nat.le_of_ble_eq_true rfl : 12 ≤ 13)) n9).trans (k17 j hj)
  have K3 : ∀ j : Nat, j < 12 → j ≠ 9 → H24[j]? = H15[j]? := fun j hj n9 => (K4 j hj n9).trans (k16 j n9)
  have K2 : ∀ j : Nat, j < 11 → j ≠ 9 → H24[j]? = H14[j]? := fun j hj n9 => (K3 j (Nat.lt_of_lt_of_le hj (Nat.le_of_ble_eq_true rfl : 11 ≤ 12)) n9).trans (k15 j hj)
  have K1 : ∀ j : Nat, j < 11 → j ≠ 9 → H24[j]? = H13[j]? := fun j hj n9 => (K2 j hj n9).trans (k14 j n9)
  have K0 : ∀ j : Nat, j < 10 → j ≠ 9 → H24[j]? = H[j]? := fun j hj n9 => (K1 j (Nat.lt_of_lt_of_le hj (Nat.le_of_ble_eq_true rfl : 10 ≤ 11)) n9).trans (k13 j hj)
  exact en_r (st_vret rfl rfl) ⟨⟨((K1 10 (Nat.le_of_ble_eq_true rfl : 10 < 11) (Nat.ne_of_beq_eq_false rfl : 10 ≠ 9)).trans f13), f24, ((K3 11 (Nat.le_of_ble_eq_true rfl : 11 < 12) (Nat.ne_of_beq_eq_false rfl : 11 ≠ 9)).trans f15), ((K5 12 (Nat.le_of_ble_eq_true rfl : 12 < 13) (Nat.ne_of_beq_eq_false rfl : 12 ≠ 9)).trans f17), ((K7 13 (Nat.le_of_ble_eq_true rfl : 13 < 14) (Nat.ne_of_beq_eq_false rfl : 13 ≠ 9)).trans f19), ((K9 14 (Nat.le_of_ble_eq_true rfl : 14 < 15) (Nat.ne_of_beq_eq_false rfl : 14 ≠ 9)).trans f21), ((K11 15 (Nat.le_of_ble_eq_true rfl : 15 < 16) (Nat.ne_of_beq_eq_false rfl : 15 ≠ 9)).trans f23), trivial⟩, l24, fun j n9 hj => K0 j hj n9⟩

def cr_3F  (H H1 : am_H) : Prop := (H1[17]? = some (.inl (.int, (48, .inl (fun _ => 0)))) ∧ H1[16]? = some (.inr (2, [.ref 17, .ref 18, .int 0, .ref 19, .ref 20, .ref 21, .ref 22])) ∧ H1[18]? = some (.inl (.int, (4, .inl (fun _ => 0)))) ∧ H1[19]? = some (.inl (.boolean, (39, .inl (fun _ => 0)))) ∧ H1[20]? = some (.inl (.int, (6, .inl (fun _ => 0)))) ∧ H1[21]? = some (.inl (.int, (1320, .inl (fun _ => 0)))) ∧ H1[22]? = some (.inl (.int, (33, .inl (fun _ => 0)))) ∧ True) ∧ H1.length = 23 ∧ ∀ j : Nat, j ≠ 16 → j < 17 → H1[j]? = H[j]?
set_option maxRecDepth 100000 in
theorem cr_3 {sL : Nat} {sx : Nat → Int32} {cs : Nat → Nat → Option Int32} {H : am_H}  (hl : H.length = 17) (h16 : H[16]? = some (.inr (2, [.null, .null, .int 0, .null, .null, .null, .null]))) :
    am_NW sL sx cs 2 0 [(0, .ref 16)] [] H 0 0 none 6 1450 (cr_3F H) := by
  refine en_s (am_nb (m := 4) (pc1 := 7) (ls1 := [(0, .ref 16)]) (st1 := [.int 48, .ref 16]) (H1 := H) (k1 := 0) (n1 := 0) (by with_unfolding_all rfl)) ?_
  refine en_newa (N := 17) (m := 48) (ty := .int) rfl hl rfl (by decide) (by with_unfolding_all rfl) rfl rfl ?_
  intro H28 l28 f28 k28
  refine en_put rfl l28 ((k28 16 (Nat.le_of_ble_eq_true rfl : 16 < 17)).trans h16) rfl rfl rfl ?_
  intro H29 l29 f29 k29
  refine en_s (am_nb (m := 2) (pc1 := 14) (ls1 := [(0, .ref 16)]) (st1 := [.int 4, .ref 16]) (H1 := H29) (k1 := 1) (n1 := 48) (by with_unfolding_all rfl)) ?_
  refine en_newa (N := 18) (m := 4) (ty := .int) rfl l29 rfl (by decide) (by with_unfolding_all rfl) rfl rfl ?_
  intro H30 l30 f30 k30
  refine en_put rfl l30 ((k30 16 (Nat.le_of_ble_eq_true rfl : 16 < 18)).trans f29) rfl rfl rfl ?_
  intro H31 l31 f31 k31
  refine en_s (am_nb (m := 2) (pc1 := 22) (ls1 := [(0, .ref 16)]) (st1 := [.int 39, .ref 16]) (H1 := H31) (k1 := 2) (n1 := 52) (by with_unfolding_all rfl)) ?_
  refine en_newa (N := 19) (m := 39) (ty := .boolean) rfl l31 rfl (by decide) (by with_unfolding_all rfl) rfl rfl ?_
  intro H32 l32 f32 k32
  refine en_put rfl l32 ((k32 16 (Nat.le_of_ble_eq_true rfl : 16 < 19)).trans f31) rfl rfl rfl ?_
  intro H33 l33 f33 k33
  refine en_s (am_nb (m := 2) (pc1 := 30) (ls1 := [(0, .ref 16)]) (st1 := [.int 6, .ref 16]) (H1 := H33) (k1 := 3) (n1 := 91) (by with_unfolding_all rfl)) ?_
  refine en_newa (N := 20) (m := 6) (ty := .int) rfl l33 rfl (by decide) (by with_unfolding_all rfl) rfl rfl ?_
  intro H34 l34 f34 k34
  refine en_put rfl l34 ((k34 16 (Nat.le_of_ble_eq_true rfl : 16 < 20)).trans f33) rfl rfl rfl ?_
  intro H35 l35 f35 k35
  refine en_s (am_nb (m := 2) (pc1 := 39) (ls1 := [(0, .ref 16)]) (st1 := [.int 1320, .ref 16]) (H1 := H35) (k1 := 4) (n1 := 97) (by with_unfolding_all rfl)) ?_
  refine en_newa (N := 21) (m := 1320) (ty := .int) rfl l35 rfl (by decide) (by with_unfolding_all rfl) rfl rfl ?_
  intro H36 l36 f36 k36
  refine en_put rfl l36 ((k36 16 (Nat.le_of_ble_eq_true rfl : 16 < 21)).trans f35) rfl rfl rfl ?_
  intro H37 l37 f37 k37
  refine en_s (am_nb (m := 2) (pc1 := 47) (ls1 := [(0, .ref 16)]) (st1 := [.int 33, .ref 16]) (H1 := H37) (k1 := 5) (n1 := 1417) (by with_unfolding_all rfl)) ?_
  refine en_newa (N := 22) (m := 33) (ty := .int) rfl l37 rfl (by decide) (by with_unfolding_all rfl) rfl rfl ?_
  intro H38 l38 f38 k38
  refine en_put rfl l38 ((k38 16 (Nat.le_of_ble_eq_true rfl : 16 < 22)).trans f37) rfl rfl rfl ?_
  intro H39 l39 f39 k39
  have K11 : ∀ j : Nat, j < 23 → j ≠ 16 → H39[j]? = H38[j]? := fun j hj n16 => (k39 j n16)
  have K10 : ∀ j : Nat, j < 22 → j ≠ 16 → H39[j]? = H37[j]? := fun j hj n16 => (K11 j (Nat.lt_of_lt_of_le hj (Nat.le_of_ble_eq_true rfl : 22 ≤ 23)) n16).trans (k38 j hj)
  have K9 : ∀ j : Nat, j < 22 → j ≠ 16 → H39[j]? = H36[j]? := fun j hj n16 => (K10 j hj n16).trans (k37 j n16)
  have K8 : ∀ j : Nat, j < 21 → j ≠ 16 → H39[j]? = H35[j]? := fun j hj n16 => (K9 j (Nat.lt_of_lt_of_le hj (Nat.le_of_ble_eq_true rfl : 21 ≤ 22)) n16).trans (k36 j hj)
  have K7 : ∀ j : Nat, j < 21 → j ≠ 16 → H39[j]? = H34[j]? := fun j hj n16 => (K8 j hj n16).trans (k35 j n16)
  have K6 : ∀ j : Nat, j < 20 → j ≠ 16 → H39[j]? = H33[j]? := fun j hj n16 => (K7 j (Nat.lt_of_lt_of_le hj (Nat.le_of_ble_eq_true rfl : 20 ≤ 21)) n16).trans (k34 j hj)
  have K5 : ∀ j : Nat, j < 20 → j ≠ 16 → H39[j]? = H32[j]? := fun j hj n16 => (K6 j hj n16).trans (k33 j n16)
  have K4 : ∀ j : Nat, j < 19 → j ≠ 16 → H39[j]? = H31[j]? := fun j hj n16 => (K5 j (Nat.lt_of_lt_of_le hj (Nat.le_of_ble_eq_true rfl : 19 ≤ 20)) n16).trans (k32 j hj)
  have K3 : ∀ j : Nat, j < 19 → j ≠ 16 → H39[j]? = H30[j]? := fun j hj n16 => (K4 j hj n16).trans (k31 j n16)
  have K2 : ∀ j : Nat, j < 18 → j ≠ 16 → H39[j]? = H29[j]? := fun j hj n16 => (K3 j (Nat.lt_of_lt_of_le hj (Nat.le_of_ble_eq_true rfl : 18 ≤ 19)) n16).trans (k30 j hj)
  have K1 : ∀ j : Nat, j < 18 → j ≠ 16 → H39[j]? = H28[j]? := fun j hj n16 => (K2 j hj n16).trans (k29 j n16)
  have K0 : ∀ j : Nat, j < 17 → j ≠ 16 → H39[j]? = H[j]? := fun j hj n16 => (K1 j (Nat.lt_of_lt_of_le hj (Nat.le_of_ble_eq_true rfl : 17 ≤ 18)) n16).trans (k28 j hj)
  exact en_r (st_vret rfl rfl) ⟨⟨((K1 17 (Nat.le_of_ble_eq_true rfl : 17 < 18) (Nat.ne_of_beq_eq_false rfl : 17 ≠ 16)).trans f28), f39, ((K3 18 (Nat.le_of_ble_eq_true rfl : 18 < 19) (Nat.ne_of_beq_eq_false rfl : 18 ≠ 16)).trans f30), ((K5 19 (Nat.le_of_ble_eq_true rfl : 19 < 20) (Nat.ne_of_beq_eq_false rfl : 19 ≠ 16)).trans f32), ((K7 20 (Nat.le_of_ble_eq_true rfl : 20 < 21) (Nat.ne_of_beq_eq_false rfl : 20 ≠ 16)).trans f34), ((K9 21 (Nat.le_of_ble_eq_true rfl : 21 < 22) (Nat.ne_of_beq_eq_false rfl : 21 ≠ 16)).trans f36), ((K11 22 (Nat.le_of_ble_eq_true rfl : 22 < 23) (Nat.ne_of_beq_eq_false rfl : 22 ≠ 16)).trans f38), trivial⟩, l39, fun j n16 hj => K0 j hj n16⟩

def cr_4F  (H H1 : am_H) : Prop := (H1[24]? = some (.inl (.int, (48, .inl (fun _ => 0)))) ∧ H1[23]? = some (.inr (2, [.ref 24, .ref 25, .int 0, .ref 26, .ref 27, .ref 28, .ref 29])) ∧ H1[25]? = some (.inl (.int, (4, .inl (fun _ => 0)))) ∧ H1[26]? = some (.inl (.boolean, (39, .inl (fun _ => 0)))) ∧ H1[27]? = some (.inl (.int, (6, .inl (fun _ => 0)))) ∧ H1[28]? = some (.inl (.int, (1320, .inl (fun _ => 0)))) ∧ H1[29]? = some (.inl (.int, (33, .inl (fun _ => 0)))) ∧ True) ∧ H1.length = 30 ∧ ∀ j : Nat, j ≠ 23 → j < 24 → H1[j]? = H[j]?
set_option maxRecDepth 100000 in
theorem cr_4 {sL : Nat} {sx : Nat → Int32} {cs : Nat → Nat → Option Int32} {H : am_H}  (hl : H.length = 24) (h23 : H[23]? = some (.inr (2, [.null, .null, .int 0, .null, .null, .null, .null]))) :
    am_NW sL sx cs 2 0 [(0, .ref 23)] [] H 0 0 none 6 1450 (cr_4F H) := by
  refine en_s (am_nb (m := 4) (pc1 := 7) (ls1 := [(0, .ref 23)]) (st1 := [.int 48, .ref 23]) (H1 := H) (k1 := 0) (n1 := 0) (by with_unfolding_all rfl)) ?_
  refine en_newa (N := 24) (m := 48) (ty := .int) rfl hl rfl (by decide) (by with_unfolding_all rfl) rfl rfl ?_
  intro H43 l43 f43 k43
  refine en_put rfl l43 ((k43 23 (Nat.le_of_ble_eq_true rfl : 23 < 24)).trans h23) rfl rfl rfl ?_
  intro H44 l44 f44 k44
  refine en_s (am_nb (m := 2) (pc1 := 14) (ls1 := [(0, .ref 23)]) (st1 := [.int 4, .ref 23]) (H1 := H44) (k1 := 1) (n1 := 48) (by with_unfolding_all rfl)) ?_
  refine en_newa (N := 25) (m := 4) (ty := .int) rfl l44 rfl (by decide) (by with_unfolding_all rfl) rfl rfl ?_
  intro H45 l45 f45 k45
  refine en_put rfl l45 ((k45 23 (Nat.le_of_ble_eq_true rfl : 23 < 25)).trans f44) rfl rfl rfl ?_
  intro H46 l46 f46 k46
  refine en_s (am_nb (m := 2) (pc1 := 22) (ls1 := [(0, .ref 23)]) (st1 := [.int 39, .ref 23]) (H1 := H46) (k1 := 2) (n1 := 52) (by with_unfolding_all rfl)) ?_
  refine en_newa (N := 26) (m := 39) (ty := .boolean) rfl l46 rfl (by decide) (by with_unfolding_all rfl) rfl rfl ?_
  intro H47 l47 f47 k47
  refine en_put rfl l47 ((k47 23 (Nat.le_of_ble_eq_true rfl : 23 < 26)).trans f46) rfl rfl rfl ?_
  intro H48 l48 f48 k48
  refine en_s (am_nb (m := 2) (pc1 := 30) (ls1 := [(0, .ref 23)]) (st1 := [.int 6, .ref 23]) (H1 := H48) (k1 := 3) (n1 := 91) (by with_unfolding_all rfl)) ?_
  refine en_newa (N := 27) (m := 6) (ty := .int) rfl l48 rfl (by decide) (by with_unfolding_all rfl) rfl rfl ?_
  intro H49 l49 f49 k49
  refine en_put rfl l49 ((k49 23 (Nat.le_of_ble_eq_true rfl : 23 < 27)).trans f48) rfl rfl rfl ?_
  intro H50 l50 f50 k50
  refine en_s (am_nb (m := 2) (pc1 := 39) (ls1 := [(0, .ref 23)]) (st1 := [.int 1320, .ref 23]) (H1 := H50) (k1 := 4) (n1 := 97) (by with_unfolding_all rfl)) ?_
  refine en_newa (N := 28) (m := 1320) (ty := .int) rfl l50 rfl (by decide) (by with_unfolding_all rfl) rfl rfl ?_
  intro H51 l51 f51 k51
  refine en_put rfl l51 ((k51 23 (Nat.le_of_ble_eq_true rfl : 23 < 28)).trans f50) rfl rfl rfl ?_
  intro H52 l52 f52 k52
  refine en_s (am_nb (m := 2) (pc1 := 47) (ls1 := [(0, .ref 23)]) (st1 := [.int 33, .ref 23]) (H1 := H52) (k1 := 5) (n1 := 1417) (by with_unfolding_all rfl)) ?_
  refine en_newa (N := 29) (m := 33) (ty := .int) rfl l52 rfl (by decide) (by with_unfolding_all rfl) rfl rfl ?_
  intro H53 l53 f53 k53
  refine en_put rfl l53 ((k53 23 (Nat.le_of_ble_eq_true rfl : 23 < 29)).trans f52) rfl rfl rfl ?_
  intro H54 l54 f54 k54
  have K11 : ∀ j : Nat, j < 30 → j ≠ 23 → H54[j]? = H53[j]? := fun j hj n23 => (k54 j n23)
  have K10 : ∀ j : Nat, j < 29 → j ≠ 23 → H54[j]? = H52[j]? := fun j hj n23 => (K11 j (Nat.lt_of_lt_of_le hj (Nat.le_of_ble_eq_true rfl : 29 ≤ 30)) n23).trans (k53 j hj)
  have K9 : ∀ j : Nat, j < 29 → j ≠ 23 → H54[j]? = H51[j]? := fun j hj n23 => (K10 j hj n23).trans (k52 j n23)
  have K8 : ∀ j : Nat, j < 28 → j ≠ 23 → H54[j]? = H50[j]? := fun j hj n23 => (K9 j (Nat.lt_of_lt_of_le hj (Nat.le_of_ble_eq_true rfl : 28 ≤ 29)) n23).trans (k51 j hj)
  have K7 : ∀ j : Nat, j < 28 → j ≠ 23 → H54[j]? = H49[j]? := fun j hj n23 => (K8 j hj n23).trans (k50 j n23)
  have K6 : ∀ j : Nat, j < 27 → j ≠ 23 → H54[j]? = H48[j]? := fun j hj n23 => (K7 j (Nat.lt_of_lt_of_le hj (Nat.le_of_ble_eq_true rfl : 27 ≤ 28)) n23).trans (k49 j hj)
  have K5 : ∀ j : Nat, j < 27 → j ≠ 23 → H54[j]? = H47[j]? := fun j hj n23 => (K6 j hj n23).trans (k48 j n23)
  have K4 : ∀ j : Nat, j < 26 → j ≠ 23 → H54[j]? = H46[j]? := fun j hj n23 => (K5 j (Nat.lt_of_lt_of_le hj (Nat.le_of_ble_eq_true rfl : 26 ≤ 27)) n23).trans (k47 j hj)
  have K3 : ∀ j : Nat, j < 26 → j ≠ 23 → H54[j]? = H45[j]? := fun j hj n23 => (K4 j hj n23).trans (k46 j n23)
  have K2 : ∀ j : Nat, j < 25 → j ≠ 23 → H54[j]? = H44[j]? := fun j hj n23 => (K3 j (Nat.lt_of_lt_of_le hj (Nat.le_of_ble_eq_true rfl : 25 ≤ 26)) n23).trans (k45 j hj)
  have K1 : ∀ j : Nat, j < 25 → j ≠ 23 → H54[j]? = H43[j]? := fun j hj n23 => (K2 j hj n23).trans (k44 j n23)
  have K0 : ∀ j : Nat, j < 24 → j ≠ 23 → H54[j]? = H[j]? := fun j hj n23 => (K1 j (Nat.lt_of_lt_of_le hj (Nat.le_of_ble_eq_true rfl : 24 ≤ 25)) n23).trans (k43 j hj)
  exact en_r (st_vret rfl rfl) ⟨⟨((K1 24 (Nat.le_of_ble_eq_true rfl : 24 < 25) (Nat.ne_of_beq_eq_false rfl : 24 ≠ 23)).trans f43), f54, ((K3 25 (Nat.le_of_ble_eq_true rfl : 25 < 26) (Nat.ne_of_beq_eq_false rfl : 25 ≠ 23)).trans f45), ((K5 26 (Nat.le_of_ble_eq_true rfl : 26 < 27) (Nat.ne_of_beq_eq_false rfl : 26 ≠ 23)).trans f47), ((K7 27 (Nat.le_of_ble_eq_true rfl : 27 < 28) (Nat.ne_of_beq_eq_false rfl : 27 ≠ 23)).trans f49), ((K9 28 (Nat.le_of_ble_eq_true rfl : 28 < 29) (Nat.ne_of_beq_eq_false rfl : 28 ≠ 23)).trans f51), ((K11 29 (Nat.le_of_ble_eq_true rfl : 29 < 30) (Nat.ne_of_beq_eq_false rfl : 29 ≠ 23)).trans f53), trivial⟩, l54, fun j n23 hj => K0 j hj n23⟩

def cr_5F  (H H1 : am_H) : Prop := (H1[31]? = some (.inl (.int, (48, .inl (fun _ => 0)))) ∧ H1[30]? = some (.inr (2, [.ref 31, .ref 32, .int 0, .ref 33, .ref 34, .ref 35, .ref 36])) ∧ H1[32]? = some (.inl (.int, (4, .inl (fun _ => 0)))) ∧ H1[33]? = some (.inl (.boolean, (39, .inl (fun _ => 0)))) ∧ H1[34]? = some (.inl (.int, (6, .inl (fun _ => 0)))) ∧ H1[35]? = some (.inl (.int, (1320, .inl (fun _ => 0)))) ∧ H1[36]? = some (.inl (.int, (33, .inl (fun _ => 0)))) ∧ True) ∧ H1.length = 37 ∧ ∀ j : Nat, j ≠ 30 → j < 31 → H1[j]? = H[j]?
set_option maxRecDepth 100000 in
theorem cr_5 {sL : Nat} {sx : Nat → Int32} {cs : Nat → Nat → Option Int32} {H : am_H}  (hl : H.length = 31) (h30 : H[30]? = some (.inr (2, [.null, .null, .int 0, .null, .null, .null, .null]))) :
    am_NW sL sx cs 2 0 [(0, .ref 30)] [] H 0 0 none 6 1450 (cr_5F H) := by
  refine en_s (am_nb (m := 4) (pc1 := 7) (ls1 := [(0, .ref 30)]) (st1 := [.int 48, .ref 30]) (H1 := H) (k1 := 0) (n1 := 0) (by with_unfolding_all rfl)) ?_
  refine en_newa (N := 31) (m := 48) (ty := .int) rfl hl rfl (by decide) (by with_unfolding_all rfl) rfl rfl ?_
  intro H58 l58 f58 k58
  refine en_put rfl l58 ((k58 30 (Nat.le_of_ble_eq_true rfl : 30 < 31)).trans h30) rfl rfl rfl ?_
  intro H59 l59 f59 k59
  refine en_s (am_nb (m := 2) (pc1 := 14) (ls1 := [(0, .ref 30)]) (st1 := [.int 4, .ref 30]) (H1 := H59) (k1 := 1) (n1 := 48) (by with_unfolding_all rfl)) ?_
  refine en_newa (N := 32) (m := 4) (ty := .int) rfl l59 rfl (by decide) (by with_unfolding_all rfl) rfl rfl ?_
  intro H60 l60 f60 k60
  refine en_put rfl l60 ((k60 30 (Nat.le_of_ble_eq_true rfl : 30 < 32)).trans f59) rfl rfl rfl ?_
  intro H61 l61 f61 k61
  refine en_s (am_nb (m := 2) (pc1 := 22) (ls1 := [(0, .ref 30)]) (st1 := [.int 39, .ref 30]) (H1 := H61) (k1 := 2) (n1 := 52) (by with_unfolding_all rfl)) ?_
  refine en_newa (N := 33) (m := 39) (ty := .boolean) rfl l61 rfl (by decide) (by with_unfolding_all rfl) rfl rfl ?_
  intro H62 l62 f62 k62
  refine en_put rfl l62 ((k62 30 (Nat.le_of_ble_eq_true rfl : 30 < 33)).trans f61) rfl rfl rfl ?_
  intro H63 l63 f63 k63
  refine en_s (am_nb (m := 2) (pc1 := 30) (ls1 := [(0, .ref 30)]) (st1 := [.int 6, .ref 30]) (H1 := H63) (k1 := 3) (n1 := 91) (by with_unfolding_all rfl)) ?_
  refine en_newa (N := 34) (m := 6) (ty := .int) rfl l63 rfl (by decide) (by with_unfolding_all rfl) rfl rfl ?_
  intro H64 l64 f64 k64
  refine en_put rfl l64 ((k64 30 (Nat.le_of_ble_eq_true rfl : 30 < 34)).trans f63) rfl rfl rfl ?_
  intro H65 l65 f65 k65
  refine en_s (am_nb (m := 2) (pc1 := 39) (ls1 := [(0, .ref 30)]) (st1 := [.int 1320, .ref 30]) (H1 := H65) (k1 := 4) (n1 := 97) (by with_unfolding_all rfl)) ?_
  refine en_newa (N := 35) (m := 1320) (ty := .int) rfl l65 rfl (by decide) (by with_unfolding_all rfl) rfl rfl ?_
  intro H66 l66 f66 k66
  refine en_put rfl l66 ((k66 30 (Nat.le_of_ble_eq_true rfl : 30 < 35)).trans f65) rfl rfl rfl ?_
  intro H67 l67 f67 k67
  refine en_s (am_nb (m := 2) (pc1 := 47) (ls1 := [(0, .ref 30)]) (st1 := [.int 33, .ref 30]) (H1 := H67) (k1 := 5) (n1 := 1417) (by with_unfolding_all rfl)) ?_
  refine en_newa (N := 36) (m := 33) (ty := .int) rfl l67 rfl (by decide) (by with_unfolding_all rfl) rfl rfl ?_
  intro H68 l68 f68 k68
  refine en_put rfl l68 ((k68 30 (Nat.le_of_ble_eq_true rfl : 30 < 36)).trans f67) rfl rfl rfl ?_
  intro H69 l69 f69 k69
  have K11 : ∀ j : Nat, j < 37 → j ≠ 30 → H69[j]? = H68[j]? := fun j hj n30 => (k69 j n30)
  have K10 : ∀ j : Nat, j < 36 → j ≠ 30 → H69[j]? = H67[j]? := fun j hj n30 => (K11 j (Nat.lt_of_lt_of_le hj (Nat.le_of_ble_eq_true rfl : 36 ≤ 37)) n30).trans (k68 j hj)
  have K9 : ∀ j : Nat, j < 36 → j ≠ 30 → H69[j]? = H66[j]? := fun j hj n30 => (K10 j hj n30).trans (k67 j n30)
  have K8 : ∀ j : Nat, j < 35 → j ≠ 30 → H69[j]? = H65[j]? := fun j hj n30 => (K9 j (Nat.lt_of_lt_of_le hj (Nat.le_of_ble_eq_true rfl : 35 ≤ 36)) n30).trans (k66 j hj)
  have K7 : ∀ j : Nat, j < 35 → j ≠ 30 → H69[j]? = H64[j]? := fun j hj n30 => (K8 j hj n30).trans (k65 j n30)
  have K6 : ∀ j : Nat, j < 34 → j ≠ 30 → H69[j]? = H63[j]? := fun j hj n30 => (K7 j (Nat.lt_of_lt_of_le hj (Nat.le_of_ble_eq_true rfl : 34 ≤ 35)) n30).trans (k64 j hj)
  have K5 : ∀ j : Nat, j < 34 → j ≠ 30 → H69[j]? = H62[j]? := fun j hj n30 => (K6 j hj n30).trans (k63 j n30)
  have K4 : ∀ j : Nat, j < 33 → j ≠ 30 → H69[j]? = H61[j]? := fun j hj n30 => (K5 j (Nat.lt_of_lt_of_le hj (Nat.le_of_ble_eq_true rfl : 33 ≤ 34)) n30).trans (k62 j hj)
  have K3 : ∀ j : Nat, j < 33 → j ≠ 30 → H69[j]? = H60[j]? := fun j hj n30 => (K4 j hj n30).trans (k61 j n30)
  have K2 : ∀ j : Nat, j < 32 → j ≠ 30 → H69[j]? = H59[j]? := fun j hj n30 => (K3 j (Nat.lt_of_lt_of_le hj (Nat.le_of_ble_eq_true rfl : 32 ≤ 33)) n30).trans (k60 j hj)
  have K1 : ∀ j : Nat, j < 32 → j ≠ 30 → H69[j]? = H58[j]? := fun j hj n30 => (K2 j hj n30).trans (k59 j n30)
  have K0 : ∀ j : Nat, j < 31 → j ≠ 30 → H69[j]? = H[j]? := fun j hj n30 => (K1 j (Nat.lt_of_lt_of_le hj (Nat.le_of_ble_eq_true rfl : 31 ≤ 32)) n30).trans (k58 j hj)
  exact en_r (st_vret rfl rfl) ⟨⟨((K1 31 (Nat.le_of_ble_eq_true rfl : 31 < 32) (Nat.ne_of_beq_eq_false rfl : 31 ≠ 30)).trans f58), f69, ((K3 32 (Nat.le_of_ble_eq_true rfl : 32 < 33) (Nat.ne_of_beq_eq_false rfl : 32 ≠ 30)).trans f60), ((K5 33 (Nat.le_of_ble_eq_true rfl : 33 < 34) (Nat.ne_of_beq_eq_false rfl : 33 ≠ 30)).trans f62), ((K7 34 (Nat.le_of_ble_eq_true rfl : 34 < 35) (Nat.ne_of_beq_eq_false rfl : 34 ≠ 30)).trans f64), ((K9 35 (Nat.le_of_ble_eq_true rfl : 35 < 36) (Nat.ne_of_beq_eq_false rfl : 35 ≠ 30)).trans f66), ((K11 36 (Nat.le_of_ble_eq_true rfl : 36 < 37) (Nat.ne_of_beq_eq_false rfl : 36 ≠ 30)).trans f68), trivial⟩, l69, fun j n30 hj => K0 j hj n30⟩

def cr_6F  (H H1 : am_H) : Prop := (H1[38]? = some (.inl (.int, (48, .inl (fun _ => 0)))) ∧ H1[37]? = some (.inr (2, [.ref 38, .ref 39, .int 0, .ref 40, .ref 41, .ref 42, .ref 43])) ∧ H1[39]? = some (.inl (.int, (4, .inl (fun _ => 0)))) ∧ H1[40]? = some (.inl (.boolean, (39, .inl (fun _ => 0)))) ∧ H1[41]? = some (.inl (.int, (6, .inl (fun _ => 0)))) ∧ H1[42]? = some (.inl (.int, (1320, .inl (fun _ => 0)))) ∧ H1[43]? = some (.inl (.int, (33, .inl (fun _ => 0)))) ∧ True) ∧ H1.length = 44 ∧ ∀ j : Nat, j ≠ 37 → j < 38 → H1[j]? = H[j]?
set_option maxRecDepth 100000 in
theorem cr_6 {sL : Nat} {sx : Nat → Int32} {cs : Nat → Nat → Option Int32} {H : am_H}  (hl : H.length = 38) (h37 : H[37]? = some (.inr (2, [.null, .null, .int 0, .null, .null, .null, .null]))) :
    am_NW sL sx cs 2 0 [(0, .ref 37)] [] H 0 0 none 6 1450 (cr_6F H) := by
  refine en_s (am_nb (m := 4) (pc1 := 7) (ls1 := [(0, .ref 37)]) (st1 := [.int 48, .ref 37]) (H1 := H) (k1 := 0) (n1 := 0) (by with_unfolding_all rfl)) ?_
  refine en_newa (N := 38) (m := 48) (ty := .int) rfl hl rfl (by decide) (by with_unfolding_all rfl) rfl rfl ?_
  intro H73 l73 f73 k73
  refine en_put rfl l73 ((k73 37 (Nat.le_of_ble_eq_true rfl : 37 < 38)).trans h37) rfl rfl rfl ?_
  intro H74 l74 f74 k74
  refine en_s (am_nb (m := 2) (pc1 := 14) (ls1 := [(0, .ref 37)]) (st1 := [.int 4, .ref 37]) (H1 := H74) (k1 := 1) (n1 := 48) (by with_unfolding_all rfl)) ?_
  refine en_newa (N := 39) (m := 4) (ty := .int) rfl l74 rfl (by decide) (by with_unfolding_all rfl) rfl rfl ?_
  intro H75 l75 f75 k75
  refine en_put rfl l75 ((k75 37 (Nat.le_of_ble_eq_true rfl : 37 < 39)).trans f74) rfl rfl rfl ?_
  intro H76 l76 f76 k76
  refine en_s (am_nb (m := 2) (pc1 := 22) (ls1 := [(0, .ref 37)]) (st1 := [.int 39, .ref 37]) (H1 := H76) (k1 := 2) (n1 := 52) (by with_unfolding_all rfl)) ?_
  refine en_newa (N := 40) (m := 39) (ty := .boolean) rfl l76 rfl (by decide) (by with_unfolding_all rfl) rfl rfl ?_
  intro H77 l77 f77 k77
  refine en_put rfl l77 ((k77 37 (Nat.le_of_ble_eq_true rfl : 37 < 40)).trans f76) rfl rfl rfl ?_
  intro H78 l78 f78 k78
  refine en_s (am_nb (m := 2) (pc1 := 30) (ls1 := [(0, .ref 37)]) (st1 := [.int 6, .ref 37]) (H1 := H78) (k1 := 3) (n1 := 91) (by with_unfolding_all rfl)) ?_
  refine en_newa (N := 41) (m := 6) (ty := .int) rfl l78 rfl (by decide) (by with_unfolding_all rfl) rfl rfl ?_
  intro H79 l79 f79 k79
  refine en_put rfl l79 ((k79 37 (Nat.le_of_ble_eq_true rfl : 37 < 41)).trans f78) rfl rfl rfl ?_
  intro H80 l80 f80 k80
  refine en_s (am_nb (m := 2) (pc1 := 39) (ls1 := [(0, .ref 37)]) (st1 := [.int 1320, .ref 37]) (H1 := H80) (k1 := 4) (n1 := 97) (by with_unfolding_all rfl)) ?_
  refine en_newa (N := 42) (m := 1320) (ty := .int) rfl l80 rfl (by decide) (by with_unfolding_all rfl) rfl rfl ?_
  intro H81 l81 f81 k81
  refine en_put rfl l81 ((k81 37 (Nat.le_of_ble_eq_true rfl : 37 < 42)).trans f80) rfl rfl rfl ?_
  intro H82 l82 f82 k82
  refine en_s (am_nb (m := 2) (pc1 := 47) (ls1 := [(0, .ref 37)]) (st1 := [.int 33, .ref 37]) (H1 := H82) (k1 := 5) (n1 := 1417) (by with_unfolding_all rfl)) ?_
  refine en_newa (N := 43) (m := 33) (ty := .int) rfl l82 rfl (by decide) (by with_unfolding_all rfl) rfl rfl ?_
  intro H83 l83 f83 k83
  refine en_put rfl l83 ((k83 37 (Nat.le_of_ble_eq_true rfl : 37 < 43)).trans f82) rfl rfl rfl ?_
  intro H84 l84 f84 k84
  have K11 : ∀ j : Nat, j < 44 → j ≠ 37 → H84[j]? = H83[j]? := fun j hj n37 => (k84 j n37)
  have K10 : ∀ j : Nat, j < 43 → j ≠ 37 → H84[j]? = H82[j]? := fun j hj n37 => (K11 j (Nat.lt_of_lt_of_le hj (Nat.le_of_ble_eq_true rfl : 43 ≤ 44)) n37).trans (k83 j hj)
  have K9 : ∀ j : Nat, j < 43 → j ≠ 37 → H84[j]? = H81[j]? := fun j hj n37 => (K10 j hj n37).trans (k82 j n37)
  have K8 : ∀ j : Nat, j < 42 → j ≠ 37 → H84[j]? = H80[j]? := fun j hj n37 => (K9 j (Nat.lt_of_lt_of_le hj (Nat.le_of_ble_eq_true rfl : 42 ≤ 43)) n37).trans (k81 j hj)
  have K7 : ∀ j : Nat, j < 42 → j ≠ 37 → H84[j]? = H79[j]? := fun j hj n37 => (K8 j hj n37).trans (k80 j n37)
  have K6 : ∀ j : Nat, j < 41 → j ≠ 37 → H84[j]? = H78[j]? := fun j hj n37 => (K7 j (Nat.lt_of_lt_of_le hj (Nat.le_of_ble_eq_true rfl : 41 ≤ 42)) n37).trans (k79 j hj)
  have K5 : ∀ j : Nat, j < 41 → j ≠ 37 → H84[j]? = H77[j]? := fun j hj n37 => (K6 j hj n37).trans (k78 j n37)
  have K4 : ∀ j : Nat, j < 40 → j ≠ 37 → H84[j]? = H76[j]? := fun j hj n37 => (K5 j (Nat.lt_of_lt_of_le hj (Nat.le_of_ble_eq_true rfl : 40 ≤ 41)) n37).trans (k77 j hj)
  have K3 : ∀ j : Nat, j < 40 → j ≠ 37 → H84[j]? = H75[j]? := fun j hj n37 => (K4 j hj n37).trans (k76 j n37)
  have K2 : ∀ j : Nat, j < 39 → j ≠ 37 → H84[j]? = H74[j]? := fun j hj n37 => (K3 j (Nat.lt_of_lt_of_le hj (Nat.le_of_ble_eq_true rfl : 39 ≤ 40)) n37).trans (k75 j hj)
  have K1 : ∀ j : Nat, j < 39 → j ≠ 37 → H84[j]? = H73[j]? := fun j hj n37 => (K2 j hj n37).trans (k74 j n37)
  have K0 : ∀ j : Nat, j < 38 → j ≠ 37 → H84[j]? = H[j]? := fun j hj n37 => (K1 j (Nat.lt_of_lt_of_le hj (Nat.le_of_ble_eq_true rfl : 38 ≤ 39)) n37).trans (k73 j hj)
  exact en_r (st_vret rfl rfl) ⟨⟨((K1 38 (Nat.le_of_ble_eq_true rfl : 38 < 39) (Nat.ne_of_beq_eq_false rfl : 38 ≠ 37)).trans f73), f84, ((K3 39 (Nat.le_of_ble_eq_true rfl : 39 < 40) (Nat.ne_of_beq_eq_false rfl : 39 ≠ 37)).trans f75), ((K5 40 (Nat.le_of_ble_eq_true rfl : 40 < 41) (Nat.ne_of_beq_eq_false rfl : 40 ≠ 37)).trans f77), ((K7 41 (Nat.le_of_ble_eq_true rfl : 41 < 42) (Nat.ne_of_beq_eq_false rfl : 41 ≠ 37)).trans f79), ((K9 42 (Nat.le_of_ble_eq_true rfl : 42 < 43) (Nat.ne_of_beq_eq_false rfl : 42 ≠ 37)).trans f81), ((K11 43 (Nat.le_of_ble_eq_true rfl : 43 < 44) (Nat.ne_of_beq_eq_false rfl : 43 ≠ 37)).trans f83), trivial⟩, l84, fun j n37 hj => K0 j hj n37⟩

def cr_7F  (H H1 : am_H) : Prop := (H1[45]? = some (.inl (.int, (48, .inl (fun _ => 0)))) ∧ H1[44]? = some (.inr (2, [.ref 45, .ref 46, .int 0, .ref 47, .ref 48, .ref 49, .ref 50])) ∧ H1[46]? = some (.inl (.int, (4, .inl (fun _ => 0)))) ∧ H1[47]? = some (.inl (.boolean, (39, .inl (fun _ => 0)))) ∧ H1[48]? = some (.inl (.int, (6, .inl (fun _ => 0)))) ∧ H1[49]? = some (.inl (.int, (1320, .inl (fun _ => 0)))) ∧ H1[50]? = some (.inl (.int, (33, .inl (fun _ => 0)))) ∧ True) ∧ H1.length = 51 ∧ ∀ j : Nat, j ≠ 44 → j < 45 → H1[j]? = H[j]?
set_option maxRecDepth 100000 in
theorem cr_7 {sL : Nat} {sx : Nat → Int32} {cs : Nat → Nat → Option Int32} {H : am_H}  (hl : H.length = 45) (h44 : H[44]? = some (.inr (2, [.null, .null, .int 0, .null, .null, .null, .null]))) :
    am_NW sL sx cs 2 0 [(0, .ref 44)] [] H 0 0 none 6 1450 (cr_7F H) := by
  refine en_s (am_nb (m := 4) (pc1 := 7) (ls1 := [(0, .ref 44)]) (st1 := [.int 48, .ref 44]) (H1 := H) (k1 := 0) (n1 := 0) (by with_unfolding_all rfl)) ?_
  refine en_newa (N := 45) (m := 48) (ty := .int) rfl hl rfl (by decide) (by with_unfolding_all rfl) rfl rfl ?_
  intro H88 l88 f88 k88
  refine en_put rfl l88 ((k88 44 (Nat.le_of_ble_eq_true rfl : 44 < 45)).trans h44) rfl rfl rfl ?_
  intro H89 l89 f89 k89
  refine en_s (am_nb (m := 2) (pc1 := 14) (ls1 := [(0, .ref 44)]) (st1 := [.int 4, .ref 44]) (H1 := H89) (k1 := 1) (n1 := 48) (by with_unfolding_all rfl)) ?_
  refine en_newa (N := 46) (m := 4) (ty := .int) rfl l89 rfl (by decide) (by with_unfolding_all rfl) rfl rfl ?_
  intro H90 l90 f90 k90
  refine en_put rfl l90 ((k90 44 (Nat.le_of_ble_eq_true rfl : 44 < 46)).trans f89) rfl rfl rfl ?_
  intro H91 l91 f91 k91
  refine en_s (am_nb (m := 2) (pc1 := 22) (ls1 := [(0, .ref 44)]) (st1 := [.int 39, .ref 44]) (H1 := H91) (k1 := 2) (n1 := 52) (by with_unfolding_all rfl)) ?_
  refine en_newa (N := 47) (m := 39) (ty := .boolean) rfl l91 rfl (by decide) (by with_unfolding_all rfl) rfl rfl ?_
  intro H92 l92 f92 k92
  refine en_put rfl l92 ((k92 44 (Nat.le_of_ble_eq_true rfl : 44 < 47)).trans f91) rfl rfl rfl ?_
  intro H93 l93 f93 k93
  refine en_s (am_nb (m := 2) (pc1 := 30) (ls1 := [(0, .ref 44)]) (st1 := [.int 6, .ref 44]) (H1 := H93) (k1 := 3) (n1 := 91) (by with_unfolding_all rfl)) ?_
  refine en_newa (N := 48) (m := 6) (ty := .int) rfl l93 rfl (by decide) (by with_unfolding_all rfl) rfl rfl ?_
  intro H94 l94 f94 k94
  refine en_put rfl l94 ((k94 44 (Nat.le_of_ble_eq_true rfl : 44 < 48)).trans f93) rfl rfl rfl ?_
  intro H95 l95 f95 k95
  refine en_s (am_nb (m := 2) (pc1 := 39) (ls1 := [(0, .ref 44)]) (st1 := [.int 1320, .ref 44]) (H1 := H95) (k1 := 4) (n1 := 97) (by with_unfolding_all rfl)) ?_
  refine en_newa (N := 49) (m := 1320) (ty := .int) rfl l95 rfl (by decide) (by with_unfolding_all rfl) rfl rfl ?_
  intro H96 l96 f96 k96
  refine en_put rfl l96 ((k96 44 (Nat.le_of_ble_eq_true rfl : 44 < 49)).trans f95) rfl rfl rfl ?_
  intro H97 l97 f97 k97
  refine en_s (am_nb (m := 2) (pc1 := 47) (ls1 := [(0, .ref 44)]) (st1 := [.int 33, .ref 44]) (H1 := H97) (k1 := 5) (n1 := 1417) (by with_unfolding_all rfl)) ?_
  refine en_newa (N := 50) (m := 33) (ty := .int) rfl l97 rfl (by decide) (by with_unfolding_all rfl) rfl rfl ?_
  intro H98 l98 f98 k98
  refine en_put rfl l98 ((k98 44 (Nat.le_of_ble_eq_true rfl : 44 < 50)).trans f97) rfl rfl rfl ?_
  intro H99 l99 f99 k99
  have K11 : ∀ j : Nat, j < 51 → j ≠ 44 → H99[j]? = H98[j]? := fun j hj n44 => (k99 j n44)
  have K10 : ∀ j : Nat, j < 50 → j ≠ 44 → H99[j]? = H97[j]? := fun j hj n44 => (K11 j (Nat.lt_of_lt_of_le hj (Nat.le_of_ble_eq_true rfl : 50 ≤ 51)) n44).trans (k98 j hj)
  have K9 : ∀ j : Nat, j < 50 → j ≠ 44 → H99[j]? = H96[j]? := fun j hj n44 => (K10 j hj n44).trans (k97 j n44)
  have K8 : ∀ j : Nat, j < 49 → j ≠ 44 → H99[j]? = H95[j]? := fun j hj n44 => (K9 j (Nat.lt_of_lt_of_le hj (Nat.le_of_ble_eq_true rfl : 49 ≤ 50)) n44).trans (k96 j hj)
  have K7 : ∀ j : Nat, j < 49 → j ≠ 44 → H99[j]? = H94[j]? := fun j hj n44 => (K8 j hj n44).trans (k95 j n44)
  have K6 : ∀ j : Nat, j < 48 → j ≠ 44 → H99[j]? = H93[j]? := fun j hj n44 => (K7 j (Nat.lt_of_lt_of_le hj (Nat.le_of_ble_eq_true rfl : 48 ≤ 49)) n44).trans (k94 j hj)
  have K5 : ∀ j : Nat, j < 48 → j ≠ 44 → H99[j]? = H92[j]? := fun j hj n44 => (K6 j hj n44).trans (k93 j n44)
  have K4 : ∀ j : Nat, j < 47 → j ≠ 44 → H99[j]? = H91[j]? := fun j hj n44 => (K5 j (Nat.lt_of_lt_of_le hj (Nat.le_of_ble_eq_true rfl : 47 ≤ 48)) n44).trans (k92 j hj)
  have K3 : ∀ j : Nat, j < 47 → j ≠ 44 → H99[j]? = H90[j]? := fun j hj n44 => (K4 j hj n44).trans (k91 j n44)
  have K2 : ∀ j : Nat, j < 46 → j ≠ 44 → H99[j]? = H89[j]? := fun j hj n44 => (K3 j (Nat.lt_of_lt_of_le hj (Nat.le_of_ble_eq_true rfl : 46 ≤ 47)) n44).trans (k90 j hj)
  have K1 : ∀ j : Nat, j < 46 → j ≠ 44 → H99[j]? = H88[j]? := fun j hj n44 => (K2 j hj n44).trans (k89 j n44)
  have K0 : ∀ j : Nat, j < 45 → j ≠ 44 → H99[j]? = H[j]? := fun j hj n44 => (K1 j (Nat.lt_of_lt_of_le hj (Nat.le_of_ble_eq_true rfl : 45 ≤ 46)) n44).trans (k88 j hj)
  exact en_r (st_vret rfl rfl) ⟨⟨((K1 45 (Nat.le_of_ble_eq_true rfl : 45 < 46) (Nat.ne_of_beq_eq_false rfl : 45 ≠ 44)).trans f88), f99, ((K3 46 (Nat.le_of_ble_eq_true rfl : 46 < 47) (Nat.ne_of_beq_eq_false rfl : 46 ≠ 44)).trans f90), ((K5 47 (Nat.le_of_ble_eq_true rfl : 47 < 48) (Nat.ne_of_beq_eq_false rfl : 47 ≠ 44)).trans f92), ((K7 48 (Nat.le_of_ble_eq_true rfl : 48 < 49) (Nat.ne_of_beq_eq_false rfl : 48 ≠ 44)).trans f94), ((K9 49 (Nat.le_of_ble_eq_true rfl : 49 < 50) (Nat.ne_of_beq_eq_false rfl : 49 ≠ 44)).trans f96), ((K11 50 (Nat.le_of_ble_eq_true rfl : 50 < 51) (Nat.ne_of_beq_eq_false rfl : 50 ≠ 44)).trans f98), trivial⟩, l99, fun j n44 hj => K0 j hj n44⟩

def cr_8F  (H H1 : am_H) : Prop := (H1[52]? = some (.inl (.int, (48, .inl (fun _ => 0)))) ∧ H1[51]? = some (.inr (2, [.ref 52, .ref 53, .int 0, .ref 54, .ref 55, .ref 56, .ref 57])) ∧ H1[53]? = some (.inl (.int, (4, .inl (fun _ => 0)))) ∧ H1[54]? = some (.inl (.boolean, (39, .inl (fun _ => 0)))) ∧ H1[55]? = some (.inl (.int, (6, .inl (fun _ => 0)))) ∧ H1[56]? = some (.inl (.int, (1320, .inl (fun _ => 0)))) ∧ H1[57]? = some (.inl (.int, (33, .inl (fun _ => 0)))) ∧ True) ∧ H1.length = 58 ∧ ∀ j : Nat, j ≠ 51 → j < 52 → H1[j]? = H[j]?
set_option maxRecDepth 100000 in
theorem cr_8 {sL : Nat} {sx : Nat → Int32} {cs : Nat → Nat → Option Int32} {H : am_H}  (hl : H.length = 52) (h51 : H[51]? = some (.inr (2, [.null, .null, .int 0, .null, .null, .null, .null]))) :
    am_NW sL sx cs 2 0 [(0, .ref 51)] [] H 0 0 none 6 1450 (cr_8F H) := by
  refine en_s (am_nb (m := 4) (pc1 := 7) (ls1 := [(0, .ref 51)]) (st1 := [.int 48, .ref 51]) (H1 := H) (k1 := 0) (n1 := 0) (by with_unfolding_all rfl)) ?_
  refine en_newa (N := 52) (m := 48) (ty := .int) rfl hl rfl (by decide) (by with_unfolding_all rfl) rfl rfl ?_
  intro H103 l103 f103 k103
  refine en_put rfl l103 ((k103 51 (Nat.le_of_ble_eq_true rfl : 51 < 52)).trans h51) rfl rfl rfl ?_
  intro H104 l104 f104 k104
  refine en_s (am_nb (m := 2) (pc1 := 14) (ls1 := [(0, .ref 51)]) (st1 := [.int 4, .ref 51]) (H1 := H104) (k1 := 1) (n1 := 48) (by with_unfolding_all rfl)) ?_
  refine en_newa (N := 53) (m := 4) (ty := .int) rfl l104 rfl (by decide) (by with_unfolding_all rfl) rfl rfl ?_
  intro H105 l105 f105 k105
  refine en_put rfl l105 ((k105 51 (Nat.le_of_ble_eq_true rfl : 51 < 53)).trans f104) rfl rfl rfl ?_
  intro H106 l106 f106 k106
  refine en_s (am_nb (m := 2) (pc1 := 22) (ls1 := [(0, .ref 51)]) (st1 := [.int 39, .ref 51]) (H1 := H106) (k1 := 2) (n1 := 52) (by with_unfolding_all rfl)) ?_
  refine en_newa (N := 54) (m := 39) (ty := .boolean) rfl l106 rfl (by decide) (by with_unfolding_all rfl) rfl rfl ?_
  intro H107 l107 f107 k107
  refine en_put rfl l107 ((k107 51 (Nat.le_of_ble_eq_true rfl : 51 < 54)).trans f106) rfl rfl rfl ?_
  intro H108 l108 f108 k108
  refine en_s (am_nb (m := 2) (pc1 := 30) (ls1 := [(0, .ref 51)]) (st1 := [.int 6, .ref 51]) (H1 := H108) (k1 := 3) (n1 := 91) (by with_unfolding_all rfl)) ?_
  refine en_newa (N := 55) (m := 6) (ty := .int) rfl l108 rfl (by decide) (by with_unfolding_all rfl) rfl rfl ?_
  intro H109 l109 f109 k109
  refine en_put rfl l109 ((k109 51 (Nat.le_of_ble_eq_true rfl : 51 < 55)).trans f108) rfl rfl rfl ?_
  intro H110 l110 f110 k110
  refine en_s (am_nb (m := 2) (pc1 := 39) (ls1 := [(0, .ref 51)]) (st1 := [.int 1320, .ref 51]) (H1 := H110) (k1 := 4) (n1 := 97) (by with_unfolding_all rfl)) ?_
  refine en_newa (N := 56) (m := 1320) (ty := .int) rfl l110 rfl (by decide) (by with_unfolding_all rfl) rfl rfl ?_
  intro H111 l111 f111 k111
  refine en_put rfl l111 ((k111 51 (Nat.le_of_ble_eq_true rfl : 51 < 56)).trans f110) rfl rfl rfl ?_
  intro H112 l112 f112 k112
  refine en_s (am_nb (m := 2) (pc1 := 47) (ls1 := [(0, .ref 51)]) (st1 := [.int 33, .ref 51]) (H1 := H112) (k1 := 5) (n1 := 1417) (by with_unfolding_all rfl)) ?_
  refine en_newa (N := 57) (m := 33) (ty := .int) rfl l112 rfl (by decide) (by with_unfolding_all rfl) rfl rfl ?_
  intro H113 l113 f113 k113
  refine en_put rfl l113 ((k113 51 (Nat.le_of_ble_eq_true rfl : 51 < 57)).trans f112) rfl rfl rfl ?_
  intro H114 l114 f114 k114
  have K11 : ∀ j : Nat, j < 58 → j ≠ 51 → H114[j]? = H113[j]? := fun j hj n51 => (k114 j n51)
  have K10 : ∀ j : Nat, j < 57 → j ≠ 51 → H114[j]? = H112[j]? := fun j hj n51 => (K11 j (Nat.lt_of_lt_of_le hj (Nat.le_of_ble_eq_true rfl : 57 ≤ 58)) n51).trans (k113 j hj)
  have K9 : ∀ j : Nat, j < 57 → j ≠ 51 → H114[j]? = H111[j]? := fun j hj n51 => (K10 j hj n51).trans (k112 j n51)
  have K8 : ∀ j : Nat, j < 56 → j ≠ 51 → H114[j]? = H110[j]? := fun j hj n51 => (K9 j (Nat.lt_of_lt_of_le hj (Nat.le_of_ble_eq_true rfl : 56 ≤ 57)) n51).trans (k111 j hj)
  have K7 : ∀ j : Nat, j < 56 → j ≠ 51 → H114[j]? = H109[j]? := fun j hj n51 => (K8 j hj n51).trans (k110 j n51)
  have K6 : ∀ j : Nat, j < 55 → j ≠ 51 → H114[j]? = H108[j]? := fun j hj n51 => (K7 j (Nat.lt_of_lt_of_le hj (Nat.le_of_ble_eq_true rfl : 55 ≤ 56)) n51).trans (k109 j hj)
  have K5 : ∀ j : Nat, j < 55 → j ≠ 51 → H114[j]? = H107[j]? := fun j hj n51 => (K6 j hj n51).trans (k108 j n51)
  have K4 : ∀ j : Nat, j < 54 → j ≠ 51 → H114[j]? = H106[j]? := fun j hj n51 => (K5 j (Nat.lt_of_lt_of_le hj (Nat.le_of_ble_eq_true rfl : 54 ≤ 55)) n51).trans (k107 j hj)
  have K3 : ∀ j : Nat, j < 54 → j ≠ 51 → H114[j]? = H105[j]? := fun j hj n51 => (K4 j hj n51).trans (k106 j n51)
  have K2 : ∀ j : Nat, j < 53 → j ≠ 51 → H114[j]? = H104[j]? := fun j hj n51 => (K3 j (Nat.lt_of_lt_of_le hj (Nat.le_of_ble_eq_true rfl : 53 ≤ 54)) n51).trans (k105 j hj)
  have K1 : ∀ j : Nat, j < 53 → j ≠ 51 → H114[j]? = H103[j]? := fun j hj n51 => (K2 j hj n51).trans (k104 j n51)
  have K0 : ∀ j : Nat, j < 52 → j ≠ 51 → H114[j]? = H[j]? := fun j hj n51 => (K1 j (Nat.lt_of_lt_of_le hj (Nat.le_of_ble_eq_true rfl : 52 ≤ 53)) n51).trans (k103 j hj)
  exact en_r (st_vret rfl rfl) ⟨⟨((K1 52 (Nat.le_of_ble_eq_true rfl : 52 < 53) (Nat.ne_of_beq_eq_false rfl : 52 ≠ 51)).trans f103), f114, ((K3 53 (Nat.le_of_ble_eq_true rfl : 53 < 54) (Nat.ne_of_beq_eq_false rfl : 53 ≠ 51)).trans f105), ((K5 54 (Nat.le_of_ble_eq_true rfl : 54 < 55) (Nat.ne_of_beq_eq_false rfl : 54 ≠ 51)).trans f107), ((K7 55 (Nat.le_of_ble_eq_true rfl : 55 < 56) (Nat.ne_of_beq_eq_false rfl : 55 ≠ 51)).trans f109), ((K9 56 (Nat.le_of_ble_eq_true rfl : 56 < 57) (Nat.ne_of_beq_eq_false rfl : 56 ≠ 51)).trans f111), ((K11 57 (Nat.le_of_ble_eq_true rfl : 57 < 58) (Nat.ne_of_beq_eq_false rfl : 57 ≠ 51)).trans f113), trivial⟩, l114, fun j n51 hj => K0 j hj n51⟩

def cr_9F  (H H1 : am_H) : Prop := (H1[59]? = some (.inl (.int, (48, .inl (fun _ => 0)))) ∧ H1[58]? = some (.inr (2, [.ref 59, .ref 60, .int 0, .ref 61, .ref 62, .ref 63, .ref 64])) ∧ H1[60]? = some (.inl (.int, (4, .inl (fun _ => 0)))) ∧ H1[61]? = some (.inl (.boolean, (39, .inl (fun _ => 0)))) ∧ H1[62]? = some (.inl (.int, (6, .inl (fun _ => 0)))) ∧ H1[63]? = some (.inl (.int, (1320, .inl (fun _ => 0)))) ∧ H1[64]? = some (.inl (.int, (33, .inl (fun _ => 0)))) ∧ True) ∧ H1.length = 65 ∧ ∀ j : Nat, j ≠ 58 → j < 59 → H1[j]? = H[j]?
set_option maxRecDepth 100000 in
theorem cr_9 {sL : Nat} {sx : Nat → Int32} {cs : Nat → Nat → Option Int32} {H : am_H}  (hl : H.length = 59) (h58 : H[58]? = some (.inr (2, [.null, .null, .int 0, .null, .null, .null, .null]))) :
    am_NW sL sx cs 2 0 [(0, .ref 58)] [] H 0 0 none 6 1450 (cr_9F H) := by
  refine en_s (am_nb (m := 4) (pc1 := 7) (ls1 := [(0, .ref 58)]) (st1 := [.int 48, .ref 58]) (H1 := H) (k1 := 0) (n1 := 0) (by with_unfolding_all rfl)) ?_
  refine en_newa (N := 59) (m := 48) (ty := .int) rfl hl rfl (by decide) (by with_unfolding_all rfl) rfl rfl ?_
  intro H118 l118 f118 k118
  refine en_put rfl l118 ((k118 58 (Nat.le_of_ble_eq_true rfl : 58 < 59)).trans h58) rfl rfl rfl ?_
  intro H119 l119 f119 k119
  refine en_s (am_nb (m := 2) (pc1 := 14) (ls1 := [(0, .ref 58)]) (st1 := [.int 4, .ref 58]) (H1 := H119) (k1 := 1) (n1 := 48) (by with_unfolding_all rfl)) ?_
  refine en_newa (N := 60) (m := 4) (ty := .int) rfl l119 rfl (by decide) (by with_unfolding_all rfl) rfl rfl ?_
  intro H120 l120 f120 k120
  refine en_put rfl l120 ((k120 58 (Nat.le_of_ble_eq_true rfl : 58 < 60)).trans f119) rfl rfl rfl ?_
  intro H121 l121 f121 k121
  refine en_s (am_nb (m := 2) (pc1 := 22) (ls1 := [(0, .ref 58)]) (st1 := [.int 39, .ref 58]) (H1 := H121) (k1 := 2) (n1 := 52) (by with_unfolding_all rfl)) ?_
  refine en_newa (N := 61) (m := 39) (ty := .boolean) rfl l121 rfl (by decide) (by with_unfolding_all rfl) rfl rfl ?_
  intro H122 l122 f122 k122
  refine en_put rfl l122 ((k122 58 (Nat.le_of_ble_eq_true rfl : 58 < 61)).trans f121) rfl rfl rfl ?_
  intro H123 l123 f123 k123
  refine en_s (am_nb (m := 2) (pc1 := 30) (ls1 := [(0, .ref 58)]) (st1 := [.int 6, .ref 58]) (H1 := H123) (k1 := 3) (n1 := 91) (by with_unfolding_all rfl)) ?_
  refine en_newa (N := 62) (m := 6) (ty := .int) rfl l123 rfl (by decide) (by with_unfolding_all rfl) rfl rfl ?_
  intro H124 l124 f124 k124
  refine en_put rfl l124 ((k124 58 (Nat.le_of_ble_eq_true rfl : 58 < 62)).trans f123) rfl rfl rfl ?_
  intro H125 l125 f125 k125
  refine en_s (am_nb (m := 2) (pc1 := 39) (ls1 := [(0, .ref 58)]) (st1 := [.int 1320, .ref 58]) (H1 := H125) (k1 := 4) (n1 := 97) (by with_unfolding_all rfl)) ?_
  refine en_newa (N := 63) (m := 1320) (ty := .int) rfl l125 rfl (by decide) (by with_unfolding_all rfl) rfl rfl ?_
  intro H126 l126 f126 k126
  refine en_put rfl l126 ((k126 58 (Nat.le_of_ble_eq_true rfl : 58 < 63)).trans f125) rfl rfl rfl ?_
  intro H127 l127 f127 k127
  refine en_s (am_nb (m := 2) (pc1 := 47) (ls1 := [(0, .ref 58)]) (st1 := [.int 33, .ref 58]) (H1 := H127) (k1 := 5) (n1 := 1417) (by with_unfolding_all rfl)) ?_
  refine en_newa (N := 64) (m := 33) (ty := .int) rfl l127 rfl (by decide) (by with_unfolding_all rfl) rfl rfl ?_
  intro H128 l128 f128 k128
  refine en_put rfl l128 ((k128 58 (Nat.le_of_ble_eq_true rfl : 58 < 64)).trans f127) rfl rfl rfl ?_
  intro H129 l129 f129 k129
  have K11 : ∀ j : Nat, j < 65 → j ≠ 58 → H129[j]? = H128[j]? := fun j hj n58 => (k129 j n58)
  have K10 : ∀ j : Nat, j < 64 → j ≠ 58 → H129[j]? = H127[j]? := fun j hj n58 => (K11 j (Nat.lt_of_lt_of_le hj (Nat.le_of_ble_eq_true rfl : 64 ≤ 65)) n58).trans (k128 j hj)
  have K9 : ∀ j : Nat, j < 64 → j ≠ 58 → H129[j]? = H126[j]? := fun j hj n58 => (K10 j hj n58).trans (k127 j n58)
  have K8 : ∀ j : Nat, j < 63 → j ≠ 58 → H129[j]? = H125[j]? := fun j hj n58 => (K9 j (Nat.lt_of_lt_of_le hj (Nat.le_of_ble_eq_true rfl : 63 ≤ 64)) n58).trans (k126 j hj)
  have K7 : ∀ j : Nat, j < 63 → j ≠ 58 → H129[j]? = H124[j]? := fun j hj n58 => (K8 j hj n58).trans (k125 j n58)
  have K6 : ∀ j : Nat, j < 62 → j ≠ 58 → H129[j]? = H123[j]? := fun j hj n58 => (K7 j (Nat.lt_of_lt_of_le hj (Nat.le_of_ble_eq_true rfl : 62 ≤ 63)) n58).trans (k124 j hj)
  have K5 : ∀ j : Nat, j < 62 → j ≠ 58 → H129[j]? = H122[j]? := fun j hj n58 => (K6 j hj n58).trans (k123 j n58)
  have K4 : ∀ j : Nat, j < 61 → j ≠ 58 → H129[j]? = H121[j]? := fun j hj n58 => (K5 j (Nat.lt_of_lt_of_le hj (Nat.le_of_ble_eq_true rfl : 61 ≤ 62)) n58).trans (k122 j hj)
  have K3 : ∀ j : Nat, j < 61 → j ≠ 58 → H129[j]? = H120[j]? := fun j hj n58 => (K4 j hj n58).trans (k121 j n58)
  have K2 : ∀ j : Nat, j < 60 → j ≠ 58 → H129[j]? = H119[j]? := fun j hj n58 => (K3 j (Nat.lt_of_lt_of_le hj (Nat.le_of_ble_eq_true rfl : 60 ≤ 61)) n58).trans (k120 j hj)
  have K1 : ∀ j : Nat, j < 60 → j ≠ 58 → H129[j]? = H118[j]? := fun j hj n58 => (K2 j hj n58).trans (k119 j n58)
  have K0 : ∀ j : Nat, j < 59 → j ≠ 58 → H129[j]? = H[j]? := fun j hj n58 => (K1 j (Nat.lt_of_lt_of_le hj (Nat.le_of_ble_eq_true rfl : 59 ≤ 60)) n58).trans (k118 j hj)
  exact en_r (st_vret rfl rfl) ⟨⟨((K1 59 (Nat.le_of_ble_eq_true rfl : 59 < 60) (Nat.ne_of_beq_eq_false rfl : 59 ≠ 58)).trans f118), f129, ((K3 60 (Nat.le_of_ble_eq_true rfl : 60 < 61) (Nat.ne_of_beq_eq_false rfl : 60 ≠ 58)).trans f120), ((K5 61 (Nat.le_of_ble_eq_true rfl : 61 < 62) (Nat.ne_of_beq_eq_false rfl : 61 ≠ 58)).trans f122), ((K7 62 (Nat.le_of_ble_eq_true rfl : 62 < 63) (Nat.ne_of_beq_eq_false rfl : 62 ≠ 58)).trans f124), ((K9 63 (Nat.le_of_ble_eq_true rfl : 63 < 64) (Nat.ne_of_beq_eq_false rfl : 63 ≠ 58)).trans f126), ((K11 64 (Nat.le_of_ble_eq_true rfl : 64 < 65) (Nat.ne_of_beq_eq_false rfl : 64 ≠ 58)).trans f128), trivial⟩, l129, fun j n58 hj => K0 j hj n58⟩

def cr_10F  (H H1 : am_H) : Prop := (H1[66]? = some (.inl (.int, (48, .inl (fun _ => 0)))) ∧ H1[65]? = some (.inr (2, [.ref 66, .ref 67, .int 0, .ref 68, .ref 69, .ref 70, .ref 71])) ∧ H1[67]? = some (.inl (.int, (4, .inl (fun _ => 0)))) ∧ H1[68]? = some (.inl (.boolean, (39, .inl (fun _ => 0)))) ∧ H1[69]? = some (.inl (.int, (6, .inl (fun _ => 0)))) ∧ H1[70]? = some (.inl (.int, (1320, .inl (fun _ => 0)))) ∧ H1[71]? = some (.inl (.int, (33, .inl (fun _ => 0)))) ∧ True) ∧ H1.length = 72 ∧ ∀ j : Nat, j ≠ 65 → j < 66 → H1[j]? = H[j]?
set_option maxRecDepth 100000 in
theorem cr_10 {sL : Nat} {sx : Nat → Int32} {cs : Nat → Nat → Option Int32} {H : am_H}  (hl : H.length = 66) (h65 : H[65]? = some (.inr (2, [.null, .null, .int 0, .null, .null, .null, .null]))) :
    am_NW sL sx cs 2 0 [(0, .ref 65)] [] H 0 0 none 6 1450 (cr_10F H) := by
  refine en_s (am_nb (m := 4) (pc1 := 7) (ls1 := [(0, .ref 65)]) (st1 := [.int 48, .ref 65]) (H1 := H) (k1 := 0) (n1 := 0) (by with_unfolding_all rfl)) ?_
  refine en_newa (N := 66) (m := 48) (ty := .int) rfl hl rfl (by decide) (by with_unfolding_all rfl) rfl rfl ?_
  intro H133 l133 f133 k133
  refine en_put rfl l133 ((k133 65 (Nat.le_of_ble_eq_true rfl : 65 < 66)).trans h65) rfl rfl rfl ?_
  intro H134 l134 f134 k134
  refine en_s (am_nb (m := 2) (pc1 := 14) (ls1 := [(0, .ref 65)]) (st1 := [.int 4, .ref 65]) (H1 := H134) (k1 := 1) (n1 := 48) (by with_unfolding_all rfl)) ?_
  refine en_newa (N := 67) (m := 4) (ty := .int) rfl l134 rfl (by decide) (by with_unfolding_all rfl) rfl rfl ?_
  intro H135 l135 f135 k135
  refine en_put rfl l135 ((k135 65 (Nat.le_of_ble_eq_true rfl : 65 < 67)).trans f134) rfl rfl rfl ?_
  intro H136 l136 f136 k136
  refine en_s (am_nb (m := 2) (pc1 := 22) (ls1 := [(0, .ref 65)]) (st1 := [.int 39, .ref 65]) (H1 := H136) (k1 := 2) (n1 := 52) (by with_unfolding_all rfl)) ?_
  refine en_newa (N := 68) (m := 39) (ty := .boolean) rfl l136 rfl (by decide) (by with_unfolding_all rfl) rfl rfl ?_
  intro H137 l137 f137 k137
  refine en_put rfl l137 ((k137 65 (Nat.le_of_ble_eq_true rfl : 65 < 68)).trans f136) rfl rfl rfl ?_
  intro H138 l138 f138 k138
  refine en_s (am_nb (m := 2) (pc1 := 30) (ls1 := [(0, .ref 65)]) (st1 := [.int 6, .ref 65]) (H1 := H138) (k1 := 3) (n1 := 91) (by with_unfolding_all rfl)) ?_
  refine en_newa (N := 69) (m := 6) (ty := .int) rfl l138 rfl (by decide) (by with_unfolding_all rfl) rfl rfl ?_
  intro H139 l139 f139 k139
  refine en_put rfl l139 ((k139 65 (Nat.le_of_ble_eq_true rfl : 65 < 69)).trans f138) rfl rfl rfl ?_
  intro H140 l140 f140 k140
  refine en_s (am_nb (m := 2) (pc1 := 39) (ls1 := [(0, .ref 65)]) (st1 := [.int 1320, .ref 65]) (H1 := H140) (k1 := 4) (n1 := 97) (by with_unfolding_all rfl)) ?_
  refine en_newa (N := 70) (m := 1320) (ty := .int) rfl l140 rfl (by decide) (by with_unfolding_all rfl) rfl rfl ?_
  intro H141 l141 f141 k141
  refine en_put rfl l141 ((k141 65 (Nat.le_of_ble_eq_true rfl : 65 < 70)).trans f140) rfl rfl rfl ?_
  intro H142 l142 f142 k142
  refine en_s (am_nb (m := 2) (pc1 := 47) (ls1 := [(0, .ref 65)]) (st1 := [.int 33, .ref 65]) (H1 := H142) (k1 := 5) (n1 := 1417) (by with_unfolding_all rfl)) ?_
  refine en_newa (N := 71) (m := 33) (ty := .int) rfl l142 rfl (by decide) (by with_unfolding_all rfl) rfl rfl ?_
  intro H143 l143 f143 k143
  refine en_put rfl l143 ((k143 65 (Nat.le_of_ble_eq_true rfl : 65 < 71)).trans f142) rfl rfl rfl ?_
  intro H144 l144 f144 k144
  have K11 : ∀ j : Nat, j < 72 → j ≠ 65 → H144[j]? = H143[j]? := fun j hj n65 => (k144 j n65)
  have K10 : ∀ j : Nat, j < 71 → j ≠ 65 → H144[j]? = H142[j]? := fun j hj n65 => (K11 j (Nat.lt_of_lt_of_le hj (Nat.le_of_ble_eq_true rfl : 71 ≤ 72)) n65).trans (k143 j hj)
  have K9 : ∀ j : Nat, j < 71 → j ≠ 65 → H144[j]? = H141[j]? := fun j hj n65 => (K10 j hj n65).trans (k142 j n65)
  have K8 : ∀ j : Nat, j < 70 → j ≠ 65 → H144[j]? = H140[j]? := fun j hj n65 => (K9 j (Nat.lt_of_lt_of_le hj (Nat.le_of_ble_eq_true rfl : 70 ≤ 71)) n65).trans (k141 j hj)
  have K7 : ∀ j : Nat, j < 70 → j ≠ 65 → H144[j]? = H139[j]? := fun j hj n65 => (K8 j hj n65).trans (k140 j n65)
  have K6 : ∀ j : Nat, j < 69 → j ≠ 65 → H144[j]? = H138[j]? := fun j hj n65 => (K7 j (Nat.lt_of_lt_of_le hj (Nat.le_of_ble_eq_true rfl : 69 ≤ 70)) n65).trans (k139 j hj)
  have K5 : ∀ j : Nat, j < 69 → j ≠ 65 → H144[j]? = H137[j]? := fun j hj n65 => (K6 j hj n65).trans (k138 j n65)
  have K4 : ∀ j : Nat, j < 68 → j ≠ 65 → H144[j]? = H136[j]? := fun j hj n65 => (K5 j (Nat.lt_of_lt_of_le hj (Nat.le_of_ble_eq_true rfl : 68 ≤ 69)) n65).trans (k137 j hj)
  have K3 : ∀ j : Nat, j < 68 → j ≠ 65 → H144[j]? = H135[j]? := fun j hj n65 => (K4 j hj n65).trans (k136 j n65)
  have K2 : ∀ j : Nat, j < 67 → j ≠ 65 → H144[j]? = H134[j]? := fun j hj n65 => (K3 j (Nat.lt_of_lt_of_le hj (Nat.le_of_ble_eq_true rfl : 67 ≤ 68)) n65).trans (k135 j hj)
  have K1 : ∀ j : Nat, j < 67 → j ≠ 65 → H144[j]? = H133[j]? := fun j hj n65 => (K2 j hj n65).trans (k134 j n65)
  have K0 : ∀ j : Nat, j < 66 → j ≠ 65 → H144[j]? = H[j]? := fun j hj n65 => (K1 j (Nat.lt_of_lt_of_le hj (Nat.le_of_ble_eq_true rfl : 66 ≤ 67)) n65).trans (k133 j hj)
  exact en_r (st_vret rfl rfl) ⟨⟨((K1 66 (Nat.le_of_ble_eq_true rfl : 66 < 67) (Nat.ne_of_beq_eq_false rfl : 66 ≠ 65)).trans f133), f144, ((K3 67 (Nat.le_of_ble_eq_true rfl : 67 < 68) (Nat.ne_of_beq_eq_false rfl : 67 ≠ 65)).trans f135), ((K5 68 (Nat.le_of_ble_eq_true rfl : 68 < 69) (Nat.ne_of_beq_eq_false rfl : 68 ≠ 65)).trans f137), ((K7 69 (Nat.le_of_ble_eq_true rfl : 69 < 70) (Nat.ne_of_beq_eq_false rfl : 69 ≠ 65)).trans f139), ((K9 70 (Nat.le_of_ble_eq_true rfl : 70 < 71) (Nat.ne_of_beq_eq_false rfl : 70 ≠ 65)).trans f141), ((K11 71 (Nat.le_of_ble_eq_true rfl : 71 < 72) (Nat.ne_of_beq_eq_false rfl : 71 ≠ 65)).trans f143), trivial⟩, l144, fun j n65 hj => K0 j hj n65⟩

def cr_11F  (H H1 : am_H) : Prop := (H1[73]? = some (.inl (.int, (48, .inl (fun _ => 0)))) ∧ H1[72]? = some (.inr (2, [.ref 73, .ref 74, .int 0, .ref 75, .ref 76, .ref 77, .ref 78])) ∧ H1[74]? = some (.inl (.int, (4, .inl (fun _ => 0)))) ∧ H1[75]? = some (.inl (.boolean, (39, .inl (fun _ => 0)))) ∧ H1[76]? = some (.inl (.int, (6, .inl (fun _ => 0)))) ∧ H1[77]? = some (.inl (.int, (1320, .inl (fun _ => 0)))) ∧ H1[78]? = some (.inl (.int, (33, .inl (fun _ => 0)))) ∧ True) ∧ H1.length = 79 ∧ ∀ j : Nat, j ≠ 72 → j < 73 → H1[j]? = H[j]?
set_option maxRecDepth 100000 in
theorem cr_11 {sL : Nat} {sx : Nat → Int32} {cs : Nat → Nat → Option Int32} {H : am_H}  (hl : H.length = 73) (h72 : H[72]? = some (.inr (2, [.null, .null, .int 0, .null, .null, .null, .null]))) :
    am_NW sL sx cs 2 0 [(0, .ref 72)] [] H 0 0 none 6 1450 (cr_11F H) := by
  refine en_s (am_nb (m := 4) (pc1 := 7) (ls1 := [(0, .ref 72)]) (st1 := [.int 48, .ref 72]) (H1 := H) (k1 := 0) (n1 := 0) (by with_unfolding_all rfl)) ?_
  refine en_newa (N := 73) (m := 48) (ty := .int) rfl hl rfl (by decide) (by with_unfolding_all rfl) rfl rfl ?_
  intro H148 l148 f148 k148
  refine en_put rfl l148 ((k148 72 (Nat.le_of_ble_eq_true rfl : 72 < 73)).trans h72) rfl rfl rfl ?_
  intro H149 l149 f149 k149
  refine en_s (am_nb (m := 2) (pc1 := 14) (ls1 := [(0, .ref 72)]) (st1 := [.int 4, .ref 72]) (H1 := H149) (k1 := 1) (n1 := 48) (by with_unfolding_all rfl)) ?_
  refine en_newa (N := 74) (m := 4) (ty := .int) rfl l149 rfl (by decide) (by with_unfolding_all rfl) rfl rfl ?_
  intro H150 l150 f150 k150
  refine en_put rfl l150 ((k150 72 (Nat.le_of_ble_eq_true rfl : 72 < 74)).trans f149) rfl rfl rfl ?_
  intro H151 l151 f151 k151
  refine en_s (am_nb (m := 2) (pc1 := 22) (ls1 := [(0, .ref 72)]) (st1 := [.int 39, .ref 72]) (H1 := H151) (k1 := 2) (n1 := 52) (by with_unfolding_all rfl)) ?_
  refine en_newa (N := 75) (m := 39) (ty := .boolean) rfl l151 rfl (by decide) (by with_unfolding_all rfl) rfl rfl ?_
  intro H152 l152 f152 k152
  refine en_put rfl l152 ((k152 72 (Nat.le_of_ble_eq_true rfl : 72 < 75)).trans f151) rfl rfl rfl ?_
  intro H153 l153 f153 k153
  refine en_s (am_nb (m := 2) (pc1 := 30) (ls1 := [(0, .ref 72)]) (st1 := [.int 6, .ref 72]) (H1 := H153) (k1 := 3) (n1 := 91) (by with_unfolding_all rfl)) ?_
  refine en_newa (N := 76) (m := 6) (ty := .int) rfl l153 rfl (by decide) (by with_unfolding_all rfl) rfl rfl ?_
  intro H154 l154 f154 k154
  refine en_put rfl l154 ((k154 72 (Nat.le_of_ble_eq_true rfl : 72 < 76)).trans f153) rfl rfl rfl ?_
  intro H155 l155 f155 k155
  refine en_s (am_nb (m := 2) (pc1 := 39) (ls1 := [(0, .ref 72)]) (st1 := [.int 1320, .ref 72]) (H1 := H155) (k1 := 4) (n1 := 97) (by with_unfolding_all rfl)) ?_
  refine en_newa (N := 77) (m := 1320) (ty := .int) rfl l155 rfl (by decide) (by with_unfolding_all rfl) rfl rfl ?_
  intro H156 l156 f156 k156
  refine en_put rfl l156 ((k156 72 (Nat.le_of_ble_eq_true rfl : 72 < 77)).trans f155) rfl rfl rfl ?_
  intro H157 l157 f157 k157
  refine en_s (am_nb (m := 2) (pc1 := 47) (ls1 := [(0, .ref 72)]) (st1 := [.int 33, .ref 72]) (H1 := H157) (k1 := 5) (n1 := 1417) (by with_unfolding_all rfl)) ?_
  refine en_newa (N := 78) (m := 33) (ty := .int) rfl l157 rfl (by decide) (by with_unfolding_all rfl) rfl rfl ?_
  intro H158 l158 f158 k158
  refine en_put rfl l158 ((k158 72 (Nat.le_of_ble_eq_true rfl : 72 < 78)).trans f157) rfl rfl rfl ?_
  intro H159 l159 f159 k159
  have K11 : ∀ j : Nat, j < 79 → j ≠ 72 → H159[j]? = H158[j]? := fun j hj n72 => (k159 j n72)
  have K10 : ∀ j : Nat, j < 78 → j ≠ 72 → H159[j]? = H157[j]? := fun j hj n72 => (K11 j (Nat.lt_of_lt_of_le hj (Nat.le_of_ble_eq_true rfl : 78 ≤ 79)) n72).trans (k158 j hj)
  have K9 : ∀ j : Nat, j < 78 → j ≠ 72 → H159[j]? = H156[j]? := fun j hj n72 => (K10 j hj n72).trans (k157 j n72)
  have K8 : ∀ j : Nat, j < 77 → j ≠ 72 → H159[j]? = H155[j]? := fun j hj n72 => (K9 j (Nat.lt_of_lt_of_le hj (Nat.le_of_ble_eq_true rfl : 77 ≤ 78)) n72).trans (k156 j hj)
  have K7 : ∀ j : Nat, j < 77 → j ≠ 72 → H159[j]? = H154[j]? := fun j hj n72 => (K8 j hj n72).trans (k155 j n72)
  have K6 : ∀ j : Nat, j < 76 → j ≠ 72 → H159[j]? = H153[j]? := fun j hj n72 => (K7 j (Nat.lt_of_lt_of_le hj (Nat.le_of_ble_eq_true rfl : 76 ≤ 77)) n72).trans (k154 j hj)
  have K5 : ∀ j : Nat, j < 76 → j ≠ 72 → H159[j]? = H152[j]? := fun j hj n72 => (K6 j hj n72).trans (k153 j n72)
  have K4 : ∀ j : Nat, j < 75 → j ≠ 72 → H159[j]? = H151[j]? := fun j hj n72 => (K5 j (Nat.lt_of_lt_of_le hj (Nat.le_of_ble_eq_true rfl : 75 ≤ 76)) n72).trans (k152 j hj)
  have K3 : ∀ j : Nat, j < 75 → j ≠ 72 → H159[j]? = H150[j]? := fun j hj n72 => (K4 j hj n72).trans (k151 j n72)
  have K2 : ∀ j : Nat, j < 74 → j ≠ 72 → H159[j]? = H149[j]? := fun j hj n72 => (K3 j (Nat.lt_of_lt_of_le hj (Nat.le_of_ble_eq_true rfl : 74 ≤ 75)) n72).trans (k150 j hj)
  have K1 : ∀ j : Nat, j < 74 → j ≠ 72 → H159[j]? = H148[j]? := fun j hj n72 => (K2 j hj n72).trans (k149 j n72)
  have K0 : ∀ j : Nat, j < 73 → j ≠ 72 → H159[j]? = H[j]? := fun j hj n72 => (K1 j (Nat.lt_of_lt_of_le hj (Nat.le_of_ble_eq_true rfl : 73 ≤ 74)) n72).trans (k148 j hj)
  exact en_r (st_vret rfl rfl) ⟨⟨((K1 73 (Nat.le_of_ble_eq_true rfl : 73 < 74) (Nat.ne_of_beq_eq_false rfl : 73 ≠ 72)).trans f148), f159, ((K3 74 (Nat.le_of_ble_eq_true rfl : 74 < 75) (Nat.ne_of_beq_eq_false rfl : 74 ≠ 72)).trans f150), ((K5 75 (Nat.le_of_ble_eq_true rfl : 75 < 76) (Nat.ne_of_beq_eq_false rfl : 75 ≠ 72)).trans f152), ((K7 76 (Nat.le_of_ble_eq_true rfl : 76 < 77) (Nat.ne_of_beq_eq_false rfl : 76 ≠ 72)).trans f154), ((K9 77 (Nat.le_of_ble_eq_true rfl : 77 < 78) (Nat.ne_of_beq_eq_false rfl : 77 ≠ 72)).trans f156), ((K11 78 (Nat.le_of_ble_eq_true rfl : 78 < 79) (Nat.ne_of_beq_eq_false rfl : 78 ≠ 72)).trans f158), trivial⟩, l159, fun j n72 hj => K0 j hj n72⟩

def cr_12F  (H H1 : am_H) : Prop := (H1[80]? = some (.inl (.int, (48, .inl (fun _ => 0)))) ∧ H1[79]? = some (.inr (2, [.ref 80, .ref 81, .int 0, .ref 82, .ref 83, .ref 84, .ref 85])) ∧ H1[81]? = some (.inl (.int, (4, .inl (fun _ => 0)))) ∧ H1[82]? = some (.inl (.boolean, (39, .inl (fun _ => 0)))) ∧ H1[83]? = some (.inl (.int, (6, .inl (fun _ => 0)))) ∧ H1[84]? = some (.inl (.int, (1320, .inl (fun _ => 0)))) ∧ H1[85]? = some (.inl (.int, (33, .inl (fun _ => 0)))) ∧ True) ∧ H1.length = 86 ∧ ∀ j : Nat, j ≠ 79 → j < 80 → H1[j]? = H[j]?
set_option maxRecDepth 100000 in
theorem cr_12 {sL : Nat} {sx : Nat → Int32} {cs : Nat → Nat → Option Int32} {H : am_H}  (hl : H.length = 80) (h79 : H[79]? = some (.inr (2, [.null, .null, .int 0, .null, .null, .null, .null]))) :
    am_NW sL sx cs 2 0 [(0, .ref 79)] [] H 0 0 none 6 1450 (cr_12F H) := by
  refine en_s (am_nb (m := 4) (pc1 := 7) (ls1 := [(0, .ref 79)]) (st1 := [.int 48, .ref 79]) (H1 := H) (k1 := 0) (n1 := 0) (by with_unfolding_all rfl)) ?_
  refine en_newa (N := 80) (m := 48) (ty := .int) rfl hl rfl (by decide) (by with_unfolding_all rfl) rfl rfl ?_
  intro H163 l163 f163 k163
  refine en_put rfl l163 ((k163 79 (Nat.le_of_ble_eq_true rfl : 79 < 80)).trans h79) rfl rfl rfl ?_
  intro H164 l164 f164 k164
  refine en_s (am_nb (m := 2) (pc1 := 14) (ls1 := [(0, .ref 79)]) (st1 := [.int 4, .ref 79]) (H1 := H164) (k1 := 1) (n1 := 48) (by with_unfolding_all rfl)) ?_
  refine en_newa (N := 81) (m := 4) (ty := .int) rfl l164 rfl (by decide) (by with_unfolding_all rfl) rfl rfl ?_
  intro H165 l165 f165 k165
  refine en_put rfl l165 ((k165 79 (Nat.le_of_ble_eq_true rfl : 79 < 81)).trans f164) rfl rfl rfl ?_
  intro H166 l166 f166 k166
  refine en_s (am_nb (m := 2) (pc1 := 22) (ls1 := [(0, .ref 79)]) (st1 := [.int 39, .ref 79]) (H1 := H166) (k1 := 2) (n1 := 52) (by with_unfolding_all rfl)) ?_
  refine en_newa (N := 82) (m := 39) (ty := .boolean) rfl l166 rfl (by decide) (by with_unfolding_all rfl) rfl rfl ?_
  intro H167 l167 f167 k167
  refine en_put rfl l167 ((k167 79 (Nat.le_of_ble_eq_true rfl : 79 < 82)).trans f166) rfl rfl rfl ?_
  intro H168 l168 f168 k168
  refine en_s (am_nb (m := 2) (pc1 := 30) (ls1 := [(0, .ref 79)]) (st1 := [.int 6, .ref 79]) (H1 := H168) (k1 := 3) (n1 := 91) (by with_unfolding_all rfl)) ?_
  refine en_newa (N := 83) (m := 6) (ty := .int) rfl l168 rfl (by decide) (by with_unfolding_all rfl) rfl rfl ?_
  intro H169 l169 f169 k169
  refine en_put rfl l169 ((k169 79 (Nat.le_of_ble_eq_true rfl : 79 < 83)).trans f168) rfl rfl rfl ?_
  intro H170 l170 f170 k170
  refine en_s (am_nb (m := 2) (pc1 := 39) (ls1 := [(0, .ref 79)]) (st1 := [.int 1320, .ref 79]) (H1 := H170) (k1 := 4) (n1 := 97) (by with_unfolding_all rfl)) ?_
  refine en_newa (N := 84) (m := 1320) (ty := .int) rfl l170 rfl (by decide) (by with_unfolding_all rfl) rfl rfl ?_
  intro H171 l171 f171 k171
  refine en_put rfl l171 ((k171 79 (Nat.le_of_ble_eq_true rfl : 79 < 84)).trans f170) rfl rfl rfl ?_
  intro H172 l172 f172 k172
  refine en_s (am_nb (m := 2) (pc1 := 47) (ls1 := [(0, .ref 79)]) (st1 := [.int 33, .ref 79]) (H1 := H172) (k1 := 5) (n1 := 1417) (by with_unfolding_all rfl)) ?_
  refine en_newa (N := 85) (m := 33) (ty := .int) rfl l172 rfl (by decide) (by with_unfolding_all rfl) rfl rfl ?_
  intro H173 l173 f173 k173
  refine en_put rfl l173 ((k173 79 (Nat.le_of_ble_eq_true rfl : 79 < 85)).trans f172) rfl rfl rfl ?_
  intro H174 l174 f174 k174
  have K11 : ∀ j : Nat, j < 86 → j ≠ 79 → H174[j]? = H173[j]? := fun j hj n79 => (k174 j n79)
  have K10 : ∀ j : Nat, j < 85 → j ≠ 79 → H174[j]? = H172[j]? := fun j hj n79 => (K11 j (Nat.lt_of_lt_of_le hj (Nat.le_of_ble_eq_true rfl : 85 ≤ 86)) n79).trans (k173 j hj)
  have K9 : ∀ j : Nat, j < 85 → j ≠ 79 → H174[j]? = H171[j]? := fun j hj n79 => (K10 j hj n79).trans (k172 j n79)
  have K8 : ∀ j : Nat, j < 84 → j ≠ 79 → H174[j]? = H170[j]? := fun j hj n79 => (K9 j (Nat.lt_of_lt_of_le hj (Nat.le_of_ble_eq_true rfl : 84 ≤ 85)) n79).trans (k171 j hj)
  have K7 : ∀ j : Nat, j < 84 → j ≠ 79 → H174[j]? = H169[j]? := fun j hj n79 => (K8 j hj n79).trans (k170 j n79)
  have K6 : ∀ j : Nat, j < 83 → j ≠ 79 → H174[j]? = H168[j]? := fun j hj n79 => (K7 j (Nat.lt_of_lt_of_le hj (Nat.le_of_ble_eq_true rfl : 83 ≤ 84)) n79).trans (k169 j hj)
  have K5 : ∀ j : Nat, j < 83 → j ≠ 79 → H174[j]? = H167[j]? := fun j hj n79 => (K6 j hj n79).trans (k168 j n79)
  have K4 : ∀ j : Nat, j < 82 → j ≠ 79 → H174[j]? = H166[j]? := fun j hj n79 => (K5 j (Nat.lt_of_lt_of_le hj (Nat.le_of_ble_eq_true rfl : 82 ≤ 83)) n79).trans (k167 j hj)
  have K3 : ∀ j : Nat, j < 82 → j ≠ 79 → H174[j]? = H165[j]? := fun j hj n79 => (K4 j hj n79).trans (k166 j n79)
  have K2 : ∀ j : Nat, j < 81 → j ≠ 79 → H174[j]? = H164[j]? := fun j hj n79 => (K3 j (Nat.lt_of_lt_of_le hj (Nat.le_of_ble_eq_true rfl : 81 ≤ 82)) n79).trans (k165 j hj)
  have K1 : ∀ j : Nat, j < 81 → j ≠ 79 → H174[j]? = H163[j]? := fun j hj n79 => (K2 j hj n79).trans (k164 j n79)
  have K0 : ∀ j : Nat, j < 80 → j ≠ 79 → H174[j]? = H[j]? := fun j hj n79 => (K1 j (Nat.lt_of_lt_of_le hj (Nat.le_of_ble_eq_true rfl : 80 ≤ 81)) n79).trans (k163 j hj)
  exact en_r (st_vret rfl rfl) ⟨⟨((K1 80 (Nat.le_of_ble_eq_true rfl : 80 < 81) (Nat.ne_of_beq_eq_false rfl : 80 ≠ 79)).trans f163), f174, ((K3 81 (Nat.le_of_ble_eq_true rfl : 81 < 82) (Nat.ne_of_beq_eq_false rfl : 81 ≠ 79)).trans f165), ((K5 82 (Nat.le_of_ble_eq_true rfl : 82 < 83) (Nat.ne_of_beq_eq_false rfl : 82 ≠ 79)).trans f167), ((K7 83 (Nat.le_of_ble_eq_true rfl : 83 < 84) (Nat.ne_of_beq_eq_false rfl : 83 ≠ 79)).trans f169), ((K9 84 (Nat.le_of_ble_eq_true rfl : 84 < 85) (Nat.ne_of_beq_eq_false rfl : 84 ≠ 79)).trans f171), ((K11 85 (Nat.le_of_ble_eq_true rfl : 85 < 86) (Nat.ne_of_beq_eq_false rfl : 85 ≠ 79)).trans f173), trivial⟩, l174, fun j n79 hj => K0 j hj n79⟩

def cr_13F  (H H1 : am_H) : Prop := (H1[87]? = some (.inl (.int, (48, .inl (fun _ => 0)))) ∧ H1[86]? = some (.inr (2, [.ref 87, .ref 88, .int 0, .ref 89, .ref 90, .ref 91, .ref 92])) ∧ H1[88]? = some (.inl (.int, (4, .inl (fun _ => 0)))) ∧ H1[89]? = some (.inl (.boolean, (39, .inl (fun _ => 0)))) ∧ H1[90]? = some (.inl (.int, (6, .inl (fun _ => 0)))) ∧ H1[91]? = some (.inl (.int, (1320, .inl (fun _ => 0)))) ∧ H1[92]? = some (.inl (.int, (33, .inl (fun _ => 0)))) ∧ True) ∧ H1.length = 93 ∧ ∀ j : Nat, j ≠ 86 → j < 87 → H1[j]? = H[j]?
set_option maxRecDepth 100000 in
theorem cr_13 {sL : Nat} {sx : Nat → Int32} {cs : Nat → Nat → Option Int32} {H : am_H}  (hl : H.length = 87) (h86 : H[86]? = some (.inr (2, [.null, .null, .int 0, .null, .null, .null, .null]))) :
    am_NW sL sx cs 2 0 [(0, .ref 86)] [] H 0 0 none 6 1450 (cr_13F H) := by
  refine en_s (am_nb (m := 4) (pc1 := 7) (ls1 := [(0, .ref 86)]) (st1 := [.int 48, .ref 86]) (H1 := H) (k1 := 0) (n1 := 0) (by with_unfolding_all rfl)) ?_
  refine en_newa (N := 87) (m := 48) (ty := .int) rfl hl rfl (by decide) (by with_unfolding_all rfl) rfl rfl ?_
  intro H178 l178 f178 k178
  refine en_put rfl l178 ((k178 86 (Nat.le_of_ble_eq_true rfl : 86 < 87)).trans h86) rfl rfl rfl ?_
  intro H179 l179 f179 k179
  refine en_s (am_nb (m := 2) (pc1 := 14) (ls1 := [(0, .ref 86)]) (st1 := [.int 4, .ref 86]) (H1 := H179) (k1 := 1) (n1 := 48) (by with_unfolding_all rfl)) ?_
  refine en_newa (N := 88) (m := 4) (ty := .int) rfl l179 rfl (by decide) (by with_unfolding_all rfl) rfl rfl ?_
  intro H180 l180 f180 k180
  refine en_put rfl l180 ((k180 86 (Nat.le_of_ble_eq_true rfl : 86 < 88)).trans f179) rfl rfl rfl ?_
  intro H181 l181 f181 k181
  refine en_s (am_nb (m := 2) (pc1 := 22) (ls1 := [(0, .ref 86)]) (st1 := [.int 39, .ref 86]) (H1 := H181) (k1 := 2) (n1 := 52) (by with_unfolding_all rfl)) ?_
  refine en_newa (N := 89) (m := 39) (ty := .boolean) rfl l181 rfl (by decide) (by with_unfolding_all rfl) rfl rfl ?_
  intro H182 l182 f182 k182
  refine en_put rfl l182 ((k182 86 (Nat.le_of_ble_eq_true rfl : 86 < 89)).trans f181) rfl rfl rfl ?_
  intro H183 l183 f183 k183
  refine en_s (am_nb (m := 2) (pc1 := 30) (ls1 := [(0, .ref 86)]) (st1 := [.int 6, .ref 86]) (H1 := H183) (k1 := 3) (n1 := 91) (by with_unfolding_all rfl)) ?_
  refine en_newa (N := 90) (m := 6) (ty := .int) rfl l183 rfl (by decide) (by with_unfolding_all rfl) rfl rfl ?_
  intro H184 l184 f184 k184
  refine en_put rfl l184 ((k184 86 (Nat.le_of_ble_eq_true rfl : 86 < 90)).trans f183) rfl rfl rfl ?_
  intro H185 l185 f185 k185
  refine en_s (am_nb (m := 2) (pc1 := 39) (ls1 := [(0, .ref 86)]) (st1 := [.int 1320, .ref 86]) (H1 := H185) (k1 := 4) (n1 := 97) (by with_unfolding_all rfl)) ?_
  refine en_newa (N := 91) (m := 1320) (ty := .int) rfl l185 rfl (by decide) (by with_unfolding_all rfl) rfl rfl ?_
  intro H186 l186 f186 k186
  refine en_put rfl l186 ((k186 86 (Nat.le_of_ble_eq_true rfl : 86 < 91)).trans f185) rfl rfl rfl ?_
  intro H187 l187 f187 k187
  refine en_s (am_nb (m := 2) (pc1 := 47) (ls1 := [(0, .ref 86)]) (st1 := [.int 33, .ref 86]) (H1 := H187) (k1 := 5) (n1 := 1417) (by with_unfolding_all rfl)) ?_
  refine en_newa (N := 92) (m := 33) (ty := .int) rfl l187 rfl (by decide) (by with_unfolding_all rfl) rfl rfl ?_
  intro H188 l188 f188 k188
  refine en_put rfl l188 ((k188 86 (Nat.le_of_ble_eq_true rfl : 86 < 92)).trans f187) rfl rfl rfl ?_
  intro H189 l189 f189 k189
  have K11 : ∀ j : Nat, j < 93 → j ≠ 86 → H189[j]? = H188[j]? := fun j hj n86 => (k189 j n86)
  have K10 : ∀ j : Nat, j < 92 → j ≠ 86 → H189[j]? = H187[j]? := fun j hj n86 => (K11 j (Nat.lt_of_lt_of_le hj (Nat.le_of_ble_eq_true rfl : 92 ≤ 93)) n86).trans (k188 j hj)
  have K9 : ∀ j : Nat, j < 92 → j ≠ 86 → H189[j]? = H186[j]? := fun j hj n86 => (K10 j hj n86).trans (k187 j n86)
  have K8 : ∀ j : Nat, j < 91 → j ≠ 86 → H189[j]? = H185[j]? := fun j hj n86 => (K9 j (Nat.lt_of_lt_of_le hj (Nat.le_of_ble_eq_true rfl : 91 ≤ 92)) n86).trans (k186 j hj)
  have K7 : ∀ j : Nat, j < 91 → j ≠ 86 → H189[j]? = H184[j]? := fun j hj n86 => (K8 j hj n86).trans (k185 j n86)
  have K6 : ∀ j : Nat, j < 90 → j ≠ 86 → H189[j]? = H183[j]? := fun j hj n86 => (K7 j (Nat.lt_of_lt_of_le hj (Nat.le_of_ble_eq_true rfl : 90 ≤ 91)) n86).trans (k184 j hj)
  have K5 : ∀ j : Nat, j < 90 → j ≠ 86 → H189[j]? = H182[j]? := fun j hj n86 => (K6 j hj n86).trans (k183 j n86)
  have K4 : ∀ j : Nat, j < 89 → j ≠ 86 → H189[j]? = H181[j]? := fun j hj n86 => (K5 j (Nat.lt_of_lt_of_le hj (Nat.le_of_ble_eq_true rfl : 89 ≤ 90)) n86).trans (k182 j hj)
  have K3 : ∀ j : Nat, j < 89 → j ≠ 86 → H189[j]? = H180[j]? := fun j hj n86 => (K4 j hj n86).trans (k181 j n86)
  have K2 : ∀ j : Nat, j < 88 → j ≠ 86 → H189[j]? = H179[j]? := fun j hj n86 => (K3 j (Nat.lt_of_lt_of_le hj (Nat.le_of_ble_eq_true rfl : 88 ≤ 89)) n86).trans (k180 j hj)
  have K1 : ∀ j : Nat, j < 88 → j ≠ 86 → H189[j]? = H178[j]? := fun j hj n86 => (K2 j hj n86).trans (k179 j n86)
  have K0 : ∀ j : Nat, j < 87 → j ≠ 86 → H189[j]? = H[j]? := fun j hj n86 => (K1 j (Nat.lt_of_lt_of_le hj (Nat.le_of_ble_eq_true rfl : 87 ≤ 88)) n86).trans (k178 j hj)
  exact en_r (st_vret rfl rfl) ⟨⟨((K1 87 (Nat.le_of_ble_eq_true rfl : 87 < 88) (Nat.ne_of_beq_eq_false rfl : 87 ≠ 86)).trans f178), f189, ((K3 88 (Nat.le_of_ble_eq_true rfl : 88 < 89) (Nat.ne_of_beq_eq_false rfl : 88 ≠ 86)).trans f180), ((K5 89 (Nat.le_of_ble_eq_true rfl : 89 < 90) (Nat.ne_of_beq_eq_false rfl : 89 ≠ 86)).trans f182), ((K7 90 (Nat.le_of_ble_eq_true rfl : 90 < 91) (Nat.ne_of_beq_eq_false rfl : 90 ≠ 86)).trans f184), ((K9 91 (Nat.le_of_ble_eq_true rfl : 91 < 92) (Nat.ne_of_beq_eq_false rfl : 91 ≠ 86)).trans f186), ((K11 92 (Nat.le_of_ble_eq_true rfl : 92 < 93) (Nat.ne_of_beq_eq_false rfl : 92 ≠ 86)).trans f188), trivial⟩, l189, fun j n86 hj => K0 j hj n86⟩

def cr_1F  (H H1 : am_H) : Prop := (H1[4]? = some (.inl ((.object "TerminalHouse$Entry"), (12, .inr (.inr (.inr (.inr (am_lg [some 9, some 16, some 23, some 30, some 37, some 44, some 51, some 58, some 65, some 72, some 79, some 86]))))))) ∧ H1[3]? = some (.inr (7, [.ref 4, .int 0, .int 0, .int (-1), .ref 5, .int 0, .int 0, .int 0, .null, .ref 6, .ref 7, .int 0, .ref 8, .int 0])) ∧ H1[5]? = some (.inl (.int, (0, .inl (fun _ => 0)))) ∧ H1[6]? = some (.inl (.boolean, (39, .inl (fun _ => 0)))) ∧ H1[7]? = some (.inl (.int, (4, .inl (fun _ => 0)))) ∧ H1[8]? = some (.inl (.int, (40, .inl (fun _ => 0)))) ∧ H1[9]? = some (.inr (2, [.ref 10, .ref 11, .int 0, .ref 12, .ref 13, .ref 14, .ref 15])) ∧ H1[10]? = some (.inl (.int, (48, .inl (fun _ => 0)))) ∧ H1[11]? = some (.inl (.int, (4, .inl (fun _ => 0)))) ∧ H1[12]? = some (.inl (.boolean, (39, .inl (fun _ => 0)))) ∧ H1[13]? = some (.inl (.int, (6, .inl (fun _ => 0)))) ∧ H1[14]? = some (.inl (.int, (1320, .inl (fun _ => 0)))) ∧ H1[15]? = some (.inl (.int, (33, .inl (fun _ => 0)))) ∧ H1[16]? = some (.inr (2, [.ref 17, .ref 18, .int 0, .ref 19, .ref 20, .ref 21, .ref 22])) ∧ H1[17]? = some (.inl (.int, (48, .inl (fun _ => 0)))) ∧ H1[18]? = some (.inl (.int, (4, .inl (fun _ => 0)))) ∧ H1[19]? = some (.inl (.boolean, (39, .inl (fun _ => 0)))) ∧ H1[20]? = some (.inl (.int, (6, .inl (fun _ => 0)))) ∧ H1[21]? = some (.inl (.int, (1320, .inl (fun _ => 0)))) ∧ H1[22]? = some (.inl (.int, (33, .inl (fun _ => 0)))) ∧ H1[23]? = some (.inr (2, [.ref 24, .ref 25, .int 0, .ref 26, .ref 27, .ref 28, .ref 29])) ∧ H1[24]? = some (.inl (.int, (48, .inl (fun _ => 0)))) ∧ H1[25]? = some (.inl (.int, (4, .inl (fun _ => 0)))) ∧ H1[26]? = some (.inl (.boolean, (39, .inl (fun _ => 0)))) ∧ H1[27]? = some (.inl (.int, (6, .inl (fun _ => 0)))) ∧ H1[28]? = some (.inl (.int, (1320, .inl (fun _ => 0)))) ∧ H1[29]? = some (.inl (.int, (33, .inl (fun _ => 0)))) ∧ H1[30]? = some (.inr (2, [.ref 31, .ref 32, .int 0, .ref 33, .ref 34, .ref 35, .ref 36])) ∧ H1[31]? = some (.inl (.int, (48, .inl (fun _ => 0)))) ∧ H1[32]? = some (.inl (.int, (4, .inl (fun _ => 0)))) ∧ H1[33]? = some (.inl (.boolean, (39, .inl (fun _ => 0)))) ∧ H1[34]? = some (.inl (.int, (6, .inl (fun _ => 0)))) ∧ H1[35]? = some (.inl (.int, (1320, .inl (fun _ => 0)))) ∧ H1[36]? = some (.inl (.int, (33, .inl (fun _ => 0)))) ∧ H1[37]? = some (.inr (2, [.ref 38, .ref 39, .int 0, .ref 40, .ref 41, .ref 42, .ref 43])) ∧ H1[38]? = some (.inl (.int, (48, .inl (fun _ => 0)))) ∧ H1[39]? = some (.inl (.int, (4, .inl (fun _ => 0)))) ∧ H1[40]? = some (.inl (.boolean, (39, .inl (fun _ => 0)))) ∧ H1[41]? = some (.inl (.int, (6, .inl (fun _ => 0)))) ∧ H1[42]? = some (.inl (.int, (1320, .inl (fun _ => 0)))) ∧ H1[43]? = some (.inl (.int, (33, .inl (fun _ => 0)))) ∧ H1[44]? = some (.inr (2, [.ref 45, .ref 46, .int 0, .ref 47, .ref 48, .ref 49, .ref 50])) ∧ H1[45]? = some (.inl (.int, (48, .inl (fun _ => 0)))) ∧ H1[46]? = some (.inl (.int, (4, .inl (fun _ => 0)))) ∧ H1[47]? = some (.inl (.boolean, (39, .inl (fun _ => 0)))) ∧ H1[48]? = some (.inl (.int, (6, .inl (fun _ => 0)))) ∧ H1[49]? = some (.inl (.int, (1320, .inl (fun _ => 0)))) ∧ H1[50]? = some (.inl (.int, (33, .inl (fun _ => 0)))) ∧ H1[51]? = some (.inr (2, [.ref 52, .ref 53, .int 0, .ref 54, .ref 55, .ref 56, .ref 57])) ∧ H1[52]? = some (.inl (.int, (48, .inl (fun _ => 0)))) ∧ H1[53]? = some (.inl (.int, (4, .inl (fun _ => 0)))) ∧ H1[54]? = some (.inl (.boolean, (39, .inl (fun _ => 0)))) ∧ H1[55]? = some (.inl (.int, (6, .inl (fun _ => 0)))) ∧ H1[56]? = some (.inl (.int, (1320, .inl (fun _ => 0)))) ∧ H1[57]? = some (.inl (.int, (33, .inl (fun _ => 0)))) ∧ H1[58]? = some (.inr (2, [.ref 59, .ref 60, .int 0, .ref 61, .ref 62, .ref 63, .ref 64])) ∧ H1[59]? = some (.inl (.int, (48, .inl (fun _ => 0)))) ∧ H1[60]? = some (.inl (.int, (4, .inl (fun _ => 0)))) ∧ H1[61]? = some (.inl (.boolean, (39, .inl (fun _ => 0)))) ∧ H1[62]? = some (.inl (.int, (6, .inl (fun _ => 0)))) ∧ H1[63]? = some (.inl (.int, (1320, .inl (fun _ => 0)))) ∧ H1[64]? = some (.inl (.int, (33, .inl (fun _ => 0)))) ∧ H1[65]? = some (.inr (2, [.ref 66, .ref 67, .int 0, .ref 68, .ref 69, .ref 70, .ref 71])) ∧ H1[66]? = some (.inl (.int, (48, .inl (fun _ => 0)))) ∧ H1[67]? = some (.inl (.int, (4, .inl (fun _ => 0)))) ∧ H1[68]? = some (.inl (.boolean, (39, .inl (fun _ => 0)))) ∧ H1[69]? = some (.inl (.int, (6, .inl (fun _ => 0)))) ∧ H1[70]? = some (.inl (.int, (1320, .inl (fun _ => 0)))) ∧ H1[71]? = some (.inl (.int, (33, .inl (fun _ => 0)))) ∧ H1[72]? = some (.inr (2, [.ref 73, .ref 74, .int 0, .ref 75, .ref 76, .ref 77, .ref 78])) ∧ H1[73]? = some (.inl (.int, (48, .inl (fun _ => 0)))) ∧ H1[74]? = some (.inl (.int, (4, .inl (fun _ => 0)))) ∧ H1[75]? = some (.inl (.boolean, (39, .inl (fun _ => 0)))) ∧ H1[76]? = some (.inl (.int, (6, .inl (fun _ => 0)))) ∧ H1[77]? = some (.inl (.int, (1320, .inl (fun _ => 0)))) ∧ H1[78]? = some (.inl (.int, (33, .inl (fun _ => 0)))) ∧ H1[79]? = some (.inr (2, [.ref 80, .ref 81, .int 0, .ref 82, .ref 83, .ref 84, .ref 85])) ∧ H1[80]? = some (.inl (.int, (48, .inl (fun _ => 0)))) ∧ H1[81]? = some (.inl (.int, (4, .inl (fun _ => 0)))) ∧ H1[82]? = some (.inl (.boolean, (39, .inl (fun _ => 0)))) ∧ H1[83]? = some (.inl (.int, (6, .inl (fun _ => 0)))) ∧ H1[84]? = some (.inl (.int, (1320, .inl (fun _ => 0)))) ∧ H1[85]? = some (.inl (.int, (33, .inl (fun _ => 0)))) ∧ H1[86]? = some (.inr (2, [.ref 87, .ref 88, .int 0, .ref 89, .ref 90, .ref 91, .ref 92])) ∧ H1[87]? = some (.inl (.int, (48, .inl (fun _ => 0)))) ∧ H1[88]? = some (.inl (.int, (4, .inl (fun _ => 0)))) ∧ H1[89]? = some (.inl (.boolean, (39, .inl (fun _ => 0)))) ∧ H1[90]? = some (.inl (.int, (6, .inl (fun _ => 0)))) ∧ H1[91]? = some (.inl (.int, (1320, .inl (fun _ => 0)))) ∧ H1[92]? = some (.inl (.int, (33, .inl (fun _ => 0)))) ∧ True) ∧ H1.length = 93 ∧ ∀ j : Nat, j ≠ 3 → j < 4 → H1[j]? = H[j]?
set_option maxRecDepth 100000 in
theorem cr_1 {sL : Nat} {sx : Nat → Int32} {cs : Nat → Nat → Option Int32} {H : am_H}  (hl : H.length = 4) (h3 : H[3]? = some (.inr (7, [.null, .int 0, .int 0, .int 0, .null, .int 0, .int 0, .int 0, .null, .null, .null, .int 0, .null, .int 0]))) :
    am_NW sL sx cs 1 0 [(0, .ref 3)] [] H 0 0 none 89 17579 (cr_1F H) := by
  refine en_s (am_nb (m := 4) (pc1 := 7) (ls1 := [(0, .ref 3)]) (st1 := [.int 12, .ref 3]) (H1 := H) (k1 := 0) (n1 := 0) (by with_unfolding_all rfl)) ?_
  refine en_anewl (N := 4) (m := 12) (C := "TerminalHouse$Entry") (l := [none, none, none, none, none, none, none, none, none, none, none, none]) rfl hl rfl (by decide) (by with_unfolding_all rfl) rfl rfl ?_
  intro H1 l1 f1 k1
  refine en_put rfl l1 ((k1 3 (Nat.le_of_ble_eq_true rfl : 3 < 4)).trans h3) rfl rfl rfl ?_
  intro H2 l2 f2 k2
  refine en_s (am_nb (m := 2) (pc1 := 15) (ls1 := [(0, .ref 3)]) (st1 := [.int (-1), .ref 3]) (H1 := H2) (k1 := 1) (n1 := 12) (by with_unfolding_all rfl)) ?_
  refine en_put rfl l2 f2 rfl rfl rfl ?_
  intro H3 l3 f3 k3
  refine en_s (am_nb (m := 2) (pc1 := 20) (ls1 := [(0, .ref 3)]) (st1 := [.int 0, .ref 3]) (H1 := H3) (k1 := 1) (n1 := 12) (by with_unfolding_all rfl)) ?_
  refine en_newa (N := 5) (m := 0) (ty := .int) rfl l3 rfl (by decide) (by with_unfolding_all rfl) rfl rfl ?_
  intro H4 l4 f4 k4
  refine en_put rfl l4 ((k4 3 (Nat.le_of_ble_eq_true rfl : 3 < 5)).trans f3) rfl rfl rfl ?_
  intro H5 l5 f5 k5
  refine en_s (am_nb (m := 2) (pc1 := 28) (ls1 := [(0, .ref 3)]) (st1 := [.int 39, .ref 3]) (H1 := H5) (k1 := 2) (n1 := 12) (by with_unfolding_all rfl)) ?_
  refine en_newa (N := 6) (m := 39) (ty := .boolean) rfl l5 rfl (by decide) (by with_unfolding_all rfl) rfl rfl ?_
  intro H6 l6 f6 k6
  refine en_put rfl l6 ((k6 3 (Nat.le_of_ble_eq_true rfl : 3 < 6)).trans f5) rfl rfl rfl ?_
  intro H7 l7 f7 k7
  refine en_s (am_nb (m := 2) (pc1 := 35) (ls1 := [(0, .ref 3)]) (st1 := [.int 4, .ref 3]) (H1 := H7) (k1 := 3) (n1 := 51) (by with_unfolding_all rfl)) ?_
  refine en_newa (N := 7) (m := 4) (ty := .int) rfl l7 rfl (by decide) (by with_unfolding_all rfl) rfl rfl ?_
  intro H8 l8 f8 k8
  refine en_put rfl l8 ((k8 3 (Nat.le_of_ble_eq_true rfl : 3 < 7)).trans f7) rfl rfl rfl ?_
  intro H9 l9 f9 k9
  refine en_s (am_nb (m := 2) (pc1 := 43) (ls1 := [(0, .ref 3)]) (st1 := [.int 40, .ref 3]) (H1 := H9) (k1 := 4) (n1 := 55) (by with_unfolding_all rfl)) ?_
  refine en_newa (N := 8) (m := 40) (ty := .int) rfl l9 rfl (by decide) (by with_unfolding_all rfl) rfl rfl ?_
  intro H10 l10 f10 k10
  refine en_put rfl l10 ((k10 3 (Nat.le_of_ble_eq_true rfl : 3 < 8)).trans f9) rfl rfl rfl ?_
  intro H11 l11 f11 k11
  refine en_s (am_nb (m := 6) (pc1 := 57) (ls1 := [(1, .int 0), (0, .ref 3)]) (st1 := [.ref 3]) (H1 := H11) (k1 := 5) (n1 := 95) (by with_unfolding_all rfl)) ?_
  refine en_s (st_get rfl f11 rfl) ?_
  refine en_s (am_nb (m := 1) (pc1 := 61) (ls1 := [(1, .int 0), (0, .ref 3)]) (st1 := [.int 0, .ref 4]) (H1 := H11) (k1 := 5) (n1 := 95) (by with_unfolding_all rfl)) ?_
  refine en_new (N := 9) (vs := [.null, .null, .int 0, .null, .null, .null, .null]) (ms := 7) rfl l11 (by with_unfolding_all rfl) ?_
  intro H12 l12 f12 k12
  refine en_s (am_nb (m := 1) (pc1 := 65) (ls1 := [(1, .int 0), (0, .ref 3)]) (st1 := [.ref 9, .ref 9, .int 0, .ref 4]) (H1 := H12) (k1 := 6) (n1 := 102) (by with_unfolding_all rfl)) ?_
  refine en_cv0 (as := []) (rest := [.ref 9, .int 0, .ref 4]) rfl rfl rfl rfl f12 rfl (by with_unfolding_all rfl) (by with_unfolding_all rfl) (cr_2 l12 f12) ?_
  rintro H25 ⟨⟨f25_10, f25_9, f25_11, f25_12, f25_13, f25_14, f25_15, -⟩, l25, k25⟩
  refine en_aast rfl l25 ((k25 4 (Nat.ne_of_beq_eq_false rfl : 4 ≠ 9) (Nat.le_of_ble_eq_true rfl : 4 < 10)).trans ((k12 4 (Nat.le_of_ble_eq_true rfl : 4 < 9)).trans ((k11 4 (Nat.ne_of_beq_eq_false rfl : 4 ≠ 3)).trans ((k10 4 (Nat.le_of_ble_eq_true rfl : 4 < 8)).trans ((k9 4 (Nat.ne_of_beq_eq_false rfl : 4 ≠ 3)).trans ((k8 4 (Nat.le_of_ble_eq_true rfl : 4 < 7)).trans ((k7 4 (Nat.ne_of_beq_eq_false rfl : 4 ≠ 3)).trans ((k6 4 (Nat.le_of_ble_eq_true rfl : 4 < 6)).trans ((k5 4 (Nat.ne_of_beq_eq_false rfl : 4 ≠ 3)).trans ((k4 4 (Nat.le_of_ble_eq_true rfl : 4 < 5)).trans ((k3 4 (Nat.ne_of_beq_eq_false rfl : 4 ≠ 3)).trans ((k2 4 (Nat.ne_of_beq_eq_false rfl : 4 ≠ 3)).trans f1)))))))))))) f25_9 (by decide) rfl (am_lg_up (i := 0) (l2 := [some 9, none, none, none, none, none, none, none, none, none, none, none]) (by with_unfolding_all rfl) rfl rfl) ?_
  intro H26 l26 f26 k26
  refine en_s (am_nb (m := 6) (pc1 := 57) (ls1 := [(1, .int 1), (0, .ref 3)]) (st1 := [.ref 3]) (H1 := H26) (k1 := 12) (n1 := 1552) (by with_unfolding_all rfl)) ?_
  refine en_s (st_get rfl ((k26 3 (Nat.ne_of_beq_eq_false rfl : 3 ≠ 4)).trans ((k25 3 (Nat.ne_of_beq_eq_false rfl : 3 ≠ 9) (Nat.le_of_ble_eq_true rfl : 3 < 10)).trans ((k12 3 (Nat.le_of_ble_eq_true rfl : 3 < 9)).trans f11))) rfl) ?_
  refine en_s (am_nb (m := 1) (pc1 := 61) (ls1 := [(1, .int 1), (0, .ref 3)]) (st1 := [.int 1, .ref 4]) (H1 := H26) (k1 := 12) (n1 := 1552) (by with_unfolding_all rfl)) ?_
  refine en_new (N := 16) (vs := [.null, .null, .int 0, .null, .null, .null, .null]) (ms := 7) rfl l26 (by with_unfolding_all rfl) ?_
  intro H27 l27 f27 k27
  refine en_s (am_nb (m := 1) (pc1 := 65) (ls1 := [(1, .int 1), (0, .ref 3)]) (st1 := [.ref 16, .ref 16, .int 1, .ref 4]) (H1 := H27) (k1 := 13) (n1 := 1559) (by with_unfolding_all rfl)) ?_
  refine en_cv0 (as := []) (rest := [.ref 16, .int 1, .ref 4]) rfl rfl rfl rfl f27 rfl (by with_unfolding_all rfl) (by with_unfolding_all rfl) (cr_3 l27 f27) ?_
  rintro H40 ⟨⟨f40_17, f40_16, f40_18, f40_19, f40_20, f40_21, f40_22, -⟩, l40, k40⟩
  refine en_aast rfl l40 ((k40 4 (Nat.ne_of_beq_eq_false rfl : 4 ≠ 16) (Nat.le_of_ble_eq_true rfl : 4 < 17)).trans ((k27 4 (Nat.le_of_ble_eq_true rfl : 4 < 16)).trans f26)) f40_16 (by decide) rfl (am_lg_up (i := 1) (l2 := [some 9, some 16, none, none, none, none, none, none, none, none, none, none]) (by with_unfolding_all rfl) rfl rfl) ?_
  intro H41 l41 f41 k41
  refine en_s (am_nb (m := 6) (pc1 := 57) (ls1 := [(1, .int 2), (0, .ref 3)]) (st1 := [.ref 3]) (H1 := H41) (k1 := 19) (n1 := 3009) (by with_unfolding_all rfl)) ?_
  refine en_s (st_get rfl ((k41 3 (Nat.ne_of_beq_eq_false rfl : 3 ≠ 4)).trans ((k40 3 (Nat.ne_of_beq_eq_false rfl : 3 ≠ 16) (Nat.le_of_ble_eq_true rfl : 3 < 17)).trans ((k27 3 (Nat.le_of_ble_eq_true rfl : 3 < 16)).trans ((k26 3 (Nat.ne_of_beq_eq_false rfl : 3 ≠ 4)).trans ((k25 3 (Nat.ne_of_beq_eq_false rfl : 3 ≠ 9) (Nat.le_of_ble_eq_true rfl : 3 < 10)).trans ((k12 3 (Nat.le_of_ble_eq_true rfl : 3 < 9)).trans f11)))))) rfl) ?_
  refine en_s (am_nb (m := 1) (pc1 := 61) (ls1 := [(1, .int 2), (0, .ref 3)]) (st1 := [.int 2, .ref 4]) (H1 := H41) (k1 := 19) (n1 := 3009) (by with_unfolding_all rfl)) ?_
  refine en_new (N := 23) (vs := [.null, .null, .int 0, .null, .null, .null, .null]) (ms := 7) rfl l41 (by with_unfolding_all rfl) ?_
  intro H42 l42 f42 k42
  refine en_s (am_nb (m := 1) (pc1 := 65) (ls1 := [(1, .int 2), (0, .ref 3)]) (st1 := [.ref 23, .ref 23, .int 2, .ref 4]) (H1 := H42) (k1 := 20) (n1 := 3016) (by with_unfolding_all rfl)) ?_
  refine en_cv0 (as := []) (rest := [.ref 23, .int 2, .ref 4]) rfl rfl rfl rfl f42 rfl (by with_unfolding_all rfl) (by with_unfolding_all rfl) (cr_4 l42 f42) ?_
  rintro H55 ⟨⟨f55_24, f55_23, f55_25, f55_26, f55_27, f55_28, f55_29, -⟩, l55, k55⟩
  refine en_aast rfl l55 ((k55 4 (Nat.ne_of_beq_eq_false rfl : 4 ≠ 23) (Nat.le_of_ble_eq_true rfl : 4 < 24)).trans ((k42 4 (Nat.le_of_ble_eq_true rfl : 4 < 23)).trans f41)) f55_23 (by decide) rfl (am_lg_up (i := 2) (l2 := [some 9, some 16, some 23, none, none, none, none, none, none, none, none, none]) (by with_unfolding_all rfl) rfl rfl) ?_
  intro H56 l56 f56 k56
  refine en_s (am_nb (m := 6) (pc1 := 57) (ls1 := [(1, .int 3), (0, .ref 3)]) (st1 := [.ref 3]) (H1 := H56) (k1 := 26) (n1 := 4466) (by with_unfolding_all rfl)) ?_
  refine en_s (st_get rfl ((k56 3 (Nat.ne_of_beq_eq_false rfl : 3 ≠ 4)).trans ((k55 3 (Nat.ne_of_beq_eq_false rfl : 3 ≠ 23) (Nat.le_of_ble_eq_true rfl : 3 < 24)).trans ((k42 3 (Nat.le_of_ble_eq_true rfl : 3 < 23)).trans ((k41 3 (Nat.ne_of_beq_eq_false rfl : 3 ≠ 4)).trans ((k40 3 (Nat.ne_of_beq_eq_false rfl : 3 ≠ 16) (Nat.le_of_ble_eq_true rfl : 3 < 17)).trans ((k27 3 (Nat.le_of_ble_eq_true rfl : 3 < 16)).trans ((k26 3 (Nat.ne_of_beq_eq_false rfl : 3 ≠ 4)).trans ((k25 3 (Nat.ne_of_beq_eq_false rfl : 3 ≠ 9) (Nat.le_of_ble_eq_true rfl : 3 < 10)).trans ((k12 3 (Nat.le_of_ble_eq_true rfl : 3 < 9)).trans f11))))))))) rfl) ?_
  refine en_s (am_nb (m := 1) (pc1 := 61) (ls1 := [(1, .int 3), (0, .ref 3)]) (st1 := [.int 3, .ref 4]) (H1 := H56) (k1 := 26) (n1 := 4466) (by with_unfolding_all rfl)) ?_
  refine en_new (N := 30) (vs := [.null, .null, .int 0, .null, .null, .null, .null]) (ms := 7) rfl l56 (by with_unfolding_all rfl) ?_
  intro H57 l57 f57 k57
  refine en_s (am_nb (m := 1) (pc1 := 65) (ls1 := [(1, .int 3), (0, .ref 3)]) (st1 := [.ref 30, .ref 30, .int 3, .ref 4]) (H1 := H57) (k1 := 27) (n1 := 4473) (by with_unfolding_all rfl)) ?_
  refine en_cv0 (as := []) (rest := [.ref 30, .int 3, .ref 4]) rfl rfl rfl rfl f57 rfl (by with_unfolding_all rfl) (by with_unfolding_all rfl) (cr_5 l57 f57) ?_
  rintro H70 ⟨⟨f70_31, f70_30, f70_32, f70_33, f70_34, f70_35, f70_36, -⟩, l70, k70⟩
  refine en_aast rfl l70 ((k70 4 (Nat.ne_of_beq_eq_false rfl : 4 ≠ 30) (Nat.le_of_ble_eq_true rfl : 4 < 31)).trans ((k57 4 (Nat.le_of_ble_eq_true rfl : 4 < 30)).trans f56)) f70_30 (by decide) rfl (am_lg_up (i := 3) (l2 := [some 9, some 16, some 23, some 30, none, none, none, none, none, none, none, none]) (by with_unfolding_all rfl) rfl rfl) ?_
  intro H71 l71 f71 k71
  refine en_s (am_nb (m := 6) (pc1 := 57) (ls1 := [(1, .int 4), (0, .ref 3)]) (st1 := [.ref 3]) (H1 := H71) (k1 := 33) (n1 := 5923) (by with_unfolding_all rfl)) ?_
  refine en_s (st_get rfl ((k71 3 (Nat.ne_of_beq_eq_false rfl : 3 ≠ 4)).trans ((k70 3 (Nat.ne_of_beq_eq_false rfl : 3 ≠ 30) (Nat.le_of_ble_eq_true rfl : 3 < 31)).trans ((k57 3 (Nat.le_of_ble_eq_true rfl : 3 < 30)).trans ((k56 3 (Nat.ne_of_beq_eq_false rfl : 3 ≠ 4)).trans ((k55 3 (Nat.ne_of_beq_eq_false rfl : 3 ≠ 23) (Nat.le_of_ble_eq_true rfl : 3 < 24)).trans ((k42 3 (Nat.le_of_ble_eq_true rfl : 3 < 23)).trans ((k41 3 (Nat.ne_of_beq_eq_false rfl : 3 ≠ 4)).trans ((k40 3 (Nat.ne_of_beq_eq_false rfl : 3 ≠ 16) (Nat.le_of_ble_eq_true rfl : 3 < 17)).trans ((k27 3 (Nat.le_of_ble_eq_true rfl : 3 < 16)).trans ((k26 3 (Nat.ne_of_beq_eq_false rfl : 3 ≠ 4)).trans ((k25 3 (Nat.ne_of_beq_eq_false rfl : 3 ≠ 9) (Nat.le_of_ble_eq_true rfl : 3 < 10)).trans ((k12 3 (Nat.le_of_ble_eq_true rfl : 3 < 9)).trans f11)))))))))))) rfl) ?_
  refine en_s (am_nb (m := 1) (pc1 := 61) (ls1 := [(1, .int 4), (0, .ref 3)]) (st1 := [.int 4, .ref 4]) (H1 := H71) (k1 := 33) (n1 := 5923) (by with_unfolding_all rfl)) ?_
  refine en_new (N := 37) (vs := [.null, .null, .int 0, .null, .null, .null, .null]) (ms := 7) rfl l71 (by with_unfolding_all rfl) ?_
  intro H72 l72 f72 k72
  refine en_s (am_nb (m := 1) (pc1 := 65) (ls1 := [(1, .int 4), (0, .ref 3)]) (st1 := [.ref 37, .ref 37, .int 4, .ref 4]) (H1 := H72) (k1 := 34) (n1 := 5930) (by with_unfolding_all rfl)) ?_
  refine en_cv0 (as := []) (rest := [.ref 37, .int 4, .ref 4]) rfl rfl rfl rfl f72 rfl (by with_unfolding_all rfl) (by with_unfolding_all rfl) (cr_6 l72 f72) ?_
  rintro H85 ⟨⟨f85_38, f85_37, f85_39, f85_40, f85_41, f85_42, f85_43, -⟩, l85, k85⟩
  refine en_aast rfl l85 ((k85 4 (Nat.ne_of_beq_eq_false rfl : 4 ≠ 37) (Nat.le_of_ble_eq_true rfl : 4 < 38)).trans ((k72 4 (Nat.le_of_ble_eq_true rfl : 4 < 37)).trans f71)) f85_37 (by decide) rfl (am_lg_up (i := 4) (l2 := [some 9, some 16, some 23, some 30, some 37, none, none, none, none, none, none, none]) (by with_unfolding_all rfl) rfl rfl) ?_
  intro H86 l86 f86 k86
  refine en_s (am_nb (m := 6) (pc1 := 57) (ls1 := [(1, .int 5), (0, .ref 3)]) (st1 := [.ref 3]) (H1 := H86) (k1 := 40) (n1 := 7380) (by with_unfolding_all rfl)) ?_
  refine en_s (st_get rfl ((k86 3 (Nat.ne_of_beq_eq_false rfl : 3 ≠ 4)).trans ((k85 3 (Nat.ne_of_beq_eq_false rfl : 3 ≠ 37) (Nat.le_of_ble_eq_true rfl : 3 < 38)).trans ((k72 3 (Nat.le_of_ble_eq_true rfl : 3 < 37)).trans ((k71 3 (Nat.ne_of_beq_eq_false rfl : 3 ≠ 4)).trans ((k70 3 (Nat.ne_of_beq_eq_false rfl : 3 ≠ 30) (Nat.le_of_ble_eq_true rfl : 3 < 31)).trans ((k57 3 (Nat.le_of_ble_eq_true rfl : 3 < 30)).trans ((k56 3 (Nat.ne_of_beq_eq_false rfl : 3 ≠ 4)).trans ((k55 3 (Nat.ne_of_beq_eq_false rfl : 3 ≠ 23) (Nat.le_of_ble_eq_true rfl : 3 < 24)).trans ((k42 3 (Nat.le_of_ble_eq_true rfl : 3 < 23)).trans ((k41 3 (Nat.ne_of_beq_eq_false rfl : 3 ≠ 4)).trans ((k40 3 (Nat.ne_of_beq_eq_false rfl : 3 ≠ 16) (Nat.le_of_ble_eq_true rfl : 3 < 17)).trans ((k27 3 (Nat.le_of_ble_eq_true rfl : 3 < 16)).trans ((k26 3 (Nat.ne_of_beq_eq_false rfl : 3 ≠ 4)).trans ((k25 3 (Nat.ne_of_beq_eq_false rfl : 3 ≠ 9) (Nat.le_of_ble_eq_true rfl : 3 < 10)).trans ((k12 3 (Nat.le_of_ble_eq_true rfl : 3 < 9)).trans f11))))))))))))))) rfl) ?_
  refine en_s (am_nb (m := 1) (pc1 := 61) (ls1 := [(1, .int 5), (0, .ref 3)]) (st1 := [.int 5, .ref 4]) (H1 := H86) (k1 := 40) (n1 := 7380) (by with_unfolding_all rfl)) ?_
  refine en_new (N := 44) (vs := [.null, .null, .int 0, .null, .null, .null, .null]) (ms := 7) rfl l86 (by with_unfolding_all rfl) ?_
  intro H87 l87 f87 k87
  refine en_s (am_nb (m := 1) (pc1 := 65) (ls1 := [(1, .int 5), (0, .ref 3)]) (st1 := [.ref 44, .ref 44, .int 5, .ref 4]) (H1 := H87) (k1 := 41) (n1 := 7387) (by with_unfolding_all rfl)) ?_
  refine en_cv0 (as := []) (rest := [.ref 44, .int 5, .ref 4]) rfl rfl rfl rfl f87 rfl (by with_unfolding_all rfl) (by with_unfolding_all rfl) (cr_7 l87 f87) ?_
  rintro H100 ⟨⟨f100_45, f100_44, f100_46, f100_47, f100_48, f100_49, f100_50, -⟩, l100, k100⟩
  refine en_aast rfl l100 ((k100 4 (Nat.ne_of_beq_eq_false rfl : 4 ≠ 44) (Nat.le_of_ble_eq_true rfl : 4 < 45)).trans ((k87 4 (Nat.le_of_ble_eq_true rfl : 4 < 44)).trans f86)) f100_44 (by decide) rfl (am_lg_up (i := 5) (l2 := [some 9, some 16, some 23, some 30, some 37, some 44, none, none, none, none, none, none]) (by with_unfolding_all rfl) rfl rfl) ?_
  intro H101 l101 f101 k101
  refine en_s (am_nb (m := 6) (pc1 := 57) (ls1 := [(1, .int 6), (0, .ref 3)]) (st1 := [.ref 3]) (H1 := H101) (k1 := 47) (n1 := 8837) (by with_unfolding_all rfl)) ?_
  refine en_s (st_get rfl ((k101 3 (Nat.ne_of_beq_eq_false rfl : 3 ≠ 4)).trans ((k100 3 (Nat.ne_of_beq_eq_false rfl : 3 ≠ 44) (Nat.le_of_ble_eq_true rfl : 3 < 45)).trans ((k87 3 (Nat.le_of_ble_eq_true rfl : 3 < 44)).trans ((k86 3 (Nat.ne_of_beq_eq_false rfl : 3 ≠ 4)).trans ((k85 3 (Nat.ne_of_beq_eq_false rfl : 3 ≠ 37) (Nat.le_of_ble_eq_true rfl : 3 < 38)).trans ((k72 3 (Nat.le_of_ble_eq_true rfl : 3 < 37)).trans ((k71 3 (Nat.ne_of_beq_eq_false rfl : 3 ≠ 4)).trans ((k70 3 (Nat.ne_of_beq_eq_false rfl : 3 ≠ 30) (Nat.le_of_ble_eq_true rfl : 3 < 31)).trans ((k57 3 (Nat.le_of_ble_eq_true rfl : 3 < 30)).trans ((k56 3 (Nat.ne_of_beq_eq_false rfl : 3 ≠ 4)).trans ((k55 3 (Nat.ne_of_beq_eq_false rfl : 3 ≠ 23) (Nat.le_of_ble_eq_true rfl : 3 < 24)).trans ((k42 3 (Nat.le_of_ble_eq_true rfl : 3 < 23)).trans ((k41 3 (Nat.ne_of_beq_eq_false rfl : 3 ≠ 4)).trans ((k40 3 (Nat.ne_of_beq_eq_false rfl : 3 ≠ 16) (Nat.le_of_ble_eq_true rfl : 3 < 17)).trans ((k27 3 (Nat.le_of_ble_eq_true rfl : 3 < 16)).trans ((k26 3 (Nat.ne_of_beq_eq_false rfl : 3 ≠ 4)).trans ((k25 3 (Nat.ne_of_beq_eq_false rfl : 3 ≠ 9) (Nat.le_of_ble_eq_true rfl : 3 < 10)).trans ((k12 3 (Nat.le_of_ble_eq_true rfl : 3 < 9)).trans f11)))))))))))))))))) rfl) ?_
  refine en_s (am_nb (m := 1) (pc1 := 61) (ls1 := [(1, .int 6), (0, .ref 3)]) (st1 := [.int 6, .ref 4]) (H1 := H101) (k1 := 47) (n1 := 8837) (by with_unfolding_all rfl)) ?_
  refine en_new (N := 51) (vs := [.null, .null, .int 0, .null, .null, .null, .null]) (ms := 7) rfl l101 (by with_unfolding_all rfl) ?_
  intro H102 l102 f102 k102
  refine en_s (am_nb (m := 1) (pc1 := 65) (ls1 := [(1, .int 6), (0, .ref 3)]) (st1 := [.ref 51, .ref 51, .int 6, .ref 4]) (H1 := H102) (k1 := 48) (n1 := 8844) (by with_unfolding_all rfl)) ?_
  refine en_cv0 (as := []) (rest := [.ref 51, .int 6, .ref 4]) rfl rfl rfl rfl f102 rfl (by with_unfolding_all rfl) (by with_unfolding_all rfl) (cr_8 l102 f102) ?_
  rintro H115 ⟨⟨f115_52, f115_51, f115_53, f115_54, f115_55, f115_56, f115_57, -⟩, l115, k115⟩
  refine en_aast rfl l115 ((k115 4 (Nat.ne_of_beq_eq_false rfl : 4 ≠ 51) (Nat.le_of_ble_eq_true rfl : 4 < 52)).trans ((k102 4 (Nat.le_of_ble_eq_true rfl : 4 < 51)).trans f101)) f115_51 (by decide) rfl (am_lg_up (i := 6) (l2 := [some 9, some 16, some 23, some 30, some 37, some 44, some 51, none, none, none, none, none]) (by with_unfolding_all rfl) rfl rfl) ?_
  intro H116 l116 f116 k116
  refine en_s (am_nb (m := 6) (pc1 := 57) (ls1 := [(1, .int 7), (0, .ref 3)]) (st1 := [.ref 3]) (H1 := H116) (k1 := 54) (n1 := 10294) (by with_unfolding_all rfl)) ?_
  refine en_s (st_get rfl ((k116 3 (Nat.ne_of_beq_eq_false rfl : 3 ≠ 4)).trans ((k115 3 (Nat.ne_of_beq_eq_false rfl : 3 ≠ 51) (Nat.le_of_ble_eq_true rfl : 3 < 52)).trans ((k102 3 (Nat.le_of_ble_eq_true rfl : 3 < 51)).trans ((k101 3 (Nat.ne_of_beq_eq_false rfl : 3 ≠ 4)).trans ((k100 3 (Nat.ne_of_beq_eq_false rfl : 3 ≠ 44) (Nat.le_of_ble_eq_true rfl : 3 < 45)).trans ((k87 3 (Nat.le_of_ble_eq_true rfl : 3 < 44)).trans ((k86 3 (Nat.ne_of_beq_eq_false rfl : 3 ≠ 4)).trans ((k85 3 (Nat.ne_of_beq_eq_false rfl : 3 ≠ 37) (Nat.le_of_ble_eq_true rfl : 3 < 38)).trans ((k72 3 (Nat.le_of_ble_eq_true rfl : 3 < 37)).trans ((k71 3 (Nat.ne_of_beq_eq_false rfl : 3 ≠ 4)).trans ((k70 3 (Nat.ne_of_beq_eq_false rfl : 3 ≠ 30) (Nat.le_of_ble_eq_true rfl : 3 < 31)).trans ((k57 3 (Nat.le_of_ble_eq_true rfl : 3 < 30)).trans ((k56 3 (Nat.ne_of_beq_eq_false rfl : 3 ≠ 4)).trans ((k55 3 (Nat.ne_of_beq_eq_false rfl : 3 ≠ 23) (Nat.le_of_ble_eq_true rfl : 3 < 24)).trans ((k42 3 (Nat.le_of_ble_eq_true rfl : 3 < 23)).trans ((k41 3 (Nat.ne_of_beq_eq_false rfl : 3 ≠ 4)).trans ((k40 3 (Nat.ne_of_beq_eq_false rfl : 3 ≠ 16) (Nat.le_of_ble_eq_true rfl : 3 < 17)).trans ((k27 3 (Nat.le_of_ble_eq_true rfl : 3 < 16)).trans ((k26 3 (Nat.ne_of_beq_eq_false rfl : 3 ≠ 4)).trans ((k25 3 (Nat.ne_of_beq_eq_false rfl : 3 ≠ 9) (Nat.le_of_ble_eq_true rfl : 3 < 10)).trans ((k12 3 (Nat.le_of_ble_eq_true rfl : 3 < 9)).trans f11))))))))))))))))))))) rfl) ?_
  refine en_s (am_nb (m := 1) (pc1 := 61) (ls1 := [(1, .int 7), (0, .ref 3)]) (st1 := [.int 7, .ref 4]) (H1 := H116) (k1 := 54) (n1 := 10294) (by with_unfolding_all rfl)) ?_
  refine en_new (N := 58) (vs := [.null, .null, .int 0, .null, .null, .null, .null]) (ms := 7) rfl l116 (by with_unfolding_all rfl) ?_
  intro H117 l117 f117 k117
  refine en_s (am_nb (m := 1) (pc1 := 65) (ls1 := [(1, .int 7), (0, .ref 3)]) (st1 := [.ref 58, .ref 58, .int 7, .ref 4]) (H1 := H117) (k1 := 55) (n1 := 10301) (by with_unfolding_all rfl)) ?_
  refine en_cv0 (as := []) (rest := [.ref 58, .int 7, .ref 4]) rfl rfl rfl rfl f117 rfl (by with_unfolding_all rfl) (by with_unfolding_all rfl) (cr_9 l117 f117) ?_
  rintro H130 ⟨⟨f130_59, f130_58, f130_60, f130_61, f130_62, f130_63, f130_64, -⟩, l130, k130⟩
  refine en_aast rfl l130 ((k130 4 (Nat.ne_of_beq_eq_false rfl : 4 ≠ 58) (Nat.le_of_ble_eq_true rfl : 4 < 59)).trans ((k117 4 (Nat.le_of_ble_eq_true rfl : 4 < 58)).trans f116)) f130_58 (by decide) rfl (am_lg_up (i := 7) (l2 := [some 9, some 16, some 23, some 30, some 37, some 44, some 51, some 58, none, none, none, none]) (by with_unfolding_all rfl) rfl rfl) ?_
  intro H131 l131 f131 k131
  refine en_s (am_nb (m := 6) (pc1 := 57) (ls1 := [(1, .int 8), (0, .ref 3)]) (st1 := [.ref 3]) (H1 := H131) (k1 := 61) (n1 := 11751) (by with_unfolding_all rfl)) ?_
  refine en_s (st_get rfl ((k131 3 (Nat.ne_of_beq_eq_false rfl : 3 ≠ 4)).trans ((k130 3 (Nat.ne_of_beq_eq_false rfl : 3 ≠ 58) (Nat.le_of_ble_eq_true rfl : 3 < 59)).trans ((k117 3 (Nat.le_of_ble_eq_true rfl : 3 < 58)).trans ((k116 3 (Nat.ne_of_beq_eq_false rfl : 3 ≠ 4)).trans ((k115 3 (Nat.ne_of_beq_eq_false rfl : 3 ≠ 51) (Nat.le_of_ble_eq_true rfl : 3 < 52)).trans ((k102 3 (Nat.le_of_ble_eq_true rfl : 3 < 51)).trans ((k101 3 (Nat.ne_of_beq_eq_false rfl : 3 ≠ 4)).trans ((k100 3 (Nat.ne_of_beq_eq_false rfl : 3 ≠ 44) (Nat.le_of_ble_eq_true rfl : 3 < 45)).trans ((k87 3 (Nat.le_of_ble_eq_true rfl : 3 < 44)).trans ((k86 3 (Nat.ne_of_beq_eq_false rfl : 3 ≠ 4)).trans ((k85 3 (Nat.ne_of_beq_eq_false rfl : 3 ≠ 37) (Nat.le_of_ble_eq_true rfl : 3 < 38)).trans ((k72 3 (Nat.le_of_ble_eq_true rfl : 3 < 37)).trans ((k71 3 (Nat.ne_of_beq_eq_false rfl : 3 ≠ 4)).trans ((k70 3 (Nat.ne_of_beq_eq_false rfl : 3 ≠ 30) (Nat.le_of_ble_eq_true rfl : 3 < 31)).trans ((k57 3 (Nat.le_of_ble_eq_true rfl : 3 < 30)).trans ((k56 3 (Nat.ne_of_beq_eq_false rfl : 3 ≠ 4)).trans ((k55 3 (Nat.ne_of_beq_eq_false rfl : 3 ≠ 23) (Nat.le_of_ble_eq_true rfl : 3 < 24)).trans ((k42 3 (Nat.le_of_ble_eq_true rfl : 3 < 23)).trans ((k41 3 (Nat.ne_of_beq_eq_false rfl : 3 ≠ 4)).trans ((k40 3 (Nat.ne_of_beq_eq_false rfl : 3 ≠ 16) (Nat.le_of_ble_eq_true rfl : 3 < 17)).trans ((k27 3 (Nat.le_of_ble_eq_true rfl : 3 < 16)).trans ((k26 3 (Nat.ne_of_beq_eq_false rfl : 3 ≠ 4)).trans ((k25 3 (Nat.ne_of_beq_eq_false rfl : 3 ≠ 9) (Nat.le_of_ble_eq_true rfl : 3 < 10)).trans ((k12 3 (Nat.le_of_ble_eq_true rfl : 3 < 9)).trans f11)))))))))))))))))))))))) rfl) ?_
  refine en_s (am_nb (m := 1) (pc1 := 61) (ls1 := [(1, .int 8), (0, .ref 3)]) (st1 := [.int 8, .ref 4]) (H1 := H131) (k1 := 61) (n1 := 11751) (by with_unfolding_all rfl)) ?_
  refine en_new (N := 65) (vs := [.null, .null, .int 0, .null, .null, .null, .null]) (ms := 7) rfl l131 (by with_unfolding_all rfl) ?_
  intro H132 l132 f132 k132
  refine en_s (am_nb (m := 1) (pc1 := 65) (ls1 := [(1, .int 8), (0, .ref 3)]) (st1 := [.ref 65, .ref 65, .int 8, .ref 4]) (H1 := H132) (k1 := 62) (n1 := 11758) (by with_unfolding_all rfl)) ?_
  refine en_cv0 (as := []) (rest := [.ref 65, .int 8, .ref 4]) rfl rfl rfl rfl f132 rfl (by with_unfolding_all rfl) (by with_unfolding_all rfl) (cr_10 l132 f132) ?_
  rintro H145 ⟨⟨f145_66, f145_65, f145_67, f145_68, f145_69, f145_70, f145_71, -⟩, l145, k145⟩
  refine en_aast rfl l145 ((k145 4 (Nat.ne_of_beq_eq_false rfl : 4 ≠ 65) (Nat.le_of_ble_eq_true rfl : 4 < 66)).trans ((k132 4 (Nat.le_of_ble_eq_true rfl : 4 < 65)).trans f131)) f145_65 (by decide) rfl (am_lg_up (i := 8) (l2 := [some 9, some 16, some 23, some 30, some 37, some 44, some 51, some 58, some 65, none, none, none]) (by with_unfolding_all rfl) rfl rfl) ?_
  intro H146 l146 f146 k146
  refine en_s (am_nb (m := 6) (pc1 := 57) (ls1 := [(1, .int 9), (0, .ref 3)]) (st1 := [.ref 3]) (H1 := H146) (k1 := 68) (n1 := 13208) (by with_unfolding_all rfl)) ?_
  refine en_s (st_get rfl ((k146 3 (Nat.ne_of_beq_eq_false rfl : 3 ≠ 4)).trans ((k145 3 (Nat.ne_of_beq_eq_false rfl : 3 ≠ 65) (Nat.le_of_ble_eq_true rfl : 3 < 66)).trans ((k132 3 (Nat.le_of_ble_eq_true rfl : 3 < 65)).trans ((k131 3 (Nat.ne_of_beq_eq_false rfl : 3 ≠ 4)).trans ((k130 3 (Nat.ne_of_beq_eq_false rfl : 3 ≠ 58) (Nat.le_of_ble_eq_true rfl : 3 < 59)).trans ((k117 3 (Nat.le_of_ble_eq_true rfl : 3 < 58)).trans ((k116 3 (Nat.ne_of_beq_eq_false rfl : 3 ≠ 4)).trans ((k115 3 (Nat.ne_of_beq_eq_false rfl : 3 ≠ 51) (Nat.le_of_ble_eq_true rfl : 3 < 52)).trans ((k102 3 (Nat.le_of_ble_eq_true rfl : 3 < 51)).trans ((k101 3 (Nat.ne_of_beq_eq_false rfl : 3 ≠ 4)).trans ((k100 3 (Nat.ne_of_beq_eq_false rfl : 3 ≠ 44) (Nat.le_of_ble_eq_true rfl : 3 < 45)).trans ((k87 3 (Nat.le_of_ble_eq_true rfl : 3 < 44)).trans ((k86 3 (Nat.ne_of_beq_eq_false rfl : 3 ≠ 4)).trans ((k85 3 (Nat.ne_of_beq_eq_false rfl : 3 ≠ 37) (Nat.le_of_ble_eq_true rfl : 3 < 38)).trans ((k72 3 (Nat.le_of_ble_eq_true rfl : 3 < 37)).trans ((k71 3 (Nat.ne_of_beq_eq_false rfl : 3 ≠ 4)).trans ((k70 3 (Nat.ne_of_beq_eq_false rfl : 3 ≠ 30) (Nat.le_of_ble_eq_true rfl : 3 < 31)).trans ((k57 3 (Nat.le_of_ble_eq_true rfl : 3 < 30)).trans ((k56 3 (Nat.ne_of_beq_eq_false rfl : 3 ≠ 4)).trans ((k55 3 (Nat.ne_of_beq_eq_false rfl : 3 ≠ 23) (Nat.le_of_ble_eq_true rfl : 3 < 24)).trans ((k42 3 (Nat.le_of_ble_eq_true rfl : 3 < 23)).trans ((k41 3 (Nat.ne_of_beq_eq_false rfl : 3 ≠ 4)).trans ((k40 3 (Nat.ne_of_beq_eq_false rfl : 3 ≠ 16) (Nat.le_of_ble_eq_true rfl : 3 < 17)).trans ((k27 3 (Nat.le_of_ble_eq_true rfl : 3 < 16)).trans ((k26 3 (Nat.ne_of_beq_eq_false rfl : 3 ≠ 4)).trans ((k25 3 (Nat.ne_of_beq_eq_false rfl : 3 ≠ 9) (Nat.le_of_ble_eq_true rfl : 3 < 10)).trans ((k12 3 (Nat.le_of_ble_eq_true rfl : 3 < 9)).trans f11))))))))))))))))))))))))))) rfl) ?_
  refine en_s (am_nb (m := 1) (pc1 := 61) (ls1 := [(1, .int 9), (0, .ref 3)]) (st1 := [.int 9, .ref 4]) (H1 := H146) (k1 := 68) (n1 := 13208) (by with_unfolding_all rfl)) ?_
  refine en_new (N := 72) (vs := [.null, .null, .int 0, .null, .null, .null, .null]) (ms := 7) rfl l146 (by with_unfolding_all rfl) ?_
  intro H147 l147 f147 k147
  refine en_s (am_nb (m := 1) (pc1 := 65) (ls1 := [(1, .int 9), (0, .ref 3)]) (st1 := [.ref 72, .ref 72, .int 9, .ref 4]) (H1 := H147) (k1 := 69) (n1 := 13215) (by with_unfolding_all rfl)) ?_
  refine en_cv0 (as := []) (rest := [.ref 72, .int 9, .ref 4]) rfl rfl rfl rfl f147 rfl (by with_unfolding_all rfl) (by with_unfolding_all rfl) (cr_11 l147 f147) ?_
  rintro H160 ⟨⟨f160_73, f160_72, f160_74, f160_75, f160_76, f160_77, f160_78, -⟩, l160, k160⟩
  refine en_aast rfl l160 ((k160 4 (Nat.ne_of_beq_eq_false rfl : 4 ≠ 72) (Nat.le_of_ble_eq_true rfl : 4 < 73)).trans ((k147 4 (Nat.le_of_ble_eq_true rfl : 4 < 72)).trans f146)) f160_72 (by decide) rfl (am_lg_up (i := 9) (l2 := [some 9, some 16, some 23, some 30, some 37, some 44, some 51, some 58, some 65, some 72, none, none]) (by with_unfolding_all rfl) rfl rfl) ?_
  intro H161 l161 f161 k161
  refine en_s (am_nb (m := 6) (pc1 := 57) (ls1 := [(1, .int 10), (0, .ref 3)]) (st1 := [.ref 3]) (H1 := H161) (k1 := 75) (n1 := 14665) (by with_unfolding_all rfl)) ?_
  refine en_s (st_get rfl ((k161 3 (Nat.ne_of_beq_eq_false rfl : 3 ≠ 4)).trans ((k160 3 (Nat.ne_of_beq_eq_false rfl : 3 ≠ 72) (Nat.le_of_ble_eq_true rfl : 3 < 73)).trans ((k147 3 (Nat.le_of_ble_eq_true rfl : 3 < 72)).trans ((k146 3 (Nat.ne_of_beq_eq_false rfl : 3 ≠ 4)).trans ((k145 3 (Nat.ne_of_beq_eq_false rfl : 3 ≠ 65) (Nat.le_of_ble_eq_true rfl : 3 < 66)).trans ((k132 3 (Nat.le_of_ble_eq_true rfl : 3 < 65)).trans ((k131 3 (Nat.ne_of_beq_eq_false rfl : 3 ≠ 4)).trans ((k130 3 (Nat.ne_of_beq_eq_false rfl : 3 ≠ 58) (Nat.le_of_ble_eq_true rfl : 3 < 59)).trans ((k117 3 (Nat.le_of_ble_eq_true rfl : 3 < 58)).trans ((k116 3 (Nat.ne_of_beq_eq_false rfl : 3 ≠ 4)).trans ((k115 3 (Nat.ne_of_beq_eq_false rfl : 3 ≠ 51) (Nat.le_of_ble_eq_true rfl : 3 < 52)).trans ((k102 3 (Nat.le_of_ble_eq_true rfl : 3 < 51)).trans ((k101 3 (Nat.ne_of_beq_eq_false rfl : 3 ≠ 4)).trans ((k100 3 (Nat.ne_of_beq_eq_false rfl : 3 ≠ 44) (Nat.le_of_ble_eq_true rfl : 3 < 45)).trans ((k87 3 (Nat.le_of_ble_eq_true rfl : 3 < 44)).trans ((k86 3 (Nat.ne_of_beq_eq_false rfl : 3 ≠ 4)).trans ((k85 3 (Nat.ne_of_beq_eq_false rfl : 3 ≠ 37) (Nat.le_of_ble_eq_true rfl : 3 < 38)).trans ((k72 3 (Nat.le_of_ble_eq_true rfl : 3 < 37)).trans ((k71 3 (Nat.ne_of_beq_eq_false rfl : 3 ≠ 4)).trans ((k70 3 (Nat.ne_of_beq_eq_false rfl : 3 ≠ 30) (Nat.le_of_ble_eq_true rfl : 3 < 31)).trans ((k57 3 (Nat.le_of_ble_eq_true rfl : 3 < 30)).trans ((k56 3 (Nat.ne_of_beq_eq_false rfl : 3 ≠ 4)).trans ((k55 3 (Nat.ne_of_beq_eq_false rfl : 3 ≠ 23) (Nat.le_of_ble_eq_true rfl : 3 < 24)).trans ((k42 3 (Nat.le_of_ble_eq_true rfl : 3 < 23)).trans ((k41 3 (Nat.ne_of_beq_eq_false rfl : 3 ≠ 4)).trans ((k40 3 (Nat.ne_of_beq_eq_false rfl : 3 ≠ 16) (Nat.le_of_ble_eq_true rfl : 3 < 17)).trans ((k27 3 (Nat.le_of_ble_eq_true rfl : 3 < 16)).trans ((k26 3 (Nat.ne_of_beq_eq_false rfl : 3 ≠ 4)).trans ((k25 3 (Nat.ne_of_beq_eq_false rfl : 3 ≠ 9) (Nat.le_of_ble_eq_true rfl : 3 < 10)).trans ((k12 3 (Nat.le_of_ble_eq_true rfl : 3 < 9)).trans f11)))))))))))))))))))))))))))))) rfl) ?_
  refine en_s (am_nb (m := 1) (pc1 := 61) (ls1 := [(1, .int 10), (0, .ref 3)]) (st1 := [.int 10, .ref 4]) (H1 := H161) (k1 := 75) (n1 := 14665) (by with_unfolding_all rfl)) ?_
  refine en_new (N := 79) (vs := [.null, .null, .int 0, .null, .null, .null, .null]) (ms := 7) rfl l161 (by with_unfolding_all rfl) ?_
  intro H162 l162 f162 k162
  refine en_s (am_nb (m := 1) (pc1 := 65) (ls1 := [(1, .int 10), (0, .ref 3)]) (st1 := [.ref 79, .ref 79, .int 10, .ref 4]) (H1 := H162) (k1 := 76) (n1 := 14672) (by with_unfolding_all rfl)) ?_
  refine en_cv0 (as := []) (rest := [.ref 79, .int 10, .ref 4]) rfl rfl rfl rfl f162 rfl (by with_unfolding_all rfl) (by with_unfolding_all rfl) (cr_12 l162 f162) ?_
  rintro H175 ⟨⟨f175_80, f175_79, f175_81, f175_82, f175_83, f175_84, f175_85, -⟩, l175, k175⟩
  refine en_aast rfl l175 ((k175 4 (Nat.ne_of_beq_eq_false rfl : 4 ≠ 79) (Nat.le_of_ble_eq_true rfl : 4 < 80)).trans ((k162 4 (Nat.le_of_ble_eq_true rfl : 4 < 79)).trans f161)) f175_79 (by decide) rfl (am_lg_up (i := 10) (l2 := [some 9, some 16, some 23, some 30, some 37, some 44, some 51, some 58, some 65, some 72, some 79, none]) (by with_unfolding_all rfl) rfl rfl) ?_
  intro H176 l176 f176 k176
  refine en_s (am_nb (m := 6) (pc1 := 57) (ls1 := [(1, .int 11), (0, .ref 3)]) (st1 := [.ref 3]) (H1 := H176) (k1 := 82) (n1 := 16122) (by with_unfolding_all rfl)) ?_
  refine en_s (st_get rfl ((k176 3 (Nat.ne_of_beq_eq_false rfl : 3 ≠ 4)).trans ((k175 3 (Nat.ne_of_beq_eq_false rfl : 3 ≠ 79) (Nat.le_of_ble_eq_true rfl : 3 < 80)).trans ((k162 3 (Nat.le_of_ble_eq_true rfl : 3 < 79)).trans ((k161 3 (Nat.ne_of_beq_eq_false rfl : 3 ≠ 4)).trans ((k160 3 (Nat.ne_of_beq_eq_false rfl : 3 ≠ 72) (Nat.le_of_ble_eq_true rfl : 3 < 73)).trans ((k147 3 (Nat.le_of_ble_eq_true rfl : 3 < 72)).trans ((k146 3 (Nat.ne_of_beq_eq_false rfl : 3 ≠ 4)).trans ((k145 3 (Nat.ne_of_beq_eq_false rfl : 3 ≠ 65) (Nat.le_of_ble_eq_true rfl : 3 < 66)).trans ((k132 3 (Nat.le_of_ble_eq_true rfl : 3 < 65)).trans ((k131 3 (Nat.ne_of_beq_eq_false rfl : 3 ≠ 4)).trans ((k130 3 (Nat.ne_of_beq_eq_false rfl : 3 ≠ 58) (Nat.le_of_ble_eq_true rfl : 3 < 59)).trans ((k117 3 (Nat.le_of_ble_eq_true rfl : 3 < 58)).trans ((k116 3 (Nat.ne_of_beq_eq_false rfl : 3 ≠ 4)).trans ((k115 3 (Nat.ne_of_beq_eq_false rfl : 3 ≠ 51) (Nat.le_of_ble_eq_true rfl : 3 < 52)).trans ((k102 3 (Nat.le_of_ble_eq_true rfl : 3 < 51)).trans ((k101 3 (Nat.ne_of_beq_eq_false rfl : 3 ≠ 4)).trans ((k100 3 (Nat.ne_of_beq_eq_false rfl : 3 ≠ 44) (Nat.le_of_ble_eq_true rfl : 3 < 45)).trans ((k87 3 (Nat.le_of_ble_eq_true rfl : 3 < 44)).trans ((k86 3 (Nat.ne_of_beq_eq_false rfl : 3 ≠ 4)).trans ((k85 3 (Nat.ne_of_beq_eq_false rfl : 3 ≠ 37) (Nat.le_of_ble_eq_true rfl : 3 < 38)).trans ((k72 3 (Nat.le_of_ble_eq_true rfl : 3 < 37)).trans ((k71 3 (Nat.ne_of_beq_eq_false rfl : 3 ≠ 4)).trans ((k70 3 (Nat.ne_of_beq_eq_false rfl : 3 ≠ 30) (Nat.le_of_ble_eq_true rfl : 3 < 31)).trans ((k57 3 (Nat.le_of_ble_eq_true rfl : 3 < 30)).trans ((k56 3 (Nat.ne_of_beq_eq_false rfl : 3 ≠ 4)).trans ((k55 3 (Nat.ne_of_beq_eq_false rfl : 3 ≠ 23) (Nat.le_of_ble_eq_true rfl : 3 < 24)).trans ((k42 3 (Nat.le_of_ble_eq_true rfl : 3 < 23)).trans ((k41 3 (Nat.ne_of_beq_eq_false rfl : 3 ≠ 4)).trans ((k40 3 (Nat.ne_of_beq_eq_false rfl : 3 ≠ 16) (Nat.le_of_ble_eq_true rfl : 3 < 17)).trans ((k27 3 (Nat.le_of_ble_eq_true rfl : 3 < 16)).trans ((k26 3 (Nat.ne_of_beq_eq_false rfl : 3 ≠ 4)).trans ((k25 3 (Nat.ne_of_beq_eq_false rfl : 3 ≠ 9) (Nat.le_of_ble_eq_true rfl : 3 < 10)).trans ((k12 3 (Nat.le_of_ble_eq_true rfl : 3 < 9)).trans f11))))))))))))))))))))))))))))))))) rfl) ?_
  refine en_s (am_nb (m := 1) (pc1 := 61) (ls1 := [(1, .int 11), (0, .ref 3)]) (st1 := [.int 11, .ref 4]) (H1 := H176) (k1 := 82) (n1 := 16122) (by with_unfolding_all rfl)) ?_
  refine en_new (N := 86) (vs := [.null, .null, .int 0, .null, .null, .null, .null]) (ms := 7) rfl l176 (by with_unfolding_all rfl) ?_
  intro H177 l177 f177 k177
  refine en_s (am_nb (m := 1) (pc1 := 65) (ls1 := [(1, .int 11), (0, .ref 3)]) (st1 := [.ref 86, .ref 86, .int 11, .ref 4]) (H1 := H177) (k1 := 83) (n1 := 16129) (by with_unfolding_all rfl)) ?_
  refine en_cv0 (as := []) (rest := [.ref 86, .int 11, .ref 4]) rfl rfl rfl rfl f177 rfl (by with_unfolding_all rfl) (by with_unfolding_all rfl) (cr_13 l177 f177) ?_
  rintro H190 ⟨⟨f190_87, f190_86, f190_88, f190_89, f190_90, f190_91, f190_92, -⟩, l190, k190⟩
  refine en_aast rfl l190 ((k190 4 (Nat.ne_of_beq_eq_false rfl : 4 ≠ 86) (Nat.le_of_ble_eq_true rfl : 4 < 87)).trans ((k177 4 (Nat.le_of_ble_eq_true rfl : 4 < 86)).trans f176)) f190_86 (by decide) rfl (am_lg_up (i := 11) (l2 := [some 9, some 16, some 23, some 30, some 37, some 44, some 51, some 58, some 65, some 72, some 79, some 86]) (by with_unfolding_all rfl) rfl rfl) ?_
  intro H191 l191 f191 k191
  refine en_s (am_nb (m := 5) (pc1 := 75) (ls1 := [(1, .int 12), (0, .ref 3)]) (st1 := []) (H1 := H191) (k1 := 89) (n1 := 17579) (by with_unfolding_all rfl)) ?_
  have K46 : ∀ j : Nat, j < 93 → j ≠ 4 → H191[j]? = H190[j]? := fun j hj n4 => (k191 j n4)
  have K45 : ∀ j : Nat, j < 87 → j ≠ 4 → j ≠ 86 → H191[j]? = H177[j]? := fun j hj n4 n86 => (K46 j (Nat.lt_of_lt_of_le hj (Nat.le_of_ble_eq_true rfl : 87 ≤ 93)) n4).trans (k190 j n86 hj)
  have K44 : ∀ j : Nat, j < 86 → j ≠ 4 → H191[j]? = H176[j]? := fun j hj n4 => (K45 j (Nat.lt_of_lt_of_le hj (Nat.le_of_ble_eq_true rfl : 86 ≤ 87)) n4 (Nat.ne_of_lt (Nat.lt_of_lt_of_le hj (Nat.le_of_ble_eq_true rfl : 86 ≤ 86)))).trans (k177 j hj)
  have K43 : ∀ j : Nat, j < 86 → j ≠ 4 → H191[j]? = H175[j]? := fun j hj n4 => (K44 j hj n4).trans (k176 j n4)
  have K42 : ∀ j : Nat, j < 80 → j ≠ 4 → j ≠ 79 → H191[j]? = H162[j]? := fun j hj n4 n79 => (K43 j (Nat.lt_of_lt_of_le hj (Nat.le_of_ble_eq_true rfl : 80 ≤ 86)) n4).trans (k175 j n79 hj)
  have K41 : ∀ j : Nat, j < 79 → j ≠ 4 → H191[j]? = H161[j]? := fun j hj n4 => (K42 j (Nat.lt_of_lt_of_le hj (Nat.le_of_ble_eq_true rfl : 79 ≤ 80)) n4 (Nat.ne_of_lt (Nat.lt_of_lt_of_le hj (Nat.le_of_ble_eq_true rfl : 79 ≤ 79)))).trans (k162 j hj)
  have K40 : ∀ j : Nat, j < 79 → j ≠ 4 → H191[j]? = H160[j]? := fun j hj n4 => (K41 j hj n4).trans (k161 j n4)
  have K39 : ∀ j : Nat, j < 73 → j ≠ 4 → j ≠ 72 → H191[j]? = H147[j]? := fun j hj n4 n72 => (K40 j (Nat.lt_of_lt_of_le hj (Nat.le_of_ble_eq_true rfl : 73 ≤ 79)) n4).trans (k160 j n72 hj)
  have K38 : ∀ j : Nat, j < 72 → j ≠ 4 → H191[j]? = H146[j]? := fun j hj n4 => (K39 j (Nat.lt_of_lt_of_le hj (Nat.le_of_ble_eq_true rfl : 72 ≤ 73)) n4 (Nat.ne_of_lt (Nat.lt_of_lt_of_le hj (Nat.le_of_ble_eq_true rfl : 72 ≤ 72)))).trans (k147 j hj)
  have K37 : ∀ j : Nat, j < 72 → j ≠ 4 → H191[j]? = H145[j]? := fun j hj n4 => (K38 j hj n4).trans (k146 j n4)
  have K36 : ∀ j : Nat, j < 66 → j ≠ 4 → j ≠ 65 → H191[j]? = H132[j]? := fun j hj n4 n65 => (K37 j (Nat.lt_of_lt_of_le hj (Nat.le_of_ble_eq_true rfl : 66 ≤ 72)) n4).trans (k145 j n65 hj)
  have K35 : ∀ j : Nat, j < 65 → j ≠ 4 → H191[j]? = H131[j]? := fun j hj n4 => (K36 j (Nat.lt_of_lt_of_le hj (Nat.le_of_ble_eq_true rfl : 65 ≤ 66)) n4 (Nat.ne_of_lt (Nat.lt_of_lt_of_le hj (Nat.le_of_ble_eq_true rfl : 65 ≤ 65)))).trans (k132 j hj)
  have K34 : ∀ j : Nat, j < 65 → j ≠ 4 → H191[j]? = H130[j]? := fun j hj n4 => (K35 j hj n4).trans (k131 j n4)
  have K33 : ∀ j : Nat, j < 59 → j ≠ 4 → j ≠ 58 → H191[j]? = H117[j]? := fun j hj n4 n58 => (K34 j (Nat.lt_of_lt_of_le hj (Nat.le_of_ble_eq_true rfl : 59 ≤ 65)) n4).trans (k130 j n58 hj)
  have K32 : ∀ j : Nat, j < 58 → j ≠ 4 → H191[j]? = H116[j]? := fun j hj n4 => (K33 j (Nat.lt_of_lt_of_le hj (Nat.le_of_ble_eq_true rfl : 58 ≤ 59)) n4 (Nat.ne_of_lt (Nat.lt_of_lt_of_le hj (Nat.le_of_ble_eq_true rfl : 58 ≤ 58)))).trans (k117 j hj)
  have K31 : ∀ j : Nat, j < 58 → j ≠ 4 → H191[j]? = H115[j]? := fun j hj n4 => (K32 j hj n4).trans (k116 j n4)
  have K30 : ∀ j : Nat, j < 52 → j ≠ 4 → j ≠ 51 → H191[j]? = H102[j]? := fun j hj n4 n51 => (K31 j (Nat.lt_of_lt_of_le hj (Nat.le_of_ble_eq_true rfl : 52 ≤ 58)) n4).trans (k115 j n51 hj)
  have K29 : ∀ j : Nat, j < 51 → j ≠ 4 → H191[j]? = H101[j]? := fun j hj n4 => (K30 j (Nat.lt_of_lt_of_le hj (Nat.le_of_ble_eq_true rfl : 51 ≤ 52)) n4 (Nat.ne_of_lt (Nat.lt_of_lt_of_le hj (Nat.le_of_ble_eq_true rfl : 51 ≤ 51)))).trans (k102 j hj)
  have K28 : ∀ j : Nat, j < 51 → j ≠ 4 → H191[j]? = H100[j]? := fun j hj n4 => (K29 j hj n4).trans (k101 j n4)
  have K27 : ∀ j : Nat, j < 45 → j ≠ 4 → j ≠ 44 → H191[j]? = H87[j]? := fun j hj n4 n44 => (K28 j (Nat.lt_of_lt_of_le hj (Nat.le_of_ble_eq_true rfl : 45 ≤ 51)) n4).trans (k100 j n44 hj)
  have K26 : ∀ j : Nat, j < 44 → j ≠ 4 → H191[j]? = H86[j]? := fun j hj n4 => (K27 j (Nat.lt_of_lt_of_le hj (Nat.le_of_ble_eq_true rfl : 44 ≤ 45)) n4 (Nat.ne_of_lt (Nat.lt_of_lt_of_le hj (Nat.le_of_ble_eq_true rfl : 44 ≤ 44)))).trans (k87 j hj)
  have K25 : ∀ j : Nat, j < 44 → j ≠ 4 → H191[j]? = H85[j]? := fun j hj n4 => (K26 j hj n4).trans (k86 j n4)
  have K24 : ∀ j : Nat, j < 38 → j ≠ 4 → j ≠ 37 → H191[j]? = H72[j]? := fun j hj n4 n37 => (K25 j (Nat.lt_of_lt_of_le hj (Nat.le_of_ble_eq_true rfl : 38 ≤ 44)) n4).trans (k85 j n37 hj)
  have K23 : ∀ j : Nat, j < 37 → j ≠ 4 → H191[j]? = H71[j]? := fun j hj n4 => (K24 j (Nat.lt_of_lt_of_le hj (Nat.le_of_ble_eq_true rfl : 37 ≤ 38)) n4 (Nat.ne_of_lt (Nat.lt_of_lt_of_le hj (Nat.le_of_ble_eq_true rfl : 37 ≤ 37)))).trans (k72 j hj)
  have K22 : ∀ j : Nat, j < 37 → j ≠ 4 → H191[j]? = H70[j]? := fun j hj n4 => (K23 j hj n4).trans (k71 j n4)
  have K21 : ∀ j : Nat, j < 31 → j ≠ 4 → j ≠ 30 → H191[j]? = H57[j]? := fun j hj n4 n30 => (K22 j (Nat.lt_of_lt_of_le hj (Nat.le_of_ble_eq_true rfl : 31 ≤ 37)) n4).trans (k70 j n30 hj)
  have K20 : ∀ j : Nat, j < 30 → j ≠ 4 → H191[j]? = H56[j]? := fun j hj n4 => (K21 j (Nat.lt_of_lt_of_le hj (Nat.le_of_ble_eq_true rfl : 30 ≤ 31)) n4 (Nat.ne_of_lt (Nat.lt_of_lt_of_le hj (Nat.le_of_ble_eq_true rfl : 30 ≤ 30)))).trans (k57 j hj)
  have K19 : ∀ j : Nat, j < 30 → j ≠ 4 → H191[j]? = H55[j]? := fun j hj n4 => (K20 j hj n4).trans (k56 j n4)
  have K18 : ∀ j : Nat, j < 24 → j ≠ 4 → j ≠ 23 → H191[j]? = H42[j]? := fun j hj n4 n23 => (K19 j (Nat.lt_of_lt_of_le hj (Nat.le_of_ble_eq_true rfl : 24 ≤ 30)) n4).trans (k55 j n23 hj)
  have K17 : ∀ j : Nat, j < 23 → j ≠ 4 → H191[j]? = H41[j]? := fun j hj n4 => (K18 j (Nat.lt_of_lt_of_le hj (Nat.le_of_ble_eq_true rfl : 23 ≤ 24)) n4 (Nat.ne_of_lt (Nat.lt_of_lt_of_le hj (Nat.le_of_ble_eq_true rfl : 23 ≤ 23)))).trans (k42 j hj)
  have K16 : ∀ j : Nat, j < 23 → j ≠ 4 → H191[j]? = H40[j]? := fun j hj n4 => (K17 j hj n4).trans (k41 j n4)
  have K15 : ∀ j : Nat, j < 17 → j ≠ 4 → j ≠ 16 → H191[j]? = H27[j]? := fun j hj n4 n16 => (K16 j (Nat.lt_of_lt_of_le hj (Nat.le_of_ble_eq_true rfl : 17 ≤ 23)) n4).trans (k40 j n16 hj)
  have K14 : ∀ j : Nat, j < 16 → j ≠ 4 → H191[j]? = H26[j]? := fun j hj n4 => (K15 j (Nat.lt_of_lt_of_le hj (Nat.le_of_ble_eq_true rfl : 16 ≤ 17)) n4 (Nat.ne_of_lt (Nat.lt_of_lt_of_le hj (Nat.le_of_ble_eq_true rfl : 16 ≤ 16)))).trans (k27 j hj)
  have K13 : ∀ j : Nat, j < 16 → j ≠ 4 → H191[j]? = H25[j]? := fun j hj n4 => (K14 j hj n4).trans (k26 j n4)
  have K12 : ∀ j : Nat, j < 10 → j ≠ 4 → j ≠ 9 → H191[j]? = H12[j]? := fun j hj n4 n9 => (K13 j (Nat.lt_of_lt_of_le hj (Nat.le_of_ble_eq_true rfl : 10 ≤ 16)) n4).trans (k25 j n9 hj)
  have K11 : ∀ j : Nat, j < 9 → j ≠ 4 → H191[j]? = H11[j]? := fun j hj n4 => (K12 j (Nat.lt_of_lt_of_le hj (Nat.le_of_ble_eq_true rfl : 9 ≤ 10)) n4 (Nat.ne_of_lt (Nat.lt_of_lt_of_le hj (Nat.le_of_ble_eq_true rfl : 9 ≤ 9)))).trans (k12 j hj)
  have K10 : ∀ j : Nat, j < 9 → j ≠ 3 → j ≠ 4 → H191[j]? = H10[j]? := fun j hj n3 n4 => (K11 j hj n4).trans (k11 j n3)
  have K9 : ∀ j : Nat, j < 8 → j ≠ 3 → j ≠ 4 → H191[j]? = H9[j]? := fun j hj n3 n4 => (K10 j (Nat.lt_of_lt_of_le hj (Nat.le_of_ble_eq_true rfl : 8 ≤ 9)) n3 n4).trans (k10 j hj)
  have K8 : ∀ j : Nat, j < 8 → j ≠ 3 → j ≠ 4 → H191[j]? = H8[j]? := fun j hj n3 n4 => (K9 j hj n3 n4).trans (k9 j n3)
  have K7 : ∀ j : Nat, j < 7 → j ≠ 3 → j ≠ 4 → H191[j]? = H7[j]? := fun j hj n3 n4 => (K8 j (Nat.lt_of_lt_of_le hj (Nat.le_of_ble_eq_true rfl : 7 ≤ 8)) n3 n4).trans (k8 j hj)
  have K6 : ∀ j : Nat, j < 7 → j ≠ 3 → j ≠ 4 → H191[j]? = H6[j]? := fun j hj n3 n4 => (K7 j hj n3 n4).trans (k7 j n3)
  have K5 : ∀ j : Nat, j < 6 → j ≠ 3 → j ≠ 4 → H191[j]? = H5[j]? := fun j hj n3 n4 => (K6 j (Nat.lt_of_lt_of_le hj (Nat.le_of_ble_eq_true rfl : 6 ≤ 7)) n3 n4).trans (k6 j hj)
  have K4 : ∀ j : Nat, j < 6 → j ≠ 3 → j ≠ 4 → H191[j]? = H4[j]? := fun j hj n3 n4 => (K5 j hj n3 n4).trans (k5 j n3)
  have K3 : ∀ j : Nat, j < 5 → j ≠ 3 → j ≠ 4 → H191[j]? = H3[j]? := fun j hj n3 n4 => (K4 j (Nat.lt_of_lt_of_le hj (Nat.le_of_ble_eq_true rfl : 5 ≤ 6)) n3 n4).trans (k4 j hj)
  have K2 : ∀ j : Nat, j < 5 → j ≠ 3 → j ≠ 4 → H191[j]? = H2[j]? := fun j hj n3 n4 => (K3 j hj n3 n4).trans (k3 j n3)
  have K1 : ∀ j : Nat, j < 5 → j ≠ 3 → j ≠ 4 → H191[j]? = H1[j]? := fun j hj n3 n4 => (K2 j hj n3 n4).trans (k2 j n3)
  have K0 : ∀ j : Nat, j < 4 → j ≠ 3 → H191[j]? = H[j]? := fun j hj n3 => (K1 j (Nat.lt_of_lt_of_le hj (Nat.le_of_ble_eq_true rfl : 4 ≤ 5)) n3 (Nat.ne_of_lt (Nat.lt_of_lt_of_le hj (Nat.le_of_ble_eq_true rfl : 4 ≤ 4)))).trans (k1 j hj)
  exact en_r (st_vret rfl rfl) ⟨⟨f191, ((K44 3 (Nat.le_of_ble_eq_true rfl : 3 < 86) (Nat.ne_of_beq_eq_false rfl : 3 ≠ 4)).trans ((k176 3 (Nat.ne_of_beq_eq_false rfl : 3 ≠ 4)).trans ((k175 3 (Nat.ne_of_beq_eq_false rfl : 3 ≠ 79) (Nat.le_of_ble_eq_true rfl : 3 < 80)).trans ((k162 3 (Nat.le_of_ble_eq_true rfl : 3 < 79)).trans ((k161 3 (Nat.ne_of_beq_eq_false rfl : 3 ≠ 4)).trans ((k160 3 (Nat.ne_of_beq_eq_false rfl : 3 ≠ 72) (Nat.le_of_ble_eq_true rfl : 3 < 73)).trans ((k147 3 (Nat.le_of_ble_eq_true rfl : 3 < 72)).trans ((k146 3 (Nat.ne_of_beq_eq_false rfl : 3 ≠ 4)).trans ((k145 3 (Nat.ne_of_beq_eq_false rfl : 3 ≠ 65) (Nat.le_of_ble_eq_true rfl : 3 < 66)).trans ((k132 3 (Nat.le_of_ble_eq_true rfl : 3 < 65)).trans ((k131 3 (Nat.ne_of_beq_eq_false rfl : 3 ≠ 4)).trans ((k130 3 (Nat.ne_of_beq_eq_false rfl : 3 ≠ 58) (Nat.le_of_ble_eq_true rfl : 3 < 59)).trans ((k117 3 (Nat.le_of_ble_eq_true rfl : 3 < 58)).trans ((k116 3 (Nat.ne_of_beq_eq_false rfl : 3 ≠ 4)).trans ((k115 3 (Nat.ne_of_beq_eq_false rfl : 3 ≠ 51) (Nat.le_of_ble_eq_true rfl : 3 < 52)).trans ((k102 3 (Nat.le_of_ble_eq_true rfl : 3 < 51)).trans ((k101 3 (Nat.ne_of_beq_eq_false rfl : 3 ≠ 4)).trans ((k100 3 (Nat.ne_of_beq_eq_false rfl : 3 ≠ 44) (Nat.le_of_ble_eq_true rfl : 3 < 45)).trans ((k87 3 (Nat.le_of_ble_eq_true rfl : 3 < 44)).trans ((k86 3 (Nat.ne_of_beq_eq_false rfl : 3 ≠ 4)).trans ((k85 3 (Nat.ne_of_beq_eq_false rfl : 3 ≠ 37) (Nat.le_of_ble_eq_true rfl : 3 < 38)).trans ((k72 3 (Nat.le_of_ble_eq_true rfl : 3 < 37)).trans ((k71 3 (Nat.ne_of_beq_eq_false rfl : 3 ≠ 4)).trans ((k70 3 (Nat.ne_of_beq_eq_false rfl : 3 ≠ 30) (Nat.le_of_ble_eq_true rfl : 3 < 31)).trans ((k57 3 (Nat.le_of_ble_eq_true rfl : 3 < 30)).trans ((k56 3 (Nat.ne_of_beq_eq_false rfl : 3 ≠ 4)).trans ((k55 3 (Nat.ne_of_beq_eq_false rfl : 3 ≠ 23) (Nat.le_of_ble_eq_true rfl : 3 < 24)).trans ((k42 3 (Nat.le_of_ble_eq_true rfl : 3 < 23)).trans ((k41 3 (Nat.ne_of_beq_eq_false rfl : 3 ≠ 4)).trans ((k40 3 (Nat.ne_of_beq_eq_false rfl : 3 ≠ 16) (Nat.le_of_ble_eq_true rfl : 3 < 17)).trans ((k27 3 (Nat.le_of_ble_eq_true rfl : 3 < 16)).trans ((k26 3 (Nat.ne_of_beq_eq_false rfl : 3 ≠ 4)).trans ((k25 3 (Nat.ne_of_beq_eq_false rfl : 3 ≠ 9) (Nat.le_of_ble_eq_true rfl : 3 < 10)).trans ((k12 3 (Nat.le_of_ble_eq_true rfl : 3 < 9)).trans f11)))))))))))))))))))))))))))))))))), ((K4 5 (Nat.le_of_ble_eq_true rfl : 5 < 6) (Nat.ne_of_beq_eq_false rfl : 5 ≠ 3) (Nat.ne_of_beq_eq_false rfl : 5 ≠ 4)).trans f4), ((K6 6 (Nat.le_of_ble_eq_true rfl : 6 < 7) (Nat.ne_of_beq_eq_false rfl : 6 ≠ 3) (Nat.ne_of_beq_eq_false rfl : 6 ≠ 4)).trans f6), ((K8 7 (Nat.le_of_ble_eq_true rfl : 7 < 8) (Nat.ne_of_beq_eq_false rfl : 7 ≠ 3) (Nat.ne_of_beq_eq_false rfl : 7 ≠ 4)).trans f8), ((K10 8 (Nat.le_of_ble_eq_true rfl : 8 < 9) (Nat.ne_of_beq_eq_false rfl : 8 ≠ 3) (Nat.ne_of_beq_eq_false rfl : 8 ≠ 4)).trans f10), ((K13 9 (Nat.le_of_ble_eq_true rfl : 9 < 16) (Nat.ne_of_beq_eq_false rfl : 9 ≠ 4)).trans f25_9), ((K13 10 (Nat.le_of_ble_eq_true rfl : 10 < 16) (Nat.ne_of_beq_eq_false rfl : 10 ≠ 4)).trans f25_10), ((K13 11 (Nat.le_of_ble_eq_true rfl : 11 < 16) (Nat.ne_of_beq_eq_false rfl : 11 ≠ 4)).trans f25_11), ((K13 12 (Nat.le_of_ble_eq_true rfl : 12 < 16) (Nat.ne_of_beq_eq_false rfl : 12 ≠ 4)).trans f25_12), ((K13 13 (Nat.le_of_ble_eq_true rfl : 13 < 16) (Nat.ne_of_beq_eq_false rfl : 13 ≠ 4)).trans f25_13), ((K13 14 (Nat.le_of_ble_eq_true rfl : 14 < 16) (Nat.ne_of_beq_eq_false rfl : 14 ≠ 4)).trans f25_14), ((K13 15 (Nat.le_of_ble_eq_true rfl : 15 < 16) (Nat.ne_of_beq_eq_false rfl : 15 ≠ 4)).trans f25_15), ((K16 16 (Nat.le_of_ble_eq_true rfl : 16 < 23) (Nat.ne_of_beq_eq_false rfl : 16 ≠ 4)).trans f40_16), ((K16 17 (Nat.le_of_ble_eq_true rfl : 17 < 23) (Nat.ne_of_beq_eq_false rfl : 17 ≠ 4)).trans f40_17), ((K16 18 (Nat.le_of_ble_eq_true rfl : 18 < 23) (Nat.ne_of_beq_eq_false rfl : 18 ≠ 4)).trans f40_18), ((K16 19 (Nat.le_of_ble_eq_true rfl : 19 < 23) (Nat.ne_of_beq_eq_false rfl : 19 ≠ 4)).trans f40_19), ((K16 20 (Nat.le_of_ble_eq_true rfl : 20 < 23) (Nat.ne_of_beq_eq_false rfl : 20 ≠ 4)).trans f40_20), ((K16 21 (Nat.le_of_ble_eq_true rfl : 21 < 23) (Nat.ne_of_beq_eq_false rfl : 21 ≠ 4)).trans f40_21), ((K16 22 (Nat.le_of_ble_eq_true rfl : 22 < 23) (Nat.ne_of_beq_eq_false rfl : 22 ≠ 4)).trans f40_22), ((K19 23 (Nat.le_of_ble_eq_true rfl : 23 < 30) (Nat.ne_of_beq_eq_false rfl : 23 ≠ 4)).trans f55_23), ((K19 24 (Nat.le_of_ble_eq_true rfl : 24 < 30) (Nat.ne_of_beq_eq_false rfl : 24 ≠ 4)).trans f55_24), ((K19 25 (Nat.le_of_ble_eq_true rfl : 25 < 30) (Nat.ne_of_beq_eq_false rfl : 25 ≠ 4)).trans f55_25), ((K19 26 (Nat.le_of_ble_eq_true rfl : 26 < 30) (Nat.ne_of_beq_eq_false rfl : 26 ≠ 4)).trans f55_26), ((K19 27 (Nat.le_of_ble_eq_true rfl : 27 < 30) (Nat.ne_of_beq_eq_false rfl : 27 ≠ 4)).trans f55_27), ((K19 28 (Nat.le_of_ble_eq_true rfl : 28 < 30) (Nat.ne_of_beq_eq_false rfl : 28 ≠ 4)).trans f55_28), ((K19 29 (Nat.le_of_ble_eq_true rfl : 29 < 30) (Nat.ne_of_beq_eq_false rfl : 29 ≠ 4)).trans f55_29), ((K22 30 (Nat.le_of_ble_eq_true rfl : 30 < 37) (Nat.ne_of_beq_eq_false rfl : 30 ≠ 4)).trans f70_30), ((K22 31 (Nat.le_of_ble_eq_true rfl : 31 < 37) (Nat.ne_of_beq_eq_false rfl : 31 ≠ 4)).trans f70_31), ((K22 32 (Nat.le_of_ble_eq_true rfl : 32 < 37) (Nat.ne_of_beq_eq_false rfl : 32 ≠ 4)).trans f70_32), ((K22 33 (Nat.le_of_ble_eq_true rfl : 33 < 37) (Nat.ne_of_beq_eq_false rfl : 33 ≠ 4)).trans f70_33), ((K22 34 (Nat.le_of_ble_eq_true rfl : 34 < 37) (Nat.ne_of_beq_eq_false rfl : 34 ≠ 4)).trans f70_34), ((K22 35 (Nat.le_of_ble_eq_true rfl : 35 < 37) (Nat.ne_of_beq_eq_false rfl : 35 ≠ 4)).trans f70_35), ((K22 36 (Nat.le_of_ble_eq_true rfl : 36 < 37) (Nat.ne_of_beq_eq_false rfl : 36 ≠ 4)).trans f70_36), ((K25 37 (Nat.le_of_ble_eq_true rfl : 37 < 44) (Nat.ne_of_beq_eq_false rfl : 37 ≠ 4)).trans f85_37), ((K25 38 (Nat.le_of_ble_eq_true rfl : 38 < 44) (Nat.ne_of_beq_eq_false rfl : 38 ≠ 4)).trans f85_38), ((K25 39 (Nat.le_of_ble_eq_true rfl : 39 < 44) (Nat.ne_of_beq_eq_false rfl : 39 ≠ 4)).trans f85_39), ((K25 40 (Nat.le_of_ble_eq_true rfl : 40 < 44) (Nat.ne_of_beq_eq_false rfl : 40 ≠ 4)).trans f85_40), ((K25 41 (Nat.le_of_ble_eq_true rfl : 41 < 44) (Nat.ne_of_beq_eq_false rfl : 41 ≠ 4)).trans f85_41), ((K25 42 (Nat.le_of_ble_eq_true rfl : 42 < 44) (Nat.ne_of_beq_eq_false rfl : 42 ≠ 4)).trans f85_42), ((K25 43 (Nat.le_of_ble_eq_true rfl : 43 < 44) (Nat.ne_of_beq_eq_false rfl : 43 ≠ 4)).trans f85_43), ((K28 44 (Nat.le_of_ble_eq_true rfl : 44 < 51) (Nat.ne_of_beq_eq_false rfl : 44 ≠ 4)).trans f100_44), ((K28 45 (Nat.le_of_ble_eq_true rfl : 45 < 51) (Nat.ne_of_beq_eq_false rfl : 45 ≠ 4)).trans f100_45), ((K28 46 (Nat.le_of_ble_eq_true rfl : 46 < 51) (Nat.ne_of_beq_eq_false rfl : 46 ≠ 4)).trans f100_46), ((K28 47 (Nat.le_of_ble_eq_true rfl : 47 < 51) (Nat.ne_of_beq_eq_false rfl : 47 ≠ 4)).trans f100_47), ((K28 48 (Nat.le_of_ble_eq_true rfl : 48 < 51) (Nat.ne_of_beq_eq_false rfl : 48 ≠ 4)).trans f100_48), ((K28 49 (Nat.le_of_ble_eq_true rfl : 49 < 51) (Nat.ne_of_beq_eq_false rfl : 49 ≠ 4)).trans f100_49), ((K28 50 (Nat.le_of_ble_eq_true rfl : 50 < 51) (Nat.ne_of_beq_eq_false rfl : 50 ≠ 4)).trans f100_50), ((K31 51 (Nat.le_of_ble_eq_true rfl : 51 < 58) (Nat.ne_of_beq_eq_false rfl : 51 ≠ 4)).trans f115_51), ((K31 52 (Nat.le_of_ble_eq_true rfl : 52 < 58) (Nat.ne_of_beq_eq_false rfl : 52 ≠ 4)).trans f115_52), ((K31 53 (Nat.le_of_ble_eq_true rfl : 53 < 58) (Nat.ne_of_beq_eq_false rfl : 53 ≠ 4)).trans f115_53), ((K31 54 (Nat.le_of_ble_eq_true rfl : 54 < 58) (Nat.ne_of_beq_eq_false rfl : 54 ≠ 4)).trans f115_54), ((K31 55 (Nat.le_of_ble_eq_true rfl : 55 < 58) (Nat.ne_of_beq_eq_false rfl : 55 ≠ 4)).trans f115_55), ((K31 56 (Nat.le_of_ble_eq_true rfl : 56 < 58) (Nat.ne_of_beq_eq_false rfl : 56 ≠ 4)).trans f115_56), ((K31 57 (Nat.le_of_ble_eq_true rfl : 57 < 58) (Nat.ne_of_beq_eq_false rfl : 57 ≠ 4)).trans f115_57), ((K34 58 (Nat.le_of_ble_eq_true rfl : 58 < 65) (Nat.ne_of_beq_eq_false rfl : 58 ≠ 4)).trans f130_58), ((K34 59 (Nat.le_of_ble_eq_true rfl : 59 < 65) (Nat.ne_of_beq_eq_false rfl : 59 ≠ 4)).trans f130_59), ((K34 60 (Nat.le_of_ble_eq_true rfl : 60 < 65) (Nat.ne_of_beq_eq_false rfl : 60 ≠ 4)).trans f130_60), ((K34 61 (Nat.le_of_ble_eq_true rfl : 61 < 65) (Nat.ne_of_beq_eq_false rfl : 61 ≠ 4)).trans f130_61), ((K34 62 (Nat.le_of_ble_eq_true rfl : 62 < 65) (Nat.ne_of_beq_eq_false rfl : 62 ≠ 4)).trans f130_62), ((K34 63 (Nat.le_of_ble_eq_true rfl : 63 < 65) (Nat.ne_of_beq_eq_false rfl : 63 ≠ 4)).trans f130_63), ((K34 64 (Nat.le_of_ble_eq_true rfl : 64 < 65) (Nat.ne_of_beq_eq_false rfl : 64 ≠ 4)).trans f130_64), ((K37 65 (Nat.le_of_ble_eq_true rfl : 65 < 72) (Nat.ne_of_beq_eq_false rfl : 65 ≠ 4)).trans f145_65), ((K37 66 (Nat.le_of_ble_eq_true rfl : 66 < 72) (Nat.ne_of_beq_eq_false rfl : 66 ≠ 4)).trans f145_66), ((K37 67 (Nat.le_of_ble_eq_true rfl : 67 < 72) (Nat.ne_of_beq_eq_false rfl : 67 ≠ 4)).trans f145_67), ((K37 68 (Nat.le_of_ble_eq_true rfl : 68 < 72) (Nat.ne_of_beq_eq_false rfl : 68 ≠ 4)).trans f145_68), ((K37 69 (Nat.le_of_ble_eq_true rfl : 69 < 72) (Nat.ne_of_beq_eq_false rfl : 69 ≠ 4)).trans f145_69), ((K37 70 (Nat.le_of_ble_eq_true rfl : 70 < 72) (Nat.ne_of_beq_eq_false rfl : 70 ≠ 4)).trans f145_70), ((K37 71 (Nat.le_of_ble_eq_true rfl : 71 < 72) (Nat.ne_of_beq_eq_false rfl : 71 ≠ 4)).trans f145_71), ((K40 72 (Nat.le_of_ble_eq_true rfl : 72 < 79) (Nat.ne_of_beq_eq_false rfl : 72 ≠ 4)).trans f160_72), ((K40 73 (Nat.le_of_ble_eq_true rfl : 73 < 79) (Nat.ne_of_beq_eq_false rfl : 73 ≠ 4)).trans f160_73), ((K40 74 (Nat.le_of_ble_eq_true rfl : 74 < 79) (Nat.ne_of_beq_eq_false rfl : 74 ≠ 4)).trans f160_74), ((K40 75 (Nat.le_of_ble_eq_true rfl : 75 < 79) (Nat.ne_of_beq_eq_false rfl : 75 ≠ 4)).trans f160_75), ((K40 76 (Nat.le_of_ble_eq_true rfl : 76 < 79) (Nat.ne_of_beq_eq_false rfl : 76 ≠ 4)).trans f160_76), ((K40 77 (Nat.le_of_ble_eq_true rfl : 77 < 79) (Nat.ne_of_beq_eq_false rfl : 77 ≠ 4)).trans f160_77), ((K40 78 (Nat.le_of_ble_eq_true rfl : 78 < 79) (Nat.ne_of_beq_eq_false rfl : 78 ≠ 4)).trans f160_78), ((K43 79 (Nat.le_of_ble_eq_true rfl : 79 < 86) (Nat.ne_of_beq_eq_false rfl : 79 ≠ 4)).trans f175_79), ((K43 80 (Nat.le_of_ble_eq_true rfl : 80 < 86) (Nat.ne_of_beq_eq_false rfl : 80 ≠ 4)).trans f175_80), ((K43 81 (Nat.le_of_ble_eq_true rfl : 81 < 86) (Nat.ne_of_beq_eq_false rfl : 81 ≠ 4)).trans f175_81), ((K43 82 (Nat.le_of_ble_eq_true rfl : 82 < 86) (Nat.ne_of_beq_eq_false rfl : 82 ≠ 4)).trans f175_82), ((K43 83 (Nat.le_of_ble_eq_true rfl : 83 < 86) (Nat.ne_of_beq_eq_false rfl : 83 ≠ 4)).trans f175_83), ((K43 84 (Nat.le_of_ble_eq_true rfl : 84 < 86) (Nat.ne_of_beq_eq_false rfl : 84 ≠ 4)).trans f175_84), ((K43 85 (Nat.le_of_ble_eq_true rfl : 85 < 86) (Nat.ne_of_beq_eq_false rfl : 85 ≠ 4)).trans f175_85), ((K46 86 (Nat.le_of_ble_eq_true rfl : 86 < 93) (Nat.ne_of_beq_eq_false rfl : 86 ≠ 4)).trans f190_86), ((K46 87 (Nat.le_of_ble_eq_true rfl : 87 < 93) (Nat.ne_of_beq_eq_false rfl : 87 ≠ 4)).trans f190_87), ((K46 88 (Nat.le_of_ble_eq_true rfl : 88 < 93) (Nat.ne_of_beq_eq_false rfl : 88 ≠ 4)).trans f190_88), ((K46 89 (Nat.le_of_ble_eq_true rfl : 89 < 93) (Nat.ne_of_beq_eq_false rfl : 89 ≠ 4)).trans f190_89), ((K46 90 (Nat.le_of_ble_eq_true rfl : 90 < 93) (Nat.ne_of_beq_eq_false rfl : 90 ≠ 4)).trans f190_90), ((K46 91 (Nat.le_of_ble_eq_true rfl : 91 < 93) (Nat.ne_of_beq_eq_false rfl : 91 ≠ 4)).trans f190_91), ((K46 92 (Nat.le_of_ble_eq_true rfl : 92 < 93) (Nat.ne_of_beq_eq_false rfl : 92 ≠ 4)).trans f190_92), trivial⟩, l191, fun j n3 hj => K0 j hj n3⟩
