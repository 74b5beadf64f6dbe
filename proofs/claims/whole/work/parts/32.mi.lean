/-! The reference's constructor. -/
def mi_4F  (H H1 : am_H) : Prop := (True) ∧ H1.length = 196 ∧ ∀ j : Nat, j < 196 → H1[j]? = H[j]?
set_option maxRecDepth 100000 in
theorem mi_4 {sL : Nat} {sx : Nat → Int32} {cs : Nat → Nat → Option Int32} {H : am_H} {v3 : Int32} {h : Nat} {b : Nat} (hl : H.length = 196) (h157 : H[157]? = some (.inr (12, [.int 0, .ref 158, .int 0, .ref 159, .int 0, .int 0, .ref 160, .ref 161, .ref 162, .ref 163, .ref 164, .ref 165, .ref 166, .int 0, .int (-1), .int 0, .int 0, .int 0, .ref 167, .int 0, .int 0, .int (-1), .ref 168, .int 0, .ref 169, .int 0, .int 0, .int 0, .ref 170, .ref 171, .int 0, .int 0, .int (-1), .int (-1), .int 0, .int 0, .int 0, .ref 172, .ref 173, .ref 174, .ref 175, .ref 176, .ref 177, .ref 178, .ref 179, .ref 180, .ref 181, .ref 182, .ref 183, .int 0, .int 0, .int 0, .int 0, .int 0, .ref 184, .int 0, .int 0, .int 0, .int 127, .int 0, .int 0, .int 0, .int 0, .int 0, .ref 185, .int 0, .ref 186, .int 0, .int (Int32.ofNat h), .int (Int32.ofNat b), .int v3, .int 0, .int 0, .int 0, .int (-1), .int (-1), .int 0, .int 0, .ref 187, .int 0, .int 0, .int 0, .int 0, .int 0, .int 0, .int 0, .ref 188, .int 0, .ref 189, .int 0, .ref 190, .ref 191, .ref 192, .int 0, .int 0, .int 0, .int ((Int32.ofNat h) - 1), .int 0, .int 96, .int 0, .int 0, .int 0, .int 0, .int 0, .int 0, .int 0, .int 0, .int 0, .int 0, .int 0, .int 0, .int 0, .int 0, .int 0, .ref 193, .int 0, .int 0, .int 0, .ref 194, .ref 195, .int (-1), .int 0]))) :
    am_NW sL sx cs 363 0 [(0, .ref 157), (1, .int 16)] [] H 0 0 (some (.int 0)) 0 0 (mi_4F H) := by
  refine en_s (am_nb (m := 1) (pc1 := 1) (ls1 := [(0, .ref 157), (1, .int 16)]) (st1 := [.ref 157]) (H1 := H) (k1 := 0) (n1 := 0) (by with_unfolding_all rfl)) ?_
  refine en_s (st_get rfl h157 rfl) ?_
  refine en_s (am_nb (m := 4) (pc1 := 14) (ls1 := [(0, .ref 157), (1, .int 16)]) (st1 := [.int 0]) (H1 := H) (k1 := 0) (n1 := 0) (by with_unfolding_all rfl)) ?_
  exact en_r (st_iret rfl rfl rfl) ⟨trivial, hl, fun j hj => rfl⟩

def mi_3F (v3 : Int32) (h : Nat) (b : Nat) (H H1 : am_H) : Prop := (am_is H1 157 (.inr (12, [.int 0, .ref 158, .int 0, .ref 159, .int 0, .int 0, .ref 160, .ref 161, .ref 162, .ref 163, .ref 164, .ref 165, .ref 166, .int 0, .int (-1), .int 0, .int 0, .int 0, .ref 167, .int 0, .int 0, .int (-1), .ref 168, .int 0, .ref 169, .int 0, .int 0, .int 0, .ref 170, .ref 171, .int 0, .int 0, .int (-1), .int (-1), .int 0, .int 0, .int 0, .ref 172, .ref 173, .ref 174, .ref 175, .ref 176, .ref 177, .ref 178, .ref 179, .ref 180, .ref 181, .ref 182, .ref 183, .int 0, .int 0, .int 0, .int 0, .int 0, .ref 184, .int 0, .int 0, .int 0, .int 127, .int 0, .int 0, .int 0, .int 0, .int 0, .ref 185, .int 0, .ref 186, .int 0, .int (Int32.ofNat h), .int (Int32.ofNat b), .int v3, .int 0, .int 0, .int 0, .int (-1), .int (-1), .int 0, .int 0, .ref 187, .int 0, .int 0, .int 0, .int 0, .int 0, .int 0, .int 0, .ref 188, .int 0, .ref 189, .int 0, .ref 190, .ref 191, .ref 192, .int 0, .int 0, .int 0, .int ((Int32.ofNat h) - 1), .int 0, .int 96, .int 0, .int 0, .int 0, .int 0, .int 0, .int 0, .int 0, .int 0, .int 0, .int 0, .int 0, .int 0, .int 0, .int 0, .int 0, .ref 193, .int 0, .int 0, .int 0, .ref 194, .ref 195, .int (-1), .int 0])) ∧ True) ∧ H1.length = 196 ∧ ∀ j : Nat, j ≠ 157 → j < 196 → H1[j]? = H[j]?
set_option maxRecDepth 100000 in
theorem mi_3 {sL : Nat} {sx : Nat → Int32} {cs : Nat → Nat → Option Int32} {H : am_H} {v3 : Int32} {h : Nat} {b : Nat} (hl : H.length = 196) (h157 : H[157]? = some (.inr (12, [.int 0, .ref 158, .int 0, .ref 159, .int 0, .int 0, .ref 160, .ref 161, .ref 162, .ref 163, .ref 164, .ref 165, .ref 166, .int 0, .int (-1), .int 0, .int 0, .int 0, .ref 167, .int 0, .int 0, .int (-1), .ref 168, .int 0, .ref 169, .int 0, .int 0, .int 0, .ref 170, .ref 171, .int 0, .int 0, .int (-1), .int (-1), .int 0, .int 0, .int 0, .ref 172, .ref 173, .ref 174, .ref 175, .ref 176, .ref 177, .ref 178, .ref 179, .ref 180, .ref 181, .ref 182, .ref 183, .int 0, .int 0, .int 0, .int 0, .int 0, .ref 184, .int 0, .int 0, .int 0, .int 127, .int 0, .int 0, .int 0, .int 0, .int 0, .ref 185, .int 0, .ref 186, .int 0, .int (Int32.ofNat h), .int (Int32.ofNat b), .int v3, .int 0, .int 0, .int 0, .int (-1), .int (-1), .int 0, .int 0, .ref 187, .int 0, .int 0, .int 0, .int 0, .int 0, .int 0, .int 0, .ref 188, .int 0, .ref 189, .int 0, .ref 190, .ref 191, .ref 192, .int 0, .int 0, .int 0, .int ((Int32.ofNat h) - 1), .int 0, .int 96, .int 0, .int 0, .int 0, .int 0, .int 0, .int 0, .int 0, .int 0, .int 0, .int 0, .int 0, .int 0, .int 0, .int 0, .int 0, .ref 193, .int 0, .int 0, .int 0, .ref 194, .ref 195, .int (-1), .int 0]))) :
    am_NW sL sx cs 362 0 [(0, .ref 157)] [] H 0 0 none 0 0 (mi_3F v3 h b H) := by
  refine en_s (am_nb (m := 2) (pc1 := 2) (ls1 := [(0, .ref 157)]) (st1 := [.ref 157, .ref 157]) (H1 := H) (k1 := 0) (n1 := 0) (by with_unfolding_all rfl)) ?_
  refine en_s (st_get rfl h157 rfl) ?_
  refine en_put rfl hl h157 rfl rfl rfl ?_
  intro H102 l102 f102 k102
  refine en_s (am_nb (m := 2) (pc1 := 10) (ls1 := [(0, .ref 157)]) (st1 := [.ref 157, .ref 157]) (H1 := H102) (k1 := 0) (n1 := 0) (by with_unfolding_all rfl)) ?_
  refine en_s (st_get rfl f102 rfl) ?_
  refine en_put rfl l102 f102 rfl rfl rfl ?_
  intro H103 l103 f103 k103
  refine en_s (am_nb (m := 2) (pc1 := 18) (ls1 := [(0, .ref 157)]) (st1 := [.ref 157, .ref 157]) (H1 := H103) (k1 := 0) (n1 := 0) (by with_unfolding_all rfl)) ?_
  refine en_s (st_get rfl f103 rfl) ?_
  refine en_put rfl l103 f103 rfl rfl rfl ?_
  intro H104 l104 f104 k104
  refine en_s (am_nb (m := 2) (pc1 := 26) (ls1 := [(0, .ref 157)]) (st1 := [.ref 157, .ref 157]) (H1 := H104) (k1 := 0) (n1 := 0) (by with_unfolding_all rfl)) ?_
  refine en_s (st_get rfl f104 rfl) ?_
  refine en_put rfl l104 f104 rfl rfl rfl ?_
  intro H105 l105 f105 k105
  refine en_s (am_nb (m := 2) (pc1 := 34) (ls1 := [(0, .ref 157)]) (st1 := [.ref 157, .ref 157]) (H1 := H105) (k1 := 0) (n1 := 0) (by with_unfolding_all rfl)) ?_
  refine en_s (st_get rfl f105 rfl) ?_
  refine en_put rfl l105 f105 rfl rfl rfl ?_
  intro H106 l106 f106 k106
  refine en_s (am_nb (m := 2) (pc1 := 42) (ls1 := [(0, .ref 157)]) (st1 := [.ref 157, .ref 157]) (H1 := H106) (k1 := 0) (n1 := 0) (by with_unfolding_all rfl)) ?_
  refine en_s (st_get rfl f106 rfl) ?_
  refine en_put rfl l106 f106 rfl rfl rfl ?_
  intro H107 l107 f107 k107
  refine en_s (am_nb (m := 3) (pc1 := 52) (ls1 := [(0, .ref 157)]) (st1 := [.int 16, .ref 157, .ref 157]) (H1 := H107) (k1 := 0) (n1 := 0) (by with_unfolding_all rfl)) ?_
  refine en_cv1 (as := [.int 16]) (rest := [.ref 157]) rfl rfl rfl rfl f107 rfl (by with_unfolding_all rfl) (by with_unfolding_all rfl) (mi_4 l107 f107) ?_
  rintro H108 ⟨-, l108, k108⟩
  refine en_put rfl l108 ((k108 157 (Nat.le_of_ble_eq_true rfl : 157 < 196)).trans f107) rfl rfl rfl ?_
  intro H109 l109 f109 k109
  have K7 : ∀ j : Nat, j < 196 → j ≠ 157 → H109[j]? = H108[j]? := fun j hj n157 => (k109 j n157)
  have K6 : ∀ j : Nat, j < 196 → j ≠ 157 → H109[j]? = H107[j]? := fun j hj n157 => (K7 j hj n157).trans (k108 j hj)
  have K5 : ∀ j : Nat, j < 196 → j ≠ 157 → H109[j]? = H106[j]? := fun j hj n157 => (K6 j hj n157).trans (k107 j n157)
  have K4 : ∀ j : Nat, j < 196 → j ≠ 157 → H109[j]? = H105[j]? := fun j hj n157 => (K5 j hj n157).trans (k106 j n157)
  have K3 : ∀ j : Nat, j < 196 → j ≠ 157 → H109[j]? = H104[j]? := fun j hj n157 => (K4 j hj n157).trans (k105 j n157)
  have K2 : ∀ j : Nat, j < 196 → j ≠ 157 → H109[j]? = H103[j]? := fun j hj n157 => (K3 j hj n157).trans (k104 j n157)
  have K1 : ∀ j : Nat, j < 196 → j ≠ 157 → H109[j]? = H102[j]? := fun j hj n157 => (K2 j hj n157).trans (k103 j n157)
  have K0 : ∀ j : Nat, j < 196 → j ≠ 157 → H109[j]? = H[j]? := fun j hj n157 => (K1 j hj n157).trans (k102 j n157)
  exact en_r (st_vret rfl rfl) ⟨⟨f109, trivial⟩, l109, fun j n157 hj => K0 j hj n157⟩

def mi_2F (v3 : Int32) (h : Nat) (b : Nat) (H H1 : am_H) : Prop := (am_is H1 190 (.inl (.int, (1920, .inl (am_fll (fun _ => 0) 0 1920 32)))) ∧ am_is H1 191 (.inl (.int, (24, .inl (fun _ => 0)))) ∧ am_is H1 192 (.inl (.boolean, (80, .inl (am_stp (fun _ => 0) 80)))) ∧ am_is H1 157 (.inr (12, [.int 0, .ref 158, .int 0, .ref 159, .int 0, .int 0, .ref 160, .ref 161, .ref 162, .ref 163, .ref 164, .ref 165, .ref 166, .int 0, .int (-1), .int 0, .int 0, .int 0, .ref 167, .int 0, .int 0, .int (-1), .ref 168, .int 0, .ref 169, .int 0, .int 0, .int 0, .ref 170, .ref 171, .int 0, .int 0, .int (-1), .int (-1), .int 0, .int 0, .int 0, .ref 172, .ref 173, .ref 174, .ref 175, .ref 176, .ref 177, .ref 178, .ref 179, .ref 180, .ref 181, .ref 182, .ref 183, .int 0, .int 0, .int 0, .int 0, .int 0, .ref 184, .int 0, .int 0, .int 0, .int 127, .int 0, .int 0, .int 0, .int 0, .int 0, .ref 185, .int 0, .ref 186, .int 0, .int (Int32.ofNat h), .int (Int32.ofNat b), .int v3, .int 0, .int 0, .int 0, .int (-1), .int (-1), .int 0, .int 0, .ref 187, .int 0, .int 0, .int 0, .int 0, .int 0, .int 0, .int 0, .ref 188, .int 0, .ref 189, .int 0, .ref 190, .ref 191, .ref 192, .int 0, .int 0, .int 0, .int ((Int32.ofNat h) - 1), .int 0, .int 96, .int 0, .int 0, .int 0, .int 0, .int 0, .int 0, .int 0, .int 0, .int 0, .int 0, .int 0, .int 0, .int 0, .int 0, .int 0, .ref 193, .int 0, .int 0, .int 0, .ref 194, .ref 195, .int (-1), .int 0])) ∧ True) ∧ H1.length = 196 ∧ ∀ j : Nat, j ≠ 157 → j ≠ 190 → j ≠ 191 → j ≠ 192 → j < 196 → H1[j]? = H[j]?
set_option maxRecDepth 100000 in
theorem mi_2 {sL : Nat} {sx : Nat → Int32} {cs : Nat → Nat → Option Int32} {H : am_H} {v3 : Int32} {h : Nat} {b : Nat} (hl : H.length = 196) (h157 : H[157]? = some (.inr (12, [.int 0, .ref 158, .int 0, .ref 159, .int 0, .int 0, .ref 160, .ref 161, .ref 162, .ref 163, .ref 164, .ref 165, .ref 166, .int 0, .int (-1), .int 0, .int 0, .int 0, .ref 167, .int 0, .int 0, .int (-1), .ref 168, .int 0, .ref 169, .int 0, .int 0, .int 0, .ref 170, .ref 171, .int 0, .int 0, .int (-1), .int (-1), .int 0, .int 0, .int 0, .ref 172, .ref 173, .ref 174, .ref 175, .ref 176, .ref 177, .ref 178, .ref 179, .ref 180, .ref 181, .ref 182, .ref 183, .int 0, .int 0, .int 0, .int 0, .int 0, .ref 184, .int 0, .int 0, .int 0, .int 127, .int 0, .int 0, .int 0, .int 0, .int 0, .ref 185, .int 0, .ref 186, .int 0, .int (Int32.ofNat h), .int (Int32.ofNat b), .int v3, .int 0, .int 0, .int 0, .int (-1), .int (-1), .int 0, .int 0, .ref 187, .int 0, .int 0, .int 0, .int 0, .int 0, .int 0, .int 0, .ref 188, .int 0, .ref 189, .int 0, .ref 190, .ref 191, .ref 192, .int 0, .int 0, .int 0, .int 0, .int 0, .int 0, .int 0, .int 0, .int 0, .int 0, .int 0, .int 0, .int 0, .int 0, .int 0, .int 0, .int 0, .int 0, .int 0, .int 0, .int 0, .ref 193, .int 0, .int 0, .int 0, .ref 194, .ref 195, .int (-1), .int 0]))) (h190 : H[190]? = some (.inl (.int, (1920, .inl (fun _ => 0))))) (h191 : H[191]? = some (.inl (.int, (24, .inl (fun _ => 0))))) (h192 : H[192]? = some (.inl (.boolean, (80, .inl (fun _ => 0))))) :
    am_NW sL sx cs 361 0 [(0, .ref 157)] [] H 0 0 none 0 0 (mi_2F v3 h b H) := by
  refine en_s (am_nb (m := 2) (pc1 := 2) (ls1 := [(1, .int 0), (0, .ref 157)]) (st1 := []) (H1 := H) (k1 := 0) (n1 := 0) (by with_unfolding_all rfl)) ?_
  refine en_set (ma_ok h157 rfl h190 (Nat.ne_of_beq_eq_false rfl : 190 ≠ 157)) hl h190 ?_
  intro H88 l88 f88 k88
  refine en_s (am_nb (m := 2) (pc1 := 25) (ls1 := [(1, .int 0), (0, .ref 157)]) (st1 := []) (H1 := H88) (k1 := 0) (n1 := 0) (by with_unfolding_all rfl)) ?_
  refine en_set (mb_ok ((k88 157 (Nat.ne_of_beq_eq_false rfl : 157 ≠ 190)).trans h157) rfl ((k88 191 (Nat.ne_of_beq_eq_false rfl : 191 ≠ 190)).trans h191) (Nat.ne_of_beq_eq_false rfl : 191 ≠ 157)) l88 ((k88 191 (Nat.ne_of_beq_eq_false rfl : 191 ≠ 190)).trans h191) ?_
  intro H89 l89 f89 k89
  rw [am_fll_z] at f89
  refine en_s (am_nb (m := 2) (pc1 := 46) (ls1 := [(1, .int 0), (0, .ref 157)]) (st1 := []) (H1 := H89) (k1 := 0) (n1 := 0) (by with_unfolding_all rfl)) ?_
  refine en_set (mc_ok ((k89 157 (Nat.ne_of_beq_eq_false rfl : 157 ≠ 191)).trans ((k88 157 (Nat.ne_of_beq_eq_false rfl : 157 ≠ 190)).trans h157)) rfl ((k89 192 (Nat.ne_of_beq_eq_false rfl : 192 ≠ 191)).trans ((k88 192 (Nat.ne_of_beq_eq_false rfl : 192 ≠ 190)).trans h192)) (Nat.ne_of_beq_eq_false rfl : 192 ≠ 157)) l89 ((k89 192 (Nat.ne_of_beq_eq_false rfl : 192 ≠ 191)).trans ((k88 192 (Nat.ne_of_beq_eq_false rfl : 192 ≠ 190)).trans h192)) ?_
  intro H90 l90 f90 k90
  refine en_s (am_nb (m := 2) (pc1 := 82) (ls1 := [(1, .int 80), (0, .ref 157)]) (st1 := [.int 0, .ref 157]) (H1 := H90) (k1 := 0) (n1 := 0) (by with_unfolding_all rfl)) ?_
  refine en_put rfl l90 ((k90 157 (Nat.ne_of_beq_eq_false rfl : 157 ≠ 192)).trans ((k89 157 (Nat.ne_of_beq_eq_false rfl : 157 ≠ 191)).trans ((k88 157 (Nat.ne_of_beq_eq_false rfl : 157 ≠ 190)).trans h157))) rfl rfl rfl ?_
  intro H91 l91 f91 k91
  refine en_s (am_nb (m := 2) (pc1 := 87) (ls1 := [(1, .int 80), (0, .ref 157)]) (st1 := [.int 0, .ref 157]) (H1 := H91) (k1 := 0) (n1 := 0) (by with_unfolding_all rfl)) ?_
  refine en_put rfl l91 f91 rfl rfl rfl ?_
  intro H92 l92 f92 k92
  refine en_s (am_nb (m := 2) (pc1 := 92) (ls1 := [(1, .int 80), (0, .ref 157)]) (st1 := [.int 0, .ref 157]) (H1 := H92) (k1 := 0) (n1 := 0) (by with_unfolding_all rfl)) ?_
  refine en_put rfl l92 f92 rfl rfl rfl ?_
  intro H93 l93 f93 k93
  refine en_s (am_nb (m := 2) (pc1 := 97) (ls1 := [(1, .int 80), (0, .ref 157)]) (st1 := [.int 0, .ref 157]) (H1 := H93) (k1 := 0) (n1 := 0) (by with_unfolding_all rfl)) ?_
  refine en_put rfl l93 f93 rfl rfl rfl ?_
  intro H94 l94 f94 k94
  refine en_s (am_nb (m := 2) (pc1 := 102) (ls1 := [(1, .int 80), (0, .ref 157)]) (st1 := [.ref 157, .ref 157]) (H1 := H94) (k1 := 0) (n1 := 0) (by with_unfolding_all rfl)) ?_
  refine en_s (st_get rfl f94 rfl) ?_
  refine en_s (am_nb (m := 2) (pc1 := 107) (ls1 := [(1, .int 80), (0, .ref 157)]) (st1 := [.int ((Int32.ofNat h) - 1), .ref 157]) (H1 := H94) (k1 := 0) (n1 := 0) (by with_unfolding_all rfl)) ?_
  refine en_put rfl l94 f94 rfl rfl rfl ?_
  intro H95 l95 f95 k95
  refine en_s (am_nb (m := 2) (pc1 := 113) (ls1 := [(1, .int 80), (0, .ref 157)]) (st1 := [.int 96, .ref 157]) (H1 := H95) (k1 := 0) (n1 := 0) (by with_unfolding_all rfl)) ?_
  refine en_put rfl l95 f95 rfl rfl rfl ?_
  intro H96 l96 f96 k96
  refine en_s (am_nb (m := 2) (pc1 := 118) (ls1 := [(1, .int 80), (0, .ref 157)]) (st1 := [.int 0, .ref 157]) (H1 := H96) (k1 := 0) (n1 := 0) (by with_unfolding_all rfl)) ?_
  refine en_put rfl l96 f96 rfl rfl rfl ?_
  intro H97 l97 f97 k97
  refine en_s (am_nb (m := 2) (pc1 := 123) (ls1 := [(1, .int 80), (0, .ref 157)]) (st1 := [.int 0, .ref 157]) (H1 := H97) (k1 := 0) (n1 := 0) (by with_unfolding_all rfl)) ?_
  refine en_put rfl l97 f97 rfl rfl rfl ?_
  intro H98 l98 f98 k98
  refine en_s (am_nb (m := 2) (pc1 := 128) (ls1 := [(1, .int 80), (0, .ref 157)]) (st1 := [.int 0, .ref 157]) (H1 := H98) (k1 := 0) (n1 := 0) (by with_unfolding_all rfl)) ?_
  refine en_put rfl l98 f98 rfl rfl rfl ?_
  intro H99 l99 f99 k99
  refine en_s (am_nb (m := 2) (pc1 := 133) (ls1 := [(1, .int 80), (0, .ref 157)]) (st1 := [.int 0, .ref 157]) (H1 := H99) (k1 := 0) (n1 := 0) (by with_unfolding_all rfl)) ?_
  refine en_put rfl l99 f99 rfl rfl rfl ?_
  intro H100 l100 f100 k100
  refine en_s (am_nb (m := 2) (pc1 := 138) (ls1 := [(1, .int 80), (0, .ref 157)]) (st1 := [.int 0, .ref 157]) (H1 := H100) (k1 := 0) (n1 := 0) (by with_unfolding_all rfl)) ?_
  refine en_put rfl l100 f100 rfl rfl rfl ?_
  intro H101 l101 f101 k101
  refine en_s (am_nb (m := 1) (pc1 := 142) (ls1 := [(1, .int 80), (0, .ref 157)]) (st1 := [.ref 157]) (H1 := H101) (k1 := 0) (n1 := 0) (by with_unfolding_all rfl)) ?_
  refine en_cv0 (as := []) (rest := []) rfl rfl rfl rfl f101 rfl (by with_unfolding_all rfl) (by with_unfolding_all rfl) (mi_3 l101 f101) ?_
  rintro H110 ⟨⟨f110_157, -⟩, l110, k110⟩
  have K14 : ∀ j : Nat, j < 196 → j ≠ 157 → H110[j]? = H101[j]? := fun j hj n157 => (k110 j n157 hj)
  have K13 : ∀ j : Nat, j < 196 → j ≠ 157 → H110[j]? = H100[j]? := fun j hj n157 => (K14 j hj n157).trans (k101 j n157)
  have K12 : ∀ j : Nat, j < 196 → j ≠ 157 → H110[j]? = H99[j]? := fun j hj n157 => (K13 j hj n157).trans (k100 j n157)
  have K11 : ∀ j : Nat, j < 196 → j ≠ 157 → H110[j]? = H98[j]? := fun j hj n157 => (K12 j hj n157).trans (k99 j n157)
  have K10 : ∀ j : Nat, j < 196 → j ≠ 157 → H110[j]? = H97[j]? := fun j hj n157 => (K11 j hj n157).trans (k98 j n157)
  have K9 : ∀ j : Nat, j < 196 → j ≠ 157 → H110[j]? = H96[j]? := fun j hj n157 => (K10 j hj n157).trans (k97 j n157)
  have K8 : ∀ j : Nat, j < 196 → j ≠ 157 → H110[j]? = H95[j]? := fun j hj n157 => (K9 j hj n157).trans (k96 j n157)
  have K7 : ∀ j : Nat, j < 196 → j ≠ 157 → H110[j]? = H94[j]? := fun j hj n157 => (K8 j hj n157).trans (k95 j n157)
  have K6 : ∀ j : Nat, j < 196 → j ≠ 157 → H110[j]? = H93[j]? := fun j hj n157 => (K7 j hj n157).trans (k94 j n157)
  have K5 : ∀ j : Nat, j < 196 → j ≠ 157 → H110[j]? = H92[j]? := fun j hj n157 => (K6 j hj n157).trans (k93 j n157)
  have K4 : ∀ j : Nat, j < 196 → j ≠ 157 → H110[j]? = H91[j]? := fun j hj n157 => (K5 j hj n157).trans (k92 j n157)
  have K3 : ∀ j : Nat, j < 196 → j ≠ 157 → H110[j]? = H90[j]? := fun j hj n157 => (K4 j hj n157).trans (k91 j n157)
  have K2 : ∀ j : Nat, j < 196 → j ≠ 157 → j ≠ 192 → H110[j]? = H89[j]? := fun j hj n157 n192 => (K3 j hj n157).trans (k90 j n192)
  have K1 : ∀ j : Nat, j < 196 → j ≠ 157 → j ≠ 191 → j ≠ 192 → H110[j]? = H88[j]? := fun j hj n157 n191 n192 => (K2 j hj n157 n192).trans (k89 j n191)
  have K0 : ∀ j : Nat, j < 196 → j ≠ 157 → j ≠ 190 → j ≠ 191 → j ≠ 192 → H110[j]? = H[j]? := fun j hj n157 n190 n191 n192 => (K1 j hj n157 n191 n192).trans (k88 j n190)
  exact en_r (st_vret rfl rfl) ⟨⟨((K1 190 (Nat.le_of_ble_eq_true rfl : 190 < 196) (Nat.ne_of_beq_eq_false rfl : 190 ≠ 157) (Nat.ne_of_beq_eq_false rfl : 190 ≠ 191) (Nat.ne_of_beq_eq_false rfl : 190 ≠ 192)).trans f88), ((K2 191 (Nat.le_of_ble_eq_true rfl : 191 < 196) (Nat.ne_of_beq_eq_false rfl : 191 ≠ 157) (Nat.ne_of_beq_eq_false rfl : 191 ≠ 192)).trans f89), ((K3 192 (Nat.le_of_ble_eq_true rfl : 192 < 196) (Nat.ne_of_beq_eq_false rfl : 192 ≠ 157)).trans f90), f110_157, trivial⟩, l110, fun j n157 n190 n191 n192 hj => K0 j hj n157 n190 n191 n192⟩

def mi_1F (v3 : Int32) (h : Nat) (b : Nat) (H H1 : am_H) : Prop := (am_is H1 158 (.inl (.byte, (3000, .inl (fun _ => 0)))) ∧ am_is H1 157 (.inr (12, [.int 0, .ref 158, .int 0, .ref 159, .int 0, .int 0, .ref 160, .ref 161, .ref 162, .ref 163, .ref 164, .ref 165, .ref 166, .int 0, .int (-1), .int 0, .int 0, .int 0, .ref 167, .int 0, .int 0, .int (-1), .ref 168, .int 0, .ref 169, .int 0, .int 0, .int 0, .ref 170, .ref 171, .int 0, .int 0, .int (-1), .int (-1), .int 0, .int 0, .int 0, .ref 172, .ref 173, .ref 174, .ref 175, .ref 176, .ref 177, .ref 178, .ref 179, .ref 180, .ref 181, .ref 182, .ref 183, .int 0, .int 0, .int 0, .int 0, .int 0, .ref 184, .int 0, .int 0, .int 0, .int 127, .int 0, .int 0, .int 0, .int 0, .int 0, .ref 185, .int 0, .ref 186, .int 0, .int (Int32.ofNat h), .int (Int32.ofNat b), .int v3, .int 0, .int 0, .int 0, .int (-1), .int (-1), .int 0, .int 0, .ref 187, .int 0, .int 0, .int 0, .int 0, .int 0, .int 0, .int 0, .ref 188, .int 0, .ref 189, .int 0, .ref 190, .ref 191, .ref 192, .int 0, .int 0, .int 0, .int ((Int32.ofNat h) - 1), .int 0, .int 96, .int 0, .int 0, .int 0, .int 0, .int 0, .int 0, .int 0, .int 0, .int 0, .int 0, .int 0, .int 0, .int 0, .int 0, .int 0, .ref 193, .int 0, .int 0, .int 0, .ref 194, .ref 195, .int (-1), .int 0])) ∧ am_is H1 159 (.inl (.byte, (300, .inl (fun _ => 0)))) ∧ am_is H1 160 (.inl (.int, (12, .inl (fun _ => 0)))) ∧ am_is H1 161 (.inl (.byte, (576, .inl (fun _ => 0)))) ∧ am_is H1 162 (.inl (.int, (48, .inl (fun _ => 0)))) ∧ am_is H1 163 (.inl (.byte, (468, .inl (fun _ => 0)))) ∧ am_is H1 164 (.inl (.int, (468, .inl (fun _ => 0)))) ∧ am_is H1 165 (.inl (.byte, (18720, .inl (fun _ => 0)))) ∧ am_is H1 166 (.inl (.int, (468, .inl (fun _ => 0)))) ∧ am_is H1 167 (.inl (.int, (4, .inl (fun _ => 0)))) ∧ am_is H1 168 (.inl (.byte, (60, .inl (fun _ => 0)))) ∧ am_is H1 169 (.inl (.int, (8, .inl (fun _ => 0)))) ∧ am_is H1 170 (.inl (.int, (1920, .inl (fun _ => 0)))) ∧ am_is H1 171 (.inl (.int, (1920, .inl (fun _ => 0)))) ∧ am_is H1 172 (.inl (.boolean, (8, .inl (fun _ => 0)))) ∧ am_is H1 173 (.inl (.int, (8, .inl (fun _ => 0)))) ∧ am_is H1 174 (.inl (.int, (8, .inl (fun _ => 0)))) ∧ am_is H1 175 (.inl (.int, (8, .inl (fun _ => 0)))) ∧ am_is H1 176 (.inl (.int, (8, .inl (fun _ => 0)))) ∧ am_is H1 177 (.inl (.int, (8, .inl (fun _ => 0)))) ∧ am_is H1 178 (.inl (.int, (8, .inl (fun _ => 0)))) ∧ am_is H1 179 (.inl (.int, (8, .inl (fun _ => 0)))) ∧ am_is H1 180 (.inl (.boolean, (8, .inl (fun _ => 0)))) ∧ am_is H1 181 (.inl (.int, (15360, .inl (fun _ => 0)))) ∧ am_is H1 182 (.inl (.byte, (6000, .inl (fun _ => 0)))) ∧ am_is H1 183 (.inl (.int, (1920, .inl (fun _ => 0)))) ∧ am_is H1 184 (.inl (.byte, (8000, .inl (fun _ => 0)))) ∧ am_is H1 185 (.inl (.byte, (100, .inl (fun _ => 0)))) ∧ am_is H1 186 (.inl (.int, (300, .inl (fun _ => 0)))) ∧ am_is H1 187 (.inl (.int, (64, .inl (fun _ => 0)))) ∧ am_is H1 188 (.inl (.byte, (32, .inl (fun _ => 0)))) ∧ am_is H1 189 (.inl (.int, (32, .inl (fun _ => 0)))) ∧ am_is H1 190 (.inl (.int, (1920, .inl (am_fll (fun _ => 0) 0 1920 32)))) ∧ am_is H1 191 (.inl (.int, (24, .inl (fun _ => 0)))) ∧ am_is H1 192 (.inl (.boolean, (80, .inl (am_stp (fun _ => 0) 80)))) ∧ am_is H1 193 (.inl (.int, (8, .inl (fun _ => 0)))) ∧ am_is H1 194 (.inl (.boolean, (127, .inl (fun _ => 0)))) ∧ am_is H1 195 (.inl (.boolean, (127, .inl (fun _ => 0)))) ∧ True) ∧ H1.length = 196 ∧ ∀ j : Nat, j ≠ 157 → j < 158 → H1[j]? = H[j]?
set_option maxRecDepth 100000 in
theorem mi_1 {sL : Nat} {sx : Nat → Int32} {cs : Nat → Nat → Option Int32} {H : am_H} {x1 : Int32} {x2 : Int32} {x3 : Int32} {v3 : Int32} {h : Nat} {b : Nat} (hl : H.length = 158) (h157 : H[157]? = some (.inr (12, [.int 0, .null, .int 0, .null, .int 0, .int 0, .null, .null, .null, .null, .null, .null, .null, .int 0, .int 0, .int 0, .int 0, .int 0, .null, .int 0, .int 0, .int 0, .null, .int 0, .null, .int 0, .int 0, .int 0, .null, .null, .int 0, .int 0, .int 0, .int 0, .int 0, .int 0, .int 0, .null, .null, .null, .null, .null, .null, .null, .null, .null, .null, .null, .null, .int 0, .int 0, .int 0, .int 0, .int 0, .null, .int 0, .int 0, .int 0, .int 0, .int 0, .int 0, .int 0, .int 0, .int 0, .null, .int 0, .null, .int 0, .int 0, .int 0, .int 0, .int 0, .int 0, .int 0, .int 0, .int 0, .int 0, .int 0, .null, .int 0, .int 0, .int 0, .int 0, .int 0, .int 0, .int 0, .null, .int 0, .null, .int 0, .null, .null, .null, .int 0, .int 0, .int 0, .int 0, .int 0, .int 0, .int 0, .int 0, .int 0, .int 0, .int 0, .int 0, .int 0, .int 0, .int 0, .int 0, .int 0, .int 0, .int 0, .int 0, .int 0, .null, .int 0, .int 0, .int 0, .null, .null, .int 0, .int 0]))) (em1 : (if (4 : Int32) < (if x1 < (24 : Int32) then x1 else (24 : Int32)) then (if x1 < (24 : Int32) then x1 else (24 : Int32)) else (4 : Int32)) = Int32.ofNat h) (em2 : (if (16 : Int32) < (if x2 < (80 : Int32) then x2 else (80 : Int32)) then (if x2 < (80 : Int32) then x2 else (80 : Int32)) else (16 : Int32)) / 2 * 2 = Int32.ofNat b) (em3 : (if (1 : Int32) < (if x3 < (16 : Int32) then x3 else (16 : Int32)) then (if x3 < (16 : Int32) then x3 else (16 : Int32)) else (1 : Int32)) = v3) :
    am_NW sL sx cs 360 0 [(0, .ref 157), (1, .int x1), (2, .int x2), (3, .int x3)] [] H 0 0 none 38 62138 (mi_1F v3 h b H) := by
  refine en_s (am_nb (m := 4) (pc1 := 8) (ls1 := [(0, .ref 157), (1, .int x1), (2, .int x2), (3, .int x3)]) (st1 := [.int 3000, .ref 157]) (H1 := H) (k1 := 0) (n1 := 0) (by with_unfolding_all rfl)) ?_
  refine en_newa (N := 158) (m := 3000) (ty := .byte) rfl hl rfl (by decide) (by with_unfolding_all rfl) rfl rfl ?_
  intro H1 l1 f1 k1
  refine en_put rfl l1 ((k1 157 (Nat.le_of_ble_eq_true rfl : 157 < 158)).trans h157) rfl rfl rfl ?_
  intro H2 l2 f2 k2
  refine en_s (am_nb (m := 2) (pc1 := 17) (ls1 := [(0, .ref 157), (1, .int x1), (2, .int x2), (3, .int x3)]) (st1 := [.int 300, .ref 157]) (H1 := H2) (k1 := 1) (n1 := 3000) (by with_unfolding_all rfl)) ?_
  refine en_newa (N := 159) (m := 300) (ty := .byte) rfl l2 rfl (by decide) (by with_unfolding_all rfl) rfl rfl ?_
  intro H3 l3 f3 k3
  refine en_put rfl l3 ((k3 157 (Nat.le_of_ble_eq_true rfl : 157 < 159)).trans f2) rfl rfl rfl ?_
  intro H4 l4 f4 k4
  refine en_s (am_nb (m := 2) (pc1 := 25) (ls1 := [(0, .ref 157), (1, .int x1), (2, .int x2), (3, .int x3)]) (st1 := [.int 12, .ref 157]) (H1 := H4) (k1 := 2) (n1 := 3300) (by with_unfolding_all rfl)) ?_
  refine en_newa (N := 160) (m := 12) (ty := .int) rfl l4 rfl (by decide) (by with_unfolding_all rfl) rfl rfl ?_
  intro H5 l5 f5 k5
  refine en_put rfl l5 ((k5 157 (Nat.le_of_ble_eq_true rfl : 157 < 160)).trans f4) rfl rfl rfl ?_
  intro H6 l6 f6 k6
  refine en_s (am_nb (m := 2) (pc1 := 34) (ls1 := [(0, .ref 157), (1, .int x1), (2, .int x2), (3, .int x3)]) (st1 := [.int 576, .ref 157]) (H1 := H6) (k1 := 3) (n1 := 3312) (by with_unfolding_all rfl)) ?_
  refine en_newa (N := 161) (m := 576) (ty := .byte) rfl l6 rfl (by decide) (by with_unfolding_all rfl) rfl rfl ?_
  intro H7 l7 f7 k7
  refine en_put rfl l7 ((k7 157 (Nat.le_of_ble_eq_true rfl : 157 < 161)).trans f6) rfl rfl rfl ?_
  intro H8 l8 f8 k8
  refine en_s (am_nb (m := 2) (pc1 := 42) (ls1 := [(0, .ref 157), (1, .int x1), (2, .int x2), (3, .int x3)]) (st1 := [.int 48, .ref 157]) (H1 := H8) (k1 := 4) (n1 := 3888) (by with_unfolding_all rfl)) ?_
  refine en_newa (N := 162) (m := 48) (ty := .int) rfl l8 rfl (by decide) (by with_unfolding_all rfl) rfl rfl ?_
  intro H9 l9 f9 k9
  refine en_put rfl l9 ((k9 157 (Nat.le_of_ble_eq_true rfl : 157 < 162)).trans f8) rfl rfl rfl ?_
  intro H10 l10 f10 k10
  refine en_s (am_nb (m := 2) (pc1 := 51) (ls1 := [(0, .ref 157), (1, .int x1), (2, .int x2), (3, .int x3)]) (st1 := [.int 468, .ref 157]) (H1 := H10) (k1 := 5) (n1 := 3936) (by with_unfolding_all rfl)) ?_
  refine en_newa (N := 163) (m := 468) (ty := .byte) rfl l10 rfl (by decide) (by with_unfolding_all rfl) rfl rfl ?_
  intro H11 l11 f11 k11
  refine en_put rfl l11 ((k11 157 (Nat.le_of_ble_eq_true rfl : 157 < 163)).trans f10) rfl rfl rfl ?_
  intro H12 l12 f12 k12
  refine en_s (am_nb (m := 2) (pc1 := 60) (ls1 := [(0, .ref 157), (1, .int x1), (2, .int x2), (3, .int x3)]) (st1 := [.int 468, .ref 157]) (H1 := H12) (k1 := 6) (n1 := 4404) (by with_unfolding_all rfl)) ?_
  refine en_newa (N := 164) (m := 468) (ty := .int) rfl l12 rfl (by decide) (by with_unfolding_all rfl) rfl rfl ?_
  intro H13 l13 f13 k13
  refine en_put rfl l13 ((k13 157 (Nat.le_of_ble_eq_true rfl : 157 < 164)).trans f12) rfl rfl rfl ?_
  intro H14 l14 f14 k14
  refine en_s (am_nb (m := 2) (pc1 := 69) (ls1 := [(0, .ref 157), (1, .int x1), (2, .int x2), (3, .int x3)]) (st1 := [.int 18720, .ref 157]) (H1 := H14) (k1 := 7) (n1 := 4872) (by with_unfolding_all rfl)) ?_
  refine en_newa (N := 165) (m := 18720) (ty := .byte) rfl l14 rfl (by decide) (by with_unfolding_all rfl) rfl rfl ?_
  intro H15 l15 f15 k15
  refine en_put rfl l15 ((k15 157 (Nat.le_of_ble_eq_true rfl : 157 < 165)).trans f14) rfl rfl rfl ?_
  intro H16 l16 f16 k16
  refine en_s (am_nb (m := 2) (pc1 := 78) (ls1 := [(0, .ref 157), (1, .int x1), (2, .int x2), (3, .int x3)]) (st1 := [.int 468, .ref 157]) (H1 := H16) (k1 := 8) (n1 := 23592) (by with_unfolding_all rfl)) ?_
  refine en_newa (N := 166) (m := 468) (ty := .int) rfl l16 rfl (by decide) (by with_unfolding_all rfl) rfl rfl ?_
  intro H17 l17 f17 k17
  refine en_put rfl l17 ((k17 157 (Nat.le_of_ble_eq_true rfl : 157 < 166)).trans f16) rfl rfl rfl ?_
  intro H18 l18 f18 k18
  refine en_s (am_nb (m := 2) (pc1 := 85) (ls1 := [(0, .ref 157), (1, .int x1), (2, .int x2), (3, .int x3)]) (st1 := [.int (-1), .ref 157]) (H1 := H18) (k1 := 9) (n1 := 24060) (by with_unfolding_all rfl)) ?_
  refine en_put rfl l18 f18 rfl rfl rfl ?_
  intro H19 l19 f19 k19
  refine en_s (am_nb (m := 2) (pc1 := 90) (ls1 := [(0, .ref 157), (1, .int x1), (2, .int x2), (3, .int x3)]) (st1 := [.int 4, .ref 157]) (H1 := H19) (k1 := 9) (n1 := 24060) (by with_unfolding_all rfl)) ?_
  refine en_newa (N := 167) (m := 4) (ty := .int) rfl l19 rfl (by decide) (by with_unfolding_all rfl) rfl rfl ?_
  intro H20 l20 f20 k20
  refine en_put rfl l20 ((k20 157 (Nat.le_of_ble_eq_true rfl : 157 < 167)).trans f19) rfl rfl rfl ?_
  intro H21 l21 f21 k21
  refine en_s (am_nb (m := 2) (pc1 := 97) (ls1 := [(0, .ref 157), (1, .int x1), (2, .int x2), (3, .int x3)]) (st1 := [.int (-1), .ref 157]) (H1 := H21) (k1 := 10) (n1 := 24064) (by with_unfolding_all rfl)) ?_
  refine en_put rfl l21 f21 rfl rfl rfl ?_
  intro H22 l22 f22 k22
  refine en_s (am_nb (m := 2) (pc1 := 103) (ls1 := [(0, .ref 157), (1, .int x1), (2, .int x2), (3, .int x3)]) (st1 := [.int 60, .ref 157]) (H1 := H22) (k1 := 10) (n1 := 24064) (by with_unfolding_all rfl)) ?_
  refine en_newa (N := 168) (m := 60) (ty := .byte) rfl l22 rfl (by decide) (by with_unfolding_all rfl) rfl rfl ?_
  intro H23 l23 f23 k23
  refine en_put rfl l23 ((k23 157 (Nat.le_of_ble_eq_true rfl : 157 < 168)).trans f22) rfl rfl rfl ?_
  intro H24 l24 f24 k24
  refine en_s (am_nb (m := 2) (pc1 := 111) (ls1 := [(0, .ref 157), (1, .int x1), (2, .int x2), (3, .int x3)]) (st1 := [.int 8, .ref 157]) (H1 := H24) (k1 := 11) (n1 := 24124) (by with_unfolding_all rfl)) ?_
  refine en_newa (N := 169) (m := 8) (ty := .int) rfl l24 rfl (by decide) (by with_unfolding_all rfl) rfl rfl ?_
  intro H25 l25 f25 k25
  refine en_put rfl l25 ((k25 157 (Nat.le_of_ble_eq_true rfl : 157 < 169)).trans f24) rfl rfl rfl ?_
  intro H26 l26 f26 k26
  refine en_s (am_nb (m := 2) (pc1 := 120) (ls1 := [(0, .ref 157), (1, .int x1), (2, .int x2), (3, .int x3)]) (st1 := [.int 1920, .ref 157]) (H1 := H26) (k1 := 12) (n1 := 24132) (by with_unfolding_all rfl)) ?_
  refine en_newa (N := 170) (m := 1920) (ty := .int) rfl l26 rfl (by decide) (by with_unfolding_all rfl) rfl rfl ?_
  intro H27 l27 f27 k27
  refine en_put rfl l27 ((k27 157 (Nat.le_of_ble_eq_true rfl : 157 < 170)).trans f26) rfl rfl rfl ?_
  intro H28 l28 f28 k28
  refine en_s (am_nb (m := 2) (pc1 := 129) (ls1 := [(0, .ref 157), (1, .int x1), (2, .int x2), (3, .int x3)]) (st1 := [.int 1920, .ref 157]) (H1 := H28) (k1 := 13) (n1 := 26052) (by with_unfolding_all rfl)) ?_
  refine en_newa (N := 171) (m := 1920) (ty := .int) rfl l28 rfl (by decide) (by with_unfolding_all rfl) rfl rfl ?_
  intro H29 l29 f29 k29
  refine en_put rfl l29 ((k29 157 (Nat.le_of_ble_eq_true rfl : 157 < 171)).trans f28) rfl rfl rfl ?_
  intro H30 l30 f30 k30
  refine en_s (am_nb (m := 2) (pc1 := 136) (ls1 := [(0, .ref 157), (1, .int x1), (2, .int x2), (3, .int x3)]) (st1 := [.int (-1), .ref 157]) (H1 := H30) (k1 := 14) (n1 := 27972) (by with_unfolding_all rfl)) ?_
  refine en_put rfl l30 f30 rfl rfl rfl ?_
  intro H31 l31 f31 k31
  refine en_s (am_nb (m := 2) (pc1 := 141) (ls1 := [(0, .ref 157), (1, .int x1), (2, .int x2), (3, .int x3)]) (st1 := [.int (-1), .ref 157]) (H1 := H31) (k1 := 14) (n1 := 27972) (by with_unfolding_all rfl)) ?_
  refine en_put rfl l31 f31 rfl rfl rfl ?_
  intro H32 l32 f32 k32
  refine en_s (am_nb (m := 2) (pc1 := 147) (ls1 := [(0, .ref 157), (1, .int x1), (2, .int x2), (3, .int x3)]) (st1 := [.int 8, .ref 157]) (H1 := H32) (k1 := 14) (n1 := 27972) (by with_unfolding_all rfl)) ?_
  refine en_newa (N := 172) (m := 8) (ty := .boolean) rfl l32 rfl (by decide) (by with_unfolding_all rfl) rfl rfl ?_
  intro H33 l33 f33 k33
  refine en_put rfl l33 ((k33 157 (Nat.le_of_ble_eq_true rfl : 157 < 172)).trans f32) rfl rfl rfl ?_
  intro H34 l34 f34 k34
  refine en_s (am_nb (m := 2) (pc1 := 155) (ls1 := [(0, .ref 157), (1, .int x1), (2, .int x2), (3, .int x3)]) (st1 := [.int 8, .ref 157]) (H1 := H34) (k1 := 15) (n1 := 27980) (by with_unfolding_all rfl)) ?_
  refine en_newa (N := 173) (m := 8) (ty := .int) rfl l34 rfl (by decide) (by with_unfolding_all rfl) rfl rfl ?_
  intro H35 l35 f35 k35
  refine en_put rfl l35 ((k35 157 (Nat.le_of_ble_eq_true rfl : 157 < 173)).trans f34) rfl rfl rfl ?_
  intro H36 l36 f36 k36
  refine en_s (am_nb (m := 2) (pc1 := 163) (ls1 := [(0, .ref 157), (1, .int x1), (2, .int x2), (3, .int x3)]) (st1 := [.int 8, .ref 157]) (H1 := H36) (k1 := 16) (n1 := 27988) (by with_unfolding_all rfl)) ?_
  refine en_newa (N := 174) (m := 8) (ty := .int) rfl l36 rfl (by decide) (by with_unfolding_all rfl) rfl rfl ?_
  intro H37 l37 f37 k37
  refine en_put rfl l37 ((k37 157 (Nat.le_of_ble_eq_true rfl : 157 < 174)).trans f36) rfl rfl rfl ?_
  intro H38 l38 f38 k38
  refine en_s (am_nb (m := 2) (pc1 := 171) (ls1 := [(0, .ref 157), (1, .int x1), (2, .int x2), (3, .int x3)]) (st1 := [.int 8, .ref 157]) (H1 := H38) (k1 := 17) (n1 := 27996) (by with_unfolding_all rfl)) ?_
  refine en_newa (N := 175) (m := 8) (ty := .int) rfl l38 rfl (by decide) (by with_unfolding_all rfl) rfl rfl ?_
  intro H39 l39 f39 k39
  refine en_put rfl l39 ((k39 157 (Nat.le_of_ble_eq_true rfl : 157 < 175)).trans f38) rfl rfl rfl ?_
  intro H40 l40 f40 k40
  refine en_s (am_nb (m := 2) (pc1 := 179) (ls1 := [(0, .ref 157), (1, .int x1), (2, .int x2), (3, .int x3)]) (st1 := [.int 8, .ref 157]) (H1 := H40) (k1 := 18) (n1 := 28004) (by with_unfolding_all rfl)) ?_
  refine en_newa (N := 176) (m := 8) (ty := .int) rfl l40 rfl (by decide) (by with_unfolding_all rfl) rfl rfl ?_
  intro H41 l41 f41 k41
  refine en_put rfl l41 ((k41 157 (Nat.le_of_ble_eq_true rfl : 157 < 176)).trans f40) rfl rfl rfl ?_
  intro H42 l42 f42 k42
  refine en_s (am_nb (m := 2) (pc1 := 187) (ls1 := [(0, .ref 157), (1, .int x1), (2, .int x2), (3, .int x3)]) (st1 := [.int 8, .ref 157]) (H1 := H42) (k1 := 19) (n1 := 28012) (by with_unfolding_all rfl)) ?_
  refine en_newa (N := 177) (m := 8) (ty := .int) rfl l42 rfl (by decide) (by with_unfolding_all rfl) rfl rfl ?_
  intro H43 l43 f43 k43
  refine en_put rfl l43 ((k43 157 (Nat.le_of_ble_eq_true rfl : 157 < 177)).trans f42) rfl rfl rfl ?_
  intro H44 l44 f44 k44
  refine en_s (am_nb (m := 2) (pc1 := 195) (ls1 := [(0, .ref 157), (1, .int x1), (2, .int x2), (3, .int x3)]) (st1 := [.int 8, .ref 157]) (H1 := H44) (k1 := 20) (n1 := 28020) (by with_unfolding_all rfl)) ?_
  refine en_newa (N := 178) (m := 8) (ty := .int) rfl l44 rfl (by decide) (by with_unfolding_all rfl) rfl rfl ?_
  intro H45 l45 f45 k45
  refine en_put rfl l45 ((k45 157 (Nat.le_of_ble_eq_true rfl : 157 < 178)).trans f44) rfl rfl rfl ?_
  intro H46 l46 f46 k46
  refine en_s (am_nb (m := 2) (pc1 := 203) (ls1 := [(0, .ref 157), (1, .int x1), (2, .int x2), (3, .int x3)]) (st1 := [.int 8, .ref 157]) (H1 := H46) (k1 := 21) (n1 := 28028) (by with_unfolding_all rfl)) ?_
  refine en_newa (N := 179) (m := 8) (ty := .int) rfl l46 rfl (by decide) (by with_unfolding_all rfl) rfl rfl ?_
  intro H47 l47 f47 k47
  refine en_put rfl l47 ((k47 157 (Nat.le_of_ble_eq_true rfl : 157 < 179)).trans f46) rfl rfl rfl ?_
  intro H48 l48 f48 k48
  refine en_s (am_nb (m := 2) (pc1 := 211) (ls1 := [(0, .ref 157), (1, .int x1), (2, .int x2), (3, .int x3)]) (st1 := [.int 8, .ref 157]) (H1 := H48) (k1 := 22) (n1 := 28036) (by with_unfolding_all rfl)) ?_
  refine en_newa (N := 180) (m := 8) (ty := .boolean) rfl l48 rfl (by decide) (by with_unfolding_all rfl) rfl rfl ?_
  intro H49 l49 f49 k49
  refine en_put rfl l49 ((k49 157 (Nat.le_of_ble_eq_true rfl : 157 < 180)).trans f48) rfl rfl rfl ?_
  intro H50 l50 f50 k50
  refine en_s (am_nb (m := 2) (pc1 := 220) (ls1 := [(0, .ref 157), (1, .int x1), (2, .int x2), (3, .int x3)]) (st1 := [.int 15360, .ref 157]) (H1 := H50) (k1 := 23) (n1 := 28044) (by with_unfolding_all rfl)) ?_
  refine en_newa (N := 181) (m := 15360) (ty := .int) rfl l50 rfl (by decide) (by with_unfolding_all rfl) rfl rfl ?_
  intro H51 l51 f51 k51
  refine en_put rfl l51 ((k51 157 (Nat.le_of_ble_eq_true rfl : 157 < 181)).trans f50) rfl rfl rfl ?_
  intro H52 l52 f52 k52
  refine en_s (am_nb (m := 2) (pc1 := 229) (ls1 := [(0, .ref 157), (1, .int x1), (2, .int x2), (3, .int x3)]) (st1 := [.int 6000, .ref 157]) (H1 := H52) (k1 := 24) (n1 := 43404) (by with_unfolding_all rfl)) ?_
  refine en_newa (N := 182) (m := 6000) (ty := .byte) rfl l52 rfl (by decide) (by with_unfolding_all rfl) rfl rfl ?_
  intro H53 l53 f53 k53
  refine en_put rfl l53 ((k53 157 (Nat.le_of_ble_eq_true rfl : 157 < 182)).trans f52) rfl rfl rfl ?_
  intro H54 l54 f54 k54
  refine en_s (am_nb (m := 2) (pc1 := 238) (ls1 := [(0, .ref 157), (1, .int x1), (2, .int x2), (3, .int x3)]) (st1 := [.int 1920, .ref 157]) (H1 := H54) (k1 := 25) (n1 := 49404) (by with_unfolding_all rfl)) ?_
  refine en_newa (N := 183) (m := 1920) (ty := .int) rfl l54 rfl (by decide) (by with_unfolding_all rfl) rfl rfl ?_
  intro H55 l55 f55 k55
  refine en_put rfl l55 ((k55 157 (Nat.le_of_ble_eq_true rfl : 157 < 183)).trans f54) rfl rfl rfl ?_
  intro H56 l56 f56 k56
  refine en_s (am_nb (m := 2) (pc1 := 247) (ls1 := [(0, .ref 157), (1, .int x1), (2, .int x2), (3, .int x3)]) (st1 := [.int 8000, .ref 157]) (H1 := H56) (k1 := 26) (n1 := 51324) (by with_unfolding_all rfl)) ?_
  refine en_newa (N := 184) (m := 8000) (ty := .byte) rfl l56 rfl (by decide) (by with_unfolding_all rfl) rfl rfl ?_
  intro H57 l57 f57 k57
  refine en_put rfl l57 ((k57 157 (Nat.le_of_ble_eq_true rfl : 157 < 184)).trans f56) rfl rfl rfl ?_
  intro H58 l58 f58 k58
  refine en_s (am_nb (m := 2) (pc1 := 255) (ls1 := [(0, .ref 157), (1, .int x1), (2, .int x2), (3, .int x3)]) (st1 := [.int 127, .ref 157]) (H1 := H58) (k1 := 27) (n1 := 59324) (by with_unfolding_all rfl)) ?_
  refine en_put rfl l58 f58 rfl rfl rfl ?_
  intro H59 l59 f59 k59
  refine en_s (am_nb (m := 2) (pc1 := 261) (ls1 := [(0, .ref 157), (1, .int x1), (2, .int x2), (3, .int x3)]) (st1 := [.int 100, .ref 157]) (H1 := H59) (k1 := 27) (n1 := 59324) (by with_unfolding_all rfl)) ?_
  refine en_newa (N := 185) (m := 100) (ty := .byte) rfl l59 rfl (by decide) (by with_unfolding_all rfl) rfl rfl ?_
  intro H60 l60 f60 k60
  refine en_put rfl l60 ((k60 157 (Nat.le_of_ble_eq_true rfl : 157 < 185)).trans f59) rfl rfl rfl ?_
  intro H61 l61 f61 k61
  refine en_s (am_nb (m := 2) (pc1 := 270) (ls1 := [(0, .ref 157), (1, .int x1), (2, .int x2), (3, .int x3)]) (st1 := [.int 300, .ref 157]) (H1 := H61) (k1 := 28) (n1 := 59424) (by with_unfolding_all rfl)) ?_
  refine en_newa (N := 186) (m := 300) (ty := .int) rfl l61 rfl (by decide) (by with_unfolding_all rfl) rfl rfl ?_
  intro H62 l62 f62 k62
  refine en_put rfl l62 ((k62 157 (Nat.le_of_ble_eq_true rfl : 157 < 186)).trans f61) rfl rfl rfl ?_
  intro H63 l63 f63 k63
  refine en_s (am_nb (m := 2) (pc1 := 277) (ls1 := [(0, .ref 157), (1, .int x1), (2, .int x2), (3, .int x3)]) (st1 := [.int (-1), .ref 157]) (H1 := H63) (k1 := 29) (n1 := 59724) (by with_unfolding_all rfl)) ?_
  refine en_put rfl l63 f63 rfl rfl rfl ?_
  intro H64 l64 f64 k64
  refine en_s (am_nb (m := 2) (pc1 := 282) (ls1 := [(0, .ref 157), (1, .int x1), (2, .int x2), (3, .int x3)]) (st1 := [.int (-1), .ref 157]) (H1 := H64) (k1 := 29) (n1 := 59724) (by with_unfolding_all rfl)) ?_
  refine en_put rfl l64 f64 rfl rfl rfl ?_
  intro H65 l65 f65 k65
  refine en_s (am_nb (m := 2) (pc1 := 288) (ls1 := [(0, .ref 157), (1, .int x1), (2, .int x2), (3, .int x3)]) (st1 := [.int 64, .ref 157]) (H1 := H65) (k1 := 29) (n1 := 59724) (by with_unfolding_all rfl)) ?_
  refine en_newa (N := 187) (m := 64) (ty := .int) rfl l65 rfl (by decide) (by with_unfolding_all rfl) rfl rfl ?_
  intro H66 l66 f66 k66
  refine en_put rfl l66 ((k66 157 (Nat.le_of_ble_eq_true rfl : 157 < 187)).trans f65) rfl rfl rfl ?_
  intro H67 l67 f67 k67
  refine en_s (am_nb (m := 2) (pc1 := 296) (ls1 := [(0, .ref 157), (1, .int x1), (2, .int x2), (3, .int x3)]) (st1 := [.int 32, .ref 157]) (H1 := H67) (k1 := 30) (n1 := 59788) (by with_unfolding_all rfl)) ?_
  refine en_newa (N := 188) (m := 32) (ty := .byte) rfl l67 rfl (by decide) (by with_unfolding_all rfl) rfl rfl ?_
  intro H68 l68 f68 k68
  refine en_put rfl l68 ((k68 157 (Nat.le_of_ble_eq_true rfl : 157 < 188)).trans f67) rfl rfl rfl ?_
  intro H69 l69 f69 k69
  refine en_s (am_nb (m := 2) (pc1 := 304) (ls1 := [(0, .ref 157), (1, .int x1), (2, .int x2), (3, .int x3)]) (st1 := [.int 32, .ref 157]) (H1 := H69) (k1 := 31) (n1 := 59820) (by with_unfolding_all rfl)) ?_
  refine en_newa (N := 189) (m := 32) (ty := .int) rfl l69 rfl (by decide) (by with_unfolding_all rfl) rfl rfl ?_
  intro H70 l70 f70 k70
  refine en_put rfl l70 ((k70 157 (Nat.le_of_ble_eq_true rfl : 157 < 189)).trans f69) rfl rfl rfl ?_
  intro H71 l71 f71 k71
  refine en_s (am_nb (m := 2) (pc1 := 313) (ls1 := [(0, .ref 157), (1, .int x1), (2, .int x2), (3, .int x3)]) (st1 := [.int 1920, .ref 157]) (H1 := H71) (k1 := 32) (n1 := 59852) (by with_unfolding_all rfl)) ?_
  refine en_newa (N := 190) (m := 1920) (ty := .int) rfl l71 rfl (by decide) (by with_unfolding_all rfl) rfl rfl ?_
  intro H72 l72 f72 k72
  refine en_put rfl l72 ((k72 157 (Nat.le_of_ble_eq_true rfl : 157 < 190)).trans f71) rfl rfl rfl ?_
  intro H73 l73 f73 k73
  refine en_s (am_nb (m := 2) (pc1 := 321) (ls1 := [(0, .ref 157), (1, .int x1), (2, .int x2), (3, .int x3)]) (st1 := [.int 24, .ref 157]) (H1 := H73) (k1 := 33) (n1 := 61772) (by with_unfolding_all rfl)) ?_
  refine en_newa (N := 191) (m := 24) (ty := .int) rfl l73 rfl (by decide) (by with_unfolding_all rfl) rfl rfl ?_
  intro H74 l74 f74 k74
  refine en_put rfl l74 ((k74 157 (Nat.le_of_ble_eq_true rfl : 157 < 191)).trans f73) rfl rfl rfl ?_
  intro H75 l75 f75 k75
  refine en_s (am_nb (m := 2) (pc1 := 329) (ls1 := [(0, .ref 157), (1, .int x1), (2, .int x2), (3, .int x3)]) (st1 := [.int 80, .ref 157]) (H1 := H75) (k1 := 34) (n1 := 61796) (by with_unfolding_all rfl)) ?_
  refine en_newa (N := 192) (m := 80) (ty := .boolean) rfl l75 rfl (by decide) (by with_unfolding_all rfl) rfl rfl ?_
  intro H76 l76 f76 k76
  refine en_put rfl l76 ((k76 157 (Nat.le_of_ble_eq_true rfl : 157 < 192)).trans f75) rfl rfl rfl ?_
  intro H77 l77 f77 k77
  refine en_s (am_nb (m := 2) (pc1 := 337) (ls1 := [(0, .ref 157), (1, .int x1), (2, .int x2), (3, .int x3)]) (st1 := [.int 8, .ref 157]) (H1 := H77) (k1 := 35) (n1 := 61876) (by with_unfolding_all rfl)) ?_
  refine en_newa (N := 193) (m := 8) (ty := .int) rfl l77 rfl (by decide) (by with_unfolding_all rfl) rfl rfl ?_
  intro H78 l78 f78 k78
  refine en_put rfl l78 ((k78 157 (Nat.le_of_ble_eq_true rfl : 157 < 193)).trans f77) rfl rfl rfl ?_
  intro H79 l79 f79 k79
  refine en_s (am_nb (m := 2) (pc1 := 345) (ls1 := [(0, .ref 157), (1, .int x1), (2, .int x2), (3, .int x3)]) (st1 := [.int 127, .ref 157]) (H1 := H79) (k1 := 36) (n1 := 61884) (by with_unfolding_all rfl)) ?_
  refine en_newa (N := 194) (m := 127) (ty := .boolean) rfl l79 rfl (by decide) (by with_unfolding_all rfl) rfl rfl ?_
  intro H80 l80 f80 k80
  refine en_put rfl l80 ((k80 157 (Nat.le_of_ble_eq_true rfl : 157 < 194)).trans f79) rfl rfl rfl ?_
  intro H81 l81 f81 k81
  refine en_s (am_nb (m := 2) (pc1 := 353) (ls1 := [(0, .ref 157), (1, .int x1), (2, .int x2), (3, .int x3)]) (st1 := [.int 127, .ref 157]) (H1 := H81) (k1 := 37) (n1 := 62011) (by with_unfolding_all rfl)) ?_
  refine en_newa (N := 195) (m := 127) (ty := .boolean) rfl l81 rfl (by decide) (by with_unfolding_all rfl) rfl rfl ?_
  intro H82 l82 f82 k82
  refine en_put rfl l82 ((k82 157 (Nat.le_of_ble_eq_true rfl : 157 < 195)).trans f81) rfl rfl rfl ?_
  intro H83 l83 f83 k83
  refine en_s (am_nb (m := 2) (pc1 := 360) (ls1 := [(0, .ref 157), (1, .int x1), (2, .int x2), (3, .int x3)]) (st1 := [.int (-1), .ref 157]) (H1 := H83) (k1 := 38) (n1 := 62138) (by with_unfolding_all rfl)) ?_
  refine en_put rfl l83 f83 rfl rfl rfl ?_
  intro H84 l84 f84 k84
  refine en_s (am_nb (m := 6) (pc1 := 374) (ls1 := [(0, .ref 157), (1, .int x1), (2, .int x2), (3, .int x3)]) (st1 := [.int (if (4 : Int32) < (if x1 < (24 : Int32) then x1 else (24 : Int32)) then (if x1 < (24 : Int32) then x1 else (24 : Int32)) else (4 : Int32)), .ref 157]) (H1 := H84) (k1 := 38) (n1 := 62138) (by with_unfolding_all rfl)) ?_
  rw [em1]
  refine en_put rfl l84 f84 rfl rfl rfl ?_
  intro H85 l85 f85 k85
  refine en_s (am_nb (m := 10) (pc1 := 393) (ls1 := [(0, .ref 157), (1, .int x1), (2, .int x2), (3, .int x3)]) (st1 := [.int (((if (16 : Int32) < (if x2 < (80 : Int32) then x2 else (80 : Int32)) then (if x2 < (80 : Int32) then x2 else (80 : Int32)) else (16 : Int32)) / 2) * 2), .ref 157]) (H1 := H85) (k1 := 38) (n1 := 62138) (by with_unfolding_all rfl)) ?_
  rw [em2]
  refine en_put rfl l85 f85 rfl rfl rfl ?_
  intro H86 l86 f86 k86
  refine en_s (am_nb (m := 6) (pc1 := 407) (ls1 := [(0, .ref 157), (1, .int x1), (2, .int x2), (3, .int x3)]) (st1 := [.int (if (1 : Int32) < (if x3 < (16 : Int32) then x3 else (16 : Int32)) then (if x3 < (16 : Int32) then x3 else (16 : Int32)) else (1 : Int32)), .ref 157]) (H1 := H86) (k1 := 38) (n1 := 62138) (by with_unfolding_all rfl)) ?_
  rw [em3]
  refine en_put rfl l86 f86 rfl rfl rfl ?_
  intro H87 l87 f87 k87
  refine en_s (am_nb (m := 1) (pc1 := 411) (ls1 := [(0, .ref 157), (1, .int x1), (2, .int x2), (3, .int x3)]) (st1 := [.ref 157]) (H1 := H87) (k1 := 38) (n1 := 62138) (by with_unfolding_all rfl)) ?_
  refine en_cv0 (as := []) (rest := []) rfl rfl rfl rfl f87 rfl (by with_unfolding_all rfl) (by with_unfolding_all rfl) (mi_2 l87 f87 ((k87 190 (Nat.ne_of_beq_eq_false rfl : 190 ≠ 157)).trans ((k86 190 (Nat.ne_of_beq_eq_false rfl : 190 ≠ 157)).trans ((k85 190 (Nat.ne_of_beq_eq_false rfl : 190 ≠ 157)).trans ((k84 190 (Nat.ne_of_beq_eq_false rfl : 190 ≠ 157)).trans ((k83 190 (Nat.ne_of_beq_eq_false rfl : 190 ≠ 157)).trans ((k82 190 (Nat.le_of_ble_eq_true rfl : 190 < 195)).trans ((k81 190 (Nat.ne_of_beq_eq_false rfl : 190 ≠ 157)).trans ((k80 190 (Nat.le_of_ble_eq_true rfl : 190 < 194)).trans ((k79 190 (Nat.ne_of_beq_eq_false rfl : 190 ≠ 157)).trans ((k78 190 (Nat.le_of_ble_eq_true rfl : 190 < 193)).trans ((k77 190 (Nat.ne_of_beq_eq_false rfl : 190 ≠ 157)).trans ((k76 190 (Nat.le_of_ble_eq_true rfl : 190 < 192)).trans ((k75 190 (Nat.ne_of_beq_eq_false rfl : 190 ≠ 157)).trans ((k74 190 (Nat.le_of_ble_eq_true rfl : 190 < 191)).trans ((k73 190 (Nat.ne_of_beq_eq_false rfl : 190 ≠ 157)).trans f72))))))))))))))) ((k87 191 (Nat.ne_of_beq_eq_false rfl : 191 ≠ 157)).trans ((k86 191 (Nat.ne_of_beq_eq_false rfl : 191 ≠ 157)).trans ((k85 191 (Nat.ne_of_beq_eq_false rfl : 191 ≠ 157)).trans ((k84 191 (Nat.ne_of_beq_eq_false rfl : 191 ≠ 157)).trans ((k83 191 (Nat.ne_of_beq_eq_false rfl : 191 ≠ 157)).trans ((k82 191 (Nat.le_of_ble_eq_true rfl : 191 < 195)).trans ((k81 191 (Nat.ne_of_beq_eq_false rfl : 191 ≠ 157)).trans ((k80 191 (Nat.le_of_ble_eq_true rfl : 191 < 194)).trans ((k79 191 (Nat.ne_of_beq_eq_false rfl : 191 ≠ 157)).trans ((k78 191 (Nat.le_of_ble_eq_true rfl : 191 < 193)).trans ((k77 191 (Nat.ne_of_beq_eq_false rfl : 191 ≠ 157)).trans ((k76 191 (Nat.le_of_ble_eq_true rfl : 191 < 192)).trans ((k75 191 (Nat.ne_of_beq_eq_false rfl : 191 ≠ 157)).trans f74))))))))))))) ((k87 192 (Nat.ne_of_beq_eq_false rfl : 192 ≠ 157)).trans ((k86 192 (Nat.ne_of_beq_eq_false rfl : 192 ≠ 157)).trans ((k85 192 (Nat.ne_of_beq_eq_false rfl : 192 ≠ 157)).trans ((k84 192 (Nat.ne_of_beq_eq_false rfl : 192 ≠ 157)).trans ((k83 192 (Nat.ne_of_beq_eq_false rfl : 192 ≠ 157)).trans ((k82 192 (Nat.le_of_ble_eq_true rfl : 192 < 195)).trans ((k81 192 (Nat.ne_of_beq_eq_false rfl : 192 ≠ 157)).trans ((k80 192 (Nat.le_of_ble_eq_true rfl : 192 < 194)).trans ((k79 192 (Nat.ne_of_beq_eq_false rfl : 192 ≠ 157)).trans ((k78 192 (Nat.le_of_ble_eq_true rfl : 192 < 193)).trans ((k77 192 (Nat.ne_of_beq_eq_false rfl : 192 ≠ 157)).trans f76)))))))))))) ?_
  rintro H111 ⟨⟨f111_190, f111_191, f111_192, f111_157, -⟩, l111, k111⟩
  have K87 : ∀ j : Nat, j < 196 → j ≠ 157 → j ≠ 190 → j ≠ 191 → j ≠ 192 → H111[j]? = H87[j]? := fun j hj n157 n190 n191 n192 => (k111 j n157 n190 n191 n192 hj)
  have K86 : ∀ j : Nat, j < 196 → j ≠ 157 → j ≠ 190 → j ≠ 191 → j ≠ 192 → H111[j]? = H86[j]? := fun j hj n157 n190 n191 n192 => (K87 j hj n157 n190 n191 n192).trans (k87 j n157)
  have K85 : ∀ j : Nat, j < 196 → j ≠ 157 → j ≠ 190 → j ≠ 191 → j ≠ 192 → H111[j]? = H85[j]? := fun j hj n157 n190 n191 n192 => (K86 j hj n157 n190 n191 n192).trans (k86 j n157)
  have K84 : ∀ j : Nat, j < 196 → j ≠ 157 → j ≠ 190 → j ≠ 191 → j ≠ 192 → H111[j]? = H84[j]? := fun j hj n157 n190 n191 n192 => (K85 j hj n157 n190 n191 n192).trans (k85 j n157)
  have K83 : ∀ j : Nat, j < 196 → j ≠ 157 → j ≠ 190 → j ≠ 191 → j ≠ 192 → H111[j]? = H83[j]? := fun j hj n157 n190 n191 n192 => (K84 j hj n157 n190 n191 n192).trans (k84 j n157)
  have K82 : ∀ j : Nat, j < 196 → j ≠ 157 → j ≠ 190 → j ≠ 191 → j ≠ 192 → H111[j]? = H82[j]? := fun j hj n157 n190 n191 n192 => (K83 j hj n157 n190 n191 n192).trans (k83 j n157)
  have K81 : ∀ j : Nat, j < 195 → j ≠ 157 → j ≠ 190 → j ≠ 191 → j ≠ 192 → H111[j]? = H81[j]? := fun j hj n157 n190 n191 n192 => (K82 j (Nat.lt_of_lt_of_le hj (Nat.le_of_ble_eq_true rfl : 195 ≤ 196)) n157 n190 n191 n192).trans (k82 j hj)
  have K80 : ∀ j : Nat, j < 195 → j ≠ 157 → j ≠ 190 → j ≠ 191 → j ≠ 192 → H111[j]? = H80[j]? := fun j hj n157 n190 n191 n192 => (K81 j hj n157 n190 n191 n192).trans (k81 j n157)
  have K79 : ∀ j : Nat, j < 194 → j ≠ 157 → j ≠ 190 → j ≠ 191 → j ≠ 192 → H111[j]? = H79[j]? := fun j hj n157 n190 n191 n192 => (K80 j (Nat.lt_of_lt_of_le hj (Nat.le_of_ble_eq_true rfl : 194 ≤ 195)) n157 n190 n191 n192).trans (k80 j hj)
  have K78 : ∀ j : Nat, j < 194 → j ≠ 157 → j ≠ 190 → j ≠ 191 → j ≠ 192 → H111[j]? = H78[j]? := fun j hj n157 n190 n191 n192 => (K79 j hj n157 n190 n191 n192).trans (k79 j n157)
  have K77 : ∀ j : Nat, j < 193 → j ≠ 157 → j ≠ 190 → j ≠ 191 → j ≠ 192 → H111[j]? = H77[j]? := fun j hj n157 n190 n191 n192 => (K78 j (Nat.lt_of_lt_of_le hj (Nat.le_of_ble_eq_true rfl : 193 ≤ 194)) n157 n190 n191 n192).trans (k78 j hj)
  have K76 : ∀ j : Nat, j < 193 → j ≠ 157 → j ≠ 190 → j ≠ 191 → j ≠ 192 → H111[j]? = H76[j]? := fun j hj n157 n190 n191 n192 => (K77 j hj n157 n190 n191 n192).trans (k77 j n157)
  have K75 : ∀ j : Nat, j < 192 → j ≠ 157 → j ≠ 190 → j ≠ 191 → H111[j]? = H75[j]? := fun j hj n157 n190 n191 => (K76 j (Nat.lt_of_lt_of_le hj (Nat.le_of_ble_eq_true rfl : 192 ≤ 193)) n157 n190 n191 (Nat.ne_of_lt (Nat.lt_of_lt_of_le hj (Nat.le_of_ble_eq_true rfl : 192 ≤ 192)))).trans (k76 j hj)
  have K74 : ∀ j : Nat, j < 192 → j ≠ 157 → j ≠ 190 → j ≠ 191 → H111[j]? = H74[j]? := fun j hj n157 n190 n191 => (K75 j hj n157 n190 n191).trans (k75 j n157)
  have K73 : ∀ j : Nat, j < 191 → j ≠ 157 → j ≠ 190 → H111[j]? = H73[j]? := fun j hj n157 n190 => (K74 j (Nat.lt_of_lt_of_le hj (Nat.le_of_ble_eq_true rfl : 191 ≤ 192)) n157 n190 (Nat.ne_of_lt (Nat.lt_of_lt_of_le hj (Nat.le_of_ble_eq_true rfl : 191 ≤ 191)))).trans (k74 j hj)
  have K72 : ∀ j : Nat, j < 191 → j ≠ 157 → j ≠ 190 → H111[j]? = H72[j]? := fun j hj n157 n190 => (K73 j hj n157 n190).trans (k73 j n157)
  have K71 : ∀ j : Nat, j < 190 → j ≠ 157 → H111[j]? = H71[j]? := fun j hj n157 => (K72 j (Nat.lt_of_lt_of_le hj (Nat.le_of_ble_eq_true rfl : 190 ≤ 191)) n157 (Nat.ne_of_lt (Nat.lt_of_lt_of_le hj (Nat.le_of_ble_eq_true rfl : 190 ≤ 190)))).trans (k72 j hj)
  have K70 : ∀ j : Nat, j < 190 → j ≠ 157 → H111[j]? = H70[j]? := fun j hj n157 => (K71 j hj n157).trans (k71 j n157)
  have K69 : ∀ j : Nat, j < 189 → j ≠ 157 → H111[j]? = H69[j]? := fun j hj n157 => (K70 j (Nat.lt_of_lt_of_le hj (Nat.le_of_ble_eq_true rfl : 189 ≤ 190)) n157).trans (k70 j hj)
  have K68 : ∀ j : Nat, j < 189 → j ≠ 157 → H111[j]? = H68[j]? := fun j hj n157 => (K69 j hj n157).trans (k69 j n157)
  have K67 : ∀ j : Nat, j < 188 → j ≠ 157 → H111[j]? = H67[j]? := fun j hj n157 => (K68 j (Nat.lt_of_lt_of_le hj (Nat.le_of_ble_eq_true rfl : 188 ≤ 189)) n157).trans (k68 j hj)
  have K66 : ∀ j : Nat, j < 188 → j ≠ 157 → H111[j]? = H66[j]? := fun j hj n157 => (K67 j hj n157).trans (k67 j n157)
  have K65 : ∀ j : Nat, j < 187 → j ≠ 157 → H111[j]? = H65[j]? := fun j hj n157 => (K66 j (Nat.lt_of_lt_of_le hj (Nat.le_of_ble_eq_true rfl : 187 ≤ 188)) n157).trans (k66 j hj)
  have K64 : ∀ j : Nat, j < 187 → j ≠ 157 → H111[j]? = H64[j]? := fun j hj n157 => (K65 j hj n157).trans (k65 j n157)
  have K63 : ∀ j : Nat, j < 187 → j ≠ 157 → H111[j]? = H63[j]? := fun j hj n157 => (K64 j hj n157).trans (k64 j n157)
  have K62 : ∀ j : Nat, j < 187 → j ≠ 157 → H111[j]? = H62[j]? := fun j hj n157 => (K63 j hj n157).trans (k63 j n157)
  have K61 : ∀ j : Nat, j < 186 → j ≠ 157 → H111[j]? = H61[j]? := fun j hj n157 => (K62 j (Nat.lt_of_lt_of_le hj (Nat.le_of_ble_eq_true rfl : 186 ≤ 187)) n157).trans (k62 j hj)
  have K60 : ∀ j : Nat, j < 186 → j ≠ 157 → H111[j]? = H60[j]? := fun j hj n157 => (K61 j hj n157).trans (k61 j n157)
  have K59 : ∀ j : Nat, j < 185 → j ≠ 157 → H111[j]? = H59[j]? := fun j hj n157 => (K60 j (Nat.lt_of_lt_of_le hj (Nat.le_of_ble_eq_true rfl : 185 ≤ 186)) n157).trans (k60 j hj)
  have K58 : ∀ j : Nat, j < 185 → j ≠ 157 → H111[j]? = H58[j]? := fun j hj n157 => (K59 j hj n157).trans (k59 j n157)
  have K57 : ∀ j : Nat, j < 185 → j ≠ 157 → H111[j]? = H57[j]? := fun j hj n157 => (K58 j hj n157).trans (k58 j n157)
  have K56 : ∀ j : Nat, j < 184 → j ≠ 157 → H111[j]? = H56[j]? := fun j hj n157 => (K57 j (Nat.lt_of_lt_of_le hj (Nat.le_of_ble_eq_true rfl : 184 ≤ 185)) n157).trans (k57 j hj)
  have K55 : ∀ j : Nat, j < 184 → j ≠ 157 → H111[j]? = H55[j]? := fun j hj n157 => (K56 j hj n157).trans (k56 j n157)
  have K54 : ∀ j : Nat, j < 183 → j ≠ 157 → H111[j]? = H54[j]? := fun j hj n157 => (K55 j (Nat.lt_of_lt_of_le hj (Nat.le_of_ble_eq_true rfl : 183 ≤ 184)) n157).trans (k55 j hj)
  have K53 : ∀ j : Nat, j < 183 → j ≠ 157 → H111[j]? = H53[j]? := fun j hj n157 => (K54 j hj n157).trans (k54 j n157)
  have K52 : ∀ j : Nat, j < 182 → j ≠ 157 → H111[j]? = H52[j]? := fun j hj n157 => (K53 j (Nat.lt_of_lt_of_le hj (Nat.le_of_ble_eq_true rfl : 182 ≤ 183)) n157).trans (k53 j hj)
  have K51 : ∀ j : Nat, j < 182 → j ≠ 157 → H111[j]? = H51[j]? := fun j hj n157 => (K52 j hj n157).trans (k52 j n157)
  have K50 : ∀ j : Nat, j < 181 → j ≠ 157 → H111[j]? = H50[j]? := fun j hj n157 => (K51 j (Nat.lt_of_lt_of_le hj (Nat.le_of_ble_eq_true rfl : 181 ≤ 182)) n157).trans (k51 j hj)
  have K49 : ∀ j : Nat, j < 181 → j ≠ 157 → H111[j]? = H49[j]? := fun j hj n157 => (K50 j hj n157).trans (k50 j n157)
  have K48 : ∀ j : Nat, j < 180 → j ≠ 157 → H111[j]? = H48[j]? := fun j hj n157 => (K49 j (Nat.lt_of_lt_of_le hj (Nat.le_of_ble_eq_true rfl : 180 ≤ 181)) n157).trans (k49 j hj)
  have K47 : ∀ j : Nat, j < 180 → j ≠ 157 → H111[j]? = H47[j]? := fun j hj n157 => (K48 j hj n157).trans (k48 j n157)
  have K46 : ∀ j : Nat, j < 179 → j ≠ 157 → H111[j]? = H46[j]? := fun j hj n157 => (K47 j (Nat.lt_of_lt_of_le hj (Nat.le_of_ble_eq_true rfl : 179 ≤ 180)) n157).trans (k47 j hj)
  have K45 : ∀ j : Nat, j < 179 → j ≠ 157 → H111[j]? = H45[j]? := fun j hj n157 => (K46 j hj n157).trans (k46 j n157)
  have K44 : ∀ j : Nat, j < 178 → j ≠ 157 → H111[j]? = H44[j]? := fun j hj n157 => (K45 j (Nat.lt_of_lt_of_le hj (Nat.le_of_ble_eq_true rfl : 178 ≤ 179)) n157).trans (k45 j hj)
  have K43 : ∀ j : Nat, j < 178 → j ≠ 157 → H111[j]? = H43[j]? := fun j hj n157 => (K44 j hj n157).trans (k44 j n157)
  have K42 : ∀ j : Nat, j < 177 → j ≠ 157 → H111[j]? = H42[j]? := fun j hj n157 => (K43 j (Nat.lt_of_lt_of_le hj (Nat.le_of_ble_eq_true rfl : 177 ≤ 178)) n157).trans (k43 j hj)
  have K41 : ∀ j : Nat, j < 177 → j ≠ 157 → H111[j]? = H41[j]? := fun j hj n157 => (K42 j hj n157).trans (k42 j n157)
  have K40 : ∀ j : Nat, j < 176 → j ≠ 157 → H111[j]? = H40[j]? := fun j hj n157 => (K41 j (Nat.lt_of_lt_of_le hj (Nat.le_of_ble_eq_true rfl : 176 ≤ 177)) n157).trans (k41 j hj)
  have K39 : ∀ j : Nat, j < 176 → j ≠ 157 → H111[j]? = H39[j]? := fun j hj n157 => (K40 j hj n157).trans (k40 j n157)
  have K38 : ∀ j : Nat, j < 175 → j ≠ 157 → H111[j]? = H38[j]? := fun j hj n157 => (K39 j (Nat.lt_of_lt_of_le hj (Nat.le_of_ble_eq_true rfl : 175 ≤ 176)) n157).trans (k39 j hj)
  have K37 : ∀ j : Nat, j < 175 → j ≠ 157 → H111[j]? = H37[j]? := fun j hj n157 => (K38 j hj n157).trans (k38 j n157)
  have K36 : ∀ j : Nat, j < 174 → j ≠ 157 → H111[j]? = H36[j]? := fun j hj n157 => (K37 j (Nat.lt_of_lt_of_le hj (Nat.le_of_ble_eq_true rfl : 174 ≤ 175)) n157).trans (k37 j hj)
  have K35 : ∀ j : Nat, j < 174 → j ≠ 157 → H111[j]? = H35[j]? := fun j hj n157 => (K36 j hj n157).trans (k36 j n157)
  have K34 : ∀ j : Nat, j < 173 → j ≠ 157 → H111[j]? = H34[j]? := fun j hj n157 => (K35 j (Nat.lt_of_lt_of_le hj (Nat.le_of_ble_eq_true rfl : 173 ≤ 174)) n157).trans (k35 j hj)
  have K33 : ∀ j : Nat, j < 173 → j ≠ 157 → H111[j]? = H33[j]? := fun j hj n157 => (K34 j hj n157).trans (k34 j n157)
  have K32 : ∀ j : Nat, j < 172 → j ≠ 157 → H111[j]? = H32[j]? := fun j hj n157 => (K33 j (Nat.lt_of_lt_of_le hj (Nat.le_of_ble_eq_true rfl : 172 ≤ 173)) n157).trans (k33 j hj)
  have K31 : ∀ j : Nat, j < 172 → j ≠ 157 → H111[j]? = H31[j]? := fun j hj n157 => (K32 j hj n157).trans (k32 j n157)
  have K30 : ∀ j : Nat, j < 172 → j ≠ 157 → H111[j]? = H30[j]? := fun j hj n157 => (K31 j hj n157).trans (k31 j n157)
  have K29 : ∀ j : Nat, j < 172 → j ≠ 157 → H111[j]? = H29[j]? := fun j hj n157 => (K30 j hj n157).trans (k30 j n157)
  have K28 : ∀ j : Nat, j < 171 → j ≠ 157 → H111[j]? = H28[j]? := fun j hj n157 => (K29 j (Nat.lt_of_lt_of_le hj (Nat.le_of_ble_eq_true rfl : 171 ≤ 172)) n157).trans (k29 j hj)
  have K27 : ∀ j : Nat, j < 171 → j ≠ 157 → H111[j]? = H27[j]? := fun j hj n157 => (K28 j hj n157).trans (k28 j n157)
  have K26 : ∀ j : Nat, j < 170 → j ≠ 157 → H111[j]? = H26[j]? := fun j hj n157 => (K27 j (Nat.lt_of_lt_of_le hj (Nat.le_of_ble_eq_true rfl : 170 ≤ 171)) n157).trans (k27 j hj)
  have K25 : ∀ j : Nat, j < 170 → j ≠ 157 → H111[j]? = H25[j]? := fun j hj n157 => (K26 j hj n157).trans (k26 j n157)
  have K24 : ∀ j : Nat, j < 169 → j ≠ 157 → H111[j]? = H24[j]? := fun j hj n157 => (K25 j (Nat.lt_of_lt_of_le hj (Nat.le_of_ble_eq_true rfl : 169 ≤ 170)) n157).trans (k25 j hj)
  have K23 : ∀ j : Nat, j < 169 → j ≠ 157 → H111[j]? = H23[j]? := fun j hj n157 => (K24 j hj n157).trans (k24 j n157)
  have K22 : ∀ j : Nat, j < 168 → j ≠ 157 → H111[j]? = H22[j]? := fun j hj n157 => (K23 j (Nat.lt_of_lt_of_le hj (Nat.le_of_ble_eq_true rfl : 168 ≤ 169)) n157).trans (k23 j hj)
  have K21 : ∀ j : Nat, j < 168 → j ≠ 157 → H111[j]? = H21[j]? := fun j hj n157 => (K22 j hj n157).trans (k22 j n157)
  have K20 : ∀ j : Nat, j < 168 → j ≠ 157 → H111[j]? = H20[j]? := fun j hj n157 => (K21 j hj n157).trans (k21 j n157)
  have K19 : ∀ j : Nat, j < 167 → j ≠ 157 → H111[j]? = H19[j]? := fun j hj n157 => (K20 j (Nat.lt_of_lt_of_le hj (Nat.le_of_ble_eq_true rfl : 167 ≤ 168)) n157).trans (k20 j hj)
  have K18 : ∀ j : Nat, j < 167 → j ≠ 157 → H111[j]? = H18[j]? := fun j hj n157 => (K19 j hj n157).trans (k19 j n157)
  have K17 : ∀ j : Nat, j < 167 → j ≠ 157 → H111[j]? = H17[j]? := fun j hj n157 => (K18 j hj n157).trans (k18 j n157)
  have K16 : ∀ j : Nat, j < 166 → j ≠ 157 → H111[j]? = H16[j]? := fun j hj n157 => (K17 j (Nat.lt_of_lt_of_le hj (Nat.le_of_ble_eq_true rfl : 166 ≤ 167)) n157).trans (k17 j hj)
  have K15 : ∀ j : Nat, j < 166 → j ≠ 157 → H111[j]? = H15[j]? := fun j hj n157 => (K16 j hj n157).trans (k16 j n157)
  have K14 : ∀ j : Nat, j < 165 → j ≠ 157 → H111[j]? = H14[j]? := fun j hj n157 => (K15 j (Nat.lt_of_lt_of_le hj (Nat.le_of_ble_eq_true rfl : 165 ≤ 166)) n157).trans (k15 j hj)
  have K13 : ∀ j : Nat, j < 165 → j ≠ 157 → H111[j]? = H13[j]? := fun j hj n157 => (K14 j hj n157).trans (k14 j n157)
  have K12 : ∀ j : Nat, j < 164 → j ≠ 157 → H111[j]? = H12[j]? := fun j hj n157 => (K13 j (Nat.lt_of_lt_of_le hj (Nat.le_of_ble_eq_true rfl : 164 ≤ 165)) n157).trans (k13 j hj)
  have K11 : ∀ j : Nat, j < 164 → j ≠ 157 → H111[j]? = H11[j]? := fun j hj n157 => (K12 j hj n157).trans (k12 j n157)
  have K10 : ∀ j : Nat, j < 163 → j ≠ 157 → H111[j]? = H10[j]? := fun j hj n157 => (K11 j (Nat.lt_of_lt_of_le hj (Nat.le_of_ble_eq_true rfl : 163 ≤ 164)) n157).trans (k11 j hj)
  have K9 : ∀ j : Nat, j < 163 → j ≠ 157 → H111[j]? = H9[j]? := fun j hj n157 => (K10 j hj n157).trans (k10 j n157)
  have K8 : ∀ j : Nat, j < 162 → j ≠ 157 → H111[j]? = H8[j]? := fun j hj n157 => (K9 j (Nat.lt_of_lt_of_le hj (Nat.le_of_ble_eq_true rfl : 162 ≤ 163)) n157).trans (k9 j hj)
  have K7 : ∀ j : Nat, j < 162 → j ≠ 157 → H111[j]? = H7[j]? := fun j hj n157 => (K8 j hj n157).trans (k8 j n157)
  have K6 : ∀ j : Nat, j < 161 → j ≠ 157 → H111[j]? = H6[j]? := fun j hj n157 => (K7 j (Nat.lt_of_lt_of_le hj (Nat.le_of_ble_eq_true rfl : 161 ≤ 162)) n157).trans (k7 j hj)
  have K5 : ∀ j : Nat, j < 161 → j ≠ 157 → H111[j]? = H5[j]? := fun j hj n157 => (K6 j hj n157).trans (k6 j n157)
  have K4 : ∀ j : Nat, j < 160 → j ≠ 157 → H111[j]? = H4[j]? := fun j hj n157 => (K5 j (Nat.lt_of_lt_of_le hj (Nat.le_of_ble_eq_true rfl : 160 ≤ 161)) n157).trans (k5 j hj)
  have K3 : ∀ j : Nat, j < 160 → j ≠ 157 → H111[j]? = H3[j]? := fun j hj n157 => (K4 j hj n157).trans (k4 j n157)
  have K2 : ∀ j : Nat, j < 159 → j ≠ 157 → H111[j]? = H2[j]? := fun j hj n157 => (K3 j (Nat.lt_of_lt_of_le hj (Nat.le_of_ble_eq_true rfl : 159 ≤ 160)) n157).trans (k3 j hj)
  have K1 : ∀ j : Nat, j < 159 → j ≠ 157 → H111[j]? = H1[j]? := fun j hj n157 => (K2 j hj n157).trans (k2 j n157)
  have K0 : ∀ j : Nat, j < 158 → j ≠ 157 → H111[j]? = H[j]? := fun j hj n157 => (K1 j (Nat.lt_of_lt_of_le hj (Nat.le_of_ble_eq_true rfl : 158 ≤ 159)) n157).trans (k1 j hj)
  exact en_r (st_vret rfl rfl) ⟨⟨((K1 158 (Nat.le_of_ble_eq_true rfl : 158 < 159) (Nat.ne_of_beq_eq_false rfl : 158 ≠ 157)).trans f1), f111_157, ((K3 159 (Nat.le_of_ble_eq_true rfl : 159 < 160) (Nat.ne_of_beq_eq_false rfl : 159 ≠ 157)).trans f3), ((K5 160 (Nat.le_of_ble_eq_true rfl : 160 < 161) (Nat.ne_of_beq_eq_false rfl : 160 ≠ 157)).trans f5), ((K7 161 (Nat.le_of_ble_eq_true rfl : 161 < 162) (Nat.ne_of_beq_eq_false rfl : 161 ≠ 157)).trans f7), ((K9 162 (Nat.le_of_ble_eq_true rfl : 162 < 163) (Nat.ne_of_beq_eq_false rfl : 162 ≠ 157)).trans f9), ((K11 163 (Nat.le_of_ble_eq_true rfl : 163 < 164) (Nat.ne_of_beq_eq_false rfl : 163 ≠ 157)).trans f11), ((K13 164 (Nat.le_of_ble_eq_true rfl : 164 < 165) (Nat.ne_of_beq_eq_false rfl : 164 ≠ 157)).trans f13), ((K15 165 (Nat.le_of_ble_eq_true rfl : 165 < 166) (Nat.ne_of_beq_eq_false rfl : 165 ≠ 157)).trans f15), ((K17 166 (Nat.le_of_ble_eq_true rfl : 166 < 167) (Nat.ne_of_beq_eq_false rfl : 166 ≠ 157)).trans f17), ((K20 167 (Nat.le_of_ble_eq_true rfl : 167 < 168) (Nat.ne_of_beq_eq_false rfl : 167 ≠ 157)).trans f20), ((K23 168 (Nat.le_of_ble_eq_true rfl : 168 < 169) (Nat.ne_of_beq_eq_false rfl : 168 ≠ 157)).trans f23), ((K25 169 (Nat.le_of_ble_eq_true rfl : 169 < 170) (Nat.ne_of_beq_eq_false rfl : 169 ≠ 157)).trans f25), ((K27 170 (Nat.le_of_ble_eq_true rfl : 170 < 171) (Nat.ne_of_beq_eq_false rfl : 170 ≠ 157)).trans f27), ((K29 171 (Nat.le_of_ble_eq_true rfl : 171 < 172) (Nat.ne_of_beq_eq_false rfl : 171 ≠ 157)).trans f29), ((K33 172 (Nat.le_of_ble_eq_true rfl : 172 < 173) (Nat.ne_of_beq_eq_false rfl : 172 ≠ 157)).trans f33), ((K35 173 (Nat.le_of_ble_eq_true rfl : 173 < 174) (Nat.ne_of_beq_eq_false rfl : 173 ≠ 157)).trans f35), ((K37 174 (Nat.le_of_ble_eq_true rfl : 174 < 175) (Nat.ne_of_beq_eq_false rfl : 174 ≠ 157)).trans f37), ((K39 175 (Nat.le_of_ble_eq_true rfl : 175 < 176) (Nat.ne_of_beq_eq_false rfl : 175 ≠ 157)).trans f39), ((K41 176 (Nat.le_of_ble_eq_true rfl : 176 < 177) (Nat.ne_of_beq_eq_false rfl : 176 ≠ 157)).trans f41), ((K43 177 (Nat.le_of_ble_eq_true rfl : 177 < 178) (Nat.ne_of_beq_eq_false rfl : 177 ≠ 157)).trans f43), ((K45 178 (Nat.le_of_ble_eq_true rfl : 178 < 179) (Nat.ne_of_beq_eq_false rfl : 178 ≠ 157)).trans f45), ((K47 179 (Nat.le_of_ble_eq_true rfl : 179 < 180) (Nat.ne_of_beq_eq_false rfl : 179 ≠ 157)).trans f47), ((K49 180 (Nat.le_of_ble_eq_true rfl : 180 < 181) (Nat.ne_of_beq_eq_false rfl : 180 ≠ 157)).trans f49), ((K51 181 (Nat.le_of_ble_eq_true rfl : 181 < 182) (Nat.ne_of_beq_eq_false rfl : 181 ≠ 157)).trans f51), ((K53 182 (Nat.le_of_ble_eq_true rfl : 182 < 183) (Nat.ne_of_beq_eq_false rfl : 182 ≠ 157)).trans f53), ((K55 183 (Nat.le_of_ble_eq_true rfl : 183 < 184) (Nat.ne_of_beq_eq_false rfl : 183 ≠ 157)).trans f55), ((K57 184 (Nat.le_of_ble_eq_true rfl : 184 < 185) (Nat.ne_of_beq_eq_false rfl : 184 ≠ 157)).trans f57), ((K60 185 (Nat.le_of_ble_eq_true rfl : 185 < 186) (Nat.ne_of_beq_eq_false rfl : 185 ≠ 157)).trans f60), ((K62 186 (Nat.le_of_ble_eq_true rfl : 186 < 187) (Nat.ne_of_beq_eq_false rfl : 186 ≠ 157)).trans f62), ((K66 187 (Nat.le_of_ble_eq_true rfl : 187 < 188) (Nat.ne_of_beq_eq_false rfl : 187 ≠ 157)).trans f66), ((K68 188 (Nat.le_of_ble_eq_true rfl : 188 < 189) (Nat.ne_of_beq_eq_false rfl : 188 ≠ 157)).trans f68), ((K70 189 (Nat.le_of_ble_eq_true rfl : 189 < 190) (Nat.ne_of_beq_eq_false rfl : 189 ≠ 157)).trans f70), f111_190, f111_191, f111_192, ((K78 193 (Nat.le_of_ble_eq_true rfl : 193 < 194) (Nat.ne_of_beq_eq_false rfl : 193 ≠ 157) (Nat.ne_of_beq_eq_false rfl : 193 ≠ 190) (Nat.ne_of_beq_eq_false rfl : 193 ≠ 191) (Nat.ne_of_beq_eq_false rfl : 193 ≠ 192)).trans f78), ((K80 194 (Nat.le_of_ble_eq_true rfl : 194 < 195) (Nat.ne_of_beq_eq_false rfl : 194 ≠ 157) (Nat.ne_of_beq_eq_false rfl : 194 ≠ 190) (Nat.ne_of_beq_eq_false rfl : 194 ≠ 191) (Nat.ne_of_beq_eq_false rfl : 194 ≠ 192)).trans f80), ((K82 195 (Nat.le_of_ble_eq_true rfl : 195 < 196) (Nat.ne_of_beq_eq_false rfl : 195 ≠ 157) (Nat.ne_of_beq_eq_false rfl : 195 ≠ 190) (Nat.ne_of_beq_eq_false rfl : 195 ≠ 191) (Nat.ne_of_beq_eq_false rfl : 195 ≠ 192)).trans f82), trivial⟩, l111, fun j n157 hj => K0 j hj n157⟩
