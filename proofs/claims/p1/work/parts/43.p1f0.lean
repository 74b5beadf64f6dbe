/-! p1: leaves. -/
set_option maxRecDepth 100000 in
theorem fx_feed_1_0 {sL : Nat} {sx : Nat → Int32} {cs : Nat → Nat → Option Int32} {H : am_H} {v0_13 : Int32} {x0 : Int32} (h0 : am_is H 0 (.inr (11, [.ref 1, .int 0, .ref 2, .int 0, .ref 3, .ref 93, .ref 97, .ref 115, .ref 116, .ref 129, .ref 123, .ref 127, .ref 128, .int v0_13, .null, .int 0]))) (h1 : am_is H 1 (.inl (.int, (3000, .inl (fun _ => 0)))))   :
    am_E sL sx cs 20 0 [(0, .ref 0), (1, .int x0)] [] H none (fun H1 => (am_is H1 1 (.inl (.int, (3000, .inl (upd (upd (upd (upd (fun _ => 0) ((0 : Int32).toNatClampNeg) (((x0.toUInt32 >>> ((24 : Int32).toUInt32 &&& Int32.toUInt32 31)).toInt32) &&& 255)) ((1 : Int32).toNatClampNeg) (((x0.toUInt32 >>> ((16 : Int32).toUInt32 &&& Int32.toUInt32 31)).toInt32) &&& 255)) ((2 : Int32).toNatClampNeg) (((x0.toUInt32 >>> ((8 : Int32).toUInt32 &&& Int32.toUInt32 31)).toInt32) &&& 255)) ((3 : Int32).toNatClampNeg) (((x0.toUInt32 >>> ((0 : Int32).toUInt32 &&& Int32.toUInt32 31)).toInt32) &&& 255))))) ∧ am_is H1 0 (.inr (11, [.ref 1, .int 4, .ref 2, .int 0, .ref 3, .ref 93, .ref 97, .ref 115, .ref 116, .ref 129, .ref 123, .ref 127, .ref 128, .int v0_13, .null, .int 0])) ∧ True) ∧ ∀ j : Nat, j ≠ 1 → j ≠ 0 → H1[j]? = H[j]?) := by
  refine ex_s (am_nb (m := 5) (pc1 := 8) (ls1 := [(2, .int 24), (0, .ref 0), (1, .int x0)]) (st1 := [.ref 0]) (H1 := H) (k1 := 0) (n1 := 0) (by with_unfolding_all rfl)) ?_
  refine ex_s (st_get rfl h0 rfl) ?_
  refine ex_s (am_nb (m := 3) (pc1 := 18) (ls1 := [(2, .int 24), (0, .ref 0), (1, .int x0)]) (st1 := [.ref 0]) (H1 := H) (k1 := 0) (n1 := 0) (by with_unfolding_all rfl)) ?_
  refine ex_s (st_get rfl h0 rfl) ?_
  refine ex_s (am_nb (m := 1) (pc1 := 22) (ls1 := [(2, .int 24), (0, .ref 0), (1, .int x0)]) (st1 := [.ref 0, .ref 1]) (H1 := H) (k1 := 0) (n1 := 0) (by with_unfolding_all rfl)) ?_
  refine ex_s (st_get rfl h0 rfl) ?_
  refine ex_s (am_nb (m := 5) (pc1 := 32) (ls1 := [(2, .int 24), (0, .ref 0), (1, .int x0)]) (st1 := [.int (((x0.toUInt32 >>> ((24 : Int32).toUInt32 &&& Int32.toUInt32 31)).toInt32) &&& 255), .int 0, .ref 1]) (H1 := H) (k1 := 0) (n1 := 0) (by with_unfolding_all rfl)) ?_
  refine ex_iast rfl h1 (by decide) ?_
  intro H1 f1 k1
  refine ex_s (am_nb (m := 2) (pc1 := 35) (ls1 := [(2, .int 24), (0, .ref 0), (1, .int x0)]) (st1 := [.ref 0, .ref 0]) (H1 := H1) (k1 := 0) (n1 := 0) (by with_unfolding_all rfl)) ?_
  refine ex_s (st_get rfl ((k1 0 (by decide)).trans h0) rfl) ?_
  refine ex_s (am_nb (m := 2) (pc1 := 40) (ls1 := [(2, .int 24), (0, .ref 0), (1, .int x0)]) (st1 := [.int 1, .ref 0]) (H1 := H1) (k1 := 0) (n1 := 0) (by with_unfolding_all rfl)) ?_
  refine ex_put rfl ((k1 0 (by decide)).trans h0) rfl rfl rfl ?_
  intro H2 f2 k2
  refine ex_s (am_nb (m := 5) (pc1 := 8) (ls1 := [(2, .int 16), (0, .ref 0), (1, .int x0)]) (st1 := [.ref 0]) (H1 := H2) (k1 := 0) (n1 := 0) (by with_unfolding_all rfl)) ?_
  refine ex_s (st_get rfl f2 rfl) ?_
  refine ex_s (am_nb (m := 3) (pc1 := 18) (ls1 := [(2, .int 16), (0, .ref 0), (1, .int x0)]) (st1 := [.ref 0]) (H1 := H2) (k1 := 0) (n1 := 0) (by with_unfolding_all rfl)) ?_
  refine ex_s (st_get rfl f2 rfl) ?_
  refine ex_s (am_nb (m := 1) (pc1 := 22) (ls1 := [(2, .int 16), (0, .ref 0), (1, .int x0)]) (st1 := [.ref 0, .ref 1]) (H1 := H2) (k1 := 0) (n1 := 0) (by with_unfolding_all rfl)) ?_
  refine ex_s (st_get rfl f2 rfl) ?_
  refine ex_s (am_nb (m := 5) (pc1 := 32) (ls1 := [(2, .int 16), (0, .ref 0), (1, .int x0)]) (st1 := [.int (((x0.toUInt32 >>> ((16 : Int32).toUInt32 &&& Int32.toUInt32 31)).toInt32) &&& 255), .int 1, .ref 1]) (H1 := H2) (k1 := 0) (n1 := 0) (by with_unfolding_all rfl)) ?_
  refine ex_iast rfl ((k2 1 (by decide)).trans f1) (by decide) ?_
  intro H3 f3 k3
  refine ex_s (am_nb (m := 2) (pc1 := 35) (ls1 := [(2, .int 16), (0, .ref 0), (1, .int x0)]) (st1 := [.ref 0, .ref 0]) (H1 := H3) (k1 := 0) (n1 := 0) (by with_unfolding_all rfl)) ?_
  refine ex_s (st_get rfl ((k3 0 (by decide)).trans f2) rfl) ?_
  refine ex_s (am_nb (m := 2) (pc1 := 40) (ls1 := [(2, .int 16), (0, .ref 0), (1, .int x0)]) (st1 := [.int 2, .ref 0]) (H1 := H3) (k1 := 0) (n1 := 0) (by with_unfolding_all rfl)) ?_
  refine ex_put rfl ((k3 0 (by decide)).trans f2) rfl rfl rfl ?_
  intro H4 f4 k4
  refine ex_s (am_nb (m := 5) (pc1 := 8) (ls1 := [(2, .int 8), (0, .ref 0), (1, .int x0)]) (st1 := [.ref 0]) (H1 := H4) (k1 := 0) (n1 := 0) (by with_unfolding_all rfl)) ?_
  refine ex_s (st_get rfl f4 rfl) ?_
  refine ex_s (am_nb (m := 3) (pc1 := 18) (ls1 := [(2, .int 8), (0, .ref 0), (1, .int x0)]) (st1 := [.ref 0]) (H1 := H4) (k1 := 0) (n1 := 0) (by with_unfolding_all rfl)) ?_
  refine ex_s (st_get rfl f4 rfl) ?_
  refine ex_s (am_nb (m := 1) (pc1 := 22) (ls1 := [(2, .int 8), (0, .ref 0), (1, .int x0)]) (st1 := [.ref 0, .ref 1]) (H1 := H4) (k1 := 0) (n1 := 0) (by with_unfolding_all rfl)) ?_
  refine ex_s (st_get rfl f4 rfl) ?_
  refine ex_s (am_nb (m := 5) (pc1 := 32) (ls1 := [(2, .int 8), (0, .ref 0), (1, .int x0)]) (st1 := [.int (((x0.toUInt32 >>> ((8 : Int32).toUInt32 &&& Int32.toUInt32 31)).toInt32) &&& 255), .int 2, .ref 1]) (H1 := H4) (k1 := 0) (n1 := 0) (by with_unfolding_all rfl)) ?_
  refine ex_iast rfl ((k4 1 (by decide)).trans f3) (by decide) ?_
  intro H5 f5 k5
  refine ex_s (am_nb (m := 2) (pc1 := 35) (ls1 := [(2, .int 8), (0, .ref 0), (1, .int x0)]) (st1 := [.ref 0, .ref 0]) (H1 := H5) (k1 := 0) (n1 := 0) (by with_unfolding_all rfl)) ?_
  refine ex_s (st_get rfl ((k5 0 (by decide)).trans f4) rfl) ?_
  refine ex_s (am_nb (m := 2) (pc1 := 40) (ls1 := [(2, .int 8), (0, .ref 0), (1, .int x0)]) (st1 := [.int 3, .ref 0]) (H1 := H5) (k1 := 0) (n1 := 0) (by with_unfolding_all rfl)) ?_
  refine ex_put rfl ((k5 0 (by decide)).trans f4) rfl rfl rfl ?_
  intro H6 f6 k6
  refine ex_s (am_nb (m := 5) (pc1 := 8) (ls1 := [(2, .int 0), (0, .ref 0), (1, .int x0)]) (st1 := [.ref 0]) (H1 := H6) (k1 := 0) (n1 := 0) (by with_unfolding_all rfl)) ?_
  refine ex_s (st_get rfl f6 rfl) ?_
  refine ex_s (am_nb (m := 3) (pc1 := 18) (ls1 := [(2, .int 0), (0, .ref 0), (1, .int x0)]) (st1 := [.ref 0]) (H1 := H6) (k1 := 0) (n1 := 0) (by with_unfolding_all rfl)) ?_
  refine ex_s (st_get rfl f6 rfl) ?_
  refine ex_s (am_nb (m := 1) (pc1 := 22) (ls1 := [(2, .int 0), (0, .ref 0), (1, .int x0)]) (st1 := [.ref 0, .ref 1]) (H1 := H6) (k1 := 0) (n1 := 0) (by with_unfolding_all rfl)) ?_
  refine ex_s (st_get rfl f6 rfl) ?_
  refine ex_s (am_nb (m := 5) (pc1 := 32) (ls1 := [(2, .int 0), (0, .ref 0), (1, .int x0)]) (st1 := [.int (((x0.toUInt32 >>> ((0 : Int32).toUInt32 &&& Int32.toUInt32 31)).toInt32) &&& 255), .int 3, .ref 1]) (H1 := H6) (k1 := 0) (n1 := 0) (by with_unfolding_all rfl)) ?_
  refine ex_iast rfl ((k6 1 (by decide)).trans f5) (by decide) ?_
  intro H7 f7 k7
  refine ex_s (am_nb (m := 2) (pc1 := 35) (ls1 := [(2, .int 0), (0, .ref 0), (1, .int x0)]) (st1 := [.ref 0, .ref 0]) (H1 := H7) (k1 := 0) (n1 := 0) (by with_unfolding_all rfl)) ?_
  refine ex_s (st_get rfl ((k7 0 (by decide)).trans f6) rfl) ?_
  refine ex_s (am_nb (m := 2) (pc1 := 40) (ls1 := [(2, .int 0), (0, .ref 0), (1, .int x0)]) (st1 := [.int 4, .ref 0]) (H1 := H7) (k1 := 0) (n1 := 0) (by with_unfolding_all rfl)) ?_
  refine ex_put rfl ((k7 0 (by decide)).trans f6) rfl rfl rfl ?_
  intro H8 f8 k8
  refine ex_s (am_nb (m := 4) (pc1 := 49) (ls1 := [(2, .int (-8)), (0, .ref 0), (1, .int x0)]) (st1 := []) (H1 := H8) (k1 := 0) (n1 := 0) (by with_unfolding_all rfl)) ?_
  exact ex_r (st_vret rfl rfl) ⟨⟨((k8 1 (by decide)).trans f7), f8, trivial⟩, fun j n1 n0 => ((k8 j n0).trans ((k7 j n1).trans ((k6 j n0).trans ((k5 j n1).trans ((k4 j n0).trans ((k3 j n1).trans ((k2 j n0).trans (k1 j n1))))))))⟩

set_option maxRecDepth 100000 in
theorem fx_feed_2_0 {sL : Nat} {sx : Nat → Int32} {cs : Nat → Nat → Option Int32} {H : am_H} {v0_13 : Int32} {x0 : Int32} {x1 : Int32} (h0 : am_is H 0 (.inr (11, [.ref 1, .int 4, .ref 2, .int 0, .ref 3, .ref 93, .ref 97, .ref 115, .ref 116, .ref 129, .ref 123, .ref 127, .ref 128, .int v0_13, .null, .int 0]))) (h1 : am_is H 1 (.inl (.int, (3000, .inl (upd (upd (upd (upd (fun _ => 0) ((0 : Int32).toNatClampNeg) (((x0.toUInt32 >>> ((24 : Int32).toUInt32 &&& Int32.toUInt32 31)).toInt32) &&& 255)) ((1 : Int32).toNatClampNeg) (((x0.toUInt32 >>> ((16 : Int32).toUInt32 &&& Int32.toUInt32 31)).toInt32) &&& 255)) ((2 : Int32).toNatClampNeg) (((x0.toUInt32 >>> ((8 : Int32).toUInt32 &&& Int32.toUInt32 31)).toInt32) &&& 255)) ((3 : Int32).toNatClampNeg) (((x0.toUInt32 >>> ((0 : Int32).toUInt32 &&& Int32.toUInt32 31)).toInt32) &&& 255))))))   :
    am_E sL sx cs 20 0 [(0, .ref 0), (1, .int x1)] [] H none (fun H1 => (am_is H1 1 (.inl (.int, (3000, .inl (upd (upd (upd (upd (upd (upd (upd (upd (fun _ => 0) ((0 : Int32).toNatClampNeg) (((x0.toUInt32 >>> ((24 : Int32).toUInt32 &&& Int32.toUInt32 31)).toInt32) &&& 255)) ((1 : Int32).toNatClampNeg) (((x0.toUInt32 >>> ((16 : Int32).toUInt32 &&& Int32.toUInt32 31)).toInt32) &&& 255)) ((2 : Int32).toNatClampNeg) (((x0.toUInt32 >>> ((8 : Int32).toUInt32 &&& Int32.toUInt32 31)).toInt32) &&& 255)) ((3 : Int32).toNatClampNeg) (((x0.toUInt32 >>> ((0 : Int32).toUInt32 &&& Int32.toUInt32 31)).toInt32) &&& 255)) ((4 : Int32).toNatClampNeg) (((x1.toUInt32 >>> ((24 : Int32).toUInt32 &&& Int32.toUInt32 31)).toInt32) &&& 255)) ((5 : Int32).toNatClampNeg) (((x1.toUInt32 >>> ((16 : Int32).toUInt32 &&& Int32.toUInt32 31)).toInt32) &&& 255)) ((6 : Int32).toNatClampNeg) (((x1.toUInt32 >>> ((8 : Int32).toUInt32 &&& Int32.toUInt32 31)).toInt32) &&& 255)) ((7 : Int32).toNatClampNeg) (((x1.toUInt32 >>> ((0 : Int32).toUInt32 &&& Int32.toUInt32 31)).toInt32) &&& 255))))) ∧ am_is H1 0 (.inr (11, [.ref 1, .int 8, .ref 2, .int 0, .ref 3, .ref 93, .ref 97, .ref 115, .ref 116, .ref 129, .ref 123, .ref 127, .ref 128, .int v0_13, .null, .int 0])) ∧ True) ∧ ∀ j : Nat, j ≠ 1 → j ≠ 0 → H1[j]? = H[j]?) := by
  refine ex_s (am_nb (m := 5) (pc1 := 8) (ls1 := [(2, .int 24), (0, .ref 0), (1, .int x1)]) (st1 := [.ref 0]) (H1 := H) (k1 := 0) (n1 := 0) (by with_unfolding_all rfl)) ?_
  refine ex_s (st_get rfl h0 rfl) ?_
  refine ex_s (am_nb (m := 3) (pc1 := 18) (ls1 := [(2, .int 24), (0, .ref 0), (1, .int x1)]) (st1 := [.ref 0]) (H1 := H) (k1 := 0) (n1 := 0) (by with_unfolding_all rfl)) ?_
  refine ex_s (st_get rfl h0 rfl) ?_
  refine ex_s (am_nb (m := 1) (pc1 := 22) (ls1 := [(2, .int 24), (0, .ref 0), (1, .int x1)]) (st1 := [.ref 0, .ref 1]) (H1 := H) (k1 := 0) (n1 := 0) (by with_unfolding_all rfl)) ?_
  refine ex_s (st_get rfl h0 rfl) ?_
  refine ex_s (am_nb (m := 5) (pc1 := 32) (ls1 := [(2, .int 24), (0, .ref 0), (1, .int x1)]) (st1 := [.int (((x1.toUInt32 >>> ((24 : Int32).toUInt32 &&& Int32.toUInt32 31)).toInt32) &&& 255), .int 4, .ref 1]) (H1 := H) (k1 := 0) (n1 := 0) (by with_unfolding_all rfl)) ?_
  refine ex_iast rfl h1 (by decide) ?_
  intro H10 f10 k10
  refine ex_s (am_nb (m := 2) (pc1 := 35) (ls1 := [(2, .int 24), (0, .ref 0), (1, .int x1)]) (st1 := [.ref 0, .ref 0]) (H1 := H10) (k1 := 0) (n1 := 0) (by with_unfolding_all rfl)) ?_
  refine ex_s (st_get rfl ((k10 0 (by decide)).trans h0) rfl) ?_
  refine ex_s (am_nb (m := 2) (pc1 := 40) (ls1 := [(2, .int 24), (0, .ref 0), (1, .int x1)]) (st1 := [.int 5, .ref 0]) (H1 := H10) (k1 := 0) (n1 := 0) (by with_unfolding_all rfl)) ?_
  refine ex_put rfl ((k10 0 (by decide)).trans h0) rfl rfl rfl ?_
  intro H11 f11 k11
  refine ex_s (am_nb (m := 5) (pc1 := 8) (ls1 := [(2, .int 16), (0, .ref 0), (1, .int x1)]) (st1 := [.ref 0]) (H1 := H11) (k1 := 0) (n1 := 0) (by with_unfolding_all rfl)) ?_
  refine ex_s (st_get rfl f11 rfl) ?_
  refine ex_s (am_nb (m := 3) (pc1 := 18) (ls1 := [(2, .int 16), (0, .ref 0), (1, .int x1)]) (st1 := [.ref 0]) (H1 := H11) (k1 := 0) (n1 := 0) (by with_unfolding_all rfl)) ?_
  refine ex_s (st_get rfl f11 rfl) ?_
  refine ex_s (am_nb (m := 1) (pc1 := 22) (ls1 := [(2, .int 16), (0, .ref 0), (1, .int x1)]) (st1 := [.ref 0, .ref 1]) (H1 := H11) (k1 := 0) (n1 := 0) (by with_unfolding_all rfl)) ?_
  refine ex_s (st_get rfl f11 rfl) ?_
  refine ex_s (am_nb (m := 5) (pc1 := 32) (ls1 := [(2, .int 16), (0, .ref 0), (1, .int x1)]) (st1 := [.int (((x1.toUInt32 >>> ((16 : Int32).toUInt32 &&& Int32.toUInt32 31)).toInt32) &&& 255), .int 5, .ref 1]) (H1 := H11) (k1 := 0) (n1 := 0) (by with_unfolding_all rfl)) ?_
  refine ex_iast rfl ((k11 1 (by decide)).trans f10) (by decide) ?_
  intro H12 f12 k12
  refine ex_s (am_nb (m := 2) (pc1 := 35) (ls1 := [(2, .int 16), (0, .ref 0), (1, .int x1)]) (st1 := [.ref 0, .ref 0]) (H1 := H12) (k1 := 0) (n1 := 0) (by with_unfolding_all rfl)) ?_
  refine ex_s (st_get rfl ((k12 0 (by decide)).trans f11) rfl) ?_
  refine ex_s (am_nb (m := 2) (pc1 := 40) (ls1 := [(2, .int 16), (0, .ref 0), (1, .int x1)]) (st1 := [.int 6, .ref 0]) (H1 := H12) (k1 := 0) (n1 := 0) (by with_unfolding_all rfl)) ?_
  refine ex_put rfl ((k12 0 (by decide)).trans f11) rfl rfl rfl ?_
  intro H13 f13 k13
  refine ex_s (am_nb (m := 5) (pc1 := 8) (ls1 := [(2, .int 8), (0, .ref 0), (1, .int x1)]) (st1 := [.ref 0]) (H1 := H13) (k1 := 0) (n1 := 0) (by with_unfolding_all rfl)) ?_
  refine ex_s (st_get rfl f13 rfl) ?_
  refine ex_s (am_nb (m := 3) (pc1 := 18) (ls1 := [(2, .int 8), (0, .ref 0), (1, .int x1)]) (st1 := [.ref 0]) (H1 := H13) (k1 := 0) (n1 := 0) (by with_unfolding_all rfl)) ?_
  refine ex_s (st_get rfl f13 rfl) ?_
  refine ex_s (am_nb (m := 1) (pc1 := 22) (ls1 := [(2, .int 8), (0, .ref 0), (1, .int x1)]) (st1 := [.ref 0, .ref 1]) (H1 := H13) (k1 := 0) (n1 := 0) (by with_unfolding_all rfl)) ?_
  refine ex_s (st_get rfl f13 rfl) ?_
  refine ex_s (am_nb (m := 5) (pc1 := 32) (ls1 := [(2, .int 8), (0, .ref 0), (1, .int x1)]) (st1 := [.int (((x1.toUInt32 >>> ((8 : Int32).toUInt32 &&& Int32.toUInt32 31)).toInt32) &&& 255), .int 6, .ref 1]) (H1 := H13) (k1 := 0) (n1 := 0) (by with_unfolding_all rfl)) ?_
  refine ex_iast rfl ((k13 1 (by decide)).trans f12) (by decide) ?_
  intro H14 f14 k14
  refine ex_s (am_nb (m := 2) (pc1 := 35) (ls1 := [(2, .int 8), (0, .ref 0), (1, .int x1)]) (st1 := [.ref 0, .ref 0]) (H1 := H14) (k1 := 0) (n1 := 0) (by with_unfolding_all rfl)) ?_
  refine ex_s (st_get rfl ((k14 0 (by decide)).trans f13) rfl) ?_
  refine ex_s (am_nb (m := 2) (pc1 := 40) (ls1 := [(2, .int 8), (0, .ref 0), (1, .int x1)]) (st1 := [.int 7, .ref 0]) (H1 := H14) (k1 := 0) (n1 := 0) (by with_unfolding_all rfl)) ?_
  refine ex_put rfl ((k14 0 (by decide)).trans f13) rfl rfl rfl ?_
  intro H15 f15 k15
  refine ex_s (am_nb (m := 5) (pc1 := 8) (ls1 := [(2, .int 0), (0, .ref 0), (1, .int x1)]) (st1 := [.ref 0]) (H1 := H15) (k1 := 0) (n1 := 0) (by with_unfolding_all rfl)) ?_
  refine ex_s (st_get rfl f15 rfl) ?_
  refine ex_s (am_nb (m := 3) (pc1 := 18) (ls1 := [(2, .int 0), (0, .ref 0), (1, .int x1)]) (st1 := [.ref 0]) (H1 := H15) (k1 := 0) (n1 := 0) (by with_unfolding_all rfl)) ?_
  refine ex_s (st_get rfl f15 rfl) ?_
  refine ex_s (am_nb (m := 1) (pc1 := 22) (ls1 := [(2, .int 0), (0, .ref 0), (1, .int x1)]) (st1 := [.ref 0, .ref 1]) (H1 := H15) (k1 := 0) (n1 := 0) (by with_unfolding_all rfl)) ?_
  refine ex_s (st_get rfl f15 rfl) ?_
  refine ex_s (am_nb (m := 5) (pc1 := 32) (ls1 := [(2, .int 0), (0, .ref 0), (1, .int x1)]) (st1 := [.int (((x1.toUInt32 >>> ((0 : Int32).toUInt32 &&& Int32.toUInt32 31)).toInt32) &&& 255), .int 7, .ref 1]) (H1 := H15) (k1 := 0) (n1 := 0) (by with_unfolding_all rfl)) ?_
  refine ex_iast rfl ((k15 1 (by decide)).trans f14) (by decide) ?_
  intro H16 f16 k16
  refine ex_s (am_nb (m := 2) (pc1 := 35) (ls1 := [(2, .int 0), (0, .ref 0), (1, .int x1)]) (st1 := [.ref 0, .ref 0]) (H1 := H16) (k1 := 0) (n1 := 0) (by with_unfolding_all rfl)) ?_
  refine ex_s (st_get rfl ((k16 0 (by decide)).trans f15) rfl) ?_
  refine ex_s (am_nb (m := 2) (pc1 := 40) (ls1 := [(2, .int 0), (0, .ref 0), (1, .int x1)]) (st1 := [.int 8, .ref 0]) (H1 := H16) (k1 := 0) (n1 := 0) (by with_unfolding_all rfl)) ?_
  refine ex_put rfl ((k16 0 (by decide)).trans f15) rfl rfl rfl ?_
  intro H17 f17 k17
  refine ex_s (am_nb (m := 4) (pc1 := 49) (ls1 := [(2, .int (-8)), (0, .ref 0), (1, .int x1)]) (st1 := []) (H1 := H17) (k1 := 0) (n1 := 0) (by with_unfolding_all rfl)) ?_
  exact ex_r (st_vret rfl rfl) ⟨⟨((k17 1 (by decide)).trans f16), f17, trivial⟩, fun j n1 n0 => ((k17 j n0).trans ((k16 j n1).trans ((k15 j n0).trans ((k14 j n1).trans ((k13 j n0).trans ((k12 j n1).trans ((k11 j n0).trans (k10 j n1))))))))⟩

set_option maxRecDepth 100000 in
theorem fx_feed_3_0 {sL : Nat} {sx : Nat → Int32} {cs : Nat → Nat → Option Int32} {H : am_H} {v0_13 : Int32} {x0 : Int32} {x1 : Int32} {x2 : Int32} (h0 : am_is H 0 (.inr (11, [.ref 1, .int 8, .ref 2, .int 0, .ref 3, .ref 93, .ref 97, .ref 115, .ref 116, .ref 129, .ref 123, .ref 127, .ref 128, .int v0_13, .null, .int 0]))) (h1 : am_is H 1 (.inl (.int, (3000, .inl (upd (upd (upd (upd (upd (upd (upd (upd (fun _ => 0) ((0 : Int32).toNatClampNeg) (((x0.toUInt32 >>> ((24 : Int32).toUInt32 &&& Int32.toUInt32 31)).toInt32) &&& 255)) ((1 : Int32).toNatClampNeg) (((x0.toUInt32 >>> ((16 : Int32).toUInt32 &&& Int32.toUInt32 31)).toInt32) &&& 255)) ((2 : Int32).toNatClampNeg) (((x0.toUInt32 >>> ((8 : Int32).toUInt32 &&& Int32.toUInt32 31)).toInt32) &&& 255)) ((3 : Int32).toNatClampNeg) (((x0.toUInt32 >>> ((0 : Int32).toUInt32 &&& Int32.toUInt32 31)).toInt32) &&& 255)) ((4 : Int32).toNatClampNeg) (((x1.toUInt32 >>> ((24 : Int32).toUInt32 &&& Int32.toUInt32 31)).toInt32) &&& 255)) ((5 : Int32).toNatClampNeg) (((x1.toUInt32 >>> ((16 : Int32).toUInt32 &&& Int32.toUInt32 31)).toInt32) &&& 255)) ((6 : Int32).toNatClampNeg) (((x1.toUInt32 >>> ((8 : Int32).toUInt32 &&& Int32.toUInt32 31)).toInt32) &&& 255)) ((7 : Int32).toNatClampNeg) (((x1.toUInt32 >>> ((0 : Int32).toUInt32 &&& Int32.toUInt32 31)).toInt32) &&& 255))))))   :
    am_E sL sx cs 20 0 [(0, .ref 0), (1, .int x2)] [] H none (fun H1 => (am_is H1 1 (.inl (.int, (3000, .inl (upd (upd (upd (upd (upd (upd (upd (upd (upd (upd (upd (upd (fun _ => 0) ((0 : Int32).toNatClampNeg) (((x0.toUInt32 >>> ((24 : Int32).toUInt32 &&& Int32.toUInt32 31)).toInt32) &&& 255)) ((1 : Int32).toNatClampNeg) (((x0.toUInt32 >>> ((16 : Int32).toUInt32 &&& Int32.toUInt32 31)).toInt32) &&& 255)) ((2 : Int32).toNatClampNeg) (((x0.toUInt32 >>> ((8 : Int32).toUInt32 &&& Int32.toUInt32 31)).toInt32) &&& 255)) ((3 : Int32).toNatClampNeg) (((x0.toUInt32 >>> ((0 : Int32).toUInt32 &&& Int32.toUInt32 31)).toInt32) &&& 255)) ((4 : Int32).toNatClampNeg) (((x1.toUInt32 >>> ((24 : Int32).toUInt32 &&& Int32.toUInt32 31)).toInt32) &&& 255)) ((5 : Int32).toNatClampNeg) (((x1.toUInt32 >>> ((16 : Int32).toUInt32 &&& Int32.toUInt32 31)).toInt32) &&& 255)) ((6 : Int32).toNatClampNeg) (((x1.toUInt32 >>> ((8 : Int32).toUInt32 &&& Int32.toUInt32 31)).toInt32) &&& 255)) ((7 : Int32).toNatClampNeg) (((x1.toUInt32 >>> ((0 : Int32).toUInt32 &&& Int32.toUInt32 31)).toInt32) &&& 255)) ((8 : Int32).toNatClampNeg) (((x2.toUInt32 >>> ((24 : Int32).toUInt32 &&& Int32.toUInt32 31)).toInt32) &&& 255)) ((9 : Int32).toNatClampNeg) (((x2.toUInt32 >>> ((16 : Int32).toUInt32 &&& Int32.toUInt32 31)).toInt32) &&& 255)) ((10 : Int32).toNatClampNeg) (((x2.toUInt32 >>> ((8 : Int32).toUInt32 &&& Int32.toUInt32 31)).toInt32) &&& 255)) ((11 : Int32).toNatClampNeg) (((x2.toUInt32 >>> ((0 : Int32).toUInt32 &&& Int32.toUInt32 31)).toInt32) &&& 255))))) ∧ am_is H1 0 (.inr (11, [.ref 1, .int 12, .ref 2, .int 0, .ref 3, .ref 93, .ref 97, .ref 115, .ref 116, .ref 129, .ref 123, .ref 127, .ref 128, .int v0_13, .null, .int 0])) ∧ True) ∧ ∀ j : Nat, j ≠ 1 → j ≠ 0 → H1[j]? = H[j]?) := by
  refine ex_s (am_nb (m := 5) (pc1 := 8) (ls1 := [(2, .int 24), (0, .ref 0), (1, .int x2)]) (st1 := [.ref 0]) (H1 := H) (k1 := 0) (n1 := 0) (by with_unfolding_all rfl)) ?_
  refine ex_s (st_get rfl h0 rfl) ?_
  refine ex_s (am_nb (m := 3) (pc1 := 18) (ls1 := [(2, .int 24), (0, .ref 0), (1, .int x2)]) (st1 := [.ref 0]) (H1 := H) (k1 := 0) (n1 := 0) (by with_unfolding_all rfl)) ?_
  refine ex_s (st_get rfl h0 rfl) ?_
  refine ex_s (am_nb (m := 1) (pc1 := 22) (ls1 := [(2, .int 24), (0, .ref 0), (1, .int x2)]) (st1 := [.ref 0, .ref 1]) (H1 := H) (k1 := 0) (n1 := 0) (by with_unfolding_all rfl)) ?_
  refine ex_s (st_get rfl h0 rfl) ?_
  refine ex_s (am_nb (m := 5) (pc1 := 32) (ls1 := [(2, .int 24), (0, .ref 0), (1, .int x2)]) (st1 := [.int (((x2.toUInt32 >>> ((24 : Int32).toUInt32 &&& Int32.toUInt32 31)).toInt32) &&& 255), .int 8, .ref 1]) (H1 := H) (k1 := 0) (n1 := 0) (by with_unfolding_all rfl)) ?_
  refine ex_iast rfl h1 (by decide) ?_
  intro H19 f19 k19
  refine ex_s (am_nb (m := 2) (pc1 := 35) (ls1 := [(2, .int 24), (0, .ref 0), (1, .int x2)]) (st1 := [.ref 0, .ref 0]) (H1 := H19) (k1 := 0) (n1 := 0) (by with_unfolding_all rfl)) ?_
  refine ex_s (st_get rfl ((k19 0 (by decide)).trans h0) rfl) ?_
  refine ex_s (am_nb (m := 2) (pc1 := 40) (ls1 := [(2, .int 24), (0, .ref 0), (1, .int x2)]) (st1 := [.int 9, .ref 0]) (H1 := H19) (k1 := 0) (n1 := 0) (by with_unfolding_all rfl)) ?_
  refine ex_put rfl ((k19 0 (by decide)).trans h0) rfl rfl rfl ?_
  intro H20 f20 k20
  refine ex_s (am_nb (m := 5) (pc1 := 8) (ls1 := [(2, .int 16), (0, .ref 0), (1, .int x2)]) (st1 := [.ref 0]) (H1 := H20) (k1 := 0) (n1 := 0) (by with_unfolding_all rfl)) ?_
  refine ex_s (st_get rfl f20 rfl) ?_
  refine ex_s (am_nb (m := 3) (pc1 := 18) (ls1 := [(2, .int 16), (0, .ref 0), (1, .int x2)]) (st1 := [.ref 0]) (H1 := H20) (k1 := 0) (n1 := 0) (by with_unfolding_all rfl)) ?_
  refine ex_s (st_get rfl f20 rfl) ?_
  refine ex_s (am_nb (m := 1) (pc1 := 22) (ls1 := [(2, .int 16), (0, .ref 0), (1, .int x2)]) (st1 := [.ref 0, .ref 1]) (H1 := H20) (k1 := 0) (n1 := 0) (by with_unfolding_all rfl)) ?_
  refine ex_s (st_get rfl f20 rfl) ?_
  refine ex_s (am_nb (m := 5) (pc1 := 32) (ls1 := [(2, .int 16), (0, .ref 0), (1, .int x2)]) (st1 := [.int (((x2.toUInt32 >>> ((16 : Int32).toUInt32 &&& Int32.toUInt32 31)).toInt32) &&& 255), .int 9, .ref 1]) (H1 := H20) (k1 := 0) (n1 := 0) (by with_unfolding_all rfl)) ?_
  refine ex_iast rfl ((k20 1 (by decide)).trans f19) (by decide) ?_
  intro H21 f21 k21
  refine ex_s (am_nb (m := 2) (pc1 := 35) (ls1 := [(2, .int 16), (0, .ref 0), (1, .int x2)]) (st1 := [.ref 0, .ref 0]) (H1 := H21) (k1 := 0) (n1 := 0) (by with_unfolding_all rfl)) ?_
  refine ex_s (st_get rfl ((k21 0 (by decide)).trans f20) rfl) ?_
  refine ex_s (am_nb (m := 2) (pc1 := 40) (ls1 := [(2, .int 16), (0, .ref 0), (1, .int x2)]) (st1 := [.int 10, .ref 0]) (H1 := H21) (k1 := 0) (n1 := 0) (by with_unfolding_all rfl)) ?_
  refine ex_put rfl ((k21 0 (by decide)).trans f20) rfl rfl rfl ?_
  intro H22 f22 k22
  refine ex_s (am_nb (m := 5) (pc1 := 8) (ls1 := [(2, .int 8), (0, .ref 0), (1, .int x2)]) (st1 := [.ref 0]) (H1 := H22) (k1 := 0) (n1 := 0) (by with_unfolding_all rfl)) ?_
  refine ex_s (st_get rfl f22 rfl) ?_
  refine ex_s (am_nb (m := 3) (pc1 := 18) (ls1 := [(2, .int 8), (0, .ref 0), (1, .int x2)]) (st1 := [.ref 0]) (H1 := H22) (k1 := 0) (n1 := 0) (by with_unfolding_all rfl)) ?_
  refine ex_s (st_get rfl f22 rfl) ?_
  refine ex_s (am_nb (m := 1) (pc1 := 22) (ls1 := [(2, .int 8), (0, .ref 0), (1, .int x2)]) (st1 := [.ref 0, .ref 1]) (H1 := H22) (k1 := 0) (n1 := 0) (by with_unfolding_all rfl)) ?_
  refine ex_s (st_get rfl f22 rfl) ?_
  refine ex_s (am_nb (m := 5) (pc1 := 32) (ls1 := [(2, .int 8), (0, .ref 0), (1, .int x2)]) (st1 := [.int (((x2.toUInt32 >>> ((8 : Int32).toUInt32 &&& Int32.toUInt32 31)).toInt32) &&& 255), .int 10, .ref 1]) (H1 := H22) (k1 := 0) (n1 := 0) (by with_unfolding_all rfl)) ?_
  refine ex_iast rfl ((k22 1 (by decide)).trans f21) (by decide) ?_
  intro H23 f23 k23
  refine ex_s (am_nb (m := 2) (pc1 := 35) (ls1 := [(2, .int 8), (0, .ref 0), (1, .int x2)]) (st1 := [.ref 0, .ref 0]) (H1 := H23) (k1 := 0) (n1 := 0) (by with_unfolding_all rfl)) ?_
  refine ex_s (st_get rfl ((k23 0 (by decide)).trans f22) rfl) ?_
  refine ex_s (am_nb (m := 2) (pc1 := 40) (ls1 := [(2, .int 8), (0, .ref 0), (1, .int x2)]) (st1 := [.int 11, .ref 0]) (H1 := H23) (k1 := 0) (n1 := 0) (by with_unfolding_all rfl)) ?_
  refine ex_put rfl ((k23 0 (by decide)).trans f22) rfl rfl rfl ?_
  intro H24 f24 k24
  refine ex_s (am_nb (m := 5) (pc1 := 8) (ls1 := [(2, .int 0), (0, .ref 0), (1, .int x2)]) (st1 := [.ref 0]) (H1 := H24) (k1 := 0) (n1 := 0) (by with_unfolding_all rfl)) ?_
  refine ex_s (st_get rfl f24 rfl) ?_
  refine ex_s (am_nb (m := 3) (pc1 := 18) (ls1 := [(2, .int 0), (0, .ref 0), (1, .int x2)]) (st1 := [.ref 0]) (H1 := H24) (k1 := 0) (n1 := 0) (by with_unfolding_all rfl)) ?_
  refine ex_s (st_get rfl f24 rfl) ?_
  refine ex_s (am_nb (m := 1) (pc1 := 22) (ls1 := [(2, .int 0), (0, .ref 0), (1, .int x2)]) (st1 := [.ref 0, .ref 1]) (H1 := H24) (k1 := 0) (n1 := 0) (by with_unfolding_all rfl)) ?_
  refine ex_s (st_get rfl f24 rfl) ?_
  refine ex_s (am_nb (m := 5) (pc1 := 32) (ls1 := [(2, .int 0), (0, .ref 0), (1, .int x2)]) (st1 := [.int (((x2.toUInt32 >>> ((0 : Int32).toUInt32 &&& Int32.toUInt32 31)).toInt32) &&& 255), .int 11, .ref 1]) (H1 := H24) (k1 := 0) (n1 := 0) (by with_unfolding_all rfl)) ?_
  refine ex_iast rfl ((k24 1 (by decide)).trans f23) (by decide) ?_
  intro H25 f25 k25
  refine ex_s (am_nb (m := 2) (pc1 := 35) (ls1 := [(2, .int 0), (0, .ref 0), (1, .int x2)]) (st1 := [.ref 0, .ref 0]) (H1 := H25) (k1 := 0) (n1 := 0) (by with_unfolding_all rfl)) ?_
  refine ex_s (st_get rfl ((k25 0 (by decide)).trans f24) rfl) ?_
  refine ex_s (am_nb (m := 2) (pc1 := 40) (ls1 := [(2, .int 0), (0, .ref 0), (1, .int x2)]) (st1 := [.int 12, .ref 0]) (H1 := H25) (k1 := 0) (n1 := 0) (by with_unfolding_all rfl)) ?_
  refine ex_put rfl ((k25 0 (by decide)).trans f24) rfl rfl rfl ?_
  intro H26 f26 k26
  refine ex_s (am_nb (m := 4) (pc1 := 49) (ls1 := [(2, .int (-8)), (0, .ref 0), (1, .int x2)]) (st1 := []) (H1 := H26) (k1 := 0) (n1 := 0) (by with_unfolding_all rfl)) ?_
  exact ex_r (st_vret rfl rfl) ⟨⟨((k26 1 (by decide)).trans f25), f26, trivial⟩, fun j n1 n0 => ((k26 j n0).trans ((k25 j n1).trans ((k24 j n0).trans ((k23 j n1).trans ((k22 j n0).trans ((k21 j n1).trans ((k20 j n0).trans (k19 j n1))))))))⟩

set_option maxRecDepth 100000 in
theorem fx_feed_4_0 {sL : Nat} {sx : Nat → Int32} {cs : Nat → Nat → Option Int32} {H : am_H} {v0_13 : Int32} {x0 : Int32} {x1 : Int32} {x2 : Int32} {x3 : Int32} (h0 : am_is H 0 (.inr (11, [.ref 1, .int 12, .ref 2, .int 0, .ref 3, .ref 93, .ref 97, .ref 115, .ref 116, .ref 129, .ref 123, .ref 127, .ref 128, .int v0_13, .null, .int 0]))) (h1 : am_is H 1 (.inl (.int, (3000, .inl (upd (upd (upd (upd (upd (upd (upd (upd (upd (upd (upd (upd (fun _ => 0) ((0 : Int32).toNatClampNeg) (((x0.toUInt32 >>> ((24 : Int32).toUInt32 &&& Int32.toUInt32 31)).toInt32) &&& 255)) ((1 : Int32).toNatClampNeg) (((x0.toUInt32 >>> ((16 : Int32).toUInt32 &&& Int32.toUInt32 31)).toInt32) &&& 255)) ((2 : Int32).toNatClampNeg) (((x0.toUInt32 >>> ((8 : Int32).toUInt32 &&& Int32.toUInt32 31)).toInt32) &&& 255)) ((3 : Int32).toNatClampNeg) (((x0.toUInt32 >>> ((0 : Int32).toUInt32 &&& Int32.toUInt32 31)).toInt32) &&& 255)) ((4 : Int32).toNatClampNeg) (((x1.toUInt32 >>> ((24 : Int32).toUInt32 &&& Int32.toUInt32 31)).toInt32) &&& 255)) ((5 : Int32).toNatClampNeg) (((x1.toUInt32 >>> ((16 : Int32).toUInt32 &&& Int32.toUInt32 31)).toInt32) &&& 255)) ((6 : Int32).toNatClampNeg) (((x1.toUInt32 >>> ((8 : Int32).toUInt32 &&& Int32.toUInt32 31)).toInt32) &&& 255)) ((7 : Int32).toNatClampNeg) (((x1.toUInt32 >>> ((0 : Int32).toUInt32 &&& Int32.toUInt32 31)).toInt32) &&& 255)) ((8 : Int32).toNatClampNeg) (((x2.toUInt32 >>> ((24 : Int32).toUInt32 &&& Int32.toUInt32 31)).toInt32) &&& 255)) ((9 : Int32).toNatClampNeg) (((x2.toUInt32 >>> ((16 : Int32).toUInt32 &&& Int32.toUInt32 31)).toInt32) &&& 255)) ((10 : Int32).toNatClampNeg) (((x2.toUInt32 >>> ((8 : Int32).toUInt32 &&& Int32.toUInt32 31)).toInt32) &&& 255)) ((11 : Int32).toNatClampNeg) (((x2.toUInt32 >>> ((0 : Int32).toUInt32 &&& Int32.toUInt32 31)).toInt32) &&& 255))))))   :
    am_E sL sx cs 20 0 [(0, .ref 0), (1, .int x3)] [] H none (fun H1 => (am_is H1 1 (.inl (.int, (3000, .inl (upd (upd (upd (upd (upd (upd (upd (upd (upd (upd (upd (upd (upd (upd (upd (upd (fun _ => 0) ((0 : Int32).toNatClampNeg) (((x0.toUInt32 >>> ((24 : Int32).toUInt32 &&& Int32.toUInt32 31)).toInt32) &&& 255)) ((1 : Int32).toNatClampNeg) (((x0.toUInt32 >>> ((16 : Int32).toUInt32 &&& Int32.toUInt32 31)).toInt32) &&& 255)) ((2 : Int32).toNatClampNeg) (((x0.toUInt32 >>> ((8 : Int32).toUInt32 &&& Int32.toUInt32 31)).toInt32) &&& 255)) ((3 : Int32).toNatClampNeg) (((x0.toUInt32 >>> ((0 : Int32).toUInt32 &&& Int32.toUInt32 31)).toInt32) &&& 255)) ((4 : Int32).toNatClampNeg) (((x1.toUInt32 >>> ((24 : Int32).toUInt32 &&& Int32.toUInt32 31)).toInt32) &&& 255)) ((5 : Int32).toNatClampNeg) (((x1.toUInt32 >>> ((16 : Int32).toUInt32 &&& Int32.toUInt32 31)).toInt32) &&& 255)) ((6 : Int32).toNatClampNeg) (((x1.toUInt32 >>> ((8 : Int32).toUInt32 &&& Int32.toUInt32 31)).toInt32) &&& 255)) ((7 : Int32).toNatClampNeg) (((x1.toUInt32 >>> ((0 : Int32).toUInt32 &&& Int32.toUInt32 31)).toInt32) &&& 255)) ((8 : Int32).toNatClampNeg) (((x2.toUInt32 >>> ((24 : Int32).toUInt32 &&& Int32.toUInt32 31)).toInt32) &&& 255)) ((9 : Int32).toNatClampNeg) (((x2.toUInt32 >>> ((16 : Int32).toUInt32 &&& Int32.toUInt32 31)).toInt32) &&& 255)) ((10 : Int32).toNatClampNeg) (((x2.toUInt32 >>> ((8 : Int32).toUInt32 &&& Int32.toUInt32 31)).toInt32) &&& 255)) ((11 : Int32).toNatClampNeg) (((x2.toUInt32 >>> ((0 : Int32).toUInt32 &&& Int32.toUInt32 31)).toInt32) &&& 255)) ((12 : Int32).toNatClampNeg) (((x3.toUInt32 >>> ((24 : Int32).toUInt32 &&& Int32.toUInt32 31)).toInt32) &&& 255)) ((13 : Int32).toNatClampNeg) (((x3.toUInt32 >>> ((16 : Int32).toUInt32 &&& Int32.toUInt32 31)).toInt32) &&& 255)) ((14 : Int32).toNatClampNeg) (((x3.toUInt32 >>> ((8 : Int32).toUInt32 &&& Int32.toUInt32 31)).toInt32) &&& 255)) ((15 : Int32).toNatClampNeg) (((x3.toUInt32 >>> ((0 : Int32).toUInt32 &&& Int32.toUInt32 31)).toInt32) &&& 255))))) ∧ am_is H1 0 (.inr (11, [.ref 1, .int 16, .ref 2, .int 0, .ref 3, .ref 93, .ref 97, .ref 115, .ref 116, .ref 129, .ref 123, .ref 127, .ref 128, .int v0_13, .null, .int 0])) ∧ True) ∧ ∀ j : Nat, j ≠ 1 → j ≠ 0 → H1[j]? = H[j]?) := by
  refine ex_s (am_nb (m := 5) (pc1 := 8) (ls1 := [(2, .int 24), (0, .ref 0), (1, .int x3)]) (st1 := [.ref 0]) (H1 := H) (k1 := 0) (n1 := 0) (by with_unfolding_all rfl)) ?_
  refine ex_s (st_get rfl h0 rfl) ?_
  refine ex_s (am_nb (m := 3) (pc1 := 18) (ls1 := [(2, .int 24), (0, .ref 0), (1, .int x3)]) (st1 := [.ref 0]) (H1 := H) (k1 := 0) (n1 := 0) (by with_unfolding_all rfl)) ?_
  refine ex_s (st_get rfl h0 rfl) ?_
  refine ex_s (am_nb (m := 1) (pc1 := 22) (ls1 := [(2, .int 24), (0, .ref 0), (1, .int x3)]) (st1 := [.ref 0, .ref 1]) (H1 := H) (k1 := 0) (n1 := 0) (by with_unfolding_all rfl)) ?_
  refine ex_s (st_get rfl h0 rfl) ?_
  refine ex_s (am_nb (m := 5) (pc1 := 32) (ls1 := [(2, .int 24), (0, .ref 0), (1, .int x3)]) (st1 := [.int (((x3.toUInt32 >>> ((24 : Int32).toUInt32 &&& Int32.toUInt32 31)).toInt32) &&& 255), .int 12, .ref 1]) (H1 := H) (k1 := 0) (n1 := 0) (by with_unfolding_all rfl)) ?_
  refine ex_iast rfl h1 (by decide) ?_
  intro H28 f28 k28
  refine ex_s (am_nb (m := 2) (pc1 := 35) (ls1 := [(2, .int 24), (0, .ref 0), (1, .int x3)]) (st1 := [.ref 0, .ref 0]) (H1 := H28) (k1 := 0) (n1 := 0) (by with_unfolding_all rfl)) ?_
  refine ex_s (st_get rfl ((k28 0 (by decide)).trans h0) rfl) ?_
  refine ex_s (am_nb (m := 2) (pc1 := 40) (ls1 := [(2, .int 24), (0, .ref 0), (1, .int x3)]) (st1 := [.int 13, .ref 0]) (H1 := H28) (k1 := 0) (n1 := 0) (by with_unfolding_all rfl)) ?_
  refine ex_put rfl ((k28 0 (by decide)).trans h0) rfl rfl rfl ?_
  intro H29 f29 k29
  refine ex_s (am_nb (m := 5) (pc1 := 8) (ls1 := [(2, .int 16), (0, .ref 0), (1, .int x3)]) (st1 := [.ref 0]) (H1 := H29) (k1 := 0) (n1 := 0) (by with_unfolding_all rfl)) ?_
  refine ex_s (st_get rfl f29 rfl) ?_
  refine ex_s (am_nb (m := 3) (pc1 := 18) (ls1 := [(2, .int 16), (0, .ref 0), (1, .int x3)]) (st1 := [.ref 0]) (H1 := H29) (k1 := 0) (n1 := 0) (by with_unfolding_all rfl)) ?_
  refine ex_s (st_get rfl f29 rfl) ?_
  refine ex_s (am_nb (m := 1) (pc1 := 22) (ls1 := [(2, .int 16), (0, .ref 0), (1, .int x3)]) (st1 := [.ref 0, .ref 1]) (H1 := H29) (k1 := 0) (n1 := 0) (by with_unfolding_all rfl)) ?_
  refine ex_s (st_get rfl f29 rfl) ?_
  refine ex_s (am_nb (m := 5) (pc1 := 32) (ls1 := [(2, .int 16), (0, .ref 0), (1, .int x3)]) (st1 := [.int (((x3.toUInt32 >>> ((16 : Int32).toUInt32 &&& Int32.toUInt32 31)).toInt32) &&& 255), .int 13, .ref 1]) (H1 := H29) (k1 := 0) (n1 := 0) (by with_unfolding_all rfl)) ?_
  refine ex_iast rfl ((k29 1 (by decide)).trans f28) (by decide) ?_
  intro H30 f30 k30
  refine ex_s (am_nb (m := 2) (pc1 := 35) (ls1 := [(2, .int 16), (0, .ref 0), (1, .int x3)]) (st1 := [.ref 0, .ref 0]) (H1 := H30) (k1 := 0) (n1 := 0) (by with_unfolding_all rfl)) ?_
  refine ex_s (st_get rfl ((k30 0 (by decide)).trans f29) rfl) ?_
  refine ex_s (am_nb (m := 2) (pc1 := 40) (ls1 := [(2, .int 16), (0, .ref 0), (1, .int x3)]) (st1 := [.int 14, .ref 0]) (H1 := H30) (k1 := 0) (n1 := 0) (by with_unfolding_all rfl)) ?_
  refine ex_put rfl ((k30 0 (by decide)).trans f29) rfl rfl rfl ?_
  intro H31 f31 k31
  refine ex_s (am_nb (m := 5) (pc1 := 8) (ls1 := [(2, .int 8), (0, .ref 0), (1, .int x3)]) (st1 := [.ref 0]) (H1 := H31) (k1 := 0) (n1 := 0) (by with_unfolding_all rfl)) ?_
  refine ex_s (st_get rfl f31 rfl) ?_
  refine ex_s (am_nb (m := 3) (pc1 := 18) (ls1 := [(2, .int 8), (0, .ref 0), (1, .int x3)]) (st1 := [.ref 0]) (H1 := H31) (k1 := 0) (n1 := 0) (by with_unfolding_all rfl)) ?_
  refine ex_s (st_get rfl f31 rfl) ?_
  refine ex_s (am_nb (m := 1) (pc1 := 22) (ls1 := [(2, .int 8), (0, .ref 0), (1, .int x3)]) (st1 := [.ref 0, .ref 1]) (H1 := H31) (k1 := 0) (n1 := 0) (by with_unfolding_all rfl)) ?_
  refine ex_s (st_get rfl f31 rfl) ?_
  refine ex_s (am_nb (m := 5) (pc1 := 32) (ls1 := [(2, .int 8), (0, .ref 0), (1, .int x3)]) (st1 := [.int (((x3.toUInt32 >>> ((8 : Int32).toUInt32 &&& Int32.toUInt32 31)).toInt32) &&& 255), .int 14, .ref 1]) (H1 := H31) (k1 := 0) (n1 := 0) (by with_unfolding_all rfl)) ?_
  refine ex_iast rfl ((k31 1 (by decide)).trans f30) (by decide) ?_
  intro H32 f32 k32
  refine ex_s (am_nb (m := 2) (pc1 := 35) (ls1 := [(2, .int 8), (0, .ref 0), (1, .int x3)]) (st1 := [.ref 0, .ref 0]) (H1 := H32) (k1 := 0) (n1 := 0) (by with_unfolding_all rfl)) ?_
  refine ex_s (st_get rfl ((k32 0 (by decide)).trans f31) rfl) ?_
  refine ex_s (am_nb (m := 2) (pc1 := 40) (ls1 := [(2, .int 8), (0, .ref 0), (1, .int x3)]) (st1 := [.int 15, .ref 0]) (H1 := H32) (k1 := 0) (n1 := 0) (by with_unfolding_all rfl)) ?_
  refine ex_put rfl ((k32 0 (by decide)).trans f31) rfl rfl rfl ?_
  intro H33 f33 k33
  refine ex_s (am_nb (m := 5) (pc1 := 8) (ls1 := [(2, .int 0), (0, .ref 0), (1, .int x3)]) (st1 := [.ref 0]) (H1 := H33) (k1 := 0) (n1 := 0) (by with_unfolding_all rfl)) ?_
  refine ex_s (st_get rfl f33 rfl) ?_
  refine ex_s (am_nb (m := 3) (pc1 := 18) (ls1 := [(2, .int 0), (0, .ref 0), (1, .int x3)]) (st1 := [.ref 0]) (H1 := H33) (k1 := 0) (n1 := 0) (by with_unfolding_all rfl)) ?_
  refine ex_s (st_get rfl f33 rfl) ?_
  refine ex_s (am_nb (m := 1) (pc1 := 22) (ls1 := [(2, .int 0), (0, .ref 0), (1, .int x3)]) (st1 := [.ref 0, .ref 1]) (H1 := H33) (k1 := 0) (n1 := 0) (by with_unfolding_all rfl)) ?_
  refine ex_s (st_get rfl f33 rfl) ?_
  refine ex_s (am_nb (m := 5) (pc1 := 32) (ls1 := [(2, .int 0), (0, .ref 0), (1, .int x3)]) (st1 := [.int (((x3.toUInt32 >>> ((0 : Int32).toUInt32 &&& Int32.toUInt32 31)).toInt32) &&& 255), .int 15, .ref 1]) (H1 := H33) (k1 := 0) (n1 := 0) (by with_unfolding_all rfl)) ?_
  refine ex_iast rfl ((k33 1 (by decide)).trans f32) (by decide) ?_
  intro H34 f34 k34
  refine ex_s (am_nb (m := 2) (pc1 := 35) (ls1 := [(2, .int 0), (0, .ref 0), (1, .int x3)]) (st1 := [.ref 0, .ref 0]) (H1 := H34) (k1 := 0) (n1 := 0) (by with_unfolding_all rfl)) ?_
  refine ex_s (st_get rfl ((k34 0 (by decide)).trans f33) rfl) ?_
  refine ex_s (am_nb (m := 2) (pc1 := 40) (ls1 := [(2, .int 0), (0, .ref 0), (1, .int x3)]) (st1 := [.int 16, .ref 0]) (H1 := H34) (k1 := 0) (n1 := 0) (by with_unfolding_all rfl)) ?_
  refine ex_put rfl ((k34 0 (by decide)).trans f33) rfl rfl rfl ?_
  intro H35 f35 k35
  refine ex_s (am_nb (m := 4) (pc1 := 49) (ls1 := [(2, .int (-8)), (0, .ref 0), (1, .int x3)]) (st1 := []) (H1 := H35) (k1 := 0) (n1 := 0) (by with_unfolding_all rfl)) ?_
  exact ex_r (st_vret rfl rfl) ⟨⟨((k35 1 (by decide)).trans f34), f35, trivial⟩, fun j n1 n0 => ((k35 j n0).trans ((k34 j n1).trans ((k33 j n0).trans ((k32 j n1).trans ((k31 j n0).trans ((k30 j n1).trans ((k29 j n0).trans (k28 j n1))))))))⟩

set_option maxRecDepth 100000 in
theorem fx_feed_5_0 {sL : Nat} {sx : Nat → Int32} {cs : Nat → Nat → Option Int32} {H : am_H} {v0_13 : Int32} {x0 : Int32} {x1 : Int32} {x2 : Int32} {x3 : Int32} {x4 : Int32} (h0 : am_is H 0 (.inr (11, [.ref 1, .int 16, .ref 2, .int 0, .ref 3, .ref 93, .ref 97, .ref 115, .ref 116, .ref 129, .ref 123, .ref 127, .ref 128, .int v0_13, .null, .int 0]))) (h1 : am_is H 1 (.inl (.int, (3000, .inl (upd (upd (upd (upd (upd (upd (upd (upd (upd (upd (upd (upd (upd (upd (upd (upd (fun _ => 0) ((0 : Int32).toNatClampNeg) (((x0.toUInt32 >>> ((24 : Int32).toUInt32 &&& Int32.toUInt32 31)).toInt32) &&& 255)) ((1 : Int32).toNatClampNeg) (((x0.toUInt32 >>> ((16 : Int32).toUInt32 &&& Int32.toUInt32 31)).toInt32) &&& 255)) ((2 : Int32).toNatClampNeg) (((x0.toUInt32 >>> ((8 : Int32).toUInt32 &&& Int32.toUInt32 31)).toInt32) &&& 255)) ((3 : Int32).toNatClampNeg) (((x0.toUInt32 >>> ((0 : Int32).toUInt32 &&& Int32.toUInt32 31)).toInt32) &&& 255)) ((4 : Int32).toNatClampNeg) (((x1.toUInt32 >>> ((24 : Int32).toUInt32 &&& Int32.toUInt32 31)).toInt32) &&& 255)) ((5 : Int32).toNatClampNeg) (((x1.toUInt32 >>> ((16 : Int32).toUInt32 &&& Int32.toUInt32 31)).toInt32) &&& 255)) ((6 : Int32).toNatClampNeg) (((x1.toUInt32 >>> ((8 : Int32).toUInt32 &&& Int32.toUInt32 31)).toInt32) &&& 255)) ((7 : Int32).toNatClampNeg) (((x1.toUInt32 >>> ((0 : Int32).toUInt32 &&& Int32.toUInt32 31)).toInt32) &&& 255)) ((8 : Int32).toNatClampNeg) (((x2.toUInt32 >>> ((24 : Int32).toUInt32 &&& Int32.toUInt32 31)).toInt32) &&& 255)) ((9 : Int32).toNatClampNeg) (((x2.toUInt32 >>> ((16 : Int32).toUInt32 &&& Int32.toUInt32 31)).toInt32) &&& 255)) ((10 : Int32).toNatClampNeg) (((x2.toUInt32 >>> ((8 : Int32).toUInt32 &&& Int32.toUInt32 31)).toInt32) &&& 255)) ((11 : Int32).toNatClampNeg) (((x2.toUInt32 >>> ((0 : Int32).toUInt32 &&& Int32.toUInt32 31)).toInt32) &&& 255)) ((12 : Int32).toNatClampNeg) (((x3.toUInt32 >>> ((24 : Int32).toUInt32 &&& Int32.toUInt32 31)).toInt32) &&& 255)) ((13 : Int32).toNatClampNeg) (((x3.toUInt32 >>> ((16 : Int32).toUInt32 &&& Int32.toUInt32 31)).toInt32) &&& 255)) ((14 : Int32).toNatClampNeg) (((x3.toUInt32 >>> ((8 : Int32).toUInt32 &&& Int32.toUInt32 31)).toInt32) &&& 255)) ((15 : Int32).toNatClampNeg) (((x3.toUInt32 >>> ((0 : Int32).toUInt32 &&& Int32.toUInt32 31)).toInt32) &&& 255))))))   :
    am_E sL sx cs 20 0 [(0, .ref 0), (1, .int x4)] [] H none (fun H1 => (am_is H1 1 (.inl (.int, (3000, .inl (upd (upd (upd (upd (upd (upd (upd (upd (upd (upd (upd (upd (upd (upd (upd (upd (upd (upd (upd (upd (fun _ => 0) ((0 : Int32).toNatClampNeg) (((x0.toUInt32 >>> ((24 : Int32).toUInt32 &&& Int32.toUInt32 31)).toInt32) &&& 255)) ((1 : Int32).toNatClampNeg) (((x0.toUInt32 >>> ((16 : Int32).toUInt32 &&& Int32.toUInt32 31)).toInt32) &&& 255)) ((2 : Int32).toNatClampNeg) (((x0.toUInt32 >>> ((8 : Int32).toUInt32 &&& Int32.toUInt32 31)).toInt32) &&& 255)) ((3 : Int32).toNatClampNeg) (((x0.toUInt32 >>> ((0 : Int32).toUInt32 &&& Int32.toUInt32 31)).toInt32) &&& 255)) ((4 : Int32).toNatClampNeg) (((x1.toUInt32 >>> ((24 : Int32).toUInt32 &&& Int32.toUInt32 31)).toInt32) &&& 255)) ((5 : Int32).toNatClampNeg) (((x1.toUInt32 >>> ((16 : Int32).toUInt32 &&& Int32.toUInt32 31)).toInt32) &&& 255)) ((6 : Int32).toNatClampNeg) (((x1.toUInt32 >>> ((8 : Int32).toUInt32 &&& Int32.toUInt32 31)).toInt32) &&& 255)) ((7 : Int32).toNatClampNeg) (((x1.toUInt32 >>> ((0 : Int32).toUInt32 &&& Int32.toUInt32 31)).toInt32) &&& 255)) ((8 : Int32).toNatClampNeg) (((x2.toUInt32 >>> ((24 : Int32).toUInt32 &&& Int32.toUInt32 31)).toInt32) &&& 255)) ((9 : Int32).toNatClampNeg) (((x2.toUInt32 >>> ((16 : Int32).toUInt32 &&& Int32.toUInt32 31)).toInt32) &&& 255)) ((10 : Int32).toNatClampNeg) (((x2.toUInt32 >>> ((8 : Int32).toUInt32 &&& Int32.toUInt32 31)).toInt32) &&& 255)) ((11 : Int32).toNatClampNeg) (((x2.toUInt32 >>> ((0 : Int32).toUInt32 &&& Int32.toUInt32 31)).toInt32) &&& 255)) ((12 : Int32).toNatClampNeg) (((x3.toUInt32 >>> ((24 : Int32).toUInt32 &&& Int32.toUInt32 31)).toInt32) &&& 255)) ((13 : Int32).toNatClampNeg) (((x3.toUInt32 >>> ((16 : Int32).toUInt32 &&& Int32.toUInt32 31)).toInt32) &&& 255)) ((14 : Int32).toNatClampNeg) (((x3.toUInt32 >>> ((8 : Int32).toUInt32 &&& Int32.toUInt32 31)).toInt32) &&& 255)) ((15 : Int32).toNatClampNeg) (((x3.toUInt32 >>> ((0 : Int32).toUInt32 &&& Int32.toUInt32 31)).toInt32) &&& 255)) ((16 : Int32).toNatClampNeg) (((x4.toUInt32 >>> ((24 : Int32).toUInt32 &&& Int32.toUInt32 31)).toInt32) &&& 255)) ((17 : Int32).toNatClampNeg) (((x4.toUInt32 >>> ((16 : Int32).toUInt32 &&& Int32.toUInt32 31)).toInt32) &&& 255)) ((18 : Int32).toNatClampNeg) (((x4.toUInt32 >>> ((8 : Int32).toUInt32 &&& Int32.toUInt32 31)).toInt32) &&& 255)) ((19 : Int32).toNatClampNeg) (((x4.toUInt32 >>> ((0 : Int32).toUInt32 &&& Int32.toUInt32 31)).toInt32) &&& 255))))) ∧ am_is H1 0 (.inr (11, [.ref 1, .int 20, .ref 2, .int 0, .ref 3, .ref 93, .ref 97, .ref 115, .ref 116, .ref 129, .ref 123, .ref 127, .ref 128, .int v0_13, .null, .int 0])) ∧ True) ∧ ∀ j : Nat, j ≠ 1 → j ≠ 0 → H1[j]? = H[j]?) := by
  refine ex_s (am_nb (m := 5) (pc1 := 8) (ls1 := [(2, .int 24), (0, .ref 0), (1, .int x4)]) (st1 := [.ref 0]) (H1 := H) (k1 := 0) (n1 := 0) (by with_unfolding_all rfl)) ?_
  refine ex_s (st_get rfl h0 rfl) ?_
  refine ex_s (am_nb (m := 3) (pc1 := 18) (ls1 := [(2, .int 24), (0, .ref 0), (1, .int x4)]) (st1 := [.ref 0]) (H1 := H) (k1 := 0) (n1 := 0) (by with_unfolding_all rfl)) ?_
  refine ex_s (st_get rfl h0 rfl) ?_
  refine ex_s (am_nb (m := 1) (pc1 := 22) (ls1 := [(2, .int 24), (0, .ref 0), (1, .int x4)]) (st1 := [.ref 0, .ref 1]) (H1 := H) (k1 := 0) (n1 := 0) (by with_unfolding_all rfl)) ?_
  refine ex_s (st_get rfl h0 rfl) ?_
  refine ex_s (am_nb (m := 5) (pc1 := 32) (ls1 := [(2, .int 24), (0, .ref 0), (1, .int x4)]) (st1 := [.int (((x4.toUInt32 >>> ((24 : Int32).toUInt32 &&& Int32.toUInt32 31)).toInt32) &&& 255), .int 16, .ref 1]) (H1 := H) (k1 := 0) (n1 := 0) (by with_unfolding_all rfl)) ?_
  refine ex_iast rfl h1 (by decide) ?_
  intro H37 f37 k37
  refine ex_s (am_nb (m := 2) (pc1 := 35) (ls1 := [(2, .int 24), (0, .ref 0), (1, .int x4)]) (st1 := [.ref 0, .ref 0]) (H1 := H37) (k1 := 0) (n1 := 0) (by with_unfolding_all rfl)) ?_
  refine ex_s (st_get rfl ((k37 0 (by decide)).trans h0) rfl) ?_
  refine ex_s (am_nb (m := 2) (pc1 := 40) (ls1 := [(2, .int 24), (0, .ref 0), (1, .int x4)]) (st1 := [.int 17, .ref 0]) (H1 := H37) (k1 := 0) (n1 := 0) (by with_unfolding_all rfl)) ?_
  refine ex_put rfl ((k37 0 (by decide)).trans h0) rfl rfl rfl ?_
  intro H38 f38 k38
  refine ex_s (am_nb (m := 5) (pc1 := 8) (ls1 := [(2, .int 16), (0, .ref 0), (1, .int x4)]) (st1 := [.ref 0]) (H1 := H38) (k1 := 0) (n1 := 0) (by with_unfolding_all rfl)) ?_
  refine ex_s (st_get rfl f38 rfl) ?_
  refine ex_s (am_nb (m := 3) (pc1 := 18) (ls1 := [(2, .int 16), (0, .ref 0), (1, .int x4)]) (st1 := [.ref 0]) (H1 := H38) (k1 := 0) (n1 := 0) (by with_unfolding_all rfl)) ?_
  refine ex_s (st_get rfl f38 rfl) ?_
  refine ex_s (am_nb (m := 1) (pc1 := 22) (ls1 := [(2, .int 16), (0, .ref 0), (1, .int x4)]) (st1 := [.ref 0, .ref 1]) (H1 := H38) (k1 := 0) (n1 := 0) (by with_unfolding_all rfl)) ?_
  refine ex_s (st_get rfl f38 rfl) ?_
  refine ex_s (am_nb (m := 5) (pc1 := 32) (ls1 := [(2, .int 16), (0, .ref 0), (1, .int x4)]) (st1 := [.int (((x4.toUInt32 >>> ((16 : Int32).toUInt32 &&& Int32.toUInt32 31)).toInt32) &&& 255), .int 17, .ref 1]) (H1 := H38) (k1 := 0) (n1 := 0) (by with_unfolding_all rfl)) ?_
  refine ex_iast rfl ((k38 1 (by decide)).trans f37) (by decide) ?_
  intro H39 f39 k39
  refine ex_s (am_nb (m := 2) (pc1 := 35) (ls1 := [(2, .int 16), (0, .ref 0), (1, .int x4)]) (st1 := [.ref 0, .ref 0]) (H1 := H39) (k1 := 0) (n1 := 0) (by with_unfolding_all rfl)) ?_
  refine ex_s (st_get rfl ((k39 0 (by decide)).trans f38) rfl) ?_
  refine ex_s (am_nb (m := 2) (pc1 := 40) (ls1 := [(2, .int 16), (0, .ref 0), (1, .int x4)]) (st1 := [.int 18, .ref 0]) (H1 := H39) (k1 := 0) (n1 := 0) (by with_unfolding_all rfl)) ?_
  refine ex_put rfl ((k39 0 (by decide)).trans f38) rfl rfl rfl ?_
  intro H40 f40 k40
  refine ex_s (am_nb (m := 5) (pc1 := 8) (ls1 := [(2, .int 8), (0, .ref 0), (1, .int x4)]) (st1 := [.ref 0]) (H1 := H40) (k1 := 0) (n1 := 0) (by with_unfolding_all rfl)) ?_
  refine ex_s (st_get rfl f40 rfl) ?_
  refine ex_s (am_nb (m := 3) (pc1 := 18) (ls1 := [(2, .int 8), (0, .ref 0), (1, .int x4)]) (st1 := [.ref 0]) (H1 := H40) (k1 := 0) (n1 := 0) (by with_unfolding_all rfl)) ?_
  refine ex_s (st_get rfl f40 rfl) ?_
  refine ex_s (am_nb (m := 1) (pc1 := 22) (ls1 := [(2, .int 8), (0, .ref 0), (1, .int x4)]) (st1 := [.ref 0, .ref 1]) (H1 := H40) (k1 := 0) (n1 := 0) (by with_unfolding_all rfl)) ?_
  refine ex_s (st_get rfl f40 rfl) ?_
  refine ex_s (am_nb (m := 5) (pc1 := 32) (ls1 := [(2, .int 8), (0, .ref 0), (1, .int x4)]) (st1 := [.int (((x4.toUInt32 >>> ((8 : Int32).toUInt32 &&& Int32.toUInt32 31)).toInt32) &&& 255), .int 18, .ref 1]) (H1 := H40) (k1 := 0) (n1 := 0) (by with_unfolding_all rfl)) ?_
  refine ex_iast rfl ((k40 1 (by decide)).trans f39) (by decide) ?_
  intro H41 f41 k41
  refine ex_s (am_nb (m := 2) (pc1 := 35) (ls1 := [(2, .int 8), (0, .ref 0), (1, .int x4)]) (st1 := [.ref 0, .ref 0]) (H1 := H41) (k1 := 0) (n1 := 0) (by with_unfolding_all rfl)) ?_
  refine ex_s (st_get rfl ((k41 0 (by decide)).trans f40) rfl) ?_
  refine ex_s (am_nb (m := 2) (pc1 := 40) (ls1 := [(2, .int 8), (0, .ref 0), (1, .int x4)]) (st1 := [.int 19, .ref 0]) (H1 := H41) (k1 := 0) (n1 := 0) (by with_unfolding_all rfl)) ?_
  refine ex_put rfl ((k41 0 (by decide)).trans f40) rfl rfl rfl ?_
  intro H42 f42 k42
  refine ex_s (am_nb (m := 5) (pc1 := 8) (ls1 := [(2, .int 0), (0, .ref 0), (1, .int x4)]) (st1 := [.ref 0]) (H1 := H42) (k1 := 0) (n1 := 0) (by with_unfolding_all rfl)) ?_
  refine ex_s (st_get rfl f42 rfl) ?_
  refine ex_s (am_nb (m := 3) (pc1 := 18) (ls1 := [(2, .int 0), (0, .ref 0), (1, .int x4)]) (st1 := [.ref 0]) (H1 := H42) (k1 := 0) (n1 := 0) (by with_unfolding_all rfl)) ?_
  refine ex_s (st_get rfl f42 rfl) ?_
  refine ex_s (am_nb (m := 1) (pc1 := 22) (ls1 := [(2, .int 0), (0, .ref 0), (1, .int x4)]) (st1 := [.ref 0, .ref 1]) (H1 := H42) (k1 := 0) (n1 := 0) (by with_unfolding_all rfl)) ?_
  refine ex_s (st_get rfl f42 rfl) ?_
  refine ex_s (am_nb (m := 5) (pc1 := 32) (ls1 := [(2, .int 0), (0, .ref 0), (1, .int x4)]) (st1 := [.int (((x4.toUInt32 >>> ((0 : Int32).toUInt32 &&& Int32.toUInt32 31)).toInt32) &&& 255), .int 19, .ref 1]) (H1 := H42) (k1 := 0) (n1 := 0) (by with_unfolding_all rfl)) ?_
  refine ex_iast rfl ((k42 1 (by decide)).trans f41) (by decide) ?_
  intro H43 f43 k43
  refine ex_s (am_nb (m := 2) (pc1 := 35) (ls1 := [(2, .int 0), (0, .ref 0), (1, .int x4)]) (st1 := [.ref 0, .ref 0]) (H1 := H43) (k1 := 0) (n1 := 0) (by with_unfolding_all rfl)) ?_
  refine ex_s (st_get rfl ((k43 0 (by decide)).trans f42) rfl) ?_
  refine ex_s (am_nb (m := 2) (pc1 := 40) (ls1 := [(2, .int 0), (0, .ref 0), (1, .int x4)]) (st1 := [.int 20, .ref 0]) (H1 := H43) (k1 := 0) (n1 := 0) (by with_unfolding_all rfl)) ?_
  refine ex_put rfl ((k43 0 (by decide)).trans f42) rfl rfl rfl ?_
  intro H44 f44 k44
  refine ex_s (am_nb (m := 4) (pc1 := 49) (ls1 := [(2, .int (-8)), (0, .ref 0), (1, .int x4)]) (st1 := []) (H1 := H44) (k1 := 0) (n1 := 0) (by with_unfolding_all rfl)) ?_
  exact ex_r (st_vret rfl rfl) ⟨⟨((k44 1 (by decide)).trans f43), f44, trivial⟩, fun j n1 n0 => ((k44 j n0).trans ((k43 j n1).trans ((k42 j n0).trans ((k41 j n1).trans ((k40 j n0).trans ((k39 j n1).trans ((k38 j n0).trans (k37 j n1))))))))⟩

set_option maxRecDepth 100000 in
theorem fx_feed_0 {sL : Nat} {sx : Nat → Int32} {cs : Nat → Nat → Option Int32} {H : am_H} {v0_13 : Int32} {x0 : Int32} {x1 : Int32} {x2 : Int32} {x3 : Int32} {x4 : Int32} (h0 : am_is H 0 (.inr (11, [.ref 1, .int 0, .ref 2, .int 0, .ref 3, .ref 93, .ref 97, .ref 115, .ref 116, .ref 129, .ref 123, .ref 127, .ref 128, .int v0_13, .null, .int 0]))) (h1 : am_is H 1 (.inl (.int, (3000, .inl (fun _ => 0)))))   :
    am_E sL sx cs 19 0 [(0, .ref 0), (1, .int x0), (2, .int x1), (3, .int x2), (4, .int x3), (5, .int x4)] [] H (some (.int 1)) (fun H1 => (am_is H1 1 (.inl (.int, (3000, .inl (upd (upd (upd (upd (upd (upd (upd (upd (upd (upd (upd (upd (upd (upd (upd (upd (upd (upd (upd (upd (fun _ => 0) ((0 : Int32).toNatClampNeg) (((x0.toUInt32 >>> ((24 : Int32).toUInt32 &&& Int32.toUInt32 31)).toInt32) &&& 255)) ((1 : Int32).toNatClampNeg) (((x0.toUInt32 >>> ((16 : Int32).toUInt32 &&& Int32.toUInt32 31)).toInt32) &&& 255)) ((2 : Int32).toNatClampNeg) (((x0.toUInt32 >>> ((8 : Int32).toUInt32 &&& Int32.toUInt32 31)).toInt32) &&& 255)) ((3 : Int32).toNatClampNeg) (((x0.toUInt32 >>> ((0 : Int32).toUInt32 &&& Int32.toUInt32 31)).toInt32) &&& 255)) ((4 : Int32).toNatClampNeg) (((x1.toUInt32 >>> ((24 : Int32).toUInt32 &&& Int32.toUInt32 31)).toInt32) &&& 255)) ((5 : Int32).toNatClampNeg) (((x1.toUInt32 >>> ((16 : Int32).toUInt32 &&& Int32.toUInt32 31)).toInt32) &&& 255)) ((6 : Int32).toNatClampNeg) (((x1.toUInt32 >>> ((8 : Int32).toUInt32 &&& Int32.toUInt32 31)).toInt32) &&& 255)) ((7 : Int32).toNatClampNeg) (((x1.toUInt32 >>> ((0 : Int32).toUInt32 &&& Int32.toUInt32 31)).toInt32) &&& 255)) ((8 : Int32).toNatClampNeg) (((x2.toUInt32 >>> ((24 : Int32).toUInt32 &&& Int32.toUInt32 31)).toInt32) &&& 255)) ((9 : Int32).toNatClampNeg) (((x2.toUInt32 >>> ((16 : Int32).toUInt32 &&& Int32.toUInt32 31)).toInt32) &&& 255)) ((10 : Int32).toNatClampNeg) (((x2.toUInt32 >>> ((8 : Int32).toUInt32 &&& Int32.toUInt32 31)).toInt32) &&& 255)) ((11 : Int32).toNatClampNeg) (((x2.toUInt32 >>> ((0 : Int32).toUInt32 &&& Int32.toUInt32 31)).toInt32) &&& 255)) ((12 : Int32).toNatClampNeg) (((x3.toUInt32 >>> ((24 : Int32).toUInt32 &&& Int32.toUInt32 31)).toInt32) &&& 255)) ((13 : Int32).toNatClampNeg) (((x3.toUInt32 >>> ((16 : Int32).toUInt32 &&& Int32.toUInt32 31)).toInt32) &&& 255)) ((14 : Int32).toNatClampNeg) (((x3.toUInt32 >>> ((8 : Int32).toUInt32 &&& Int32.toUInt32 31)).toInt32) &&& 255)) ((15 : Int32).toNatClampNeg) (((x3.toUInt32 >>> ((0 : Int32).toUInt32 &&& Int32.toUInt32 31)).toInt32) &&& 255)) ((16 : Int32).toNatClampNeg) (((x4.toUInt32 >>> ((24 : Int32).toUInt32 &&& Int32.toUInt32 31)).toInt32) &&& 255)) ((17 : Int32).toNatClampNeg) (((x4.toUInt32 >>> ((16 : Int32).toUInt32 &&& Int32.toUInt32 31)).toInt32) &&& 255)) ((18 : Int32).toNatClampNeg) (((x4.toUInt32 >>> ((8 : Int32).toUInt32 &&& Int32.toUInt32 31)).toInt32) &&& 255)) ((19 : Int32).toNatClampNeg) (((x4.toUInt32 >>> ((0 : Int32).toUInt32 &&& Int32.toUInt32 31)).toInt32) &&& 255))))) ∧ am_is H1 0 (.inr (11, [.ref 1, .int 20, .ref 2, .int 0, .ref 3, .ref 93, .ref 97, .ref 115, .ref 116, .ref 129, .ref 123, .ref 127, .ref 128, .int v0_13, .null, .int 0])) ∧ True) ∧ ∀ j : Nat, j ≠ 1 → j ≠ 0 → H1[j]? = H[j]?) := by
  refine ex_s (am_nb (m := 1) (pc1 := 1) (ls1 := [(0, .ref 0), (1, .int x0), (2, .int x1), (3, .int x2), (4, .int x3), (5, .int x4)]) (st1 := [.ref 0]) (H1 := H) (k1 := 0) (n1 := 0) (by with_unfolding_all rfl)) ?_
  refine ex_s (st_get rfl h0 rfl) ?_
  refine ex_s (am_nb (m := 6) (pc1 := 17) (ls1 := [(0, .ref 0), (1, .int x0), (2, .int x1), (3, .int x2), (4, .int x3), (5, .int x4)]) (st1 := [.int x0, .ref 0]) (H1 := H) (k1 := 0) (n1 := 0) (by with_unfolding_all rfl)) ?_
  refine ex_cv0 (as := [.int x0]) (rest := []) rfl rfl rfl rfl h0 rfl (by with_unfolding_all rfl) (by with_unfolding_all rfl) (fx_feed_1_0 h0 h1) ?_
  rintro H9 ⟨⟨f9_1, f9_0, -⟩, k9⟩
  refine ex_s (am_nb (m := 2) (pc1 := 22) (ls1 := [(0, .ref 0), (1, .int x0), (2, .int x1), (3, .int x2), (4, .int x3), (5, .int x4)]) (st1 := [.int x1, .ref 0]) (H1 := H9) (k1 := 0) (n1 := 0) (by with_unfolding_all rfl)) ?_
  refine ex_cv0 (as := [.int x1]) (rest := []) rfl rfl rfl rfl f9_0 rfl (by with_unfolding_all rfl) (by with_unfolding_all rfl) (fx_feed_2_0 f9_0 f9_1) ?_
  rintro H18 ⟨⟨f18_1, f18_0, -⟩, k18⟩
  refine ex_s (am_nb (m := 2) (pc1 := 27) (ls1 := [(0, .ref 0), (1, .int x0), (2, .int x1), (3, .int x2), (4, .int x3), (5, .int x4)]) (st1 := [.int x2, .ref 0]) (H1 := H18) (k1 := 0) (n1 := 0) (by with_unfolding_all rfl)) ?_
  refine ex_cv0 (as := [.int x2]) (rest := []) rfl rfl rfl rfl f18_0 rfl (by with_unfolding_all rfl) (by with_unfolding_all rfl) (fx_feed_3_0 f18_0 f18_1) ?_
  rintro H27 ⟨⟨f27_1, f27_0, -⟩, k27⟩
  refine ex_s (am_nb (m := 2) (pc1 := 33) (ls1 := [(0, .ref 0), (1, .int x0), (2, .int x1), (3, .int x2), (4, .int x3), (5, .int x4)]) (st1 := [.int x3, .ref 0]) (H1 := H27) (k1 := 0) (n1 := 0) (by with_unfolding_all rfl)) ?_
  refine ex_cv0 (as := [.int x3]) (rest := []) rfl rfl rfl rfl f27_0 rfl (by with_unfolding_all rfl) (by with_unfolding_all rfl) (fx_feed_4_0 f27_0 f27_1) ?_
  rintro H36 ⟨⟨f36_1, f36_0, -⟩, k36⟩
  refine ex_s (am_nb (m := 2) (pc1 := 39) (ls1 := [(0, .ref 0), (1, .int x0), (2, .int x1), (3, .int x2), (4, .int x3), (5, .int x4)]) (st1 := [.int x4, .ref 0]) (H1 := H36) (k1 := 0) (n1 := 0) (by with_unfolding_all rfl)) ?_
  refine ex_cv0 (as := [.int x4]) (rest := []) rfl rfl rfl rfl f36_0 rfl (by with_unfolding_all rfl) (by with_unfolding_all rfl) (fx_feed_5_0 f36_0 f36_1) ?_
  rintro H45 ⟨⟨f45_1, f45_0, -⟩, k45⟩
  refine ex_s (am_nb (m := 1) (pc1 := 43) (ls1 := [(0, .ref 0), (1, .int x0), (2, .int x1), (3, .int x2), (4, .int x3), (5, .int x4)]) (st1 := [.int 1]) (H1 := H45) (k1 := 0) (n1 := 0) (by with_unfolding_all rfl)) ?_
  exact ex_r (st_iret rfl rfl rfl) ⟨⟨f45_1, f45_0, trivial⟩, fun j n1 n0 => ((k45 j n1 n0).trans ((k36 j n1 n0).trans ((k27 j n1 n0).trans ((k18 j n1 n0).trans (k9 j n1 n0)))))⟩

set_option maxRecDepth 100000 in
theorem fx_end_0 {sL : Nat} {sx : Nat → Int32} {cs : Nat → Nat → Option Int32} {H : am_H} {v0_13 : Int32} {x0 : Int32} (h0 : am_is H 0 (.inr (11, [.ref 1, .int 0, .ref 2, .int 0, .ref 3, .ref 93, .ref 97, .ref 115, .ref 116, .ref 129, .ref 123, .ref 127, .ref 128, .int v0_13, .null, .int 0]))) (c1 : x0 < 0)  :
    am_E sL sx cs 21 0 [(0, .ref 0), (1, .int x0)] [] H (some (.int 0)) (fun H1 => (True) ∧ ∀ j : Nat, H1[j]? = H[j]?) := by
  refine ex_s (am_nb (m := 1) (pc1 := 1) (ls1 := [(0, .ref 0), (1, .int x0)]) (st1 := [.int x0]) (H1 := H) (k1 := 0) (n1 := 0) (by with_unfolding_all rfl)) ?_
  refine ex_s (st_if rfl) ?_
  refine ex_pc (if_pos c1) ?_
  refine ex_s (am_nb (m := 1) (pc1 := 13) (ls1 := [(0, .ref 0), (1, .int x0)]) (st1 := [.int 0]) (H1 := H) (k1 := 0) (n1 := 0) (by with_unfolding_all rfl)) ?_
  exact ex_r (st_iret rfl rfl rfl) ⟨trivial, fun j => rfl⟩

set_option maxRecDepth 100000 in
theorem fx_end_1 {sL : Nat} {sx : Nat → Int32} {cs : Nat → Nat → Option Int32} {H : am_H} {v0_13 : Int32} {x0 : Int32} (h0 : am_is H 0 (.inr (11, [.ref 1, .int 0, .ref 2, .int 0, .ref 3, .ref 93, .ref 97, .ref 115, .ref 116, .ref 129, .ref 123, .ref 127, .ref 128, .int v0_13, .null, .int 0]))) (c1 : ¬ x0 < 0) (c2 : x0 ≤ 0)  :
    am_E sL sx cs 21 0 [(0, .ref 0), (1, .int x0)] [] H (some (.int 1)) (fun H1 => (am_is H1 0 (.inr (11, [.ref 1, .int x0, .ref 2, .int 0, .ref 3, .ref 93, .ref 97, .ref 115, .ref 116, .ref 129, .ref 123, .ref 127, .ref 128, .int v0_13, .null, .int 0])) ∧ True) ∧ ∀ j : Nat, j ≠ 0 → H1[j]? = H[j]?) := by
  refine ex_s (am_nb (m := 1) (pc1 := 1) (ls1 := [(0, .ref 0), (1, .int x0)]) (st1 := [.int x0]) (H1 := H) (k1 := 0) (n1 := 0) (by with_unfolding_all rfl)) ?_
  refine ex_s (st_if rfl) ?_
  refine ex_pc (if_neg c1) ?_
  refine ex_s (am_nb (m := 2) (pc1 := 6) (ls1 := [(0, .ref 0), (1, .int x0)]) (st1 := [.ref 0, .int x0]) (H1 := H) (k1 := 0) (n1 := 0) (by with_unfolding_all rfl)) ?_
  refine ex_s (st_get rfl h0 rfl) ?_
  refine ex_s (st_icmp rfl) ?_
  refine ex_pc (if_pos c2) ?_
  refine ex_s (am_nb (m := 2) (pc1 := 16) (ls1 := [(0, .ref 0), (1, .int x0)]) (st1 := [.int x0, .ref 0]) (H1 := H) (k1 := 0) (n1 := 0) (by with_unfolding_all rfl)) ?_
  refine ex_put rfl h0 rfl rfl rfl ?_
  intro H46 f46 k46
  refine ex_s (am_nb (m := 1) (pc1 := 20) (ls1 := [(0, .ref 0), (1, .int x0)]) (st1 := [.int 1]) (H1 := H46) (k1 := 0) (n1 := 0) (by with_unfolding_all rfl)) ?_
  exact ex_r (st_iret rfl rfl rfl) ⟨⟨f46, trivial⟩, fun j n0 => (k46 j n0)⟩

set_option maxRecDepth 100000 in
theorem fx_end_2 {sL : Nat} {sx : Nat → Int32} {cs : Nat → Nat → Option Int32} {H : am_H} {v0_13 : Int32} {x0 : Int32} (h0 : am_is H 0 (.inr (11, [.ref 1, .int 0, .ref 2, .int 0, .ref 3, .ref 93, .ref 97, .ref 115, .ref 116, .ref 129, .ref 123, .ref 127, .ref 128, .int v0_13, .null, .int 0]))) (c1 : ¬ x0 < 0) (c2 : ¬ x0 ≤ 0)  :
    am_E sL sx cs 21 0 [(0, .ref 0), (1, .int x0)] [] H (some (.int 0)) (fun H1 => (True) ∧ ∀ j : Nat, H1[j]? = H[j]?) := by
  refine ex_s (am_nb (m := 1) (pc1 := 1) (ls1 := [(0, .ref 0), (1, .int x0)]) (st1 := [.int x0]) (H1 := H) (k1 := 0) (n1 := 0) (by with_unfolding_all rfl)) ?_
  refine ex_s (st_if rfl) ?_
  refine ex_pc (if_neg c1) ?_
  refine ex_s (am_nb (m := 2) (pc1 := 6) (ls1 := [(0, .ref 0), (1, .int x0)]) (st1 := [.ref 0, .int x0]) (H1 := H) (k1 := 0) (n1 := 0) (by with_unfolding_all rfl)) ?_
  refine ex_s (st_get rfl h0 rfl) ?_
  refine ex_s (st_icmp rfl) ?_
  refine ex_pc (if_neg c2) ?_
  refine ex_s (am_nb (m := 1) (pc1 := 13) (ls1 := [(0, .ref 0), (1, .int x0)]) (st1 := [.int 0]) (H1 := H) (k1 := 0) (n1 := 0) (by with_unfolding_all rfl)) ?_
  exact ex_r (st_iret rfl rfl rfl) ⟨trivial, fun j => rfl⟩

set_option maxRecDepth 100000 in
theorem fx_describe_2_0 {sL : Nat} {sx : Nat → Int32} {cs : Nat → Nat → Option Int32} {H : am_H}  (h3 : am_is H 3 (.inr (7, [.ref 4, .int 0, .int 0, .int (-1), .ref 1, .int 0, .int 0, .int 0, .null, .ref 6, .ref 7, .int 0, .ref 8, .int 0])))   :
    am_E sL sx cs 63 0 [(0, .ref 3)] [] H none (fun H1 => (True) ∧ ∀ j : Nat, H1[j]? = H[j]?) := by
  refine ex_s (am_nb (m := 1) (pc1 := 1) (ls1 := [(0, .ref 3)]) (st1 := [.ref 3]) (H1 := H) (k1 := 0) (n1 := 0) (by with_unfolding_all rfl)) ?_
  refine ex_s (st_get rfl h3 rfl) ?_
  refine ex_s (am_nb (m := 1) (pc1 := 7) (ls1 := [(0, .ref 3)]) (st1 := []) (H1 := H) (k1 := 0) (n1 := 0) (by with_unfolding_all rfl)) ?_
  exact ex_r (st_vret rfl rfl) ⟨trivial, fun j => rfl⟩

set_option maxRecDepth 100000 in
theorem fx_describe_1_0 {sL : Nat} {sx : Nat → Int32} {cs : Nat → Nat → Option Int32} {H : am_H}  (h3 : am_is H 3 (.inr (7, [.ref 4, .int 0, .int 0, .int (-1), .ref 5, .int 0, .int 0, .int 0, .null, .ref 6, .ref 7, .int 0, .ref 8, .int 0])))   :
    am_E sL sx cs 23 0 [(0, .ref 3), (1, .ref 1), (2, .int 0)] [] H (some (.int 0)) (fun H1 => (am_is H1 3 (.inr (7, [.ref 4, .int 0, .int 0, .int (-1), .ref 1, .int 0, .int 0, .int 0, .null, .ref 6, .ref 7, .int 0, .ref 8, .int 0])) ∧ True) ∧ ∀ j : Nat, j ≠ 3 → H1[j]? = H[j]?) := by
  refine ex_s (am_nb (m := 2) (pc1 := 2) (ls1 := [(0, .ref 3), (1, .ref 1), (2, .int 0)]) (st1 := [.ref 1, .ref 3]) (H1 := H) (k1 := 0) (n1 := 0) (by with_unfolding_all rfl)) ?_
  refine ex_put rfl h3 rfl rfl rfl ?_
  intro H47 f47 k47
  refine ex_s (am_nb (m := 2) (pc1 := 7) (ls1 := [(0, .ref 3), (1, .ref 1), (2, .int 0)]) (st1 := [.int 0, .ref 3]) (H1 := H47) (k1 := 0) (n1 := 0) (by with_unfolding_all rfl)) ?_
  refine ex_put rfl f47 rfl rfl rfl ?_
  intro H48 f48 k48
  refine ex_s (am_nb (m := 2) (pc1 := 12) (ls1 := [(0, .ref 3), (1, .ref 1), (2, .int 0)]) (st1 := [.int 0, .ref 3]) (H1 := H48) (k1 := 0) (n1 := 0) (by with_unfolding_all rfl)) ?_
  refine ex_put rfl f48 rfl rfl rfl ?_
  intro H49 f49 k49
  refine ex_s (am_nb (m := 2) (pc1 := 17) (ls1 := [(0, .ref 3), (1, .ref 1), (2, .int 0)]) (st1 := [.ref 3, .ref 3]) (H1 := H49) (k1 := 0) (n1 := 0) (by with_unfolding_all rfl)) ?_
  refine ex_s (st_get rfl f49 rfl) ?_
  refine ex_put rfl f49 rfl rfl rfl ?_
  intro H50 f50 k50
  refine ex_s (am_nb (m := 2) (pc1 := 25) (ls1 := [(0, .ref 3), (1, .ref 1), (2, .int 0)]) (st1 := [.null, .ref 3]) (H1 := H50) (k1 := 0) (n1 := 0) (by with_unfolding_all rfl)) ?_
  refine ex_put rfl f50 rfl rfl rfl ?_
  intro H51 f51 k51
  refine ex_s (am_nb (m := 2) (pc1 := 30) (ls1 := [(0, .ref 3), (1, .ref 1), (2, .int 0)]) (st1 := [.int 0, .ref 3]) (H1 := H51) (k1 := 0) (n1 := 0) (by with_unfolding_all rfl)) ?_
  refine ex_put rfl f51 rfl rfl rfl ?_
  intro H52 f52 k52
  refine ex_s (am_nb (m := 2) (pc1 := 35) (ls1 := [(0, .ref 3), (1, .ref 1), (2, .int 0)]) (st1 := [.int (-1), .ref 3]) (H1 := H52) (k1 := 0) (n1 := 0) (by with_unfolding_all rfl)) ?_
  refine ex_put rfl f52 rfl rfl rfl ?_
  intro H53 f53 k53
  refine ex_s (am_nb (m := 10) (pc1 := 138) (ls1 := [(4, .int 0), (3, .int 1), (0, .ref 3), (1, .ref 1), (2, .int 0)]) (st1 := [.ref 3]) (H1 := H53) (k1 := 0) (n1 := 0) (by with_unfolding_all rfl)) ?_
  refine ex_cv0 (as := []) (rest := []) rfl rfl rfl rfl f53 rfl (by with_unfolding_all rfl) (by with_unfolding_all rfl) (fx_describe_2_0 f53) ?_
  rintro H54 ⟨-, k54⟩
  refine ex_s (am_nb (m := 2) (pc1 := 143) (ls1 := [(4, .int 0), (3, .int 1), (0, .ref 3), (1, .ref 1), (2, .int 0)]) (st1 := [.ref 3, .ref 3]) (H1 := H54) (k1 := 0) (n1 := 0) (by with_unfolding_all rfl)) ?_
  refine ex_s (st_get rfl ((k54 3).trans f53) rfl) ?_
  refine ex_put rfl ((k54 3).trans f53) rfl rfl rfl ?_
  intro H55 f55 k55
  refine ex_s (am_nb (m := 1) (pc1 := 150) (ls1 := [(4, .int 0), (3, .int 1), (0, .ref 3), (1, .ref 1), (2, .int 0)]) (st1 := [.ref 3]) (H1 := H55) (k1 := 0) (n1 := 0) (by with_unfolding_all rfl)) ?_
  refine ex_s (st_get rfl f55 rfl) ?_
  exact ex_r (st_iret rfl rfl rfl) ⟨⟨f55, trivial⟩, fun j n3 => ((k55 j n3).trans ((k54 j).trans ((k53 j n3).trans ((k52 j n3).trans ((k51 j n3).trans ((k50 j n3).trans ((k49 j n3).trans ((k48 j n3).trans (k47 j n3)))))))))⟩

set_option maxRecDepth 100000 in
theorem fx_describe_0 {sL : Nat} {sx : Nat → Int32} {cs : Nat → Nat → Option Int32} {H : am_H} {v0_13 : Int32} (h0 : am_is H 0 (.inr (11, [.ref 1, .int 0, .ref 2, .int 0, .ref 3, .ref 93, .ref 97, .ref 115, .ref 116, .ref 129, .ref 123, .ref 127, .ref 128, .int v0_13, .null, .int 0]))) (h3 : am_is H 3 (.inr (7, [.ref 4, .int 0, .int 0, .int (-1), .ref 5, .int 0, .int 0, .int 0, .null, .ref 6, .ref 7, .int 0, .ref 8, .int 0])))   :
    am_E sL sx cs 22 0 [(0, .ref 0)] [] H (some (.int 0)) (fun H1 => (am_is H1 3 (.inr (7, [.ref 4, .int 0, .int 0, .int (-1), .ref 1, .int 0, .int 0, .int 0, .null, .ref 6, .ref 7, .int 0, .ref 8, .int 0])) ∧ am_is H1 0 (.inr (11, [.ref 1, .int 0, .ref 2, .int 0, .ref 3, .ref 93, .ref 97, .ref 115, .ref 116, .ref 129, .ref 123, .ref 127, .ref 128, .int v0_13, .null, .int 0])) ∧ True) ∧ ∀ j : Nat, j ≠ 3 → j ≠ 0 → H1[j]? = H[j]?) := by
  refine ex_s (am_nb (m := 1) (pc1 := 1) (ls1 := [(0, .ref 0)]) (st1 := [.ref 0]) (H1 := H) (k1 := 0) (n1 := 0) (by with_unfolding_all rfl)) ?_
  refine ex_s (st_get rfl h0 rfl) ?_
  refine ex_s (am_nb (m := 1) (pc1 := 5) (ls1 := [(0, .ref 0)]) (st1 := [.ref 0, .ref 3]) (H1 := H) (k1 := 0) (n1 := 0) (by with_unfolding_all rfl)) ?_
  refine ex_s (st_get rfl h0 rfl) ?_
  refine ex_s (am_nb (m := 1) (pc1 := 9) (ls1 := [(0, .ref 0)]) (st1 := [.ref 0, .ref 1, .ref 3]) (H1 := H) (k1 := 0) (n1 := 0) (by with_unfolding_all rfl)) ?_
  refine ex_s (st_get rfl h0 rfl) ?_
  refine ex_cv1 (as := [.ref 1, .int 0]) (rest := []) rfl rfl rfl rfl h3 rfl (by with_unfolding_all rfl) (by with_unfolding_all rfl) (fx_describe_1_0 h3) ?_
  rintro H56 ⟨⟨f56_3, -⟩, k56⟩
  refine ex_s (am_nb (m := 3) (pc1 := 18) (ls1 := [(1, .int 0), (0, .ref 0)]) (st1 := [.int 0, .ref 0]) (H1 := H56) (k1 := 0) (n1 := 0) (by with_unfolding_all rfl)) ?_
  refine ex_put rfl ((k56 0 (by decide)).trans h0) rfl rfl rfl ?_
  intro H57 f57 k57
  refine ex_s (am_nb (m := 1) (pc1 := 22) (ls1 := [(1, .int 0), (0, .ref 0)]) (st1 := [.int 0]) (H1 := H57) (k1 := 0) (n1 := 0) (by with_unfolding_all rfl)) ?_
  exact ex_r (st_iret rfl rfl rfl) ⟨⟨((k57 3 (by decide)).trans f56_3), f57, trivial⟩, fun j n3 n0 => ((k57 j n0).trans (k56 j n3))⟩

set_option maxRecDepth 100000 in
theorem fx_fault_0 {sL : Nat} {sx : Nat → Int32} {cs : Nat → Nat → Option Int32} {H : am_H} {v0_13 : Int32} {x0 : Int32} (h0 : am_is H 0 (.inr (11, [.ref 1, .int 0, .ref 2, .int 0, .ref 3, .ref 93, .ref 97, .ref 115, .ref 116, .ref 129, .ref 123, .ref 127, .ref 128, .int v0_13, .null, .int 0]))) (h3 : am_is H 3 (.inr (7, [.ref 4, .int 0, .int 0, .int (-1), .ref 5, .int 0, .int 0, .int 0, .null, .ref 6, .ref 7, .int 0, .ref 8, .int 0]))) (c1 : x0 = 0)  :
    am_E sL sx cs 70 0 [(0, .ref 0), (1, .int x0)] [] H (some (.int 0)) (fun H1 => (True) ∧ ∀ j : Nat, H1[j]? = H[j]?) := by
  refine ex_s (am_nb (m := 1) (pc1 := 1) (ls1 := [(0, .ref 0), (1, .int x0)]) (st1 := [.int x0]) (H1 := H) (k1 := 0) (n1 := 0) (by with_unfolding_all rfl)) ?_
  refine ex_s (st_lsw rfl) ?_
  refine ex_pc (if_pos c1) ?_
  refine ex_s (am_nb (m := 1) (pc1 := 29) (ls1 := [(0, .ref 0), (1, .int x0)]) (st1 := [.ref 0]) (H1 := H) (k1 := 0) (n1 := 0) (by with_unfolding_all rfl)) ?_
  refine ex_s (st_get rfl h0 rfl) ?_
  refine ex_s (st_get rfl h3 rfl) ?_
  exact ex_r (st_iret rfl rfl rfl) ⟨trivial, fun j => rfl⟩

set_option maxRecDepth 100000 in
theorem fx_fault_1 {sL : Nat} {sx : Nat → Int32} {cs : Nat → Nat → Option Int32} {H : am_H} {v0_13 : Int32} {x0 : Int32} (h0 : am_is H 0 (.inr (11, [.ref 1, .int 0, .ref 2, .int 0, .ref 3, .ref 93, .ref 97, .ref 115, .ref 116, .ref 129, .ref 123, .ref 127, .ref 128, .int v0_13, .null, .int 0]))) (h3 : am_is H 3 (.inr (7, [.ref 4, .int 0, .int 0, .int (-1), .ref 5, .int 0, .int 0, .int 0, .null, .ref 6, .ref 7, .int 0, .ref 8, .int 0]))) (c1 : ¬ x0 = 0) (c2 : x0 = 1)  :
    am_E sL sx cs 70 0 [(0, .ref 0), (1, .int x0)] [] H (some (.int (-1))) (fun H1 => (True) ∧ ∀ j : Nat, H1[j]? = H[j]?) := by
  refine ex_s (am_nb (m := 1) (pc1 := 1) (ls1 := [(0, .ref 0), (1, .int x0)]) (st1 := [.int x0]) (H1 := H) (k1 := 0) (n1 := 0) (by with_unfolding_all rfl)) ?_
  refine ex_s (st_lsw rfl) ?_
  refine ex_pc (if_neg c1) ?_
  refine ex_pc (if_pos c2) ?_
  refine ex_s (am_nb (m := 1) (pc1 := 37) (ls1 := [(0, .ref 0), (1, .int x0)]) (st1 := [.ref 0]) (H1 := H) (k1 := 0) (n1 := 0) (by with_unfolding_all rfl)) ?_
  refine ex_s (st_get rfl h0 rfl) ?_
  refine ex_s (st_get rfl h3 rfl) ?_
  exact ex_r (st_iret rfl rfl rfl) ⟨trivial, fun j => rfl⟩

set_option maxRecDepth 100000 in
theorem fx_fault_2 {sL : Nat} {sx : Nat → Int32} {cs : Nat → Nat → Option Int32} {H : am_H} {v0_13 : Int32} {x0 : Int32} (h0 : am_is H 0 (.inr (11, [.ref 1, .int 0, .ref 2, .int 0, .ref 3, .ref 93, .ref 97, .ref 115, .ref 116, .ref 129, .ref 123, .ref 127, .ref 128, .int v0_13, .null, .int 0]))) (h3 : am_is H 3 (.inr (7, [.ref 4, .int 0, .int 0, .int (-1), .ref 5, .int 0, .int 0, .int 0, .null, .ref 6, .ref 7, .int 0, .ref 8, .int 0]))) (c1 : ¬ x0 = 0) (c2 : ¬ x0 = 1)  :
    am_E sL sx cs 70 0 [(0, .ref 0), (1, .int x0)] [] H (some (.int (-1))) (fun H1 => (True) ∧ ∀ j : Nat, H1[j]? = H[j]?) := by
  refine ex_s (am_nb (m := 1) (pc1 := 1) (ls1 := [(0, .ref 0), (1, .int x0)]) (st1 := [.int x0]) (H1 := H) (k1 := 0) (n1 := 0) (by with_unfolding_all rfl)) ?_
  refine ex_s (st_lsw rfl) ?_
  refine ex_pc (if_neg c1) ?_
  refine ex_pc (if_neg c2) ?_
  refine ex_pc (pc1 := 44) rfl ?_
  refine ex_s (am_nb (m := 1) (pc1 := 45) (ls1 := [(0, .ref 0), (1, .int x0)]) (st1 := [.int (-1)]) (H1 := H) (k1 := 0) (n1 := 0) (by with_unfolding_all rfl)) ?_
  exact ex_r (st_iret rfl rfl rfl) ⟨trivial, fun j => rfl⟩

set_option maxRecDepth 100000 in
theorem fx_use_2_0 {sL : Nat} {sx : Nat → Int32} {cs : Nat → Nat → Option Int32} {H : am_H}     :
    am_E sL sx cs 40 0 [(0, .ref 3), (1, .ref 1), (2, .int 0), (3, .int 0), (4, .int 0)] [] H (some (.int (-1))) (fun H1 => (True) ∧ ∀ j : Nat, H1[j]? = H[j]?) := by
  refine ex_s (am_nb (m := 6) (pc1 := 43) (ls1 := [(5, .int 0), (0, .ref 3), (1, .ref 1), (2, .int 0), (3, .int 0), (4, .int 0)]) (st1 := [.int (-1)]) (H1 := H) (k1 := 0) (n1 := 0) (by with_unfolding_all rfl)) ?_
  exact ex_r (st_iret rfl rfl rfl) ⟨trivial, fun j => rfl⟩

set_option maxRecDepth 100000 in
theorem fx_use_1_0 {sL : Nat} {sx : Nat → Int32} {cs : Nat → Nat → Option Int32} {H : am_H}  (h3 : am_is H 3 (.inr (7, [.ref 4, .int 0, .int 0, .int (-1), .ref 5, .int 0, .int 0, .int 0, .null, .ref 6, .ref 7, .int 0, .ref 8, .int 0])))   :
    am_E sL sx cs 72 0 [(0, .ref 3), (1, .ref 1), (2, .int 0)] [] H (some (.null)) (fun H1 => (True) ∧ ∀ j : Nat, H1[j]? = H[j]?) := by
  refine ex_s (am_nb (m := 5) (pc1 := 5) (ls1 := [(0, .ref 3), (1, .ref 1), (2, .int 0)]) (st1 := [.ref 3, .int 0, .int 0, .ref 1, .ref 3]) (H1 := H) (k1 := 0) (n1 := 0) (by with_unfolding_all rfl)) ?_
  refine ex_s (st_get rfl h3 rfl) ?_
  refine ex_cv1 (as := [.ref 1, .int 0, .int 0, .int 0]) (rest := []) rfl rfl rfl rfl h3 rfl (by with_unfolding_all rfl) (by with_unfolding_all rfl) (fx_use_2_0) ?_
  rintro H58 ⟨-, k58⟩
  refine ex_s (am_nb (m := 6) (pc1 := 27) (ls1 := [(3, .int (-1)), (0, .ref 3), (1, .ref 1), (2, .int 0)]) (st1 := [.null]) (H1 := H58) (k1 := 0) (n1 := 0) (by with_unfolding_all rfl)) ?_
  exact ex_r (st_aret rfl rfl rfl rfl) ⟨trivial, fun j => (k58 j)⟩

set_option maxRecDepth 100000 in
theorem fx_use_0 {sL : Nat} {sx : Nat → Int32} {cs : Nat → Nat → Option Int32} {H : am_H} {v0_13 : Int32} (h0 : am_is H 0 (.inr (11, [.ref 1, .int 0, .ref 2, .int 0, .ref 3, .ref 93, .ref 97, .ref 115, .ref 116, .ref 129, .ref 123, .ref 127, .ref 128, .int v0_13, .null, .int 0]))) (h3 : am_is H 3 (.inr (7, [.ref 4, .int 0, .int 0, .int (-1), .ref 5, .int 0, .int 0, .int 0, .null, .ref 6, .ref 7, .int 0, .ref 8, .int 0])))   :
    am_E sL sx cs 71 0 [(0, .ref 0)] [] H (some (.int (-1))) (fun H1 => (am_is H1 0 (.inr (11, [.ref 1, .int 0, .ref 2, .int 0, .ref 3, .ref 93, .ref 97, .ref 115, .ref 116, .ref 129, .ref 123, .ref 127, .ref 128, .int v0_13, .null, .int 0])) ∧ True) ∧ ∀ j : Nat, j ≠ 0 → H1[j]? = H[j]?) := by
  refine ex_s (am_nb (m := 1) (pc1 := 1) (ls1 := [(0, .ref 0)]) (st1 := [.ref 0]) (H1 := H) (k1 := 0) (n1 := 0) (by with_unfolding_all rfl)) ?_
  refine ex_s (st_get rfl h0 rfl) ?_
  refine ex_s (am_nb (m := 1) (pc1 := 5) (ls1 := [(0, .ref 0)]) (st1 := [.ref 0, .ref 3]) (H1 := H) (k1 := 0) (n1 := 0) (by with_unfolding_all rfl)) ?_
  refine ex_s (st_get rfl h0 rfl) ?_
  refine ex_s (am_nb (m := 1) (pc1 := 9) (ls1 := [(0, .ref 0)]) (st1 := [.ref 0, .ref 1, .ref 3]) (H1 := H) (k1 := 0) (n1 := 0) (by with_unfolding_all rfl)) ?_
  refine ex_s (st_get rfl h0 rfl) ?_
  refine ex_cv1 (as := [.ref 1, .int 0]) (rest := []) rfl rfl rfl rfl h3 rfl (by with_unfolding_all rfl) (by with_unfolding_all rfl) (fx_use_1_0 h3) ?_
  rintro H59 ⟨-, k59⟩
  refine ex_s (am_nb (m := 3) (pc1 := 18) (ls1 := [(1, .null), (0, .ref 0)]) (st1 := [.int 0, .ref 0]) (H1 := H59) (k1 := 0) (n1 := 0) (by with_unfolding_all rfl)) ?_
  refine ex_put rfl ((k59 0).trans h0) rfl rfl rfl ?_
  intro H60 f60 k60
  refine ex_s (am_nb (m := 3) (pc1 := 26) (ls1 := [(1, .null), (0, .ref 0)]) (st1 := [.int (-1)]) (H1 := H60) (k1 := 0) (n1 := 0) (by with_unfolding_all rfl)) ?_
  exact ex_r (st_iret rfl rfl rfl) ⟨⟨f60, trivial⟩, fun j n0 => ((k60 j n0).trans (k59 j))⟩

set_option maxRecDepth 100000 in
theorem fx_empty_1_0 {sL : Nat} {sx : Nat → Int32} {cs : Nat → Nat → Option Int32} {H : am_H}  (h3 : am_is H 3 (.inr (7, [.ref 4, .int 0, .int 0, .int (-1), .ref 5, .int 0, .int 0, .int 0, .null, .ref 6, .ref 7, .int 0, .ref 8, .int 0])))   :
    am_E sL sx cs 92 0 [(0, .ref 3)] [] H none (fun H1 => (am_is H1 3 (.inr (7, [.ref 4, .int 0, .int 0, .int (-1), .ref 5, .int 0, .int 0, .int 0, .null, .ref 6, .ref 7, .int 0, .ref 8, .int 0])) ∧ True) ∧ ∀ j : Nat, j ≠ 3 → H1[j]? = H[j]?) := by
  refine ex_s (am_nb (m := 2) (pc1 := 2) (ls1 := [(0, .ref 3)]) (st1 := [.int 0, .ref 3]) (H1 := H) (k1 := 0) (n1 := 0) (by with_unfolding_all rfl)) ?_
  refine ex_put rfl h3 rfl rfl rfl ?_
  intro H61 f61 k61
  exact ex_r (st_vret rfl rfl) ⟨⟨f61, trivial⟩, fun j n3 => (k61 j n3)⟩

set_option maxRecDepth 100000 in
theorem fx_empty_2_0 {sL : Nat} {sx : Nat → Int32} {cs : Nat → Nat → Option Int32} {H : am_H} {v0_13 : Int32} (h0 : am_is H 0 (.inr (11, [.ref 1, .int 0, .ref 2, .int 0, .ref 3, .ref 93, .ref 97, .ref 115, .ref 116, .ref 129, .ref 123, .ref 127, .ref 128, .int v0_13, .null, .int 0]))) (h115 : am_is H 115 (.inl ((.object "TerminalHouse$Window"), (8, .inr (.inr (.inr (.inr am_q115))))))) (h141 : am_is H 141 (.inr (9, [.ref 142, .int 0, .int 0, .int 0, .int 0, .int 0, .int 0, .int 0, .int 0, .int 0]))) (h143 : am_is H 143 (.inr (9, [.ref 144, .int 0, .int 0, .int 0, .int 0, .int 0, .int 0, .int 0, .int 0, .int 0]))) (h145 : am_is H 145 (.inr (9, [.ref 146, .int 0, .int 0, .int 0, .int 0, .int 0, .int 0, .int 0, .int 0, .int 0]))) (h147 : am_is H 147 (.inr (9, [.ref 148, .int 0, .int 0, .int 0, .int 0, .int 0, .int 0, .int 0, .int 0, .int 0]))) (h149 : am_is H 149 (.inr (9, [.ref 150, .int 0, .int 0, .int 0, .int 0, .int 0, .int 0, .int 0, .int 0, .int 0]))) (h151 : am_is H 151 (.inr (9, [.ref 152, .int 0, .int 0, .int 0, .int 0, .int 0, .int 0, .int 0, .int 0, .int 0]))) (h153 : am_is H 153 (.inr (9, [.ref 154, .int 0, .int 0, .int 0, .int 0, .int 0, .int 0, .int 0, .int 0, .int 0]))) (h155 : am_is H 155 (.inr (9, [.ref 156, .int 0, .int 0, .int 0, .int 0, .int 0, .int 0, .int 0, .int 0, .int 0])))   :
    am_E sL sx cs 75 0 [(0, .ref 0)] [] H none (fun H1 => (am_is H1 141 (.inr (9, [.ref 142, .int 0, .int 0, .int 0, .int 0, .int 0, .int 0, .int 0, .int 0, .int 0])) ∧ am_is H1 143 (.inr (9, [.ref 144, .int 0, .int 0, .int 0, .int 0, .int 0, .int 0, .int 0, .int 0, .int 0])) ∧ am_is H1 145 (.inr (9, [.ref 146, .int 0, .int 0, .int 0, .int 0, .int 0, .int 0, .int 0, .int 0, .int 0])) ∧ am_is H1 147 (.inr (9, [.ref 148, .int 0, .int 0, .int 0, .int 0, .int 0, .int 0, .int 0, .int 0, .int 0])) ∧ am_is H1 149 (.inr (9, [.ref 150, .int 0, .int 0, .int 0, .int 0, .int 0, .int 0, .int 0, .int 0, .int 0])) ∧ am_is H1 151 (.inr (9, [.ref 152, .int 0, .int 0, .int 0, .int 0, .int 0, .int 0, .int 0, .int 0, .int 0])) ∧ am_is H1 153 (.inr (9, [.ref 154, .int 0, .int 0, .int 0, .int 0, .int 0, .int 0, .int 0, .int 0, .int 0])) ∧ am_is H1 155 (.inr (9, [.ref 156, .int 0, .int 0, .int 0, .int 0, .int 0, .int 0, .int 0, .int 0, .int 0])) ∧ True) ∧ ∀ j : Nat, j ≠ 141 → j ≠ 143 → j ≠ 145 → j ≠ 147 → j ≠ 149 → j ≠ 151 → j ≠ 153 → j ≠ 155 → H1[j]? = H[j]?) := by
  refine ex_s (am_nb (m := 6) (pc1 := 9) (ls1 := [(1, .int 0), (0, .ref 0)]) (st1 := [.ref 0]) (H1 := H) (k1 := 0) (n1 := 0) (by with_unfolding_all rfl)) ?_
  refine ex_s (st_get rfl h0 rfl) ?_
  refine ex_s (am_nb (m := 1) (pc1 := 13) (ls1 := [(1, .int 0), (0, .ref 0)]) (st1 := [.int 0, .ref 115]) (H1 := H) (k1 := 0) (n1 := 0) (by with_unfolding_all rfl)) ?_
  refine ex_s (st_aald rfl h115 (by decide) rfl) ?_
  refine ex_s (am_nb (m := 0) (pc1 := 14) (ls1 := [(1, .int 0), (0, .ref 0)]) (st1 := [.ref 141]) (H1 := H) (k1 := 0) (n1 := 0) (by with_unfolding_all rfl)) ?_
  refine ex_s (am_nb (m := 1) (pc1 := 15) (ls1 := [(1, .int 0), (0, .ref 0)]) (st1 := [.int 0, .ref 141]) (H1 := H) (k1 := 0) (n1 := 0) (by with_unfolding_all rfl)) ?_
  refine ex_put rfl h141 rfl rfl rfl ?_
  intro H64 f64 k64
  refine ex_s (am_nb (m := 6) (pc1 := 9) (ls1 := [(1, .int 1), (0, .ref 0)]) (st1 := [.ref 0]) (H1 := H64) (k1 := 0) (n1 := 0) (by with_unfolding_all rfl)) ?_
  refine ex_s (st_get rfl ((k64 0 (by decide)).trans h0) rfl) ?_
  refine ex_s (am_nb (m := 1) (pc1 := 13) (ls1 := [(1, .int 1), (0, .ref 0)]) (st1 := [.int 1, .ref 115]) (H1 := H64) (k1 := 0) (n1 := 0) (by with_unfolding_all rfl)) ?_
  refine ex_s (st_aald rfl ((k64 115 (by decide)).trans h115) (by decide) rfl) ?_
  refine ex_s (am_nb (m := 0) (pc1 := 14) (ls1 := [(1, .int 1), (0, .ref 0)]) (st1 := [.ref 143]) (H1 := H64) (k1 := 0) (n1 := 0) (by with_unfolding_all rfl)) ?_
  refine ex_s (am_nb (m := 1) (pc1 := 15) (ls1 := [(1, .int 1), (0, .ref 0)]) (st1 := [.int 0, .ref 143]) (H1 := H64) (k1 := 0) (n1 := 0) (by with_unfolding_all rfl)) ?_
  refine ex_put rfl ((k64 143 (by decide)).trans h143) rfl rfl rfl ?_
  intro H65 f65 k65
  refine ex_s (am_nb (m := 6) (pc1 := 9) (ls1 := [(1, .int 2), (0, .ref 0)]) (st1 := [.ref 0]) (H1 := H65) (k1 := 0) (n1 := 0) (by with_unfolding_all rfl)) ?_
  refine ex_s (st_get rfl ((k65 0 (by decide)).trans ((k64 0 (by decide)).trans h0)) rfl) ?_
  refine ex_s (am_nb (m := 1) (pc1 := 13) (ls1 := [(1, .int 2), (0, .ref 0)]) (st1 := [.int 2, .ref 115]) (H1 := H65) (k1 := 0) (n1 := 0) (by with_unfolding_all rfl)) ?_
  refine ex_s (st_aald rfl ((k65 115 (by decide)).trans ((k64 115 (by decide)).trans h115)) (by decide) rfl) ?_
  refine ex_s (am_nb (m := 0) (pc1 := 14) (ls1 := [(1, .int 2), (0, .ref 0)]) (st1 := [.ref 145]) (H1 := H65) (k1 := 0) (n1 := 0) (by with_unfolding_all rfl)) ?_
  refine ex_s (am_nb (m := 1) (pc1 := 15) (ls1 := [(1, .int 2), (0, .ref 0)]) (st1 := [.int 0, .ref 145]) (H1 := H65) (k1 := 0) (n1 := 0) (by with_unfolding_all rfl)) ?_
  refine ex_put rfl ((k65 145 (by decide)).trans ((k64 145 (by decide)).trans h145)) rfl rfl rfl ?_
  intro H66 f66 k66
  refine ex_s (am_nb (m := 6) (pc1 := 9) (ls1 := [(1, .int 3), (0, .ref 0)]) (st1 := [.ref 0]) (H1 := H66) (k1 := 0) (n1 := 0) (by with_unfolding_all rfl)) ?_
  refine ex_s (st_get rfl ((k66 0 (by decide)).trans ((k65 0 (by decide)).trans ((k64 0 (by decide)).trans h0))) rfl) ?_
  refine ex_s (am_nb (m := 1) (pc1 := 13) (ls1 := [(1, .int 3), (0, .ref 0)]) (st1 := [.int 3, .ref 115]) (H1 := H66) (k1 := 0) (n1 := 0) (by with_unfolding_all rfl)) ?_
  refine ex_s (st_aald rfl ((k66 115 (by decide)).trans ((k65 115 (by decide)).trans ((k64 115 (by decide)).trans h115))) (by decide) rfl) ?_
  refine ex_s (am_nb (m := 0) (pc1 := 14) (ls1 := [(1, .int 3), (0, .ref 0)]) (st1 := [.ref 147]) (H1 := H66) (k1 := 0) (n1 := 0) (by with_unfolding_all rfl)) ?_
  refine ex_s (am_nb (m := 1) (pc1 := 15) (ls1 := [(1, .int 3), (0, .ref 0)]) (st1 := [.int 0, .ref 147]) (H1 := H66) (k1 := 0) (n1 := 0) (by with_unfolding_all rfl)) ?_
  refine ex_put rfl ((k66 147 (by decide)).trans ((k65 147 (by decide)).trans ((k64 147 (by decide)).trans h147))) rfl rfl rfl ?_
  intro H67 f67 k67
  refine ex_s (am_nb (m := 6) (pc1 := 9) (ls1 := [(1, .int 4), (0, .ref 0)]) (st1 := [.ref 0]) (H1 := H67) (k1 := 0) (n1 := 0) (by with_unfolding_all rfl)) ?_
  refine ex_s (st_get rfl ((k67 0 (by decide)).trans ((k66 0 (by decide)).trans ((k65 0 (by decide)).trans ((k64 0 (by decide)).trans h0)))) rfl) ?_
  refine ex_s (am_nb (m := 1) (pc1 := 13) (ls1 := [(1, .int 4), (0, .ref 0)]) (st1 := [.int 4, .ref 115]) (H1 := H67) (k1 := 0) (n1 := 0) (by with_unfolding_all rfl)) ?_
  refine ex_s (st_aald rfl ((k67 115 (by decide)).trans ((k66 115 (by decide)).trans ((k65 115 (by decide)).trans ((k64 115 (by decide)).trans h115)))) (by decide) rfl) ?_
  refine ex_s (am_nb (m := 0) (pc1 := 14) (ls1 := [(1, .int 4), (0, .ref 0)]) (st1 := [.ref 149]) (H1 := H67) (k1 := 0) (n1 := 0) (by with_unfolding_all rfl)) ?_
  refine ex_s (am_nb (m := 1) (pc1 := 15) (ls1 := [(1, .int 4), (0, .ref 0)]) (st1 := [.int 0, .ref 149]) (H1 := H67) (k1 := 0) (n1 := 0) (by with_unfolding_all rfl)) ?_
  refine ex_put rfl ((k67 149 (by decide)).trans ((k66 149 (by decide)).trans ((k65 149 (by decide)).trans ((k64 149 (by decide)).trans h149)))) rfl rfl rfl ?_
  intro H68 f68 k68
  refine ex_s (am_nb (m := 6) (pc1 := 9) (ls1 := [(1, .int 5), (0, .ref 0)]) (st1 := [.ref 0]) (H1 := H68) (k1 := 0) (n1 := 0) (by with_unfolding_all rfl)) ?_
  refine ex_s (st_get rfl ((k68 0 (by decide)).trans ((k67 0 (by decide)).trans ((k66 0 (by decide)).trans ((k65 0 (by decide)).trans ((k64 0 (by decide)).trans h0))))) rfl) ?_
  refine ex_s (am_nb (m := 1) (pc1 := 13) (ls1 := [(1, .int 5), (0, .ref 0)]) (st1 := [.int 5, .ref 115]) (H1 := H68) (k1 := 0) (n1 := 0) (by with_unfolding_all rfl)) ?_
  refine ex_s (st_aald rfl ((k68 115 (by decide)).trans ((k67 115 (by decide)).trans ((k66 115 (by decide)).trans ((k65 115 (by decide)).trans ((k64 115 (by decide)).trans h115))))) (by decide) rfl) ?_
  refine ex_s (am_nb (m := 0) (pc1 := 14) (ls1 := [(1, .int 5), (0, .ref 0)]) (st1 := [.ref 151]) (H1 := H68) (k1 := 0) (n1 := 0) (by with_unfolding_all rfl)) ?_
  refine ex_s (am_nb (m := 1) (pc1 := 15) (ls1 := [(1, .int 5), (0, .ref 0)]) (st1 := [.int 0, .ref 151]) (H1 := H68) (k1 := 0) (n1 := 0) (by with_unfolding_all rfl)) ?_
  refine ex_put rfl ((k68 151 (by decide)).trans ((k67 151 (by decide)).trans ((k66 151 (by decide)).trans ((k65 151 (by decide)).trans ((k64 151 (by decide)).trans h151))))) rfl rfl rfl ?_
  intro H69 f69 k69
  refine ex_s (am_nb (m := 6) (pc1 := 9) (ls1 := [(1, .int 6), (0, .ref 0)]) (st1 := [.ref 0]) (H1 := H69) (k1 := 0) (n1 := 0) (by with_unfolding_all rfl)) ?_
  refine ex_s (st_get rfl ((k69 0 (by decide)).trans ((k68 0 (by decide)).trans ((k67 0 (by decide)).trans ((k66 0 (by decide)).trans ((k65 0 (by decide)).trans ((k64 0 (by decide)).trans h0)))))) rfl) ?_
  refine ex_s (am_nb (m := 1) (pc1 := 13) (ls1 := [(1, .int 6), (0, .ref 0)]) (st1 := [.int 6, .ref 115]) (H1 := H69) (k1 := 0) (n1 := 0) (by with_unfolding_all rfl)) ?_
  refine ex_s (st_aald rfl ((k69 115 (by decide)).trans ((k68 115 (by decide)).trans ((k67 115 (by decide)).trans ((k66 115 (by decide)).trans ((k65 115 (by decide)).trans ((k64 115 (by decide)).trans h115)))))) (by decide) rfl) ?_
  refine ex_s (am_nb (m := 0) (pc1 := 14) (ls1 := [(1, .int 6), (0, .ref 0)]) (st1 := [.ref 153]) (H1 := H69) (k1 := 0) (n1 := 0) (by with_unfolding_all rfl)) ?_
  refine ex_s (am_nb (m := 1) (pc1 := 15) (ls1 := [(1, .int 6), (0, .ref 0)]) (st1 := [.int 0, .ref 153]) (H1 := H69) (k1 := 0) (n1 := 0) (by with_unfolding_all rfl)) ?_
  refine ex_put rfl ((k69 153 (by decide)).trans ((k68 153 (by decide)).trans ((k67 153 (by decide)).trans ((k66 153 (by decide)).trans ((k65 153 (by decide)).trans ((k64 153 (by decide)).trans h153)))))) rfl rfl rfl ?_
  intro H70 f70 k70
  refine ex_s (am_nb (m := 6) (pc1 := 9) (ls1 := [(1, .int 7), (0, .ref 0)]) (st1 := [.ref 0]) (H1 := H70) (k1 := 0) (n1 := 0) (by with_unfolding_all rfl)) ?_
  refine ex_s (st_get rfl ((k70 0 (by decide)).trans ((k69 0 (by decide)).trans ((k68 0 (by decide)).trans ((k67 0 (by decide)).trans ((k66 0 (by decide)).trans ((k65 0 (by decide)).trans ((k64 0 (by decide)).trans h0))))))) rfl) ?_
  refine ex_s (am_nb (m := 1) (pc1 := 13) (ls1 := [(1, .int 7), (0, .ref 0)]) (st1 := [.int 7, .ref 115]) (H1 := H70) (k1 := 0) (n1 := 0) (by with_unfolding_all rfl)) ?_
  refine ex_s (st_aald rfl ((k70 115 (by decide)).trans ((k69 115 (by decide)).trans ((k68 115 (by decide)).trans ((k67 115 (by decide)).trans ((k66 115 (by decide)).trans ((k65 115 (by decide)).trans ((k64 115 (by decide)).trans h115))))))) (by decide) rfl) ?_
  refine ex_s (am_nb (m := 0) (pc1 := 14) (ls1 := [(1, .int 7), (0, .ref 0)]) (st1 := [.ref 155]) (H1 := H70) (k1 := 0) (n1 := 0) (by with_unfolding_all rfl)) ?_
  refine ex_s (am_nb (m := 1) (pc1 := 15) (ls1 := [(1, .int 7), (0, .ref 0)]) (st1 := [.int 0, .ref 155]) (H1 := H70) (k1 := 0) (n1 := 0) (by with_unfolding_all rfl)) ?_
  refine ex_put rfl ((k70 155 (by decide)).trans ((k69 155 (by decide)).trans ((k68 155 (by decide)).trans ((k67 155 (by decide)).trans ((k66 155 (by decide)).trans ((k65 155 (by decide)).trans ((k64 155 (by decide)).trans h155))))))) rfl rfl rfl ?_
  intro H71 f71 k71
  refine ex_s (am_nb (m := 5) (pc1 := 24) (ls1 := [(1, .int 8), (0, .ref 0)]) (st1 := []) (H1 := H71) (k1 := 0) (n1 := 0) (by with_unfolding_all rfl)) ?_
  exact ex_r (st_vret rfl rfl) ⟨⟨((k71 141 (by decide)).trans ((k70 141 (by decide)).trans ((k69 141 (by decide)).trans ((k68 141 (by decide)).trans ((k67 141 (by decide)).trans ((k66 141 (by decide)).trans ((k65 141 (by decide)).trans f64))))))), ((k71 143 (by decide)).trans ((k70 143 (by decide)).trans ((k69 143 (by decide)).trans ((k68 143 (by decide)).trans ((k67 143 (by decide)).trans ((k66 143 (by decide)).trans f65)))))), ((k71 145 (by decide)).trans ((k70 145 (by decide)).trans ((k69 145 (by decide)).trans ((k68 145 (by decide)).trans ((k67 145 (by decide)).trans f66))))), ((k71 147 (by decide)).trans ((k70 147 (by decide)).trans ((k69 147 (by decide)).trans ((k68 147 (by decide)).trans f67)))), ((k71 149 (by decide)).trans ((k70 149 (by decide)).trans ((k69 149 (by decide)).trans f68))), ((k71 151 (by decide)).trans ((k70 151 (by decide)).trans f69)), ((k71 153 (by decide)).trans f70), f71, trivial⟩, fun j n141 n143 n145 n147 n149 n151 n153 n155 => ((k71 j n155).trans ((k70 j n153).trans ((k69 j n151).trans ((k68 j n149).trans ((k67 j n147).trans ((k66 j n145).trans ((k65 j n143).trans (k64 j n141))))))))⟩

set_option maxRecDepth 100000 in
theorem fx_empty_0 {sL : Nat} {sx : Nat → Int32} {cs : Nat → Nat → Option Int32} {H : am_H} {v0_13 : Int32} (h0 : am_is H 0 (.inr (11, [.ref 1, .int 0, .ref 2, .int 0, .ref 3, .ref 93, .ref 97, .ref 115, .ref 116, .ref 129, .ref 123, .ref 127, .ref 128, .int v0_13, .null, .int 0]))) (h3 : am_is H 3 (.inr (7, [.ref 4, .int 0, .int 0, .int (-1), .ref 5, .int 0, .int 0, .int 0, .null, .ref 6, .ref 7, .int 0, .ref 8, .int 0]))) (h115 : am_is H 115 (.inl ((.object "TerminalHouse$Window"), (8, .inr (.inr (.inr (.inr am_q115))))))) (h141 : am_is H 141 (.inr (9, [.ref 142, .int 0, .int 0, .int 0, .int 0, .int 0, .int 0, .int 0, .int 0, .int 0]))) (h143 : am_is H 143 (.inr (9, [.ref 144, .int 0, .int 0, .int 0, .int 0, .int 0, .int 0, .int 0, .int 0, .int 0]))) (h145 : am_is H 145 (.inr (9, [.ref 146, .int 0, .int 0, .int 0, .int 0, .int 0, .int 0, .int 0, .int 0, .int 0]))) (h147 : am_is H 147 (.inr (9, [.ref 148, .int 0, .int 0, .int 0, .int 0, .int 0, .int 0, .int 0, .int 0, .int 0]))) (h149 : am_is H 149 (.inr (9, [.ref 150, .int 0, .int 0, .int 0, .int 0, .int 0, .int 0, .int 0, .int 0, .int 0]))) (h151 : am_is H 151 (.inr (9, [.ref 152, .int 0, .int 0, .int 0, .int 0, .int 0, .int 0, .int 0, .int 0, .int 0]))) (h153 : am_is H 153 (.inr (9, [.ref 154, .int 0, .int 0, .int 0, .int 0, .int 0, .int 0, .int 0, .int 0, .int 0]))) (h155 : am_is H 155 (.inr (9, [.ref 156, .int 0, .int 0, .int 0, .int 0, .int 0, .int 0, .int 0, .int 0, .int 0])))   :
    am_E sL sx cs 91 0 [(0, .ref 0)] [] H none (fun H1 => (am_is H1 3 (.inr (7, [.ref 4, .int 0, .int 0, .int (-1), .ref 5, .int 0, .int 0, .int 0, .null, .ref 6, .ref 7, .int 0, .ref 8, .int 0])) ∧ am_is H1 0 (.inr (11, [.ref 1, .int 0, .ref 2, .int 0, .ref 3, .ref 93, .ref 97, .ref 115, .ref 116, .ref 129, .ref 123, .ref 127, .ref 128, .int v0_13, .null, .int 0])) ∧ am_is H1 141 (.inr (9, [.ref 142, .int 0, .int 0, .int 0, .int 0, .int 0, .int 0, .int 0, .int 0, .int 0])) ∧ am_is H1 143 (.inr (9, [.ref 144, .int 0, .int 0, .int 0, .int 0, .int 0, .int 0, .int 0, .int 0, .int 0])) ∧ am_is H1 145 (.inr (9, [.ref 146, .int 0, .int 0, .int 0, .int 0, .int 0, .int 0, .int 0, .int 0, .int 0])) ∧ am_is H1 147 (.inr (9, [.ref 148, .int 0, .int 0, .int 0, .int 0, .int 0, .int 0, .int 0, .int 0, .int 0])) ∧ am_is H1 149 (.inr (9, [.ref 150, .int 0, .int 0, .int 0, .int 0, .int 0, .int 0, .int 0, .int 0, .int 0])) ∧ am_is H1 151 (.inr (9, [.ref 152, .int 0, .int 0, .int 0, .int 0, .int 0, .int 0, .int 0, .int 0, .int 0])) ∧ am_is H1 153 (.inr (9, [.ref 154, .int 0, .int 0, .int 0, .int 0, .int 0, .int 0, .int 0, .int 0, .int 0])) ∧ am_is H1 155 (.inr (9, [.ref 156, .int 0, .int 0, .int 0, .int 0, .int 0, .int 0, .int 0, .int 0, .int 0])) ∧ True) ∧ ∀ j : Nat, j ≠ 3 → j ≠ 0 → j ≠ 141 → j ≠ 143 → j ≠ 145 → j ≠ 147 → j ≠ 149 → j ≠ 151 → j ≠ 153 → j ≠ 155 → H1[j]? = H[j]?) := by
  refine ex_s (am_nb (m := 1) (pc1 := 1) (ls1 := [(0, .ref 0)]) (st1 := [.ref 0]) (H1 := H) (k1 := 0) (n1 := 0) (by with_unfolding_all rfl)) ?_
  refine ex_s (st_get rfl h0 rfl) ?_
  refine ex_cv0 (as := []) (rest := []) rfl rfl rfl rfl h3 rfl (by with_unfolding_all rfl) (by with_unfolding_all rfl) (fx_empty_1_0 h3) ?_
  rintro H62 ⟨⟨f62_3, -⟩, k62⟩
  refine ex_s (am_nb (m := 2) (pc1 := 9) (ls1 := [(0, .ref 0)]) (st1 := [.null, .ref 0]) (H1 := H62) (k1 := 0) (n1 := 0) (by with_unfolding_all rfl)) ?_
  refine ex_put rfl ((k62 0 (by decide)).trans h0) rfl rfl rfl ?_
  intro H63 f63 k63
  refine ex_s (am_nb (m := 1) (pc1 := 13) (ls1 := [(0, .ref 0)]) (st1 := [.ref 0]) (H1 := H63) (k1 := 0) (n1 := 0) (by with_unfolding_all rfl)) ?_
  refine ex_cv0 (as := []) (rest := []) rfl rfl rfl rfl f63 rfl (by with_unfolding_all rfl) (by with_unfolding_all rfl) (fx_empty_2_0 f63 ((k63 115 (by decide)).trans ((k62 115 (by decide)).trans h115)) ((k63 141 (by decide)).trans ((k62 141 (by decide)).trans h141)) ((k63 143 (by decide)).trans ((k62 143 (by decide)).trans h143)) ((k63 145 (by decide)).trans ((k62 145 (by decide)).trans h145)) ((k63 147 (by decide)).trans ((k62 147 (by decide)).trans h147)) ((k63 149 (by decide)).trans ((k62 149 (by decide)).trans h149)) ((k63 151 (by decide)).trans ((k62 151 (by decide)).trans h151)) ((k63 153 (by decide)).trans ((k62 153 (by decide)).trans h153)) ((k63 155 (by decide)).trans ((k62 155 (by decide)).trans h155))) ?_
  rintro H72 ⟨⟨f72_141, f72_143, f72_145, f72_147, f72_149, f72_151, f72_153, f72_155, -⟩, k72⟩
  exact ex_r (st_vret rfl rfl) ⟨⟨((k72 3 (by decide) (by decide) (by decide) (by decide) (by decide) (by decide) (by decide) (by decide)).trans ((k63 3 (by decide)).trans f62_3)), ((k72 0 (by decide) (by decide) (by decide) (by decide) (by decide) (by decide) (by decide) (by decide)).trans f63), f72_141, f72_143, f72_145, f72_147, f72_149, f72_151, f72_153, f72_155, trivial⟩, fun j n3 n0 n141 n143 n145 n147 n149 n151 n153 n155 => ((k72 j n141 n143 n145 n147 n149 n151 n153 n155).trans ((k63 j n0).trans (k62 j n3)))⟩

set_option maxRecDepth 100000 in
theorem fx_ability_1_0 {sL : Nat} {sx : Nat → Int32} {cs : Nat → Nat → Option Int32} {H : am_H}     :
    am_E sL sx cs 44 0 [(0, .ref 1), (1, .int 0), (2, .int 0)] [] H (some (.int (-1))) (fun H1 => (True) ∧ ∀ j : Nat, H1[j]? = H[j]?) := by
  refine ex_s (am_nb (m := 4) (pc1 := 23) (ls1 := [(0, .ref 1), (1, .int 0), (2, .int 0)]) (st1 := [.int (-1)]) (H1 := H) (k1 := 0) (n1 := 0) (by with_unfolding_all rfl)) ?_
  exact ex_r (st_iret rfl rfl rfl) ⟨trivial, fun j => rfl⟩

set_option maxRecDepth 100000 in
theorem fx_ability_0 {sL : Nat} {sx : Nat → Int32} {cs : Nat → Nat → Option Int32} {H : am_H} {v0_13 : Int32} (h0 : am_is H 0 (.inr (11, [.ref 1, .int 0, .ref 2, .int 0, .ref 3, .ref 93, .ref 97, .ref 115, .ref 116, .ref 129, .ref 123, .ref 127, .ref 128, .int v0_13, .null, .int 0])))   :
    am_E sL sx cs 93 0 [(0, .ref 0)] [] H (some (.int (-1))) (fun H1 => (am_is H1 0 (.inr (11, [.ref 1, .int 0, .ref 2, .int 0, .ref 3, .ref 93, .ref 97, .ref 115, .ref 116, .ref 129, .ref 123, .ref 127, .ref 128, .int v0_13, .null, .int 0])) ∧ True) ∧ ∀ j : Nat, j ≠ 0 → H1[j]? = H[j]?) := by
  refine ex_s (am_nb (m := 1) (pc1 := 1) (ls1 := [(0, .ref 0)]) (st1 := [.ref 0]) (H1 := H) (k1 := 0) (n1 := 0) (by with_unfolding_all rfl)) ?_
  refine ex_s (st_get rfl h0 rfl) ?_
  refine ex_s (am_nb (m := 2) (pc1 := 6) (ls1 := [(0, .ref 0)]) (st1 := [.ref 0, .int 0, .ref 1]) (H1 := H) (k1 := 0) (n1 := 0) (by with_unfolding_all rfl)) ?_
  refine ex_s (st_get rfl h0 rfl) ?_
  refine ex_cs1 (as := [.ref 1, .int 0, .int 0]) (rest := []) rfl (by decide) rfl rfl (by with_unfolding_all rfl) (by with_unfolding_all rfl) (fx_ability_1_0) ?_
  rintro H73 ⟨-, k73⟩
  refine ex_s (am_nb (m := 3) (pc1 := 15) (ls1 := [(1, .int (-1)), (0, .ref 0)]) (st1 := [.int 0, .ref 0]) (H1 := H73) (k1 := 0) (n1 := 0) (by with_unfolding_all rfl)) ?_
  refine ex_put rfl ((k73 0).trans h0) rfl rfl rfl ?_
  intro H74 f74 k74
  refine ex_s (am_nb (m := 1) (pc1 := 19) (ls1 := [(1, .int (-1)), (0, .ref 0)]) (st1 := [.ref 0]) (H1 := H74) (k1 := 0) (n1 := 0) (by with_unfolding_all rfl)) ?_
  refine ex_s (st_get rfl f74 rfl) ?_
  refine ex_s (am_nb (m := 2) (pc1 := 31) (ls1 := [(1, .int (-1)), (0, .ref 0)]) (st1 := [.int (-1)]) (H1 := H74) (k1 := 0) (n1 := 0) (by with_unfolding_all rfl)) ?_
  exact ex_r (st_iret rfl rfl rfl) ⟨⟨f74, trivial⟩, fun j n0 => ((k74 j n0).trans (k73 j))⟩

set_option maxRecDepth 100000 in
theorem fx_expand_1_0 {sL : Nat} {sx : Nat → Int32} {cs : Nat → Nat → Option Int32} {H : am_H}     :
    am_E sL sx cs 44 0 [(0, .ref 1), (1, .int 0), (2, .int 0)] [] H (some (.int (-1))) (fun H1 => (True) ∧ ∀ j : Nat, H1[j]? = H[j]?) := by
  refine ex_s (am_nb (m := 4) (pc1 := 23) (ls1 := [(0, .ref 1), (1, .int 0), (2, .int 0)]) (st1 := [.int (-1)]) (H1 := H) (k1 := 0) (n1 := 0) (by with_unfolding_all rfl)) ?_
  exact ex_r (st_iret rfl rfl rfl) ⟨trivial, fun j => rfl⟩

set_option maxRecDepth 100000 in
theorem fx_expand_0 {sL : Nat} {sx : Nat → Int32} {cs : Nat → Nat → Option Int32} {H : am_H} {v0_13 : Int32} {x0 : Int32} {x1 : Int32} {x2 : Int32} {x3 : Int32} (h0 : am_is H 0 (.inr (11, [.ref 1, .int 0, .ref 2, .int 0, .ref 3, .ref 93, .ref 97, .ref 115, .ref 116, .ref 129, .ref 123, .ref 127, .ref 128, .int v0_13, .null, .int 0])))   :
    am_E sL sx cs 94 0 [(0, .ref 0), (1, .int x0), (2, .int x1), (3, .int x2), (4, .int x3)] [] H (some (.int (-1))) (fun H1 => (am_is H1 0 (.inr (11, [.ref 1, .int 0, .ref 2, .int 0, .ref 3, .ref 93, .ref 97, .ref 115, .ref 116, .ref 129, .ref 123, .ref 127, .ref 128, .int v0_13, .null, .int 0])) ∧ True) ∧ ∀ j : Nat, j ≠ 0 → H1[j]? = H[j]?) := by
  refine ex_s (am_nb (m := 1) (pc1 := 1) (ls1 := [(0, .ref 0), (1, .int x0), (2, .int x1), (3, .int x2), (4, .int x3)]) (st1 := [.ref 0]) (H1 := H) (k1 := 0) (n1 := 0) (by with_unfolding_all rfl)) ?_
  refine ex_s (st_get rfl h0 rfl) ?_
  refine ex_s (am_nb (m := 2) (pc1 := 6) (ls1 := [(0, .ref 0), (1, .int x0), (2, .int x1), (3, .int x2), (4, .int x3)]) (st1 := [.ref 0, .int 0, .ref 1]) (H1 := H) (k1 := 0) (n1 := 0) (by with_unfolding_all rfl)) ?_
  refine ex_s (st_get rfl h0 rfl) ?_
  refine ex_cs1 (as := [.ref 1, .int 0, .int 0]) (rest := []) rfl (by decide) rfl rfl (by with_unfolding_all rfl) (by with_unfolding_all rfl) (fx_expand_1_0) ?_
  rintro H75 ⟨-, k75⟩
  refine ex_s (am_nb (m := 3) (pc1 := 16) (ls1 := [(5, .int (-1)), (0, .ref 0), (1, .int x0), (2, .int x1), (3, .int x2), (4, .int x3)]) (st1 := [.int 0, .ref 0]) (H1 := H75) (k1 := 0) (n1 := 0) (by with_unfolding_all rfl)) ?_
  refine ex_put rfl ((k75 0).trans h0) rfl rfl rfl ?_
  intro H76 f76 k76
  refine ex_s (am_nb (m := 1) (pc1 := 20) (ls1 := [(5, .int (-1)), (0, .ref 0), (1, .int x0), (2, .int x1), (3, .int x2), (4, .int x3)]) (st1 := [.ref 0]) (H1 := H76) (k1 := 0) (n1 := 0) (by with_unfolding_all rfl)) ?_
  refine ex_s (st_get rfl f76 rfl) ?_
  refine ex_s (am_nb (m := 2) (pc1 := 46) (ls1 := [(5, .int (-1)), (0, .ref 0), (1, .int x0), (2, .int x1), (3, .int x2), (4, .int x3)]) (st1 := [.int (-1)]) (H1 := H76) (k1 := 0) (n1 := 0) (by with_unfolding_all rfl)) ?_
  exact ex_r (st_iret rfl rfl rfl) ⟨⟨f76, trivial⟩, fun j n0 => ((k76 j n0).trans (k75 j))⟩

set_option maxRecDepth 100000 in
theorem fx_open_0 {sL : Nat} {sx : Nat → Int32} {cs : Nat → Nat → Option Int32} {H : am_H} {v0_13 : Int32} {x0 : Int32} {x1 : Int32} {x2 : Int32} {x3 : Int32} (h0 : am_is H 0 (.inr (11, [.ref 1, .int 0, .ref 2, .int 0, .ref 3, .ref 93, .ref 97, .ref 115, .ref 116, .ref 129, .ref 123, .ref 127, .ref 128, .int v0_13, .null, .int 0])))   :
    am_E sL sx cs 95 0 [(0, .ref 0), (1, .int x0), (2, .int x1), (3, .int x2), (4, .int x3)] [] H (some (.int (-1))) (fun H1 => (True) ∧ ∀ j : Nat, H1[j]? = H[j]?) := by
  refine ex_s (am_nb (m := 1) (pc1 := 1) (ls1 := [(0, .ref 0), (1, .int x0), (2, .int x1), (3, .int x2), (4, .int x3)]) (st1 := [.ref 0]) (H1 := H) (k1 := 0) (n1 := 0) (by with_unfolding_all rfl)) ?_
  refine ex_s (st_get rfl h0 rfl) ?_
  refine ex_s (am_nb (m := 2) (pc1 := 26) (ls1 := [(0, .ref 0), (1, .int x0), (2, .int x1), (3, .int x2), (4, .int x3)]) (st1 := [.int (-1)]) (H1 := H) (k1 := 0) (n1 := 0) (by with_unfolding_all rfl)) ?_
  exact ex_r (st_iret rfl rfl rfl) ⟨trivial, fun j => rfl⟩

set_option maxRecDepth 100000 in
theorem fx_close_1_0 {sL : Nat} {sx : Nat → Int32} {cs : Nat → Nat → Option Int32} {H : am_H} {v0_13 : Int32} {x0 : Int32} (h0 : am_is H 0 (.inr (11, [.ref 1, .int 0, .ref 2, .int 0, .ref 3, .ref 93, .ref 97, .ref 115, .ref 116, .ref 129, .ref 123, .ref 127, .ref 128, .int v0_13, .null, .int 0]))) (h115 : am_is H 115 (.inl ((.object "TerminalHouse$Window"), (8, .inr (.inr (.inr (.inr am_q115))))))) (h141 : am_is H 141 (.inr (9, [.ref 142, .int 0, .int 0, .int 0, .int 0, .int 0, .int 0, .int 0, .int 0, .int 0]))) (h143 : am_is H 143 (.inr (9, [.ref 144, .int 0, .int 0, .int 0, .int 0, .int 0, .int 0, .int 0, .int 0, .int 0]))) (h145 : am_is H 145 (.inr (9, [.ref 146, .int 0, .int 0, .int 0, .int 0, .int 0, .int 0, .int 0, .int 0, .int 0]))) (h147 : am_is H 147 (.inr (9, [.ref 148, .int 0, .int 0, .int 0, .int 0, .int 0, .int 0, .int 0, .int 0, .int 0]))) (h149 : am_is H 149 (.inr (9, [.ref 150, .int 0, .int 0, .int 0, .int 0, .int 0, .int 0, .int 0, .int 0, .int 0]))) (h151 : am_is H 151 (.inr (9, [.ref 152, .int 0, .int 0, .int 0, .int 0, .int 0, .int 0, .int 0, .int 0, .int 0]))) (h153 : am_is H 153 (.inr (9, [.ref 154, .int 0, .int 0, .int 0, .int 0, .int 0, .int 0, .int 0, .int 0, .int 0]))) (h155 : am_is H 155 (.inr (9, [.ref 156, .int 0, .int 0, .int 0, .int 0, .int 0, .int 0, .int 0, .int 0, .int 0]))) (c1 : x0 < 0)  :
    am_E sL sx cs 98 0 [(0, .ref 0), (1, .int x0)] [] H (some (.null)) (fun H1 => (True) ∧ ∀ j : Nat, H1[j]? = H[j]?) := by
  refine ex_s (am_nb (m := 1) (pc1 := 1) (ls1 := [(0, .ref 0), (1, .int x0)]) (st1 := [.int x0]) (H1 := H) (k1 := 0) (n1 := 0) (by with_unfolding_all rfl)) ?_
  refine ex_s (st_if rfl) ?_
  refine ex_pc (if_pos c1) ?_
  refine ex_s (am_nb (m := 1) (pc1 := 23) (ls1 := [(0, .ref 0), (1, .int x0)]) (st1 := [.null]) (H1 := H) (k1 := 0) (n1 := 0) (by with_unfolding_all rfl)) ?_
  exact ex_r (st_aret rfl rfl rfl rfl) ⟨trivial, fun j => rfl⟩

set_option maxRecDepth 100000 in
theorem fx_close_1_1 {sL : Nat} {sx : Nat → Int32} {cs : Nat → Nat → Option Int32} {H : am_H} {v0_13 : Int32} {x0 : Int32} (h0 : am_is H 0 (.inr (11, [.ref 1, .int 0, .ref 2, .int 0, .ref 3, .ref 93, .ref 97, .ref 115, .ref 116, .ref 129, .ref 123, .ref 127, .ref 128, .int v0_13, .null, .int 0]))) (h115 : am_is H 115 (.inl ((.object "TerminalHouse$Window"), (8, .inr (.inr (.inr (.inr am_q115))))))) (h141 : am_is H 141 (.inr (9, [.ref 142, .int 0, .int 0, .int 0, .int 0, .int 0, .int 0, .int 0, .int 0, .int 0]))) (h143 : am_is H 143 (.inr (9, [.ref 144, .int 0, .int 0, .int 0, .int 0, .int 0, .int 0, .int 0, .int 0, .int 0]))) (h145 : am_is H 145 (.inr (9, [.ref 146, .int 0, .int 0, .int 0, .int 0, .int 0, .int 0, .int 0, .int 0, .int 0]))) (h147 : am_is H 147 (.inr (9, [.ref 148, .int 0, .int 0, .int 0, .int 0, .int 0, .int 0, .int 0, .int 0, .int 0]))) (h149 : am_is H 149 (.inr (9, [.ref 150, .int 0, .int 0, .int 0, .int 0, .int 0, .int 0, .int 0, .int 0, .int 0]))) (h151 : am_is H 151 (.inr (9, [.ref 152, .int 0, .int 0, .int 0, .int 0, .int 0, .int 0, .int 0, .int 0, .int 0]))) (h153 : am_is H 153 (.inr (9, [.ref 154, .int 0, .int 0, .int 0, .int 0, .int 0, .int 0, .int 0, .int 0, .int 0]))) (h155 : am_is H 155 (.inr (9, [.ref 156, .int 0, .int 0, .int 0, .int 0, .int 0, .int 0, .int 0, .int 0, .int 0]))) (c1 : ¬ x0 < 0) (c2 : 8 ≤ x0)  :
    am_E sL sx cs 98 0 [(0, .ref 0), (1, .int x0)] [] H (some (.null)) (fun H1 => (True) ∧ ∀ j : Nat, H1[j]? = H[j]?) := by
  refine ex_s (am_nb (m := 1) (pc1 := 1) (ls1 := [(0, .ref 0), (1, .int x0)]) (st1 := [.int x0]) (H1 := H) (k1 := 0) (n1 := 0) (by with_unfolding_all rfl)) ?_
  refine ex_s (st_if rfl) ?_
  refine ex_pc (if_neg c1) ?_
  refine ex_s (am_nb (m := 2) (pc1 := 7) (ls1 := [(0, .ref 0), (1, .int x0)]) (st1 := [.int 8, .int x0]) (H1 := H) (k1 := 0) (n1 := 0) (by with_unfolding_all rfl)) ?_
  refine ex_s (st_icmp rfl) ?_
  refine ex_pc (if_pos c2) ?_
  refine ex_s (am_nb (m := 1) (pc1 := 23) (ls1 := [(0, .ref 0), (1, .int x0)]) (st1 := [.null]) (H1 := H) (k1 := 0) (n1 := 0) (by with_unfolding_all rfl)) ?_
  exact ex_r (st_aret rfl rfl rfl rfl) ⟨trivial, fun j => rfl⟩

set_option maxRecDepth 100000 in
theorem fx_close_1_2 {sL : Nat} {sx : Nat → Int32} {cs : Nat → Nat → Option Int32} {H : am_H} {v0_13 : Int32} {x0 : Int32} (h0 : am_is H 0 (.inr (11, [.ref 1, .int 0, .ref 2, .int 0, .ref 3, .ref 93, .ref 97, .ref 115, .ref 116, .ref 129, .ref 123, .ref 127, .ref 128, .int v0_13, .null, .int 0]))) (h115 : am_is H 115 (.inl ((.object "TerminalHouse$Window"), (8, .inr (.inr (.inr (.inr am_q115))))))) (h141 : am_is H 141 (.inr (9, [.ref 142, .int 0, .int 0, .int 0, .int 0, .int 0, .int 0, .int 0, .int 0, .int 0]))) (h143 : am_is H 143 (.inr (9, [.ref 144, .int 0, .int 0, .int 0, .int 0, .int 0, .int 0, .int 0, .int 0, .int 0]))) (h145 : am_is H 145 (.inr (9, [.ref 146, .int 0, .int 0, .int 0, .int 0, .int 0, .int 0, .int 0, .int 0, .int 0]))) (h147 : am_is H 147 (.inr (9, [.ref 148, .int 0, .int 0, .int 0, .int 0, .int 0, .int 0, .int 0, .int 0, .int 0]))) (h149 : am_is H 149 (.inr (9, [.ref 150, .int 0, .int 0, .int 0, .int 0, .int 0, .int 0, .int 0, .int 0, .int 0]))) (h151 : am_is H 151 (.inr (9, [.ref 152, .int 0, .int 0, .int 0, .int 0, .int 0, .int 0, .int 0, .int 0, .int 0]))) (h153 : am_is H 153 (.inr (9, [.ref 154, .int 0, .int 0, .int 0, .int 0, .int 0, .int 0, .int 0, .int 0, .int 0]))) (h155 : am_is H 155 (.inr (9, [.ref 156, .int 0, .int 0, .int 0, .int 0, .int 0, .int 0, .int 0, .int 0, .int 0]))) (c1 : ¬ x0 < 0) (c2 : ¬ 8 ≤ x0) (c3 : x0 = 0)  :
    am_E sL sx cs 98 0 [(0, .ref 0), (1, .int x0)] [] H (some (.null)) (fun H1 => (True) ∧ ∀ j : Nat, H1[j]? = H[j]?) := by
  refine ex_s (am_nb (m := 1) (pc1 := 1) (ls1 := [(0, .ref 0), (1, .int x0)]) (st1 := [.int x0]) (H1 := H) (k1 := 0) (n1 := 0) (by with_unfolding_all rfl)) ?_
  refine ex_s (st_if rfl) ?_
  refine ex_pc (if_neg c1) ?_
  refine ex_s (am_nb (m := 2) (pc1 := 7) (ls1 := [(0, .ref 0), (1, .int x0)]) (st1 := [.int 8, .int x0]) (H1 := H) (k1 := 0) (n1 := 0) (by with_unfolding_all rfl)) ?_
  refine ex_s (st_icmp rfl) ?_
  refine ex_pc (if_neg c2) ?_
  refine ex_s (am_nb (m := 1) (pc1 := 11) (ls1 := [(0, .ref 0), (1, .int x0)]) (st1 := [.ref 0]) (H1 := H) (k1 := 0) (n1 := 0) (by with_unfolding_all rfl)) ?_
  refine ex_s (st_get rfl h0 rfl) ?_
  refine ex_s (am_nb (m := 1) (pc1 := 15) (ls1 := [(0, .ref 0), (1, .int x0)]) (st1 := [.int x0, .ref 115]) (H1 := H) (k1 := 0) (n1 := 0) (by with_unfolding_all rfl)) ?_
  refine ex_s (st_aald rfl h115 (by rw [c3]; decide) rfl) ?_
  refine ex_s (am_nb (m := 0) (pc1 := 16) (ls1 := [(0, .ref 0), (1, .int x0)]) (st1 := [.ref 141]) (H1 := H) (k1 := 0) (n1 := 0) (by rw [c3]; with_unfolding_all rfl)) ?_
  refine ex_s (st_get rfl h141 rfl) ?_
  refine ex_s (am_nb (m := 2) (pc1 := 23) (ls1 := [(0, .ref 0), (1, .int x0)]) (st1 := [.null]) (H1 := H) (k1 := 0) (n1 := 0) (by with_unfolding_all rfl)) ?_
  exact ex_r (st_aret rfl rfl rfl rfl) ⟨trivial, fun j => rfl⟩

set_option maxRecDepth 100000 in
theorem fx_close_1_3 {sL : Nat} {sx : Nat → Int32} {cs : Nat → Nat → Option Int32} {H : am_H} {v0_13 : Int32} {x0 : Int32} (h0 : am_is H 0 (.inr (11, [.ref 1, .int 0, .ref 2, .int 0, .ref 3, .ref 93, .ref 97, .ref 115, .ref 116, .ref 129, .ref 123, .ref 127, .ref 128, .int v0_13, .null, .int 0]))) (h115 : am_is H 115 (.inl ((.object "TerminalHouse$Window"), (8, .inr (.inr (.inr (.inr am_q115))))))) (h141 : am_is H 141 (.inr (9, [.ref 142, .int 0, .int 0, .int 0, .int 0, .int 0, .int 0, .int 0, .int 0, .int 0]))) (h143 : am_is H 143 (.inr (9, [.ref 144, .int 0, .int 0, .int 0, .int 0, .int 0, .int 0, .int 0, .int 0, .int 0]))) (h145 : am_is H 145 (.inr (9, [.ref 146, .int 0, .int 0, .int 0, .int 0, .int 0, .int 0, .int 0, .int 0, .int 0]))) (h147 : am_is H 147 (.inr (9, [.ref 148, .int 0, .int 0, .int 0, .int 0, .int 0, .int 0, .int 0, .int 0, .int 0]))) (h149 : am_is H 149 (.inr (9, [.ref 150, .int 0, .int 0, .int 0, .int 0, .int 0, .int 0, .int 0, .int 0, .int 0]))) (h151 : am_is H 151 (.inr (9, [.ref 152, .int 0, .int 0, .int 0, .int 0, .int 0, .int 0, .int 0, .int 0, .int 0]))) (h153 : am_is H 153 (.inr (9, [.ref 154, .int 0, .int 0, .int 0, .int 0, .int 0, .int 0, .int 0, .int 0, .int 0]))) (h155 : am_is H 155 (.inr (9, [.ref 156, .int 0, .int 0, .int 0, .int 0, .int 0, .int 0, .int 0, .int 0, .int 0]))) (c1 : ¬ x0 < 0) (c2 : ¬ 8 ≤ x0) (c3 : x0 = 1)  :
    am_E sL sx cs 98 0 [(0, .ref 0), (1, .int x0)] [] H (some (.null)) (fun H1 => (True) ∧ ∀ j : Nat, H1[j]? = H[j]?) := by
  refine ex_s (am_nb (m := 1) (pc1 := 1) (ls1 := [(0, .ref 0), (1, .int x0)]) (st1 := [.int x0]) (H1 := H) (k1 := 0) (n1 := 0) (by with_unfolding_all rfl)) ?_
  refine ex_s (st_if rfl) ?_
  refine ex_pc (if_neg c1) ?_
  refine ex_s (am_nb (m := 2) (pc1 := 7) (ls1 := [(0, .ref 0), (1, .int x0)]) (st1 := [.int 8, .int x0]) (H1 := H) (k1 := 0) (n1 := 0) (by with_unfolding_all rfl)) ?_
  refine ex_s (st_icmp rfl) ?_
  refine ex_pc (if_neg c2) ?_
  refine ex_s (am_nb (m := 1) (pc1 := 11) (ls1 := [(0, .ref 0), (1, .int x0)]) (st1 := [.ref 0]) (H1 := H) (k1 := 0) (n1 := 0) (by with_unfolding_all rfl)) ?_
  refine ex_s (st_get rfl h0 rfl) ?_
  refine ex_s (am_nb (m := 1) (pc1 := 15) (ls1 := [(0, .ref 0), (1, .int x0)]) (st1 := [.int x0, .ref 115]) (H1 := H) (k1 := 0) (n1 := 0) (by with_unfolding_all rfl)) ?_
  refine ex_s (st_aald rfl h115 (by rw [c3]; decide) rfl) ?_
  refine ex_s (am_nb (m := 0) (pc1 := 16) (ls1 := [(0, .ref 0), (1, .int x0)]) (st1 := [.ref 143]) (H1 := H) (k1 := 0) (n1 := 0) (by rw [c3]; with_unfolding_all rfl)) ?_
  refine ex_s (st_get rfl h143 rfl) ?_
  refine ex_s (am_nb (m := 2) (pc1 := 23) (ls1 := [(0, .ref 0), (1, .int x0)]) (st1 := [.null]) (H1 := H) (k1 := 0) (n1 := 0) (by with_unfolding_all rfl)) ?_
  exact ex_r (st_aret rfl rfl rfl rfl) ⟨trivial, fun j => rfl⟩

set_option maxRecDepth 100000 in
theorem fx_close_1_4 {sL : Nat} {sx : Nat → Int32} {cs : Nat → Nat → Option Int32} {H : am_H} {v0_13 : Int32} {x0 : Int32} (h0 : am_is H 0 (.inr (11, [.ref 1, .int 0, .ref 2, .int 0, .ref 3, .ref 93, .ref 97, .ref 115, .ref 116, .ref 129, .ref 123, .ref 127, .ref 128, .int v0_13, .null, .int 0]))) (h115 : am_is H 115 (.inl ((.object "TerminalHouse$Window"), (8, .inr (.inr (.inr (.inr am_q115))))))) (h141 : am_is H 141 (.inr (9, [.ref 142, .int 0, .int 0, .int 0, .int 0, .int 0, .int 0, .int 0, .int 0, .int 0]))) (h143 : am_is H 143 (.inr (9, [.ref 144, .int 0, .int 0, .int 0, .int 0, .int 0, .int 0, .int 0, .int 0, .int 0]))) (h145 : am_is H 145 (.inr (9, [.ref 146, .int 0, .int 0, .int 0, .int 0, .int 0, .int 0, .int 0, .int 0, .int 0]))) (h147 : am_is H 147 (.inr (9, [.ref 148, .int 0, .int 0, .int 0, .int 0, .int 0, .int 0, .int 0, .int 0, .int 0]))) (h149 : am_is H 149 (.inr (9, [.ref 150, .int 0, .int 0, .int 0, .int 0, .int 0, .int 0, .int 0, .int 0, .int 0]))) (h151 : am_is H 151 (.inr (9, [.ref 152, .int 0, .int 0, .int 0, .int 0, .int 0, .int 0, .int 0, .int 0, .int 0]))) (h153 : am_is H 153 (.inr (9, [.ref 154, .int 0, .int 0, .int 0, .int 0, .int 0, .int 0, .int 0, .int 0, .int 0]))) (h155 : am_is H 155 (.inr (9, [.ref 156, .int 0, .int 0, .int 0, .int 0, .int 0, .int 0, .int 0, .int 0, .int 0]))) (c1 : ¬ x0 < 0) (c2 : ¬ 8 ≤ x0) (c3 : x0 = 2)  :
    am_E sL sx cs 98 0 [(0, .ref 0), (1, .int x0)] [] H (some (.null)) (fun H1 => (True) ∧ ∀ j : Nat, H1[j]? = H[j]?) := by
  refine ex_s (am_nb (m := 1) (pc1 := 1) (ls1 := [(0, .ref 0), (1, .int x0)]) (st1 := [.int x0]) (H1 := H) (k1 := 0) (n1 := 0) (by with_unfolding_all rfl)) ?_
  refine ex_s (st_if rfl) ?_
  refine ex_pc (if_neg c1) ?_
  refine ex_s (am_nb (m := 2) (pc1 := 7) (ls1 := [(0, .ref 0), (1, .int x0)]) (st1 := [.int 8, .int x0]) (H1 := H) (k1 := 0) (n1 := 0) (by with_unfolding_all rfl)) ?_
  refine ex_s (st_icmp rfl) ?_
  refine ex_pc (if_neg c2) ?_
  refine ex_s (am_nb (m := 1) (pc1 := 11) (ls1 := [(0, .ref 0), (1, .int x0)]) (st1 := [.ref 0]) (H1 := H) (k1 := 0) (n1 := 0) (by with_unfolding_all rfl)) ?_
  refine ex_s (st_get rfl h0 rfl) ?_
  refine ex_s (am_nb (m := 1) (pc1 := 15) (ls1 := [(0, .ref 0), (1, .int x0)]) (st1 := [.int x0, .ref 115]) (H1 := H) (k1 := 0) (n1 := 0) (by with_unfolding_all rfl)) ?_
  refine ex_s (st_aald rfl h115 (by rw [c3]; decide) rfl) ?_
  refine ex_s (am_nb (m := 0) (pc1 := 16) (ls1 := [(0, .ref 0), (1, .int x0)]) (st1 := [.ref 145]) (H1 := H) (k1 := 0) (n1 := 0) (by rw [c3]; with_unfolding_all rfl)) ?_
  refine ex_s (st_get rfl h145 rfl) ?_
  refine ex_s (am_nb (m := 2) (pc1 := 23) (ls1 := [(0, .ref 0), (1, .int x0)]) (st1 := [.null]) (H1 := H) (k1 := 0) (n1 := 0) (by with_unfolding_all rfl)) ?_
  exact ex_r (st_aret rfl rfl rfl rfl) ⟨trivial, fun j => rfl⟩

set_option maxRecDepth 100000 in
theorem fx_close_1_5 {sL : Nat} {sx : Nat → Int32} {cs : Nat → Nat → Option Int32} {H : am_H} {v0_13 : Int32} {x0 : Int32} (h0 : am_is H 0 (.inr (11, [.ref 1, .int 0, .ref 2, .int 0, .ref 3, .ref 93, .ref 97, .ref 115, .ref 116, .ref 129, .ref 123, .ref 127, .ref 128, .int v0_13, .null, .int 0]))) (h115 : am_is H 115 (.inl ((.object "TerminalHouse$Window"), (8, .inr (.inr (.inr (.inr am_q115))))))) (h141 : am_is H 141 (.inr (9, [.ref 142, .int 0, .int 0, .int 0, .int 0, .int 0, .int 0, .int 0, .int 0, .int 0]))) (h143 : am_is H 143 (.inr (9, [.ref 144, .int 0, .int 0, .int 0, .int 0, .int 0, .int 0, .int 0, .int 0, .int 0]))) (h145 : am_is H 145 (.inr (9, [.ref 146, .int 0, .int 0, .int 0, .int 0, .int 0, .int 0, .int 0, .int 0, .int 0]))) (h147 : am_is H 147 (.inr (9, [.ref 148, .int 0, .int 0, .int 0, .int 0, .int 0, .int 0, .int 0, .int 0, .int 0]))) (h149 : am_is H 149 (.inr (9, [.ref 150, .int 0, .int 0, .int 0, .int 0, .int 0, .int 0, .int 0, .int 0, .int 0]))) (h151 : am_is H 151 (.inr (9, [.ref 152, .int 0, .int 0, .int 0, .int 0, .int 0, .int 0, .int 0, .int 0, .int 0]))) (h153 : am_is H 153 (.inr (9, [.ref 154, .int 0, .int 0, .int 0, .int 0, .int 0, .int 0, .int 0, .int 0, .int 0]))) (h155 : am_is H 155 (.inr (9, [.ref 156, .int 0, .int 0, .int 0, .int 0, .int 0, .int 0, .int 0, .int 0, .int 0]))) (c1 : ¬ x0 < 0) (c2 : ¬ 8 ≤ x0) (c3 : x0 = 3)  :
    am_E sL sx cs 98 0 [(0, .ref 0), (1, .int x0)] [] H (some (.null)) (fun H1 => (True) ∧ ∀ j : Nat, H1[j]? = H[j]?) := by
  refine ex_s (am_nb (m := 1) (pc1 := 1) (ls1 := [(0, .ref 0), (1, .int x0)]) (st1 := [.int x0]) (H1 := H) (k1 := 0) (n1 := 0) (by with_unfolding_all rfl)) ?_
  refine ex_s (st_if rfl) ?_
  refine ex_pc (if_neg c1) ?_
  refine ex_s (am_nb (m := 2) (pc1 := 7) (ls1 := [(0, .ref 0), (1, .int x0)]) (st1 := [.int 8, .int x0]) (H1 := H) (k1 := 0) (n1 := 0) (by with_unfolding_all rfl)) ?_
  refine ex_s (st_icmp rfl) ?_
  refine ex_pc (if_neg c2) ?_
  refine ex_s (am_nb (m := 1) (pc1 := 11) (ls1 := [(0, .ref 0), (1, .int x0)]) (st1 := [.ref 0]) (H1 := H) (k1 := 0) (n1 := 0) (by with_unfolding_all rfl)) ?_
  refine ex_s (st_get rfl h0 rfl) ?_
  refine ex_s (am_nb (m := 1) (pc1 := 15) (ls1 := [(0, .ref 0), (1, .int x0)]) (st1 := [.int x0, .ref 115]) (H1 := H) (k1 := 0) (n1 := 0) (by with_unfolding_all rfl)) ?_
  refine ex_s (st_aald rfl h115 (by rw [c3]; decide) rfl) ?_
  refine ex_s (am_nb (m := 0) (pc1 := 16) (ls1 := [(0, .ref 0), (1, .int x0)]) (st1 := [.ref 147]) (H1 := H) (k1 := 0) (n1 := 0) (by rw [c3]; with_unfolding_all rfl)) ?_
  refine ex_s (st_get rfl h147 rfl) ?_
  refine ex_s (am_nb (m := 2) (pc1 := 23) (ls1 := [(0, .ref 0), (1, .int x0)]) (st1 := [.null]) (H1 := H) (k1 := 0) (n1 := 0) (by with_unfolding_all rfl)) ?_
  exact ex_r (st_aret rfl rfl rfl rfl) ⟨trivial, fun j => rfl⟩

set_option maxRecDepth 100000 in
theorem fx_close_1_6 {sL : Nat} {sx : Nat → Int32} {cs : Nat → Nat → Option Int32} {H : am_H} {v0_13 : Int32} {x0 : Int32} (h0 : am_is H 0 (.inr (11, [.ref 1, .int 0, .ref 2, .int 0, .ref 3, .ref 93, .ref 97, .ref 115, .ref 116, .ref 129, .ref 123, .ref 127, .ref 128, .int v0_13, .null, .int 0]))) (h115 : am_is H 115 (.inl ((.object "TerminalHouse$Window"), (8, .inr (.inr (.inr (.inr am_q115))))))) (h141 : am_is H 141 (.inr (9, [.ref 142, .int 0, .int 0, .int 0, .int 0, .int 0, .int 0, .int 0, .int 0, .int 0]))) (h143 : am_is H 143 (.inr (9, [.ref 144, .int 0, .int 0, .int 0, .int 0, .int 0, .int 0, .int 0, .int 0, .int 0]))) (h145 : am_is H 145 (.inr (9, [.ref 146, .int 0, .int 0, .int 0, .int 0, .int 0, .int 0, .int 0, .int 0, .int 0]))) (h147 : am_is H 147 (.inr (9, [.ref 148, .int 0, .int 0, .int 0, .int 0, .int 0, .int 0, .int 0, .int 0, .int 0]))) (h149 : am_is H 149 (.inr (9, [.ref 150, .int 0, .int 0, .int 0, .int 0, .int 0, .int 0, .int 0, .int 0, .int 0]))) (h151 : am_is H 151 (.inr (9, [.ref 152, .int 0, .int 0, .int 0, .int 0, .int 0, .int 0, .int 0, .int 0, .int 0]))) (h153 : am_is H 153 (.inr (9, [.ref 154, .int 0, .int 0, .int 0, .int 0, .int 0, .int 0, .int 0, .int 0, .int 0]))) (h155 : am_is H 155 (.inr (9, [.ref 156, .int 0, .int 0, .int 0, .int 0, .int 0, .int 0, .int 0, .int 0, .int 0]))) (c1 : ¬ x0 < 0) (c2 : ¬ 8 ≤ x0) (c3 : x0 = 4)  :
    am_E sL sx cs 98 0 [(0, .ref 0), (1, .int x0)] [] H (some (.null)) (fun H1 => (True) ∧ ∀ j : Nat, H1[j]? = H[j]?) := by
  refine ex_s (am_nb (m := 1) (pc1 := 1) (ls1 := [(0, .ref 0), (1, .int x0)]) (st1 := [.int x0]) (H1 := H) (k1 := 0) (n1 := 0) (by with_unfolding_all rfl)) ?_
  refine ex_s (st_if rfl) ?_
  refine ex_pc (if_neg c1) ?_
  refine ex_s (am_nb (m := 2) (pc1 := 7) (ls1 := [(0, .ref 0), (1, .int x0)]) (st1 := [.int 8, .int x0]) (H1 := H) (k1 := 0) (n1 := 0) (by with_unfolding_all rfl)) ?_
  refine ex_s (st_icmp rfl) ?_
  refine ex_pc (if_neg c2) ?_
  refine ex_s (am_nb (m := 1) (pc1 := 11) (ls1 := [(0, .ref 0), (1, .int x0)]) (st1 := [.ref 0]) (H1 := H) (k1 := 0) (n1 := 0) (by with_unfolding_all rfl)) ?_
  refine ex_s (st_get rfl h0 rfl) ?_
  refine ex_s (am_nb (m := 1) (pc1 := 15) (ls1 := [(0, .ref 0), (1, .int x0)]) (st1 := [.int x0, .ref 115]) (H1 := H) (k1 := 0) (n1 := 0) (by with_unfolding_all rfl)) ?_
  refine ex_s (st_aald rfl h115 (by rw [c3]; decide) rfl) ?_
  refine ex_s (am_nb (m := 0) (pc1 := 16) (ls1 := [(0, .ref 0), (1, .int x0)]) (st1 := [.ref 149]) (H1 := H) (k1 := 0) (n1 := 0) (by rw [c3]; with_unfolding_all rfl)) ?_
  refine ex_s (st_get rfl h149 rfl) ?_
  refine ex_s (am_nb (m := 2) (pc1 := 23) (ls1 := [(0, .ref 0), (1, .int x0)]) (st1 := [.null]) (H1 := H) (k1 := 0) (n1 := 0) (by with_unfolding_all rfl)) ?_
  exact ex_r (st_aret rfl rfl rfl rfl) ⟨trivial, fun j => rfl⟩

set_option maxRecDepth 100000 in
theorem fx_close_1_7 {sL : Nat} {sx : Nat → Int32} {cs : Nat → Nat → Option Int32} {H : am_H} {v0_13 : Int32} {x0 : Int32} (h0 : am_is H 0 (.inr (11, [.ref 1, .int 0, .ref 2, .int 0, .ref 3, .ref 93, .ref 97, .ref 115, .ref 116, .ref 129, .ref 123, .ref 127, .ref 128, .int v0_13, .null, .int 0]))) (h115 : am_is H 115 (.inl ((.object "TerminalHouse$Window"), (8, .inr (.inr (.inr (.inr am_q115))))))) (h141 : am_is H 141 (.inr (9, [.ref 142, .int 0, .int 0, .int 0, .int 0, .int 0, .int 0, .int 0, .int 0, .int 0]))) (h143 : am_is H 143 (.inr (9, [.ref 144, .int 0, .int 0, .int 0, .int 0, .int 0, .int 0, .int 0, .int 0, .int 0]))) (h145 : am_is H 145 (.inr (9, [.ref 146, .int 0, .int 0, .int 0, .int 0, .int 0, .int 0, .int 0, .int 0, .int 0]))) (h147 : am_is H 147 (.inr (9, [.ref 148, .int 0, .int 0, .int 0, .int 0, .int 0, .int 0, .int 0, .int 0, .int 0]))) (h149 : am_is H 149 (.inr (9, [.ref 150, .int 0, .int 0, .int 0, .int 0, .int 0, .int 0, .int 0, .int 0, .int 0]))) (h151 : am_is H 151 (.inr (9, [.ref 152, .int 0, .int 0, .int 0, .int 0, .int 0, .int 0, .int 0, .int 0, .int 0]))) (h153 : am_is H 153 (.inr (9, [.ref 154, .int 0, .int 0, .int 0, .int 0, .int 0, .int 0, .int 0, .int 0, .int 0]))) (h155 : am_is H 155 (.inr (9, [.ref 156, .int 0, .int 0, .int 0, .int 0, .int 0, .int 0, .int 0, .int 0, .int 0]))) (c1 : ¬ x0 < 0) (c2 : ¬ 8 ≤ x0) (c3 : x0 = 5)  :
    am_E sL sx cs 98 0 [(0, .ref 0), (1, .int x0)] [] H (some (.null)) (fun H1 => (True) ∧ ∀ j : Nat, H1[j]? = H[j]?) := by
  refine ex_s (am_nb (m := 1) (pc1 := 1) (ls1 := [(0, .ref 0), (1, .int x0)]) (st1 := [.int x0]) (H1 := H) (k1 := 0) (n1 := 0) (by with_unfolding_all rfl)) ?_
  refine ex_s (st_if rfl) ?_
  refine ex_pc (if_neg c1) ?_
  refine ex_s (am_nb (m := 2) (pc1 := 7) (ls1 := [(0, .ref 0), (1, .int x0)]) (st1 := [.int 8, .int x0]) (H1 := H) (k1 := 0) (n1 := 0) (by with_unfolding_all rfl)) ?_
  refine ex_s (st_icmp rfl) ?_
  refine ex_pc (if_neg c2) ?_
  refine ex_s (am_nb (m := 1) (pc1 := 11) (ls1 := [(0, .ref 0), (1, .int x0)]) (st1 := [.ref 0]) (H1 := H) (k1 := 0) (n1 := 0) (by with_unfolding_all rfl)) ?_
  refine ex_s (st_get rfl h0 rfl) ?_
  refine ex_s (am_nb (m := 1) (pc1 := 15) (ls1 := [(0, .ref 0), (1, .int x0)]) (st1 := [.int x0, .ref 115]) (H1 := H) (k1 := 0) (n1 := 0) (by with_unfolding_all rfl)) ?_
  refine ex_s (st_aald rfl h115 (by rw [c3]; decide) rfl) ?_
  refine ex_s (am_nb (m := 0) (pc1 := 16) (ls1 := [(0, .ref 0), (1, .int x0)]) (st1 := [.ref 151]) (H1 := H) (k1 := 0) (n1 := 0) (by rw [c3]; with_unfolding_all rfl)) ?_
  refine ex_s (st_get rfl h151 rfl) ?_
  refine ex_s (am_nb (m := 2) (pc1 := 23) (ls1 := [(0, .ref 0), (1, .int x0)]) (st1 := [.null]) (H1 := H) (k1 := 0) (n1 := 0) (by with_unfolding_all rfl)) ?_
  exact ex_r (st_aret rfl rfl rfl rfl) ⟨trivial, fun j => rfl⟩

set_option maxRecDepth 100000 in
theorem fx_close_1_8 {sL : Nat} {sx : Nat → Int32} {cs : Nat → Nat → Option Int32} {H : am_H} {v0_13 : Int32} {x0 : Int32} (h0 : am_is H 0 (.inr (11, [.ref 1, .int 0, .ref 2, .int 0, .ref 3, .ref 93, .ref 97, .ref 115, .ref 116, .ref 129, .ref 123, .ref 127, .ref 128, .int v0_13, .null, .int 0]))) (h115 : am_is H 115 (.inl ((.object "TerminalHouse$Window"), (8, .inr (.inr (.inr (.inr am_q115))))))) (h141 : am_is H 141 (.inr (9, [.ref 142, .int 0, .int 0, .int 0, .int 0, .int 0, .int 0, .int 0, .int 0, .int 0]))) (h143 : am_is H 143 (.inr (9, [.ref 144, .int 0, .int 0, .int 0, .int 0, .int 0, .int 0, .int 0, .int 0, .int 0]))) (h145 : am_is H 145 (.inr (9, [.ref 146, .int 0, .int 0, .int 0, .int 0, .int 0, .int 0, .int 0, .int 0, .int 0]))) (h147 : am_is H 147 (.inr (9, [.ref 148, .int 0, .int 0, .int 0, .int 0, .int 0, .int 0, .int 0, .int 0, .int 0]))) (h149 : am_is H 149 (.inr (9, [.ref 150, .int 0, .int 0, .int 0, .int 0, .int 0, .int 0, .int 0, .int 0, .int 0]))) (h151 : am_is H 151 (.inr (9, [.ref 152, .int 0, .int 0, .int 0, .int 0, .int 0, .int 0, .int 0, .int 0, .int 0]))) (h153 : am_is H 153 (.inr (9, [.ref 154, .int 0, .int 0, .int 0, .int 0, .int 0, .int 0, .int 0, .int 0, .int 0]))) (h155 : am_is H 155 (.inr (9, [.ref 156, .int 0, .int 0, .int 0, .int 0, .int 0, .int 0, .int 0, .int 0, .int 0]))) (c1 : ¬ x0 < 0) (c2 : ¬ 8 ≤ x0) (c3 : x0 = 6)  :
    am_E sL sx cs 98 0 [(0, .ref 0), (1, .int x0)] [] H (some (.null)) (fun H1 => (True) ∧ ∀ j : Nat, H1[j]? = H[j]?) := by
  refine ex_s (am_nb (m := 1) (pc1 := 1) (ls1 := [(0, .ref 0), (1, .int x0)]) (st1 := [.int x0]) (H1 := H) (k1 := 0) (n1 := 0) (by with_unfolding_all rfl)) ?_
  refine ex_s (st_if rfl) ?_
  refine ex_pc (if_neg c1) ?_
  refine ex_s (am_nb (m := 2) (pc1 := 7) (ls1 := [(0, .ref 0), (1, .int x0)]) (st1 := [.int 8, .int x0]) (H1 := H) (k1 := 0) (n1 := 0) (by with_unfolding_all rfl)) ?_
  refine ex_s (st_icmp rfl) ?_
  refine ex_pc (if_neg c2) ?_
  refine ex_s (am_nb (m := 1) (pc1 := 11) (ls1 := [(0, .ref 0), (1, .int x0)]) (st1 := [.ref 0]) (H1 := H) (k1 := 0) (n1 := 0) (by with_unfolding_all rfl)) ?_
  refine ex_s (st_get rfl h0 rfl) ?_
  refine ex_s (am_nb (m := 1) (pc1 := 15) (ls1 := [(0, .ref 0), (1, .int x0)]) (st1 := [.int x0, .ref 115]) (H1 := H) (k1 := 0) (n1 := 0) (by with_unfolding_all rfl)) ?_
  refine ex_s (st_aald rfl h115 (by rw [c3]; decide) rfl) ?_
  refine ex_s (am_nb (m := 0) (pc1 := 16) (ls1 := [(0, .ref 0), (1, .int x0)]) (st1 := [.ref 153]) (H1 := H) (k1 := 0) (n1 := 0) (by rw [c3]; with_unfolding_all rfl)) ?_
  refine ex_s (st_get rfl h153 rfl) ?_
  refine ex_s (am_nb (m := 2) (pc1 := 23) (ls1 := [(0, .ref 0), (1, .int x0)]) (st1 := [.null]) (H1 := H) (k1 := 0) (n1 := 0) (by with_unfolding_all rfl)) ?_
  exact ex_r (st_aret rfl rfl rfl rfl) ⟨trivial, fun j => rfl⟩

set_option maxRecDepth 100000 in
theorem fx_close_1_9 {sL : Nat} {sx : Nat → Int32} {cs : Nat → Nat → Option Int32} {H : am_H} {v0_13 : Int32} {x0 : Int32} (h0 : am_is H 0 (.inr (11, [.ref 1, .int 0, .ref 2, .int 0, .ref 3, .ref 93, .ref 97, .ref 115, .ref 116, .ref 129, .ref 123, .ref 127, .ref 128, .int v0_13, .null, .int 0]))) (h115 : am_is H 115 (.inl ((.object "TerminalHouse$Window"), (8, .inr (.inr (.inr (.inr am_q115))))))) (h141 : am_is H 141 (.inr (9, [.ref 142, .int 0, .int 0, .int 0, .int 0, .int 0, .int 0, .int 0, .int 0, .int 0]))) (h143 : am_is H 143 (.inr (9, [.ref 144, .int 0, .int 0, .int 0, .int 0, .int 0, .int 0, .int 0, .int 0, .int 0]))) (h145 : am_is H 145 (.inr (9, [.ref 146, .int 0, .int 0, .int 0, .int 0, .int 0, .int 0, .int 0, .int 0, .int 0]))) (h147 : am_is H 147 (.inr (9, [.ref 148, .int 0, .int 0, .int 0, .int 0, .int 0, .int 0, .int 0, .int 0, .int 0]))) (h149 : am_is H 149 (.inr (9, [.ref 150, .int 0, .int 0, .int 0, .int 0, .int 0, .int 0, .int 0, .int 0, .int 0]))) (h151 : am_is H 151 (.inr (9, [.ref 152, .int 0, .int 0, .int 0, .int 0, .int 0, .int 0, .int 0, .int 0, .int 0]))) (h153 : am_is H 153 (.inr (9, [.ref 154, .int 0, .int 0, .int 0, .int 0, .int 0, .int 0, .int 0, .int 0, .int 0]))) (h155 : am_is H 155 (.inr (9, [.ref 156, .int 0, .int 0, .int 0, .int 0, .int 0, .int 0, .int 0, .int 0, .int 0]))) (c1 : ¬ x0 < 0) (c2 : ¬ 8 ≤ x0) (c3 : x0 = 7)  :
    am_E sL sx cs 98 0 [(0, .ref 0), (1, .int x0)] [] H (some (.null)) (fun H1 => (True) ∧ ∀ j : Nat, H1[j]? = H[j]?) := by
  refine ex_s (am_nb (m := 1) (pc1 := 1) (ls1 := [(0, .ref 0), (1, .int x0)]) (st1 := [.int x0]) (H1 := H) (k1 := 0) (n1 := 0) (by with_unfolding_all rfl)) ?_
  refine ex_s (st_if rfl) ?_
  refine ex_pc (if_neg c1) ?_
  refine ex_s (am_nb (m := 2) (pc1 := 7) (ls1 := [(0, .ref 0), (1, .int x0)]) (st1 := [.int 8, .int x0]) (H1 := H) (k1 := 0) (n1 := 0) (by with_unfolding_all rfl)) ?_
  refine ex_s (st_icmp rfl) ?_
  refine ex_pc (if_neg c2) ?_
  refine ex_s (am_nb (m := 1) (pc1 := 11) (ls1 := [(0, .ref 0), (1, .int x0)]) (st1 := [.ref 0]) (H1 := H) (k1 := 0) (n1 := 0) (by with_unfolding_all rfl)) ?_
  refine ex_s (st_get rfl h0 rfl) ?_
  refine ex_s (am_nb (m := 1) (pc1 := 15) (ls1 := [(0, .ref 0), (1, .int x0)]) (st1 := [.int x0, .ref 115]) (H1 := H) (k1 := 0) (n1 := 0) (by with_unfolding_all rfl)) ?_
  refine ex_s (st_aald rfl h115 (by rw [c3]; decide) rfl) ?_
  refine ex_s (am_nb (m := 0) (pc1 := 16) (ls1 := [(0, .ref 0), (1, .int x0)]) (st1 := [.ref 155]) (H1 := H) (k1 := 0) (n1 := 0) (by rw [c3]; with_unfolding_all rfl)) ?_
  refine ex_s (st_get rfl h155 rfl) ?_
  refine ex_s (am_nb (m := 2) (pc1 := 23) (ls1 := [(0, .ref 0), (1, .int x0)]) (st1 := [.null]) (H1 := H) (k1 := 0) (n1 := 0) (by with_unfolding_all rfl)) ?_
  exact ex_r (st_aret rfl rfl rfl rfl) ⟨trivial, fun j => rfl⟩

set_option maxRecDepth 100000 in
theorem fx_close_0 {sL : Nat} {sx : Nat → Int32} {cs : Nat → Nat → Option Int32} {H : am_H} {v0_13 : Int32} {x0 : Int32} (h0 : am_is H 0 (.inr (11, [.ref 1, .int 0, .ref 2, .int 0, .ref 3, .ref 93, .ref 97, .ref 115, .ref 116, .ref 129, .ref 123, .ref 127, .ref 128, .int v0_13, .null, .int 0]))) (h115 : am_is H 115 (.inl ((.object "TerminalHouse$Window"), (8, .inr (.inr (.inr (.inr am_q115))))))) (h141 : am_is H 141 (.inr (9, [.ref 142, .int 0, .int 0, .int 0, .int 0, .int 0, .int 0, .int 0, .int 0, .int 0]))) (h143 : am_is H 143 (.inr (9, [.ref 144, .int 0, .int 0, .int 0, .int 0, .int 0, .int 0, .int 0, .int 0, .int 0]))) (h145 : am_is H 145 (.inr (9, [.ref 146, .int 0, .int 0, .int 0, .int 0, .int 0, .int 0, .int 0, .int 0, .int 0]))) (h147 : am_is H 147 (.inr (9, [.ref 148, .int 0, .int 0, .int 0, .int 0, .int 0, .int 0, .int 0, .int 0, .int 0]))) (h149 : am_is H 149 (.inr (9, [.ref 150, .int 0, .int 0, .int 0, .int 0, .int 0, .int 0, .int 0, .int 0, .int 0]))) (h151 : am_is H 151 (.inr (9, [.ref 152, .int 0, .int 0, .int 0, .int 0, .int 0, .int 0, .int 0, .int 0, .int 0]))) (h153 : am_is H 153 (.inr (9, [.ref 154, .int 0, .int 0, .int 0, .int 0, .int 0, .int 0, .int 0, .int 0, .int 0]))) (h155 : am_is H 155 (.inr (9, [.ref 156, .int 0, .int 0, .int 0, .int 0, .int 0, .int 0, .int 0, .int 0, .int 0]))) (c1 : x0 < 0)  :
    am_E sL sx cs 97 0 [(0, .ref 0), (1, .int x0)] [] H (some (.int 0)) (fun H1 => (True) ∧ ∀ j : Nat, H1[j]? = H[j]?) := by
  refine ex_s (am_nb (m := 2) (pc1 := 2) (ls1 := [(0, .ref 0), (1, .int x0)]) (st1 := [.int x0, .ref 0]) (H1 := H) (k1 := 0) (n1 := 0) (by with_unfolding_all rfl)) ?_
  refine ex_cv1 (as := [.int x0]) (rest := []) rfl rfl rfl rfl h0 rfl (by with_unfolding_all rfl) (by with_unfolding_all rfl) (fx_close_1_0 h0 h115 h141 h143 h145 h147 h149 h151 h153 h155 c1) ?_
  rintro H77 ⟨-, k77⟩
  refine ex_s (am_nb (m := 4) (pc1 := 11) (ls1 := [(2, .null), (0, .ref 0), (1, .int x0)]) (st1 := [.int 0]) (H1 := H77) (k1 := 0) (n1 := 0) (by with_unfolding_all rfl)) ?_
  exact ex_r (st_iret rfl rfl rfl) ⟨trivial, fun j => (k77 j)⟩

set_option maxRecDepth 100000 in
theorem fx_close_1 {sL : Nat} {sx : Nat → Int32} {cs : Nat → Nat → Option Int32} {H : am_H} {v0_13 : Int32} {x0 : Int32} (h0 : am_is H 0 (.inr (11, [.ref 1, .int 0, .ref 2, .int 0, .ref 3, .ref 93, .ref 97, .ref 115, .ref 116, .ref 129, .ref 123, .ref 127, .ref 128, .int v0_13, .null, .int 0]))) (h115 : am_is H 115 (.inl ((.object "TerminalHouse$Window"), (8, .inr (.inr (.inr (.inr am_q115))))))) (h141 : am_is H 141 (.inr (9, [.ref 142, .int 0, .int 0, .int 0, .int 0, .int 0, .int 0, .int 0, .int 0, .int 0]))) (h143 : am_is H 143 (.inr (9, [.ref 144, .int 0, .int 0, .int 0, .int 0, .int 0, .int 0, .int 0, .int 0, .int 0]))) (h145 : am_is H 145 (.inr (9, [.ref 146, .int 0, .int 0, .int 0, .int 0, .int 0, .int 0, .int 0, .int 0, .int 0]))) (h147 : am_is H 147 (.inr (9, [.ref 148, .int 0, .int 0, .int 0, .int 0, .int 0, .int 0, .int 0, .int 0, .int 0]))) (h149 : am_is H 149 (.inr (9, [.ref 150, .int 0, .int 0, .int 0, .int 0, .int 0, .int 0, .int 0, .int 0, .int 0]))) (h151 : am_is H 151 (.inr (9, [.ref 152, .int 0, .int 0, .int 0, .int 0, .int 0, .int 0, .int 0, .int 0, .int 0]))) (h153 : am_is H 153 (.inr (9, [.ref 154, .int 0, .int 0, .int 0, .int 0, .int 0, .int 0, .int 0, .int 0, .int 0]))) (h155 : am_is H 155 (.inr (9, [.ref 156, .int 0, .int 0, .int 0, .int 0, .int 0, .int 0, .int 0, .int 0, .int 0]))) (c1 : ¬ x0 < 0) (c2 : 8 ≤ x0)  :
    am_E sL sx cs 97 0 [(0, .ref 0), (1, .int x0)] [] H (some (.int 0)) (fun H1 => (True) ∧ ∀ j : Nat, H1[j]? = H[j]?) := by
  refine ex_s (am_nb (m := 2) (pc1 := 2) (ls1 := [(0, .ref 0), (1, .int x0)]) (st1 := [.int x0, .ref 0]) (H1 := H) (k1 := 0) (n1 := 0) (by with_unfolding_all rfl)) ?_
  refine ex_cv1 (as := [.int x0]) (rest := []) rfl rfl rfl rfl h0 rfl (by with_unfolding_all rfl) (by with_unfolding_all rfl) (fx_close_1_1 h0 h115 h141 h143 h145 h147 h149 h151 h153 h155 c1 c2) ?_
  rintro H78 ⟨-, k78⟩
  refine ex_s (am_nb (m := 4) (pc1 := 11) (ls1 := [(2, .null), (0, .ref 0), (1, .int x0)]) (st1 := [.int 0]) (H1 := H78) (k1 := 0) (n1 := 0) (by with_unfolding_all rfl)) ?_
  exact ex_r (st_iret rfl rfl rfl) ⟨trivial, fun j => (k78 j)⟩

set_option maxRecDepth 100000 in
theorem fx_close_2 {sL : Nat} {sx : Nat → Int32} {cs : Nat → Nat → Option Int32} {H : am_H} {v0_13 : Int32} {x0 : Int32} (h0 : am_is H 0 (.inr (11, [.ref 1, .int 0, .ref 2, .int 0, .ref 3, .ref 93, .ref 97, .ref 115, .ref 116, .ref 129, .ref 123, .ref 127, .ref 128, .int v0_13, .null, .int 0]))) (h115 : am_is H 115 (.inl ((.object "TerminalHouse$Window"), (8, .inr (.inr (.inr (.inr am_q115))))))) (h141 : am_is H 141 (.inr (9, [.ref 142, .int 0, .int 0, .int 0, .int 0, .int 0, .int 0, .int 0, .int 0, .int 0]))) (h143 : am_is H 143 (.inr (9, [.ref 144, .int 0, .int 0, .int 0, .int 0, .int 0, .int 0, .int 0, .int 0, .int 0]))) (h145 : am_is H 145 (.inr (9, [.ref 146, .int 0, .int 0, .int 0, .int 0, .int 0, .int 0, .int 0, .int 0, .int 0]))) (h147 : am_is H 147 (.inr (9, [.ref 148, .int 0, .int 0, .int 0, .int 0, .int 0, .int 0, .int 0, .int 0, .int 0]))) (h149 : am_is H 149 (.inr (9, [.ref 150, .int 0, .int 0, .int 0, .int 0, .int 0, .int 0, .int 0, .int 0, .int 0]))) (h151 : am_is H 151 (.inr (9, [.ref 152, .int 0, .int 0, .int 0, .int 0, .int 0, .int 0, .int 0, .int 0, .int 0]))) (h153 : am_is H 153 (.inr (9, [.ref 154, .int 0, .int 0, .int 0, .int 0, .int 0, .int 0, .int 0, .int 0, .int 0]))) (h155 : am_is H 155 (.inr (9, [.ref 156, .int 0, .int 0, .int 0, .int 0, .int 0, .int 0, .int 0, .int 0, .int 0]))) (c1 : ¬ x0 < 0) (c2 : ¬ 8 ≤ x0) (c3 : x0 = 0)  :
    am_E sL sx cs 97 0 [(0, .ref 0), (1, .int x0)] [] H (some (.int 0)) (fun H1 => (True) ∧ ∀ j : Nat, H1[j]? = H[j]?) := by
  refine ex_s (am_nb (m := 2) (pc1 := 2) (ls1 := [(0, .ref 0), (1, .int x0)]) (st1 := [.int x0, .ref 0]) (H1 := H) (k1 := 0) (n1 := 0) (by with_unfolding_all rfl)) ?_
  refine ex_cv1 (as := [.int x0]) (rest := []) rfl rfl rfl rfl h0 rfl (by with_unfolding_all rfl) (by with_unfolding_all rfl) (fx_close_1_2 h0 h115 h141 h143 h145 h147 h149 h151 h153 h155 c1 c2 c3) ?_
  rintro H79 ⟨-, k79⟩
  refine ex_s (am_nb (m := 4) (pc1 := 11) (ls1 := [(2, .null), (0, .ref 0), (1, .int x0)]) (st1 := [.int 0]) (H1 := H79) (k1 := 0) (n1 := 0) (by with_unfolding_all rfl)) ?_
  exact ex_r (st_iret rfl rfl rfl) ⟨trivial, fun j => (k79 j)⟩

set_option maxRecDepth 100000 in
theorem fx_close_3 {sL : Nat} {sx : Nat → Int32} {cs : Nat → Nat → Option Int32} {H : am_H} {v0_13 : Int32} {x0 : Int32} (h0 : am_is H 0 (.inr (11, [.ref 1, .int 0, .ref 2, .int 0, .ref 3, .ref 93, .ref 97, .ref 115, .ref 116, .ref 129, .ref 123, .ref 127, .ref 128, .int v0_13, .null, .int 0]))) (h115 : am_is H 115 (.inl ((.object "TerminalHouse$Window"), (8, .inr (.inr (.inr (.inr am_q115))))))) (h141 : am_is H 141 (.inr (9, [.ref 142, .int 0, .int 0, .int 0, .int 0, .int 0, .int 0, .int 0, .int 0, .int 0]))) (h143 : am_is H 143 (.inr (9, [.ref 144, .int 0, .int 0, .int 0, .int 0, .int 0, .int 0, .int 0, .int 0, .int 0]))) (h145 : am_is H 145 (.inr (9, [.ref 146, .int 0, .int 0, .int 0, .int 0, .int 0, .int 0, .int 0, .int 0, .int 0]))) (h147 : am_is H 147 (.inr (9, [.ref 148, .int 0, .int 0, .int 0, .int 0, .int 0, .int 0, .int 0, .int 0, .int 0]))) (h149 : am_is H 149 (.inr (9, [.ref 150, .int 0, .int 0, .int 0, .int 0, .int 0, .int 0, .int 0, .int 0, .int 0]))) (h151 : am_is H 151 (.inr (9, [.ref 152, .int 0, .int 0, .int 0, .int 0, .int 0, .int 0, .int 0, .int 0, .int 0]))) (h153 : am_is H 153 (.inr (9, [.ref 154, .int 0, .int 0, .int 0, .int 0, .int 0, .int 0, .int 0, .int 0, .int 0]))) (h155 : am_is H 155 (.inr (9, [.ref 156, .int 0, .int 0, .int 0, .int 0, .int 0, .int 0, .int 0, .int 0, .int 0]))) (c1 : ¬ x0 < 0) (c2 : ¬ 8 ≤ x0) (c3 : x0 = 1)  :
    am_E sL sx cs 97 0 [(0, .ref 0), (1, .int x0)] [] H (some (.int 0)) (fun H1 => (True) ∧ ∀ j : Nat, H1[j]? = H[j]?) := by
  refine ex_s (am_nb (m := 2) (pc1 := 2) (ls1 := [(0, .ref 0), (1, .int x0)]) (st1 := [.int x0, .ref 0]) (H1 := H) (k1 := 0) (n1 := 0) (by with_unfolding_all rfl)) ?_
  refine ex_cv1 (as := [.int x0]) (rest := []) rfl rfl rfl rfl h0 rfl (by with_unfolding_all rfl) (by with_unfolding_all rfl) (fx_close_1_3 h0 h115 h141 h143 h145 h147 h149 h151 h153 h155 c1 c2 c3) ?_
  rintro H80 ⟨-, k80⟩
  refine ex_s (am_nb (m := 4) (pc1 := 11) (ls1 := [(2, .null), (0, .ref 0), (1, .int x0)]) (st1 := [.int 0]) (H1 := H80) (k1 := 0) (n1 := 0) (by with_unfolding_all rfl)) ?_
  exact ex_r (st_iret rfl rfl rfl) ⟨trivial, fun j => (k80 j)⟩

set_option maxRecDepth 100000 in
theorem fx_close_4 {sL : Nat} {sx : Nat → Int32} {cs : Nat → Nat → Option Int32} {H : am_H} {v0_13 : Int32} {x0 : Int32} (h0 : am_is H 0 (.inr (11, [.ref 1, .int 0, .ref 2, .int 0, .ref 3, .ref 93, .ref 97, .ref 115, .ref 116, .ref 129, .ref 123, .ref 127, .ref 128, .int v0_13, .null, .int 0]))) (h115 : am_is H 115 (.inl ((.object "TerminalHouse$Window"), (8, .inr (.inr (.inr (.inr am_q115))))))) (h141 : am_is H 141 (.inr (9, [.ref 142, .int 0, .int 0, .int 0, .int 0, .int 0, .int 0, .int 0, .int 0, .int 0]))) (h143 : am_is H 143 (.inr (9, [.ref 144, .int 0, .int 0, .int 0, .int 0, .int 0, .int 0, .int 0, .int 0, .int 0]))) (h145 : am_is H 145 (.inr (9, [.ref 146, .int 0, .int 0, .int 0, .int 0, .int 0, .int 0, .int 0, .int 0, .int 0]))) (h147 : am_is H 147 (.inr (9, [.ref 148, .int 0, .int 0, .int 0, .int 0, .int 0, .int 0, .int 0, .int 0, .int 0]))) (h149 : am_is H 149 (.inr (9, [.ref 150, .int 0, .int 0, .int 0, .int 0, .int 0, .int 0, .int 0, .int 0, .int 0]))) (h151 : am_is H 151 (.inr (9, [.ref 152, .int 0, .int 0, .int 0, .int 0, .int 0, .int 0, .int 0, .int 0, .int 0]))) (h153 : am_is H 153 (.inr (9, [.ref 154, .int 0, .int 0, .int 0, .int 0, .int 0, .int 0, .int 0, .int 0, .int 0]))) (h155 : am_is H 155 (.inr (9, [.ref 156, .int 0, .int 0, .int 0, .int 0, .int 0, .int 0, .int 0, .int 0, .int 0]))) (c1 : ¬ x0 < 0) (c2 : ¬ 8 ≤ x0) (c3 : x0 = 2)  :
    am_E sL sx cs 97 0 [(0, .ref 0), (1, .int x0)] [] H (some (.int 0)) (fun H1 => (True) ∧ ∀ j : Nat, H1[j]? = H[j]?) := by
  refine ex_s (am_nb (m := 2) (pc1 := 2) (ls1 := [(0, .ref 0), (1, .int x0)]) (st1 := [.int x0, .ref 0]) (H1 := H) (k1 := 0) (n1 := 0) (by with_unfolding_all rfl)) ?_
  refine ex_cv1 (as := [.int x0]) (rest := []) rfl rfl rfl rfl h0 rfl (by with_unfolding_all rfl) (by with_unfolding_all rfl) (fx_close_1_4 h0 h115 h141 h143 h145 h147 h149 h151 h153 h155 c1 c2 c3) ?_
  rintro H81 ⟨-, k81⟩
  refine ex_s (am_nb (m := 4) (pc1 := 11) (ls1 := [(2, .null), (0, .ref 0), (1, .int x0)]) (st1 := [.int 0]) (H1 := H81) (k1 := 0) (n1 := 0) (by with_unfolding_all rfl)) ?_
  exact ex_r (st_iret rfl rfl rfl) ⟨trivial, fun j => (k81 j)⟩

set_option maxRecDepth 100000 in
theorem fx_close_5 {sL : Nat} {sx : Nat → Int32} {cs : Nat → Nat → Option Int32} {H : am_H} {v0_13 : Int32} {x0 : Int32} (h0 : am_is H 0 (.inr (11, [.ref 1, .int 0, .ref 2, .int 0, .ref 3, .ref 93, .ref 97, .ref 115, .ref 116, .ref 129, .ref 123, .ref 127, .ref 128, .int v0_13, .null, .int 0]))) (h115 : am_is H 115 (.inl ((.object "TerminalHouse$Window"), (8, .inr (.inr (.inr (.inr am_q115))))))) (h141 : am_is H 141 (.inr (9, [.ref 142, .int 0, .int 0, .int 0, .int 0, .int 0, .int 0, .int 0, .int 0, .int 0]))) (h143 : am_is H 143 (.inr (9, [.ref 144, .int 0, .int 0, .int 0, .int 0, .int 0, .int 0, .int 0, .int 0, .int 0]))) (h145 : am_is H 145 (.inr (9, [.ref 146, .int 0, .int 0, .int 0, .int 0, .int 0, .int 0, .int 0, .int 0, .int 0]))) (h147 : am_is H 147 (.inr (9, [.ref 148, .int 0, .int 0, .int 0, .int 0, .int 0, .int 0, .int 0, .int 0, .int 0]))) (h149 : am_is H 149 (.inr (9, [.ref 150, .int 0, .int 0, .int 0, .int 0, .int 0, .int 0, .int 0, .int 0, .int 0]))) (h151 : am_is H 151 (.inr (9, [.ref 152, .int 0, .int 0, .int 0, .int 0, .int 0, .int 0, .int 0, .int 0, .int 0]))) (h153 : am_is H 153 (.inr (9, [.ref 154, .int 0, .int 0, .int 0, .int 0, .int 0, .int 0, .int 0, .int 0, .int 0]))) (h155 : am_is H 155 (.inr (9, [.ref 156, .int 0, .int 0, .int 0, .int 0, .int 0, .int 0, .int 0, .int 0, .int 0]))) (c1 : ¬ x0 < 0) (c2 : ¬ 8 ≤ x0) (c3 : x0 = 3)  :
    am_E sL sx cs 97 0 [(0, .ref 0), (1, .int x0)] [] H (some (.int 0)) (fun H1 => (True) ∧ ∀ j : Nat, H1[j]? = H[j]?) := by
  refine ex_s (am_nb (m := 2) (pc1 := 2) (ls1 := [(0, .ref 0), (1, .int x0)]) (st1 := [.int x0, .ref 0]) (H1 := H) (k1 := 0) (n1 := 0) (by with_unfolding_all rfl)) ?_
  refine ex_cv1 (as := [.int x0]) (rest := []) rfl rfl rfl rfl h0 rfl (by with_unfolding_all rfl) (by with_unfolding_all rfl) (fx_close_1_5 h0 h115 h141 h143 h145 h147 h149 h151 h153 h155 c1 c2 c3) ?_
  rintro H82 ⟨-, k82⟩
  refine ex_s (am_nb (m := 4) (pc1 := 11) (ls1 := [(2, .null), (0, .ref 0), (1, .int x0)]) (st1 := [.int 0]) (H1 := H82) (k1 := 0) (n1 := 0) (by with_unfolding_all rfl)) ?_
  exact ex_r (st_iret rfl rfl rfl) ⟨trivial, fun j => (k82 j)⟩

set_option maxRecDepth 100000 in
theorem fx_close_6 {sL : Nat} {sx : Nat → Int32} {cs : Nat → Nat → Option Int32} {H : am_H} {v0_13 : Int32} {x0 : Int32} (h0 : am_is H 0 (.inr (11, [.ref 1, .int 0, .ref 2, .int 0, .ref 3, .ref 93, .ref 97, .ref 115, .ref 116, .ref 129, .ref 123, .ref 127, .ref 128, .int v0_13, .null, .int 0]))) (h115 : am_is H 115 (.inl ((.object "TerminalHouse$Window"), (8, .inr (.inr (.inr (.inr am_q115))))))) (h141 : am_is H 141 (.inr (9, [.ref 142, .int 0, .int 0, .int 0, .int 0, .int 0, .int 0, .int 0, .int 0, .int 0]))) (h143 : am_is H 143 (.inr (9, [.ref 144, .int 0, .int 0, .int 0, .int 0, .int 0, .int 0, .int 0, .int 0, .int 0]))) (h145 : am_is H 145 (.inr (9, [.ref 146, .int 0, .int 0, .int 0, .int 0, .int 0, .int 0, .int 0, .int 0, .int 0]))) (h147 : am_is H 147 (.inr (9, [.ref 148, .int 0, .int 0, .int 0, .int 0, .int 0, .int 0, .int 0, .int 0, .int 0]))) (h149 : am_is H 149 (.inr (9, [.ref 150, .int 0, .int 0, .int 0, .int 0, .int 0, .int 0, .int 0, .int 0, .int 0]))) (h151 : am_is H 151 (.inr (9, [.ref 152, .int 0, .int 0, .int 0, .int 0, .int 0, .int 0, .int 0, .int 0, .int 0]))) (h153 : am_is H 153 (.inr (9, [.ref 154, .int 0, .int 0, .int 0, .int 0, .int 0, .int 0, .int 0, .int 0, .int 0]))) (h155 : am_is H 155 (.inr (9, [.ref 156, .int 0, .int 0, .int 0, .int 0, .int 0, .int 0, .int 0, .int 0, .int 0]))) (c1 : ¬ x0 < 0) (c2 : ¬ 8 ≤ x0) (c3 : x0 = 4)  :
    am_E sL sx cs 97 0 [(0, .ref 0), (1, .int x0)] [] H (some (.int 0)) (fun H1 => (True) ∧ ∀ j : Nat, H1[j]? = H[j]?) := by
  refine ex_s (am_nb (m := 2) (pc1 := 2) (ls1 := [(0, .ref 0), (1, .int x0)]) (st1 := [.int x0, .ref 0]) (H1 := H) (k1 := 0) (n1 := 0) (by with_unfolding_all rfl)) ?_
  refine ex_cv1 (as := [.int x0]) (rest := []) rfl rfl rfl rfl h0 rfl (by with_unfolding_all rfl) (by with_unfolding_all rfl) (fx_close_1_6 h0 h115 h141 h143 h145 h147 h149 h151 h153 h155 c1 c2 c3) ?_
  rintro H83 ⟨-, k83⟩
  refine ex_s (am_nb (m := 4) (pc1 := 11) (ls1 := [(2, .null), (0, .ref 0), (1, .int x0)]) (st1 := [.int 0]) (H1 := H83) (k1 := 0) (n1 := 0) (by with_unfolding_all rfl)) ?_
  exact ex_r (st_iret rfl rfl rfl) ⟨trivial, fun j => (k83 j)⟩

set_option maxRecDepth 100000 in
theorem fx_close_7 {sL : Nat} {sx : Nat → Int32} {cs : Nat → Nat → Option Int32} {H : am_H} {v0_13 : Int32} {x0 : Int32} (h0 : am_is H 0 (.inr (11, [.ref 1, .int 0, .ref 2, .int 0, .ref 3, .ref 93, .ref 97, .ref 115, .ref 116, .ref 129, .ref 123, .ref 127, .ref 128, .int v0_13, .null, .int 0]))) (h115 : am_is H 115 (.inl ((.object "TerminalHouse$Window"), (8, .inr (.inr (.inr (.inr am_q115))))))) (h141 : am_is H 141 (.inr (9, [.ref 142, .int 0, .int 0, .int 0, .int 0, .int 0, .int 0, .int 0, .int 0, .int 0]))) (h143 : am_is H 143 (.inr (9, [.ref 144, .int 0, .int 0, .int 0, .int 0, .int 0, .int 0, .int 0, .int 0, .int 0]))) (h145 : am_is H 145 (.inr (9, [.ref 146, .int 0, .int 0, .int 0, .int 0, .int 0, .int 0, .int 0, .int 0, .int 0]))) (h147 : am_is H 147 (.inr (9, [.ref 148, .int 0, .int 0, .int 0, .int 0, .int 0, .int 0, .int 0, .int 0, .int 0]))) (h149 : am_is H 149 (.inr (9, [.ref 150, .int 0, .int 0, .int 0, .int 0, .int 0, .int 0, .int 0, .int 0, .int 0]))) (h151 : am_is H 151 (.inr (9, [.ref 152, .int 0, .int 0, .int 0, .int 0, .int 0, .int 0, .int 0, .int 0, .int 0]))) (h153 : am_is H 153 (.inr (9, [.ref 154, .int 0, .int 0, .int 0, .int 0, .int 0, .int 0, .int 0, .int 0, .int 0]))) (h155 : am_is H 155 (.inr (9, [.ref 156, .int 0, .int 0, .int 0, .int 0, .int 0, .int 0, .int 0, .int 0, .int 0]))) (c1 : ¬ x0 < 0) (c2 : ¬ 8 ≤ x0) (c3 : x0 = 5)  :
    am_E sL sx cs 97 0 [(0, .ref 0), (1, .int x0)] [] H (some (.int 0)) (fun H1 => (True) ∧ ∀ j : Nat, H1[j]? = H[j]?) := by
  refine ex_s (am_nb (m := 2) (pc1 := 2) (ls1 := [(0, .ref 0), (1, .int x0)]) (st1 := [.int x0, .ref 0]) (H1 := H) (k1 := 0) (n1 := 0) (by with_unfolding_all rfl)) ?_
  refine ex_cv1 (as := [.int x0]) (rest := []) rfl rfl rfl rfl h0 rfl (by with_unfolding_all rfl) (by with_unfolding_all rfl) (fx_close_1_7 h0 h115 h141 h143 h145 h147 h149 h151 h153 h155 c1 c2 c3) ?_
  rintro H84 ⟨-, k84⟩
  refine ex_s (am_nb (m := 4) (pc1 := 11) (ls1 := [(2, .null), (0, .ref 0), (1, .int x0)]) (st1 := [.int 0]) (H1 := H84) (k1 := 0) (n1 := 0) (by with_unfolding_all rfl)) ?_
  exact ex_r (st_iret rfl rfl rfl) ⟨trivial, fun j => (k84 j)⟩

set_option maxRecDepth 100000 in
theorem fx_close_8 {sL : Nat} {sx : Nat → Int32} {cs : Nat → Nat → Option Int32} {H : am_H} {v0_13 : Int32} {x0 : Int32} (h0 : am_is H 0 (.inr (11, [.ref 1, .int 0, .ref 2, .int 0, .ref 3, .ref 93, .ref 97, .ref 115, .ref 116, .ref 129, .ref 123, .ref 127, .ref 128, .int v0_13, .null, .int 0]))) (h115 : am_is H 115 (.inl ((.object "TerminalHouse$Window"), (8, .inr (.inr (.inr (.inr am_q115))))))) (h141 : am_is H 141 (.inr (9, [.ref 142, .int 0, .int 0, .int 0, .int 0, .int 0, .int 0, .int 0, .int 0, .int 0]))) (h143 : am_is H 143 (.inr (9, [.ref 144, .int 0, .int 0, .int 0, .int 0, .int 0, .int 0, .int 0, .int 0, .int 0]))) (h145 : am_is H 145 (.inr (9, [.ref 146, .int 0, .int 0, .int 0, .int 0, .int 0, .int 0, .int 0, .int 0, .int 0]))) (h147 : am_is H 147 (.inr (9, [.ref 148, .int 0, .int 0, .int 0, .int 0, .int 0, .int 0, .int 0, .int 0, .int 0]))) (h149 : am_is H 149 (.inr (9, [.ref 150, .int 0, .int 0, .int 0, .int 0, .int 0, .int 0, .int 0, .int 0, .int 0]))) (h151 : am_is H 151 (.inr (9, [.ref 152, .int 0, .int 0, .int 0, .int 0, .int 0, .int 0, .int 0, .int 0, .int 0]))) (h153 : am_is H 153 (.inr (9, [.ref 154, .int 0, .int 0, .int 0, .int 0, .int 0, .int 0, .int 0, .int 0, .int 0]))) (h155 : am_is H 155 (.inr (9, [.ref 156, .int 0, .int 0, .int 0, .int 0, .int 0, .int 0, .int 0, .int 0, .int 0]))) (c1 : ¬ x0 < 0) (c2 : ¬ 8 ≤ x0) (c3 : x0 = 6)  :
    am_E sL sx cs 97 0 [(0, .ref 0), (1, .int x0)] [] H (some (.int 0)) (fun H1 => (True) ∧ ∀ j : Nat, H1[j]? = H[j]?) := by
  refine ex_s (am_nb (m := 2) (pc1 := 2) (ls1 := [(0, .ref 0), (1, .int x0)]) (st1 := [.int x0, .ref 0]) (H1 := H) (k1 := 0) (n1 := 0) (by with_unfolding_all rfl)) ?_
  refine ex_cv1 (as := [.int x0]) (rest := []) rfl rfl rfl rfl h0 rfl (by with_unfolding_all rfl) (by with_unfolding_all rfl) (fx_close_1_8 h0 h115 h141 h143 h145 h147 h149 h151 h153 h155 c1 c2 c3) ?_
  rintro H85 ⟨-, k85⟩
  refine ex_s (am_nb (m := 4) (pc1 := 11) (ls1 := [(2, .null), (0, .ref 0), (1, .int x0)]) (st1 := [.int 0]) (H1 := H85) (k1 := 0) (n1 := 0) (by with_unfolding_all rfl)) ?_
  exact ex_r (st_iret rfl rfl rfl) ⟨trivial, fun j => (k85 j)⟩

set_option maxRecDepth 100000 in
theorem fx_close_9 {sL : Nat} {sx : Nat → Int32} {cs : Nat → Nat → Option Int32} {H : am_H} {v0_13 : Int32} {x0 : Int32} (h0 : am_is H 0 (.inr (11, [.ref 1, .int 0, .ref 2, .int 0, .ref 3, .ref 93, .ref 97, .ref 115, .ref 116, .ref 129, .ref 123, .ref 127, .ref 128, .int v0_13, .null, .int 0]))) (h115 : am_is H 115 (.inl ((.object "TerminalHouse$Window"), (8, .inr (.inr (.inr (.inr am_q115))))))) (h141 : am_is H 141 (.inr (9, [.ref 142, .int 0, .int 0, .int 0, .int 0, .int 0, .int 0, .int 0, .int 0, .int 0]))) (h143 : am_is H 143 (.inr (9, [.ref 144, .int 0, .int 0, .int 0, .int 0, .int 0, .int 0, .int 0, .int 0, .int 0]))) (h145 : am_is H 145 (.inr (9, [.ref 146, .int 0, .int 0, .int 0, .int 0, .int 0, .int 0, .int 0, .int 0, .int 0]))) (h147 : am_is H 147 (.inr (9, [.ref 148, .int 0, .int 0, .int 0, .int 0, .int 0, .int 0, .int 0, .int 0, .int 0]))) (h149 : am_is H 149 (.inr (9, [.ref 150, .int 0, .int 0, .int 0, .int 0, .int 0, .int 0, .int 0, .int 0, .int 0]))) (h151 : am_is H 151 (.inr (9, [.ref 152, .int 0, .int 0, .int 0, .int 0, .int 0, .int 0, .int 0, .int 0, .int 0]))) (h153 : am_is H 153 (.inr (9, [.ref 154, .int 0, .int 0, .int 0, .int 0, .int 0, .int 0, .int 0, .int 0, .int 0]))) (h155 : am_is H 155 (.inr (9, [.ref 156, .int 0, .int 0, .int 0, .int 0, .int 0, .int 0, .int 0, .int 0, .int 0]))) (c1 : ¬ x0 < 0) (c2 : ¬ 8 ≤ x0) (c3 : x0 = 7)  :
    am_E sL sx cs 97 0 [(0, .ref 0), (1, .int x0)] [] H (some (.int 0)) (fun H1 => (True) ∧ ∀ j : Nat, H1[j]? = H[j]?) := by
  refine ex_s (am_nb (m := 2) (pc1 := 2) (ls1 := [(0, .ref 0), (1, .int x0)]) (st1 := [.int x0, .ref 0]) (H1 := H) (k1 := 0) (n1 := 0) (by with_unfolding_all rfl)) ?_
  refine ex_cv1 (as := [.int x0]) (rest := []) rfl rfl rfl rfl h0 rfl (by with_unfolding_all rfl) (by with_unfolding_all rfl) (fx_close_1_9 h0 h115 h141 h143 h145 h147 h149 h151 h153 h155 c1 c2 c3) ?_
  rintro H86 ⟨-, k86⟩
  refine ex_s (am_nb (m := 4) (pc1 := 11) (ls1 := [(2, .null), (0, .ref 0), (1, .int x0)]) (st1 := [.int 0]) (H1 := H86) (k1 := 0) (n1 := 0) (by with_unfolding_all rfl)) ?_
  exact ex_r (st_iret rfl rfl rfl) ⟨trivial, fun j => (k86 j)⟩

set_option maxRecDepth 100000 in
theorem fx_at_1_0 {sL : Nat} {sx : Nat → Int32} {cs : Nat → Nat → Option Int32} {H : am_H} {v0_13 : Int32} {x0 : Int32} (h0 : am_is H 0 (.inr (11, [.ref 1, .int 0, .ref 2, .int 0, .ref 3, .ref 93, .ref 97, .ref 115, .ref 116, .ref 129, .ref 123, .ref 127, .ref 128, .int v0_13, .null, .int 0]))) (h115 : am_is H 115 (.inl ((.object "TerminalHouse$Window"), (8, .inr (.inr (.inr (.inr am_q115))))))) (h141 : am_is H 141 (.inr (9, [.ref 142, .int 0, .int 0, .int 0, .int 0, .int 0, .int 0, .int 0, .int 0, .int 0]))) (h143 : am_is H 143 (.inr (9, [.ref 144, .int 0, .int 0, .int 0, .int 0, .int 0, .int 0, .int 0, .int 0, .int 0]))) (h145 : am_is H 145 (.inr (9, [.ref 146, .int 0, .int 0, .int 0, .int 0, .int 0, .int 0, .int 0, .int 0, .int 0]))) (h147 : am_is H 147 (.inr (9, [.ref 148, .int 0, .int 0, .int 0, .int 0, .int 0, .int 0, .int 0, .int 0, .int 0]))) (h149 : am_is H 149 (.inr (9, [.ref 150, .int 0, .int 0, .int 0, .int 0, .int 0, .int 0, .int 0, .int 0, .int 0]))) (h151 : am_is H 151 (.inr (9, [.ref 152, .int 0, .int 0, .int 0, .int 0, .int 0, .int 0, .int 0, .int 0, .int 0]))) (h153 : am_is H 153 (.inr (9, [.ref 154, .int 0, .int 0, .int 0, .int 0, .int 0, .int 0, .int 0, .int 0, .int 0]))) (h155 : am_is H 155 (.inr (9, [.ref 156, .int 0, .int 0, .int 0, .int 0, .int 0, .int 0, .int 0, .int 0, .int 0]))) (c1 : x0 < 0)  :
    am_E sL sx cs 98 0 [(0, .ref 0), (1, .int x0)] [] H (some (.null)) (fun H1 => (True) ∧ ∀ j : Nat, H1[j]? = H[j]?) := by
  refine ex_s (am_nb (m := 1) (pc1 := 1) (ls1 := [(0, .ref 0), (1, .int x0)]) (st1 := [.int x0]) (H1 := H) (k1 := 0) (n1 := 0) (by with_unfolding_all rfl)) ?_
  refine ex_s (st_if rfl) ?_
  refine ex_pc (if_pos c1) ?_
  refine ex_s (am_nb (m := 1) (pc1 := 23) (ls1 := [(0, .ref 0), (1, .int x0)]) (st1 := [.null]) (H1 := H) (k1 := 0) (n1 := 0) (by with_unfolding_all rfl)) ?_
  exact ex_r (st_aret rfl rfl rfl rfl) ⟨trivial, fun j => rfl⟩

set_option maxRecDepth 100000 in
theorem fx_at_1_1 {sL : Nat} {sx : Nat → Int32} {cs : Nat → Nat → Option Int32} {H : am_H} {v0_13 : Int32} {x0 : Int32} (h0 : am_is H 0 (.inr (11, [.ref 1, .int 0, .ref 2, .int 0, .ref 3, .ref 93, .ref 97, .ref 115, .ref 116, .ref 129, .ref 123, .ref 127, .ref 128, .int v0_13, .null, .int 0]))) (h115 : am_is H 115 (.inl ((.object "TerminalHouse$Window"), (8, .inr (.inr (.inr (.inr am_q115))))))) (h141 : am_is H 141 (.inr (9, [.ref 142, .int 0, .int 0, .int 0, .int 0, .int 0, .int 0, .int 0, .int 0, .int 0]))) (h143 : am_is H 143 (.inr (9, [.ref 144, .int 0, .int 0, .int 0, .int 0, .int 0, .int 0, .int 0, .int 0, .int 0]))) (h145 : am_is H 145 (.inr (9, [.ref 146, .int 0, .int 0, .int 0, .int 0, .int 0, .int 0, .int 0, .int 0, .int 0]))) (h147 : am_is H 147 (.inr (9, [.ref 148, .int 0, .int 0, .int 0, .int 0, .int 0, .int 0, .int 0, .int 0, .int 0]))) (h149 : am_is H 149 (.inr (9, [.ref 150, .int 0, .int 0, .int 0, .int 0, .int 0, .int 0, .int 0, .int 0, .int 0]))) (h151 : am_is H 151 (.inr (9, [.ref 152, .int 0, .int 0, .int 0, .int 0, .int 0, .int 0, .int 0, .int 0, .int 0]))) (h153 : am_is H 153 (.inr (9, [.ref 154, .int 0, .int 0, .int 0, .int 0, .int 0, .int 0, .int 0, .int 0, .int 0]))) (h155 : am_is H 155 (.inr (9, [.ref 156, .int 0, .int 0, .int 0, .int 0, .int 0, .int 0, .int 0, .int 0, .int 0]))) (c1 : ¬ x0 < 0) (c2 : 8 ≤ x0)  :
    am_E sL sx cs 98 0 [(0, .ref 0), (1, .int x0)] [] H (some (.null)) (fun H1 => (True) ∧ ∀ j : Nat, H1[j]? = H[j]?) := by
  refine ex_s (am_nb (m := 1) (pc1 := 1) (ls1 := [(0, .ref 0), (1, .int x0)]) (st1 := [.int x0]) (H1 := H) (k1 := 0) (n1 := 0) (by with_unfolding_all rfl)) ?_
  refine ex_s (st_if rfl) ?_
  refine ex_pc (if_neg c1) ?_
  refine ex_s (am_nb (m := 2) (pc1 := 7) (ls1 := [(0, .ref 0), (1, .int x0)]) (st1 := [.int 8, .int x0]) (H1 := H) (k1 := 0) (n1 := 0) (by with_unfolding_all rfl)) ?_
  refine ex_s (st_icmp rfl) ?_
  refine ex_pc (if_pos c2) ?_
  refine ex_s (am_nb (m := 1) (pc1 := 23) (ls1 := [(0, .ref 0), (1, .int x0)]) (st1 := [.null]) (H1 := H) (k1 := 0) (n1 := 0) (by with_unfolding_all rfl)) ?_
  exact ex_r (st_aret rfl rfl rfl rfl) ⟨trivial, fun j => rfl⟩

set_option maxRecDepth 100000 in
theorem fx_at_1_2 {sL : Nat} {sx : Nat → Int32} {cs : Nat → Nat → Option Int32} {H : am_H} {v0_13 : Int32} {x0 : Int32} (h0 : am_is H 0 (.inr (11, [.ref 1, .int 0, .ref 2, .int 0, .ref 3, .ref 93, .ref 97, .ref 115, .ref 116, .ref 129, .ref 123, .ref 127, .ref 128, .int v0_13, .null, .int 0]))) (h115 : am_is H 115 (.inl ((.object "TerminalHouse$Window"), (8, .inr (.inr (.inr (.inr am_q115))))))) (h141 : am_is H 141 (.inr (9, [.ref 142, .int 0, .int 0, .int 0, .int 0, .int 0, .int 0, .int 0, .int 0, .int 0]))) (h143 : am_is H 143 (.inr (9, [.ref 144, .int 0, .int 0, .int 0, .int 0, .int 0, .int 0, .int 0, .int 0, .int 0]))) (h145 : am_is H 145 (.inr (9, [.ref 146, .int 0, .int 0, .int 0, .int 0, .int 0, .int 0, .int 0, .int 0, .int 0]))) (h147 : am_is H 147 (.inr (9, [.ref 148, .int 0, .int 0, .int 0, .int 0, .int 0, .int 0, .int 0, .int 0, .int 0]))) (h149 : am_is H 149 (.inr (9, [.ref 150, .int 0, .int 0, .int 0, .int 0, .int 0, .int 0, .int 0, .int 0, .int 0]))) (h151 : am_is H 151 (.inr (9, [.ref 152, .int 0, .int 0, .int 0, .int 0, .int 0, .int 0, .int 0, .int 0, .int 0]))) (h153 : am_is H 153 (.inr (9, [.ref 154, .int 0, .int 0, .int 0, .int 0, .int 0, .int 0, .int 0, .int 0, .int 0]))) (h155 : am_is H 155 (.inr (9, [.ref 156, .int 0, .int 0, .int 0, .int 0, .int 0, .int 0, .int 0, .int 0, .int 0]))) (c1 : ¬ x0 < 0) (c2 : ¬ 8 ≤ x0) (c3 : x0 = 0)  :
    am_E sL sx cs 98 0 [(0, .ref 0), (1, .int x0)] [] H (some (.null)) (fun H1 => (True) ∧ ∀ j : Nat, H1[j]? = H[j]?) := by
  refine ex_s (am_nb (m := 1) (pc1 := 1) (ls1 := [(0, .ref 0), (1, .int x0)]) (st1 := [.int x0]) (H1 := H) (k1 := 0) (n1 := 0) (by with_unfolding_all rfl)) ?_
  refine ex_s (st_if rfl) ?_
  refine ex_pc (if_neg c1) ?_
  refine ex_s (am_nb (m := 2) (pc1 := 7) (ls1 := [(0, .ref 0), (1, .int x0)]) (st1 := [.int 8, .int x0]) (H1 := H) (k1 := 0) (n1 := 0) (by with_unfolding_all rfl)) ?_
  refine ex_s (st_icmp rfl) ?_
  refine ex_pc (if_neg c2) ?_
  refine ex_s (am_nb (m := 1) (pc1 := 11) (ls1 := [(0, .ref 0), (1, .int x0)]) (st1 := [.ref 0]) (H1 := H) (k1 := 0) (n1 := 0) (by with_unfolding_all rfl)) ?_
  refine ex_s (st_get rfl h0 rfl) ?_
  refine ex_s (am_nb (m := 1) (pc1 := 15) (ls1 := [(0, .ref 0), (1, .int x0)]) (st1 := [.int x0, .ref 115]) (H1 := H) (k1 := 0) (n1 := 0) (by with_unfolding_all rfl)) ?_
  refine ex_s (st_aald rfl h115 (by rw [c3]; decide) rfl) ?_
  refine ex_s (am_nb (m := 0) (pc1 := 16) (ls1 := [(0, .ref 0), (1, .int x0)]) (st1 := [.ref 141]) (H1 := H) (k1 := 0) (n1 := 0) (by rw [c3]; with_unfolding_all rfl)) ?_
  refine ex_s (st_get rfl h141 rfl) ?_
  refine ex_s (am_nb (m := 2) (pc1 := 23) (ls1 := [(0, .ref 0), (1, .int x0)]) (st1 := [.null]) (H1 := H) (k1 := 0) (n1 := 0) (by with_unfolding_all rfl)) ?_
  exact ex_r (st_aret rfl rfl rfl rfl) ⟨trivial, fun j => rfl⟩

set_option maxRecDepth 100000 in
theorem fx_at_1_3 {sL : Nat} {sx : Nat → Int32} {cs : Nat → Nat → Option Int32} {H : am_H} {v0_13 : Int32} {x0 : Int32} (h0 : am_is H 0 (.inr (11, [.ref 1, .int 0, .ref 2, .int 0, .ref 3, .ref 93, .ref 97, .ref 115, .ref 116, .ref 129, .ref 123, .ref 127, .ref 128, .int v0_13, .null, .int 0]))) (h115 : am_is H 115 (.inl ((.object "TerminalHouse$Window"), (8, .inr (.inr (.inr (.inr am_q115))))))) (h141 : am_is H 141 (.inr (9, [.ref 142, .int 0, .int 0, .int 0, .int 0, .int 0, .int 0, .int 0, .int 0, .int 0]))) (h143 : am_is H 143 (.inr (9, [.ref 144, .int 0, .int 0, .int 0, .int 0, .int 0, .int 0, .int 0, .int 0, .int 0]))) (h145 : am_is H 145 (.inr (9, [.ref 146, .int 0, .int 0, .int 0, .int 0, .int 0, .int 0, .int 0, .int 0, .int 0]))) (h147 : am_is H 147 (.inr (9, [.ref 148, .int 0, .int 0, .int 0, .int 0, .int 0, .int 0, .int 0, .int 0, .int 0]))) (h149 : am_is H 149 (.inr (9, [.ref 150, .int 0, .int 0, .int 0, .int 0, .int 0, .int 0, .int 0, .int 0, .int 0]))) (h151 : am_is H 151 (.inr (9, [.ref 152, .int 0, .int 0, .int 0, .int 0, .int 0, .int 0, .int 0, .int 0, .int 0]))) (h153 : am_is H 153 (.inr (9, [.ref 154, .int 0, .int 0, .int 0, .int 0, .int 0, .int 0, .int 0, .int 0, .int 0]))) (h155 : am_is H 155 (.inr (9, [.ref 156, .int 0, .int 0, .int 0, .int 0, .int 0, .int 0, .int 0, .int 0, .int 0]))) (c1 : ¬ x0 < 0) (c2 : ¬ 8 ≤ x0) (c3 : x0 = 1)  :
    am_E sL sx cs 98 0 [(0, .ref 0), (1, .int x0)] [] H (some (.null)) (fun H1 => (True) ∧ ∀ j : Nat, H1[j]? = H[j]?) := by
  refine ex_s (am_nb (m := 1) (pc1 := 1) (ls1 := [(0, .ref 0), (1, .int x0)]) (st1 := [.int x0]) (H1 := H) (k1 := 0) (n1 := 0) (by with_unfolding_all rfl)) ?_
  refine ex_s (st_if rfl) ?_
  refine ex_pc (if_neg c1) ?_
  refine ex_s (am_nb (m := 2) (pc1 := 7) (ls1 := [(0, .ref 0), (1, .int x0)]) (st1 := [.int 8, .int x0]) (H1 := H) (k1 := 0) (n1 := 0) (by with_unfolding_all rfl)) ?_
  refine ex_s (st_icmp rfl) ?_
  refine ex_pc (if_neg c2) ?_
  refine ex_s (am_nb (m := 1) (pc1 := 11) (ls1 := [(0, .ref 0), (1, .int x0)]) (st1 := [.ref 0]) (H1 := H) (k1 := 0) (n1 := 0) (by with_unfolding_all rfl)) ?_
  refine ex_s (st_get rfl h0 rfl) ?_
  refine ex_s (am_nb (m := 1) (pc1 := 15) (ls1 := [(0, .ref 0), (1, .int x0)]) (st1 := [.int x0, .ref 115]) (H1 := H) (k1 := 0) (n1 := 0) (by with_unfolding_all rfl)) ?_
  refine ex_s (st_aald rfl h115 (by rw [c3]; decide) rfl) ?_
  refine ex_s (am_nb (m := 0) (pc1 := 16) (ls1 := [(0, .ref 0), (1, .int x0)]) (st1 := [.ref 143]) (H1 := H) (k1 := 0) (n1 := 0) (by rw [c3]; with_unfolding_all rfl)) ?_
  refine ex_s (st_get rfl h143 rfl) ?_
  refine ex_s (am_nb (m := 2) (pc1 := 23) (ls1 := [(0, .ref 0), (1, .int x0)]) (st1 := [.null]) (H1 := H) (k1 := 0) (n1 := 0) (by with_unfolding_all rfl)) ?_
  exact ex_r (st_aret rfl rfl rfl rfl) ⟨trivial, fun j => rfl⟩

set_option maxRecDepth 100000 in
theorem fx_at_1_4 {sL : Nat} {sx : Nat → Int32} {cs : Nat → Nat → Option Int32} {H : am_H} {v0_13 : Int32} {x0 : Int32} (h0 : am_is H 0 (.inr (11, [.ref 1, .int 0, .ref 2, .int 0, .ref 3, .ref 93, .ref 97, .ref 115, .ref 116, .ref 129, .ref 123, .ref 127, .ref 128, .int v0_13, .null, .int 0]))) (h115 : am_is H 115 (.inl ((.object "TerminalHouse$Window"), (8, .inr (.inr (.inr (.inr am_q115))))))) (h141 : am_is H 141 (.inr (9, [.ref 142, .int 0, .int 0, .int 0, .int 0, .int 0, .int 0, .int 0, .int 0, .int 0]))) (h143 : am_is H 143 (.inr (9, [.ref 144, .int 0, .int 0, .int 0, .int 0, .int 0, .int 0, .int 0, .int 0, .int 0]))) (h145 : am_is H 145 (.inr (9, [.ref 146, .int 0, .int 0, .int 0, .int 0, .int 0, .int 0, .int 0, .int 0, .int 0]))) (h147 : am_is H 147 (.inr (9, [.ref 148, .int 0, .int 0, .int 0, .int 0, .int 0, .int 0, .int 0, .int 0, .int 0]))) (h149 : am_is H 149 (.inr (9, [.ref 150, .int 0, .int 0, .int 0, .int 0, .int 0, .int 0, .int 0, .int 0, .int 0]))) (h151 : am_is H 151 (.inr (9, [.ref 152, .int 0, .int 0, .int 0, .int 0, .int 0, .int 0, .int 0, .int 0, .int 0]))) (h153 : am_is H 153 (.inr (9, [.ref 154, .int 0, .int 0, .int 0, .int 0, .int 0, .int 0, .int 0, .int 0, .int 0]))) (h155 : am_is H 155 (.inr (9, [.ref 156, .int 0, .int 0, .int 0, .int 0, .int 0, .int 0, .int 0, .int 0, .int 0]))) (c1 : ¬ x0 < 0) (c2 : ¬ 8 ≤ x0) (c3 : x0 = 2)  :
    am_E sL sx cs 98 0 [(0, .ref 0), (1, .int x0)] [] H (some (.null)) (fun H1 => (True) ∧ ∀ j : Nat, H1[j]? = H[j]?) := by
  refine ex_s (am_nb (m := 1) (pc1 := 1) (ls1 := [(0, .ref 0), (1, .int x0)]) (st1 := [.int x0]) (H1 := H) (k1 := 0) (n1 := 0) (by with_unfolding_all rfl)) ?_
  refine ex_s (st_if rfl) ?_
  refine ex_pc (if_neg c1) ?_
  refine ex_s (am_nb (m := 2) (pc1 := 7) (ls1 := [(0, .ref 0), (1, .int x0)]) (st1 := [.int 8, .int x0]) (H1 := H) (k1 := 0) (n1 := 0) (by with_unfolding_all rfl)) ?_
  refine ex_s (st_icmp rfl) ?_
  refine ex_pc (if_neg c2) ?_
  refine ex_s (am_nb (m := 1) (pc1 := 11) (ls1 := [(0, .ref 0), (1, .int x0)]) (st1 := [.ref 0]) (H1 := H) (k1 := 0) (n1 := 0) (by with_unfolding_all rfl)) ?_
  refine ex_s (st_get rfl h0 rfl) ?_
  refine ex_s (am_nb (m := 1) (pc1 := 15) (ls1 := [(0, .ref 0), (1, .int x0)]) (st1 := [.int x0, .ref 115]) (H1 := H) (k1 := 0) (n1 := 0) (by with_unfolding_all rfl)) ?_
  refine ex_s (st_aald rfl h115 (by rw [c3]; decide) rfl) ?_
  refine ex_s (am_nb (m := 0) (pc1 := 16) (ls1 := [(0, .ref 0), (1, .int x0)]) (st1 := [.ref 145]) (H1 := H) (k1 := 0) (n1 := 0) (by rw [c3]; with_unfolding_all rfl)) ?_
  refine ex_s (st_get rfl h145 rfl) ?_
  refine ex_s (am_nb (m := 2) (pc1 := 23) (ls1 := [(0, .ref 0), (1, .int x0)]) (st1 := [.null]) (H1 := H) (k1 := 0) (n1 := 0) (by with_unfolding_all rfl)) ?_
  exact ex_r (st_aret rfl rfl rfl rfl) ⟨trivial, fun j => rfl⟩

set_option maxRecDepth 100000 in
theorem fx_at_1_5 {sL : Nat} {sx : Nat → Int32} {cs : Nat → Nat → Option Int32} {H : am_H} {v0_13 : Int32} {x0 : Int32} (h0 : am_is H 0 (.inr (11, [.ref 1, .int 0, .ref 2, .int 0, .ref 3, .ref 93, .ref 97, .ref 115, .ref 116, .ref 129, .ref 123, .ref 127, .ref 128, .int v0_13, .null, .int 0]))) (h115 : am_is H 115 (.inl ((.object "TerminalHouse$Window"), (8, .inr (.inr (.inr (.inr am_q115))))))) (h141 : am_is H 141 (.inr (9, [.ref 142, .int 0, .int 0, .int 0, .int 0, .int 0, .int 0, .int 0, .int 0, .int 0]))) (h143 : am_is H 143 (.inr (9, [.ref 144, .int 0, .int 0, .int 0, .int 0, .int 0, .int 0, .int 0, .int 0, .int 0]))) (h145 : am_is H 145 (.inr (9, [.ref 146, .int 0, .int 0, .int 0, .int 0, .int 0, .int 0, .int 0, .int 0, .int 0]))) (h147 : am_is H 147 (.inr (9, [.ref 148, .int 0, .int 0, .int 0, .int 0, .int 0, .int 0, .int 0, .int 0, .int 0]))) (h149 : am_is H 149 (.inr (9, [.ref 150, .int 0, .int 0, .int 0, .int 0, .int 0, .int 0, .int 0, .int 0, .int 0]))) (h151 : am_is H 151 (.inr (9, [.ref 152, .int 0, .int 0, .int 0, .int 0, .int 0, .int 0, .int 0, .int 0, .int 0]))) (h153 : am_is H 153 (.inr (9, [.ref 154, .int 0, .int 0, .int 0, .int 0, .int 0, .int 0, .int 0, .int 0, .int 0]))) (h155 : am_is H 155 (.inr (9, [.ref 156, .int 0, .int 0, .int 0, .int 0, .int 0, .int 0, .int 0, .int 0, .int 0]))) (c1 : ¬ x0 < 0) (c2 : ¬ 8 ≤ x0) (c3 : x0 = 3)  :
    am_E sL sx cs 98 0 [(0, .ref 0), (1, .int x0)] [] H (some (.null)) (fun H1 => (True) ∧ ∀ j : Nat, H1[j]? = H[j]?) := by
  refine ex_s (am_nb (m := 1) (pc1 := 1) (ls1 := [(0, .ref 0), (1, .int x0)]) (st1 := [.int x0]) (H1 := H) (k1 := 0) (n1 := 0) (by with_unfolding_all rfl)) ?_
  refine ex_s (st_if rfl) ?_
  refine ex_pc (if_neg c1) ?_
  refine ex_s (am_nb (m := 2) (pc1 := 7) (ls1 := [(0, .ref 0), (1, .int x0)]) (st1 := [.int 8, .int x0]) (H1 := H) (k1 := 0) (n1 := 0) (by with_unfolding_all rfl)) ?_
  refine ex_s (st_icmp rfl) ?_
  refine ex_pc (if_neg c2) ?_
  refine ex_s (am_nb (m := 1) (pc1 := 11) (ls1 := [(0, .ref 0), (1, .int x0)]) (st1 := [.ref 0]) (H1 := H) (k1 := 0) (n1 := 0) (by with_unfolding_all rfl)) ?_
  refine ex_s (st_get rfl h0 rfl) ?_
  refine ex_s (am_nb (m := 1) (pc1 := 15) (ls1 := [(0, .ref 0), (1, .int x0)]) (st1 := [.int x0, .ref 115]) (H1 := H) (k1 := 0) (n1 := 0) (by with_unfolding_all rfl)) ?_
  refine ex_s (st_aald rfl h115 (by rw [c3]; decide) rfl) ?_
  refine ex_s (am_nb (m := 0) (pc1 := 16) (ls1 := [(0, .ref 0), (1, .int x0)]) (st1 := [.ref 147]) (H1 := H) (k1 := 0) (n1 := 0) (by rw [c3]; with_unfolding_all rfl)) ?_
  refine ex_s (st_get rfl h147 rfl) ?_
  refine ex_s (am_nb (m := 2) (pc1 := 23) (ls1 := [(0, .ref 0), (1, .int x0)]) (st1 := [.null]) (H1 := H) (k1 := 0) (n1 := 0) (by with_unfolding_all rfl)) ?_
  exact ex_r (st_aret rfl rfl rfl rfl) ⟨trivial, fun j => rfl⟩

set_option maxRecDepth 100000 in
theorem fx_at_1_6 {sL : Nat} {sx : Nat → Int32} {cs : Nat → Nat → Option Int32} {H : am_H} {v0_13 : Int32} {x0 : Int32} (h0 : am_is H 0 (.inr (11, [.ref 1, .int 0, .ref 2, .int 0, .ref 3, .ref 93, .ref 97, .ref 115, .ref 116, .ref 129, .ref 123, .ref 127, .ref 128, .int v0_13, .null, .int 0]))) (h115 : am_is H 115 (.inl ((.object "TerminalHouse$Window"), (8, .inr (.inr (.inr (.inr am_q115))))))) (h141 : am_is H 141 (.inr (9, [.ref 142, .int 0, .int 0, .int 0, .int 0, .int 0, .int 0, .int 0, .int 0, .int 0]))) (h143 : am_is H 143 (.inr (9, [.ref 144, .int 0, .int 0, .int 0, .int 0, .int 0, .int 0, .int 0, .int 0, .int 0]))) (h145 : am_is H 145 (.inr (9, [.ref 146, .int 0, .int 0, .int 0, .int 0, .int 0, .int 0, .int 0, .int 0, .int 0]))) (h147 : am_is H 147 (.inr (9, [.ref 148, .int 0, .int 0, .int 0, .int 0, .int 0, .int 0, .int 0, .int 0, .int 0]))) (h149 : am_is H 149 (.inr (9, [.ref 150, .int 0, .int 0, .int 0, .int 0, .int 0, .int 0, .int 0, .int 0, .int 0]))) (h151 : am_is H 151 (.inr (9, [.ref 152, .int 0, .int 0, .int 0, .int 0, .int 0, .int 0, .int 0, .int 0, .int 0]))) (h153 : am_is H 153 (.inr (9, [.ref 154, .int 0, .int 0, .int 0, .int 0, .int 0, .int 0, .int 0, .int 0, .int 0]))) (h155 : am_is H 155 (.inr (9, [.ref 156, .int 0, .int 0, .int 0, .int 0, .int 0, .int 0, .int 0, .int 0, .int 0]))) (c1 : ¬ x0 < 0) (c2 : ¬ 8 ≤ x0) (c3 : x0 = 4)  :
    am_E sL sx cs 98 0 [(0, .ref 0), (1, .int x0)] [] H (some (.null)) (fun H1 => (True) ∧ ∀ j : Nat, H1[j]? = H[j]?) := by
  refine ex_s (am_nb (m := 1) (pc1 := 1) (ls1 := [(0, .ref 0), (1, .int x0)]) (st1 := [.int x0]) (H1 := H) (k1 := 0) (n1 := 0) (by with_unfolding_all rfl)) ?_
  refine ex_s (st_if rfl) ?_
  refine ex_pc (if_neg c1) ?_
  refine ex_s (am_nb (m := 2) (pc1 := 7) (ls1 := [(0, .ref 0), (1, .int x0)]) (st1 := [.int 8, .int x0]) (H1 := H) (k1 := 0) (n1 := 0) (by with_unfolding_all rfl)) ?_
  refine ex_s (st_icmp rfl) ?_
  refine ex_pc (if_neg c2) ?_
  refine ex_s (am_nb (m := 1) (pc1 := 11) (ls1 := [(0, .ref 0), (1, .int x0)]) (st1 := [.ref 0]) (H1 := H) (k1 := 0) (n1 := 0) (by with_unfolding_all rfl)) ?_
  refine ex_s (st_get rfl h0 rfl) ?_
  refine ex_s (am_nb (m := 1) (pc1 := 15) (ls1 := [(0, .ref 0), (1, .int x0)]) (st1 := [.int x0, .ref 115]) (H1 := H) (k1 := 0) (n1 := 0) (by with_unfolding_all rfl)) ?_
  refine ex_s (st_aald rfl h115 (by rw [c3]; decide) rfl) ?_
  refine ex_s (am_nb (m := 0) (pc1 := 16) (ls1 := [(0, .ref 0), (1, .int x0)]) (st1 := [.ref 149]) (H1 := H) (k1 := 0) (n1 := 0) (by rw [c3]; with_unfolding_all rfl)) ?_
  refine ex_s (st_get rfl h149 rfl) ?_
  refine ex_s (am_nb (m := 2) (pc1 := 23) (ls1 := [(0, .ref 0), (1, .int x0)]) (st1 := [.null]) (H1 := H) (k1 := 0) (n1 := 0) (by with_unfolding_all rfl)) ?_
  exact ex_r (st_aret rfl rfl rfl rfl) ⟨trivial, fun j => rfl⟩

set_option maxRecDepth 100000 in
theorem fx_at_1_7 {sL : Nat} {sx : Nat → Int32} {cs : Nat → Nat → Option Int32} {H : am_H} {v0_13 : Int32} {x0 : Int32} (h0 : am_is H 0 (.inr (11, [.ref 1, .int 0, .ref 2, .int 0, .ref 3, .ref 93, .ref 97, .ref 115, .ref 116, .ref 129, .ref 123, .ref 127, .ref 128, .int v0_13, .null, .int 0]))) (h115 : am_is H 115 (.inl ((.object "TerminalHouse$Window"), (8, .inr (.inr (.inr (.inr am_q115))))))) (h141 : am_is H 141 (.inr (9, [.ref 142, .int 0, .int 0, .int 0, .int 0, .int 0, .int 0, .int 0, .int 0, .int 0]))) (h143 : am_is H 143 (.inr (9, [.ref 144, .int 0, .int 0, .int 0, .int 0, .int 0, .int 0, .int 0, .int 0, .int 0]))) (h145 : am_is H 145 (.inr (9, [.ref 146, .int 0, .int 0, .int 0, .int 0, .int 0, .int 0, .int 0, .int 0, .int 0]))) (h147 : am_is H 147 (.inr (9, [.ref 148, .int 0, .int 0, .int 0, .int 0, .int 0, .int 0, .int 0, .int 0, .int 0]))) (h149 : am_is H 149 (.inr (9, [.ref 150, .int 0, .int 0, .int 0, .int 0, .int 0, .int 0, .int 0, .int 0, .int 0]))) (h151 : am_is H 151 (.inr (9, [.ref 152, .int 0, .int 0, .int 0, .int 0, .int 0, .int 0, .int 0, .int 0, .int 0]))) (h153 : am_is H 153 (.inr (9, [.ref 154, .int 0, .int 0, .int 0, .int 0, .int 0, .int 0, .int 0, .int 0, .int 0]))) (h155 : am_is H 155 (.inr (9, [.ref 156, .int 0, .int 0, .int 0, .int 0, .int 0, .int 0, .int 0, .int 0, .int 0]))) (c1 : ¬ x0 < 0) (c2 : ¬ 8 ≤ x0) (c3 : x0 = 5)  :
    am_E sL sx cs 98 0 [(0, .ref 0), (1, .int x0)] [] H (some (.null)) (fun H1 => (True) ∧ ∀ j : Nat, H1[j]? = H[j]?) := by
  refine ex_s (am_nb (m := 1) (pc1 := 1) (ls1 := [(0, .ref 0), (1, .int x0)]) (st1 := [.int x0]) (H1 := H) (k1 := 0) (n1 := 0) (by with_unfolding_all rfl)) ?_
  refine ex_s (st_if rfl) ?_
  refine ex_pc (if_neg c1) ?_
  refine ex_s (am_nb (m := 2) (pc1 := 7) (ls1 := [(0, .ref 0), (1, .int x0)]) (st1 := [.int 8, .int x0]) (H1 := H) (k1 := 0) (n1 := 0) (by with_unfolding_all rfl)) ?_
  refine ex_s (st_icmp rfl) ?_
  refine ex_pc (if_neg c2) ?_
  refine ex_s (am_nb (m := 1) (pc1 := 11) (ls1 := [(0, .ref 0), (1, .int x0)]) (st1 := [.ref 0]) (H1 := H) (k1 := 0) (n1 := 0) (by with_unfolding_all rfl)) ?_
  refine ex_s (st_get rfl h0 rfl) ?_
  refine ex_s (am_nb (m := 1) (pc1 := 15) (ls1 := [(0, .ref 0), (1, .int x0)]) (st1 := [.int x0, .ref 115]) (H1 := H) (k1 := 0) (n1 := 0) (by with_unfolding_all rfl)) ?_
  refine ex_s (st_aald rfl h115 (by rw [c3]; decide) rfl) ?_
  refine ex_s (am_nb (m := 0) (pc1 := 16) (ls1 := [(0, .ref 0), (1, .int x0)]) (st1 := [.ref 151]) (H1 := H) (k1 := 0) (n1 := 0) (by rw [c3]; with_unfolding_all rfl)) ?_
  refine ex_s (st_get rfl h151 rfl) ?_
  refine ex_s (am_nb (m := 2) (pc1 := 23) (ls1 := [(0, .ref 0), (1, .int x0)]) (st1 := [.null]) (H1 := H) (k1 := 0) (n1 := 0) (by with_unfolding_all rfl)) ?_
  exact ex_r (st_aret rfl rfl rfl rfl) ⟨trivial, fun j => rfl⟩

set_option maxRecDepth 100000 in
theorem fx_at_1_8 {sL : Nat} {sx : Nat → Int32} {cs : Nat → Nat → Option Int32} {H : am_H} {v0_13 : Int32} {x0 : Int32} (h0 : am_is H 0 (.inr (11, [.ref 1, .int 0, .ref 2, .int 0, .ref 3, .ref 93, .ref 97, .ref 115, .ref 116, .ref 129, .ref 123, .ref 127, .ref 128, .int v0_13, .null, .int 0]))) (h115 : am_is H 115 (.inl ((.object "TerminalHouse$Window"), (8, .inr (.inr (.inr (.inr am_q115))))))) (h141 : am_is H 141 (.inr (9, [.ref 142, .int 0, .int 0, .int 0, .int 0, .int 0, .int 0, .int 0, .int 0, .int 0]))) (h143 : am_is H 143 (.inr (9, [.ref 144, .int 0, .int 0, .int 0, .int 0, .int 0, .int 0, .int 0, .int 0, .int 0]))) (h145 : am_is H 145 (.inr (9, [.ref 146, .int 0, .int 0, .int 0, .int 0, .int 0, .int 0, .int 0, .int 0, .int 0]))) (h147 : am_is H 147 (.inr (9, [.ref 148, .int 0, .int 0, .int 0, .int 0, .int 0, .int 0, .int 0, .int 0, .int 0]))) (h149 : am_is H 149 (.inr (9, [.ref 150, .int 0, .int 0, .int 0, .int 0, .int 0, .int 0, .int 0, .int 0, .int 0]))) (h151 : am_is H 151 (.inr (9, [.ref 152, .int 0, .int 0, .int 0, .int 0, .int 0, .int 0, .int 0, .int 0, .int 0]))) (h153 : am_is H 153 (.inr (9, [.ref 154, .int 0, .int 0, .int 0, .int 0, .int 0, .int 0, .int 0, .int 0, .int 0]))) (h155 : am_is H 155 (.inr (9, [.ref 156, .int 0, .int 0, .int 0, .int 0, .int 0, .int 0, .int 0, .int 0, .int 0]))) (c1 : ¬ x0 < 0) (c2 : ¬ 8 ≤ x0) (c3 : x0 = 6)  :
    am_E sL sx cs 98 0 [(0, .ref 0), (1, .int x0)] [] H (some (.null)) (fun H1 => (True) ∧ ∀ j : Nat, H1[j]? = H[j]?) := by
  refine ex_s (am_nb (m := 1) (pc1 := 1) (ls1 := [(0, .ref 0), (1, .int x0)]) (st1 := [.int x0]) (H1 := H) (k1 := 0) (n1 := 0) (by with_unfolding_all rfl)) ?_
  refine ex_s (st_if rfl) ?_
  refine ex_pc (if_neg c1) ?_
  refine ex_s (am_nb (m := 2) (pc1 := 7) (ls1 := [(0, .ref 0), (1, .int x0)]) (st1 := [.int 8, .int x0]) (H1 := H) (k1 := 0) (n1 := 0) (by with_unfolding_all rfl)) ?_
  refine ex_s (st_icmp rfl) ?_
  refine ex_pc (if_neg c2) ?_
  refine ex_s (am_nb (m := 1) (pc1 := 11) (ls1 := [(0, .ref 0), (1, .int x0)]) (st1 := [.ref 0]) (H1 := H) (k1 := 0) (n1 := 0) (by with_unfolding_all rfl)) ?_
  refine ex_s (st_get rfl h0 rfl) ?_
  refine ex_s (am_nb (m := 1) (pc1 := 15) (ls1 := [(0, .ref 0), (1, .int x0)]) (st1 := [.int x0, .ref 115]) (H1 := H) (k1 := 0) (n1 := 0) (by with_unfolding_all rfl)) ?_
  refine ex_s (st_aald rfl h115 (by rw [c3]; decide) rfl) ?_
  refine ex_s (am_nb (m := 0) (pc1 := 16) (ls1 := [(0, .ref 0), (1, .int x0)]) (st1 := [.ref 153]) (H1 := H) (k1 := 0) (n1 := 0) (by rw [c3]; with_unfolding_all rfl)) ?_
  refine ex_s (st_get rfl h153 rfl) ?_
  refine ex_s (am_nb (m := 2) (pc1 := 23) (ls1 := [(0, .ref 0), (1, .int x0)]) (st1 := [.null]) (H1 := H) (k1 := 0) (n1 := 0) (by with_unfolding_all rfl)) ?_
  exact ex_r (st_aret rfl rfl rfl rfl) ⟨trivial, fun j => rfl⟩

set_option maxRecDepth 100000 in
theorem fx_at_1_9 {sL : Nat} {sx : Nat → Int32} {cs : Nat → Nat → Option Int32} {H : am_H} {v0_13 : Int32} {x0 : Int32} (h0 : am_is H 0 (.inr (11, [.ref 1, .int 0, .ref 2, .int 0, .ref 3, .ref 93, .ref 97, .ref 115, .ref 116, .ref 129, .ref 123, .ref 127, .ref 128, .int v0_13, .null, .int 0]))) (h115 : am_is H 115 (.inl ((.object "TerminalHouse$Window"), (8, .inr (.inr (.inr (.inr am_q115))))))) (h141 : am_is H 141 (.inr (9, [.ref 142, .int 0, .int 0, .int 0, .int 0, .int 0, .int 0, .int 0, .int 0, .int 0]))) (h143 : am_is H 143 (.inr (9, [.ref 144, .int 0, .int 0, .int 0, .int 0, .int 0, .int 0, .int 0, .int 0, .int 0]))) (h145 : am_is H 145 (.inr (9, [.ref 146, .int 0, .int 0, .int 0, .int 0, .int 0, .int 0, .int 0, .int 0, .int 0]))) (h147 : am_is H 147 (.inr (9, [.ref 148, .int 0, .int 0, .int 0, .int 0, .int 0, .int 0, .int 0, .int 0, .int 0]))) (h149 : am_is H 149 (.inr (9, [.ref 150, .int 0, .int 0, .int 0, .int 0, .int 0, .int 0, .int 0, .int 0, .int 0]))) (h151 : am_is H 151 (.inr (9, [.ref 152, .int 0, .int 0, .int 0, .int 0, .int 0, .int 0, .int 0, .int 0, .int 0]))) (h153 : am_is H 153 (.inr (9, [.ref 154, .int 0, .int 0, .int 0, .int 0, .int 0, .int 0, .int 0, .int 0, .int 0]))) (h155 : am_is H 155 (.inr (9, [.ref 156, .int 0, .int 0, .int 0, .int 0, .int 0, .int 0, .int 0, .int 0, .int 0]))) (c1 : ¬ x0 < 0) (c2 : ¬ 8 ≤ x0) (c3 : x0 = 7)  :
    am_E sL sx cs 98 0 [(0, .ref 0), (1, .int x0)] [] H (some (.null)) (fun H1 => (True) ∧ ∀ j : Nat, H1[j]? = H[j]?) := by
  refine ex_s (am_nb (m := 1) (pc1 := 1) (ls1 := [(0, .ref 0), (1, .int x0)]) (st1 := [.int x0]) (H1 := H) (k1 := 0) (n1 := 0) (by with_unfolding_all rfl)) ?_
  refine ex_s (st_if rfl) ?_
  refine ex_pc (if_neg c1) ?_
  refine ex_s (am_nb (m := 2) (pc1 := 7) (ls1 := [(0, .ref 0), (1, .int x0)]) (st1 := [.int 8, .int x0]) (H1 := H) (k1 := 0) (n1 := 0) (by with_unfolding_all rfl)) ?_
  refine ex_s (st_icmp rfl) ?_
  refine ex_pc (if_neg c2) ?_
  refine ex_s (am_nb (m := 1) (pc1 := 11) (ls1 := [(0, .ref 0), (1, .int x0)]) (st1 := [.ref 0]) (H1 := H) (k1 := 0) (n1 := 0) (by with_unfolding_all rfl)) ?_
  refine ex_s (st_get rfl h0 rfl) ?_
  refine ex_s (am_nb (m := 1) (pc1 := 15) (ls1 := [(0, .ref 0), (1, .int x0)]) (st1 := [.int x0, .ref 115]) (H1 := H) (k1 := 0) (n1 := 0) (by with_unfolding_all rfl)) ?_
  refine ex_s (st_aald rfl h115 (by rw [c3]; decide) rfl) ?_
  refine ex_s (am_nb (m := 0) (pc1 := 16) (ls1 := [(0, .ref 0), (1, .int x0)]) (st1 := [.ref 155]) (H1 := H) (k1 := 0) (n1 := 0) (by rw [c3]; with_unfolding_all rfl)) ?_
  refine ex_s (st_get rfl h155 rfl) ?_
  refine ex_s (am_nb (m := 2) (pc1 := 23) (ls1 := [(0, .ref 0), (1, .int x0)]) (st1 := [.null]) (H1 := H) (k1 := 0) (n1 := 0) (by with_unfolding_all rfl)) ?_
  exact ex_r (st_aret rfl rfl rfl rfl) ⟨trivial, fun j => rfl⟩

set_option maxRecDepth 100000 in
theorem fx_at_0 {sL : Nat} {sx : Nat → Int32} {cs : Nat → Nat → Option Int32} {H : am_H} {v0_13 : Int32} {x0 : Int32} {x1 : Int32} {x2 : Int32} (h0 : am_is H 0 (.inr (11, [.ref 1, .int 0, .ref 2, .int 0, .ref 3, .ref 93, .ref 97, .ref 115, .ref 116, .ref 129, .ref 123, .ref 127, .ref 128, .int v0_13, .null, .int 0]))) (h115 : am_is H 115 (.inl ((.object "TerminalHouse$Window"), (8, .inr (.inr (.inr (.inr am_q115))))))) (h141 : am_is H 141 (.inr (9, [.ref 142, .int 0, .int 0, .int 0, .int 0, .int 0, .int 0, .int 0, .int 0, .int 0]))) (h143 : am_is H 143 (.inr (9, [.ref 144, .int 0, .int 0, .int 0, .int 0, .int 0, .int 0, .int 0, .int 0, .int 0]))) (h145 : am_is H 145 (.inr (9, [.ref 146, .int 0, .int 0, .int 0, .int 0, .int 0, .int 0, .int 0, .int 0, .int 0]))) (h147 : am_is H 147 (.inr (9, [.ref 148, .int 0, .int 0, .int 0, .int 0, .int 0, .int 0, .int 0, .int 0, .int 0]))) (h149 : am_is H 149 (.inr (9, [.ref 150, .int 0, .int 0, .int 0, .int 0, .int 0, .int 0, .int 0, .int 0, .int 0]))) (h151 : am_is H 151 (.inr (9, [.ref 152, .int 0, .int 0, .int 0, .int 0, .int 0, .int 0, .int 0, .int 0, .int 0]))) (h153 : am_is H 153 (.inr (9, [.ref 154, .int 0, .int 0, .int 0, .int 0, .int 0, .int 0, .int 0, .int 0, .int 0]))) (h155 : am_is H 155 (.inr (9, [.ref 156, .int 0, .int 0, .int 0, .int 0, .int 0, .int 0, .int 0, .int 0, .int 0]))) (c1 : x0 < 0)  :
    am_E sL sx cs 99 0 [(0, .ref 0), (1, .int x0), (2, .int x1), (3, .int x2)] [] H (some (.int 0)) (fun H1 => (True) ∧ ∀ j : Nat, H1[j]? = H[j]?) := by
  refine ex_s (am_nb (m := 2) (pc1 := 2) (ls1 := [(0, .ref 0), (1, .int x0), (2, .int x1), (3, .int x2)]) (st1 := [.int x0, .ref 0]) (H1 := H) (k1 := 0) (n1 := 0) (by with_unfolding_all rfl)) ?_
  refine ex_cv1 (as := [.int x0]) (rest := []) rfl rfl rfl rfl h0 rfl (by with_unfolding_all rfl) (by with_unfolding_all rfl) (fx_at_1_0 h0 h115 h141 h143 h145 h147 h149 h151 h153 h155 c1) ?_
  rintro H87 ⟨-, k87⟩
  refine ex_s (am_nb (m := 4) (pc1 := 23) (ls1 := [(4, .null), (0, .ref 0), (1, .int x0), (2, .int x1), (3, .int x2)]) (st1 := [.int 0]) (H1 := H87) (k1 := 0) (n1 := 0) (by with_unfolding_all rfl)) ?_
  exact ex_r (st_iret rfl rfl rfl) ⟨trivial, fun j => (k87 j)⟩

set_option maxRecDepth 100000 in
theorem fx_at_1 {sL : Nat} {sx : Nat → Int32} {cs : Nat → Nat → Option Int32} {H : am_H} {v0_13 : Int32} {x0 : Int32} {x1 : Int32} {x2 : Int32} (h0 : am_is H 0 (.inr (11, [.ref 1, .int 0, .ref 2, .int 0, .ref 3, .ref 93, .ref 97, .ref 115, .ref 116, .ref 129, .ref 123, .ref 127, .ref 128, .int v0_13, .null, .int 0]))) (h115 : am_is H 115 (.inl ((.object "TerminalHouse$Window"), (8, .inr (.inr (.inr (.inr am_q115))))))) (h141 : am_is H 141 (.inr (9, [.ref 142, .int 0, .int 0, .int 0, .int 0, .int 0, .int 0, .int 0, .int 0, .int 0]))) (h143 : am_is H 143 (.inr (9, [.ref 144, .int 0, .int 0, .int 0, .int 0, .int 0, .int 0, .int 0, .int 0, .int 0]))) (h145 : am_is H 145 (.inr (9, [.ref 146, .int 0, .int 0, .int 0, .int 0, .int 0, .int 0, .int 0, .int 0, .int 0]))) (h147 : am_is H 147 (.inr (9, [.ref 148, .int 0, .int 0, .int 0, .int 0, .int 0, .int 0, .int 0, .int 0, .int 0]))) (h149 : am_is H 149 (.inr (9, [.ref 150, .int 0, .int 0, .int 0, .int 0, .int 0, .int 0, .int 0, .int 0, .int 0]))) (h151 : am_is H 151 (.inr (9, [.ref 152, .int 0, .int 0, .int 0, .int 0, .int 0, .int 0, .int 0, .int 0, .int 0]))) (h153 : am_is H 153 (.inr (9, [.ref 154, .int 0, .int 0, .int 0, .int 0, .int 0, .int 0, .int 0, .int 0, .int 0]))) (h155 : am_is H 155 (.inr (9, [.ref 156, .int 0, .int 0, .int 0, .int 0, .int 0, .int 0, .int 0, .int 0, .int 0]))) (c1 : ¬ x0 < 0) (c2 : 8 ≤ x0)  :
    am_E sL sx cs 99 0 [(0, .ref 0), (1, .int x0), (2, .int x1), (3, .int x2)] [] H (some (.int 0)) (fun H1 => (True) ∧ ∀ j : Nat, H1[j]? = H[j]?) := by
  refine ex_s (am_nb (m := 2) (pc1 := 2) (ls1 := [(0, .ref 0), (1, .int x0), (2, .int x1), (3, .int x2)]) (st1 := [.int x0, .ref 0]) (H1 := H) (k1 := 0) (n1 := 0) (by with_unfolding_all rfl)) ?_
  refine ex_cv1 (as := [.int x0]) (rest := []) rfl rfl rfl rfl h0 rfl (by with_unfolding_all rfl) (by with_unfolding_all rfl) (fx_at_1_1 h0 h115 h141 h143 h145 h147 h149 h151 h153 h155 c1 c2) ?_
  rintro H88 ⟨-, k88⟩
  refine ex_s (am_nb (m := 4) (pc1 := 23) (ls1 := [(4, .null), (0, .ref 0), (1, .int x0), (2, .int x1), (3, .int x2)]) (st1 := [.int 0]) (H1 := H88) (k1 := 0) (n1 := 0) (by with_unfolding_all rfl)) ?_
  exact ex_r (st_iret rfl rfl rfl) ⟨trivial, fun j => (k88 j)⟩

set_option maxRecDepth 100000 in
theorem fx_at_2 {sL : Nat} {sx : Nat → Int32} {cs : Nat → Nat → Option Int32} {H : am_H} {v0_13 : Int32} {x0 : Int32} {x1 : Int32} {x2 : Int32} (h0 : am_is H 0 (.inr (11, [.ref 1, .int 0, .ref 2, .int 0, .ref 3, .ref 93, .ref 97, .ref 115, .ref 116, .ref 129, .ref 123, .ref 127, .ref 128, .int v0_13, .null, .int 0]))) (h115 : am_is H 115 (.inl ((.object "TerminalHouse$Window"), (8, .inr (.inr (.inr (.inr am_q115))))))) (h141 : am_is H 141 (.inr (9, [.ref 142, .int 0, .int 0, .int 0, .int 0, .int 0, .int 0, .int 0, .int 0, .int 0]))) (h143 : am_is H 143 (.inr (9, [.ref 144, .int 0, .int 0, .int 0, .int 0, .int 0, .int 0, .int 0, .int 0, .int 0]))) (h145 : am_is H 145 (.inr (9, [.ref 146, .int 0, .int 0, .int 0, .int 0, .int 0, .int 0, .int 0, .int 0, .int 0]))) (h147 : am_is H 147 (.inr (9, [.ref 148, .int 0, .int 0, .int 0, .int 0, .int 0, .int 0, .int 0, .int 0, .int 0]))) (h149 : am_is H 149 (.inr (9, [.ref 150, .int 0, .int 0, .int 0, .int 0, .int 0, .int 0, .int 0, .int 0, .int 0]))) (h151 : am_is H 151 (.inr (9, [.ref 152, .int 0, .int 0, .int 0, .int 0, .int 0, .int 0, .int 0, .int 0, .int 0]))) (h153 : am_is H 153 (.inr (9, [.ref 154, .int 0, .int 0, .int 0, .int 0, .int 0, .int 0, .int 0, .int 0, .int 0]))) (h155 : am_is H 155 (.inr (9, [.ref 156, .int 0, .int 0, .int 0, .int 0, .int 0, .int 0, .int 0, .int 0, .int 0]))) (c1 : ¬ x0 < 0) (c2 : ¬ 8 ≤ x0) (c3 : x0 = 0)  :
    am_E sL sx cs 99 0 [(0, .ref 0), (1, .int x0), (2, .int x1), (3, .int x2)] [] H (some (.int 0)) (fun H1 => (True) ∧ ∀ j : Nat, H1[j]? = H[j]?) := by
  refine ex_s (am_nb (m := 2) (pc1 := 2) (ls1 := [(0, .ref 0), (1, .int x0), (2, .int x1), (3, .int x2)]) (st1 := [.int x0, .ref 0]) (H1 := H) (k1 := 0) (n1 := 0) (by with_unfolding_all rfl)) ?_
  refine ex_cv1 (as := [.int x0]) (rest := []) rfl rfl rfl rfl h0 rfl (by with_unfolding_all rfl) (by with_unfolding_all rfl) (fx_at_1_2 h0 h115 h141 h143 h145 h147 h149 h151 h153 h155 c1 c2 c3) ?_
  rintro H89 ⟨-, k89⟩
  refine ex_s (am_nb (m := 4) (pc1 := 23) (ls1 := [(4, .null), (0, .ref 0), (1, .int x0), (2, .int x1), (3, .int x2)]) (st1 := [.int 0]) (H1 := H89) (k1 := 0) (n1 := 0) (by with_unfolding_all rfl)) ?_
  exact ex_r (st_iret rfl rfl rfl) ⟨trivial, fun j => (k89 j)⟩

set_option maxRecDepth 100000 in
theorem fx_at_3 {sL : Nat} {sx : Nat → Int32} {cs : Nat → Nat → Option Int32} {H : am_H} {v0_13 : Int32} {x0 : Int32} {x1 : Int32} {x2 : Int32} (h0 : am_is H 0 (.inr (11, [.ref 1, .int 0, .ref 2, .int 0, .ref 3, .ref 93, .ref 97, .ref 115, .ref 116, .ref 129, .ref 123, .ref 127, .ref 128, .int v0_13, .null, .int 0]))) (h115 : am_is H 115 (.inl ((.object "TerminalHouse$Window"), (8, .inr (.inr (.inr (.inr am_q115))))))) (h141 : am_is H 141 (.inr (9, [.ref 142, .int 0, .int 0, .int 0, .int 0, .int 0, .int 0, .int 0, .int 0, .int 0]))) (h143 : am_is H 143 (.inr (9, [.ref 144, .int 0, .int 0, .int 0, .int 0, .int 0, .int 0, .int 0, .int 0, .int 0]))) (h145 : am_is H 145 (.inr (9, [.ref 146, .int 0, .int 0, .int 0, .int 0, .int 0, .int 0, .int 0, .int 0, .int 0]))) (h147 : am_is H 147 (.inr (9, [.ref 148, .int 0, .int 0, .int 0, .int 0, .int 0, .int 0, .int 0, .int 0, .int 0]))) (h149 : am_is H 149 (.inr (9, [.ref 150, .int 0, .int 0, .int 0, .int 0, .int 0, .int 0, .int 0, .int 0, .int 0]))) (h151 : am_is H 151 (.inr (9, [.ref 152, .int 0, .int 0, .int 0, .int 0, .int 0, .int 0, .int 0, .int 0, .int 0]))) (h153 : am_is H 153 (.inr (9, [.ref 154, .int 0, .int 0, .int 0, .int 0, .int 0, .int 0, .int 0, .int 0, .int 0]))) (h155 : am_is H 155 (.inr (9, [.ref 156, .int 0, .int 0, .int 0, .int 0, .int 0, .int 0, .int 0, .int 0, .int 0]))) (c1 : ¬ x0 < 0) (c2 : ¬ 8 ≤ x0) (c3 : x0 = 1)  :
    am_E sL sx cs 99 0 [(0, .ref 0), (1, .int x0), (2, .int x1), (3, .int x2)] [] H (some (.int 0)) (fun H1 => (True) ∧ ∀ j : Nat, H1[j]? = H[j]?) := by
  refine ex_s (am_nb (m := 2) (pc1 := 2) (ls1 := [(0, .ref 0), (1, .int x0), (2, .int x1), (3, .int x2)]) (st1 := [.int x0, .ref 0]) (H1 := H) (k1 := 0) (n1 := 0) (by with_unfolding_all rfl)) ?_
  refine ex_cv1 (as := [.int x0]) (rest := []) rfl rfl rfl rfl h0 rfl (by with_unfolding_all rfl) (by with_unfolding_all rfl) (fx_at_1_3 h0 h115 h141 h143 h145 h147 h149 h151 h153 h155 c1 c2 c3) ?_
  rintro H90 ⟨-, k90⟩
  refine ex_s (am_nb (m := 4) (pc1 := 23) (ls1 := [(4, .null), (0, .ref 0), (1, .int x0), (2, .int x1), (3, .int x2)]) (st1 := [.int 0]) (H1 := H90) (k1 := 0) (n1 := 0) (by with_unfolding_all rfl)) ?_
  exact ex_r (st_iret rfl rfl rfl) ⟨trivial, fun j => (k90 j)⟩

set_option maxRecDepth 100000 in
theorem fx_at_4 {sL : Nat} {sx : Nat → Int32} {cs : Nat → Nat → Option Int32} {H : am_H} {v0_13 : Int32} {x0 : Int32} {x1 : Int32} {x2 : Int32} (h0 : am_is H 0 (.inr (11, [.ref 1, .int 0, .ref 2, .int 0, .ref 3, .ref 93, .ref 97, .ref 115, .ref 116, .ref 129, .ref 123, .ref 127, .ref 128, .int v0_13, .null, .int 0]))) (h115 : am_is H 115 (.inl ((.object "TerminalHouse$Window"), (8, .inr (.inr (.inr (.inr am_q115))))))) (h141 : am_is H 141 (.inr (9, [.ref 142, .int 0, .int 0, .int 0, .int 0, .int 0, .int 0, .int 0, .int 0, .int 0]))) (h143 : am_is H 143 (.inr (9, [.ref 144, .int 0, .int 0, .int 0, .int 0, .int 0, .int 0, .int 0, .int 0, .int 0]))) (h145 : am_is H 145 (.inr (9, [.ref 146, .int 0, .int 0, .int 0, .int 0, .int 0, .int 0, .int 0, .int 0, .int 0]))) (h147 : am_is H 147 (.inr (9, [.ref 148, .int 0, .int 0, .int 0, .int 0, .int 0, .int 0, .int 0, .int 0, .int 0]))) (h149 : am_is H 149 (.inr (9, [.ref 150, .int 0, .int 0, .int 0, .int 0, .int 0, .int 0, .int 0, .int 0, .int 0]))) (h151 : am_is H 151 (.inr (9, [.ref 152, .int 0, .int 0, .int 0, .int 0, .int 0, .int 0, .int 0, .int 0, .int 0]))) (h153 : am_is H 153 (.inr (9, [.ref 154, .int 0, .int 0, .int 0, .int 0, .int 0, .int 0, .int 0, .int 0, .int 0]))) (h155 : am_is H 155 (.inr (9, [.ref 156, .int 0, .int 0, .int 0, .int 0, .int 0, .int 0, .int 0, .int 0, .int 0]))) (c1 : ¬ x0 < 0) (c2 : ¬ 8 ≤ x0) (c3 : x0 = 2)  :
    am_E sL sx cs 99 0 [(0, .ref 0), (1, .int x0), (2, .int x1), (3, .int x2)] [] H (some (.int 0)) (fun H1 => (True) ∧ ∀ j : Nat, H1[j]? = H[j]?) := by
  refine ex_s (am_nb (m := 2) (pc1 := 2) (ls1 := [(0, .ref 0), (1, .int x0), (2, .int x1), (3, .int x2)]) (st1 := [.int x0, .ref 0]) (H1 := H) (k1 := 0) (n1 := 0) (by with_unfolding_all rfl)) ?_
  refine ex_cv1 (as := [.int x0]) (rest := []) rfl rfl rfl rfl h0 rfl (by with_unfolding_all rfl) (by with_unfolding_all rfl) (fx_at_1_4 h0 h115 h141 h143 h145 h147 h149 h151 h153 h155 c1 c2 c3) ?_
  rintro H91 ⟨-, k91⟩
  refine ex_s (am_nb (m := 4) (pc1 := 23) (ls1 := [(4, .null), (0, .ref 0), (1, .int x0), (2, .int x1), (3, .int x2)]) (st1 := [.int 0]) (H1 := H91) (k1 := 0) (n1 := 0) (by with_unfolding_all rfl)) ?_
  exact ex_r (st_iret rfl rfl rfl) ⟨trivial, fun j => (k91 j)⟩

set_option maxRecDepth 100000 in
theorem fx_at_5 {sL : Nat} {sx : Nat → Int32} {cs : Nat → Nat → Option Int32} {H : am_H} {v0_13 : Int32} {x0 : Int32} {x1 : Int32} {x2 : Int32} (h0 : am_is H 0 (.inr (11, [.ref 1, .int 0, .ref 2, .int 0, .ref 3, .ref 93, .ref 97, .ref 115, .ref 116, .ref 129, .ref 123, .ref 127, .ref 128, .int v0_13, .null, .int 0]))) (h115 : am_is H 115 (.inl ((.object "TerminalHouse$Window"), (8, .inr (.inr (.inr (.inr am_q115))))))) (h141 : am_is H 141 (.inr (9, [.ref 142, .int 0, .int 0, .int 0, .int 0, .int 0, .int 0, .int 0, .int 0, .int 0]))) (h143 : am_is H 143 (.inr (9, [.ref 144, .int 0, .int 0, .int 0, .int 0, .int 0, .int 0, .int 0, .int 0, .int 0]))) (h145 : am_is H 145 (.inr (9, [.ref 146, .int 0, .int 0, .int 0, .int 0, .int 0, .int 0, .int 0, .int 0, .int 0]))) (h147 : am_is H 147 (.inr (9, [.ref 148, .int 0, .int 0, .int 0, .int 0, .int 0, .int 0, .int 0, .int 0, .int 0]))) (h149 : am_is H 149 (.inr (9, [.ref 150, .int 0, .int 0, .int 0, .int 0, .int 0, .int 0, .int 0, .int 0, .int 0]))) (h151 : am_is H 151 (.inr (9, [.ref 152, .int 0, .int 0, .int 0, .int 0, .int 0, .int 0, .int 0, .int 0, .int 0]))) (h153 : am_is H 153 (.inr (9, [.ref 154, .int 0, .int 0, .int 0, .int 0, .int 0, .int 0, .int 0, .int 0, .int 0]))) (h155 : am_is H 155 (.inr (9, [.ref 156, .int 0, .int 0, .int 0, .int 0, .int 0, .int 0, .int 0, .int 0, .int 0]))) (c1 : ¬ x0 < 0) (c2 : ¬ 8 ≤ x0) (c3 : x0 = 3)  :
    am_E sL sx cs 99 0 [(0, .ref 0), (1, .int x0), (2, .int x1), (3, .int x2)] [] H (some (.int 0)) (fun H1 => (True) ∧ ∀ j : Nat, H1[j]? = H[j]?) := by
  refine ex_s (am_nb (m := 2) (pc1 := 2) (ls1 := [(0, .ref 0), (1, .int x0), (2, .int x1), (3, .int x2)]) (st1 := [.int x0, .ref 0]) (H1 := H) (k1 := 0) (n1 := 0) (by with_unfolding_all rfl)) ?_
  refine ex_cv1 (as := [.int x0]) (rest := []) rfl rfl rfl rfl h0 rfl (by with_unfolding_all rfl) (by with_unfolding_all rfl) (fx_at_1_5 h0 h115 h141 h143 h145 h147 h149 h151 h153 h155 c1 c2 c3) ?_
  rintro H92 ⟨-, k92⟩
  refine ex_s (am_nb (m := 4) (pc1 := 23) (ls1 := [(4, .null), (0, .ref 0), (1, .int x0), (2, .int x1), (3, .int x2)]) (st1 := [.int 0]) (H1 := H92) (k1 := 0) (n1 := 0) (by with_unfolding_all rfl)) ?_
  exact ex_r (st_iret rfl rfl rfl) ⟨trivial, fun j => (k92 j)⟩

set_option maxRecDepth 100000 in
theorem fx_at_6 {sL : Nat} {sx : Nat → Int32} {cs : Nat → Nat → Option Int32} {H : am_H} {v0_13 : Int32} {x0 : Int32} {x1 : Int32} {x2 : Int32} (h0 : am_is H 0 (.inr (11, [.ref 1, .int 0, .ref 2, .int 0, .ref 3, .ref 93, .ref 97, .ref 115, .ref 116, .ref 129, .ref 123, .ref 127, .ref 128, .int v0_13, .null, .int 0]))) (h115 : am_is H 115 (.inl ((.object "TerminalHouse$Window"), (8, .inr (.inr (.inr (.inr am_q115))))))) (h141 : am_is H 141 (.inr (9, [.ref 142, .int 0, .int 0, .int 0, .int 0, .int 0, .int 0, .int 0, .int 0, .int 0]))) (h143 : am_is H 143 (.inr (9, [.ref 144, .int 0, .int 0, .int 0, .int 0, .int 0, .int 0, .int 0, .int 0, .int 0]))) (h145 : am_is H 145 (.inr (9, [.ref 146, .int 0, .int 0, .int 0, .int 0, .int 0, .int 0, .int 0, .int 0, .int 0]))) (h147 : am_is H 147 (.inr (9, [.ref 148, .int 0, .int 0, .int 0, .int 0, .int 0, .int 0, .int 0, .int 0, .int 0]))) (h149 : am_is H 149 (.inr (9, [.ref 150, .int 0, .int 0, .int 0, .int 0, .int 0, .int 0, .int 0, .int 0, .int 0]))) (h151 : am_is H 151 (.inr (9, [.ref 152, .int 0, .int 0, .int 0, .int 0, .int 0, .int 0, .int 0, .int 0, .int 0]))) (h153 : am_is H 153 (.inr (9, [.ref 154, .int 0, .int 0, .int 0, .int 0, .int 0, .int 0, .int 0, .int 0, .int 0]))) (h155 : am_is H 155 (.inr (9, [.ref 156, .int 0, .int 0, .int 0, .int 0, .int 0, .int 0, .int 0, .int 0, .int 0]))) (c1 : ¬ x0 < 0) (c2 : ¬ 8 ≤ x0) (c3 : x0 = 4)  :
    am_E sL sx cs 99 0 [(0, .ref 0), (1, .int x0), (2, .int x1), (3, .int x2)] [] H (some (.int 0)) (fun H1 => (True) ∧ ∀ j : Nat, H1[j]? = H[j]?) := by
  refine ex_s (am_nb (m := 2) (pc1 := 2) (ls1 := [(0, .ref 0), (1, .int x0), (2, .int x1), (3, .int x2)]) (st1 := [.int x0, .ref 0]) (H1 := H) (k1 := 0) (n1 := 0) (by with_unfolding_all rfl)) ?_
  refine ex_cv1 (as := [.int x0]) (rest := []) rfl rfl rfl rfl h0 rfl (by with_unfolding_all rfl) (by with_unfolding_all rfl) (fx_at_1_6 h0 h115 h141 h143 h145 h147 h149 h151 h153 h155 c1 c2 c3) ?_
  rintro H93 ⟨-, k93⟩
  refine ex_s (am_nb (m := 4) (pc1 := 23) (ls1 := [(4, .null), (0, .ref 0), (1, .int x0), (2, .int x1), (3, .int x2)]) (st1 := [.int 0]) (H1 := H93) (k1 := 0) (n1 := 0) (by with_unfolding_all rfl)) ?_
  exact ex_r (st_iret rfl rfl rfl) ⟨trivial, fun j => (k93 j)⟩

set_option maxRecDepth 100000 in
theorem fx_at_7 {sL : Nat} {sx : Nat → Int32} {cs : Nat → Nat → Option Int32} {H : am_H} {v0_13 : Int32} {x0 : Int32} {x1 : Int32} {x2 : Int32} (h0 : am_is H 0 (.inr (11, [.ref 1, .int 0, .ref 2, .int 0, .ref 3, .ref 93, .ref 97, .ref 115, .ref 116, .ref 129, .ref 123, .ref 127, .ref 128, .int v0_13, .null, .int 0]))) (h115 : am_is H 115 (.inl ((.object "TerminalHouse$Window"), (8, .inr (.inr (.inr (.inr am_q115))))))) (h141 : am_is H 141 (.inr (9, [.ref 142, .int 0, .int 0, .int 0, .int 0, .int 0, .int 0, .int 0, .int 0, .int 0]))) (h143 : am_is H 143 (.inr (9, [.ref 144, .int 0, .int 0, .int 0, .int 0, .int 0, .int 0, .int 0, .int 0, .int 0]))) (h145 : am_is H 145 (.inr (9, [.ref 146, .int 0, .int 0, .int 0, .int 0, .int 0, .int 0, .int 0, .int 0, .int 0]))) (h147 : am_is H 147 (.inr (9, [.ref 148, .int 0, .int 0, .int 0, .int 0, .int 0, .int 0, .int 0, .int 0, .int 0]))) (h149 : am_is H 149 (.inr (9, [.ref 150, .int 0, .int 0, .int 0, .int 0, .int 0, .int 0, .int 0, .int 0, .int 0]))) (h151 : am_is H 151 (.inr (9, [.ref 152, .int 0, .int 0, .int 0, .int 0, .int 0, .int 0, .int 0, .int 0, .int 0]))) (h153 : am_is H 153 (.inr (9, [.ref 154, .int 0, .int 0, .int 0, .int 0, .int 0, .int 0, .int 0, .int 0, .int 0]))) (h155 : am_is H 155 (.inr (9, [.ref 156, .int 0, .int 0, .int 0, .int 0, .int 0, .int 0, .int 0, .int 0, .int 0]))) (c1 : ¬ x0 < 0) (c2 : ¬ 8 ≤ x0) (c3 : x0 = 5)  :
    am_E sL sx cs 99 0 [(0, .ref 0), (1, .int x0), (2, .int x1), (3, .int x2)] [] H (some (.int 0)) (fun H1 => (True) ∧ ∀ j : Nat, H1[j]? = H[j]?) := by
  refine ex_s (am_nb (m := 2) (pc1 := 2) (ls1 := [(0, .ref 0), (1, .int x0), (2, .int x1), (3, .int x2)]) (st1 := [.int x0, .ref 0]) (H1 := H) (k1 := 0) (n1 := 0) (by with_unfolding_all rfl)) ?_
  refine ex_cv1 (as := [.int x0]) (rest := []) rfl rfl rfl rfl h0 rfl (by with_unfolding_all rfl) (by with_unfolding_all rfl) (fx_at_1_7 h0 h115 h141 h143 h145 h147 h149 h151 h153 h155 c1 c2 c3) ?_
  rintro H94 ⟨-, k94⟩
  refine ex_s (am_nb (m := 4) (pc1 := 23) (ls1 := [(4, .null), (0, .ref 0), (1, .int x0), (2, .int x1), (3, .int x2)]) (st1 := [.int 0]) (H1 := H94) (k1 := 0) (n1 := 0) (by with_unfolding_all rfl)) ?_
  exact ex_r (st_iret rfl rfl rfl) ⟨trivial, fun j => (k94 j)⟩

set_option maxRecDepth 100000 in
theorem fx_at_8 {sL : Nat} {sx : Nat → Int32} {cs : Nat → Nat → Option Int32} {H : am_H} {v0_13 : Int32} {x0 : Int32} {x1 : Int32} {x2 : Int32} (h0 : am_is H 0 (.inr (11, [.ref 1, .int 0, .ref 2, .int 0, .ref 3, .ref 93, .ref 97, .ref 115, .ref 116, .ref 129, .ref 123, .ref 127, .ref 128, .int v0_13, .null, .int 0]))) (h115 : am_is H 115 (.inl ((.object "TerminalHouse$Window"), (8, .inr (.inr (.inr (.inr am_q115))))))) (h141 : am_is H 141 (.inr (9, [.ref 142, .int 0, .int 0, .int 0, .int 0, .int 0, .int 0, .int 0, .int 0, .int 0]))) (h143 : am_is H 143 (.inr (9, [.ref 144, .int 0, .int 0, .int 0, .int 0, .int 0, .int 0, .int 0, .int 0, .int 0]))) (h145 : am_is H 145 (.inr (9, [.ref 146, .int 0, .int 0, .int 0, .int 0, .int 0, .int 0, .int 0, .int 0, .int 0]))) (h147 : am_is H 147 (.inr (9, [.ref 148, .int 0, .int 0, .int 0, .int 0, .int 0, .int 0, .int 0, .int 0, .int 0]))) (h149 : am_is H 149 (.inr (9, [.ref 150, .int 0, .int 0, .int 0, .int 0, .int 0, .int 0, .int 0, .int 0, .int 0]))) (h151 : am_is H 151 (.inr (9, [.ref 152, .int 0, .int 0, .int 0, .int 0, .int 0, .int 0, .int 0, .int 0, .int 0]))) (h153 : am_is H 153 (.inr (9, [.ref 154, .int 0, .int 0, .int 0, .int 0, .int 0, .int 0, .int 0, .int 0, .int 0]))) (h155 : am_is H 155 (.inr (9, [.ref 156, .int 0, .int 0, .int 0, .int 0, .int 0, .int 0, .int 0, .int 0, .int 0]))) (c1 : ¬ x0 < 0) (c2 : ¬ 8 ≤ x0) (c3 : x0 = 6)  :
    am_E sL sx cs 99 0 [(0, .ref 0), (1, .int x0), (2, .int x1), (3, .int x2)] [] H (some (.int 0)) (fun H1 => (True) ∧ ∀ j : Nat, H1[j]? = H[j]?) := by
  refine ex_s (am_nb (m := 2) (pc1 := 2) (ls1 := [(0, .ref 0), (1, .int x0), (2, .int x1), (3, .int x2)]) (st1 := [.int x0, .ref 0]) (H1 := H) (k1 := 0) (n1 := 0) (by with_unfolding_all rfl)) ?_
  refine ex_cv1 (as := [.int x0]) (rest := []) rfl rfl rfl rfl h0 rfl (by with_unfolding_all rfl) (by with_unfolding_all rfl) (fx_at_1_8 h0 h115 h141 h143 h145 h147 h149 h151 h153 h155 c1 c2 c3) ?_
  rintro H95 ⟨-, k95⟩
  refine ex_s (am_nb (m := 4) (pc1 := 23) (ls1 := [(4, .null), (0, .ref 0), (1, .int x0), (2, .int x1), (3, .int x2)]) (st1 := [.int 0]) (H1 := H95) (k1 := 0) (n1 := 0) (by with_unfolding_all rfl)) ?_
  exact ex_r (st_iret rfl rfl rfl) ⟨trivial, fun j => (k95 j)⟩

set_option maxRecDepth 100000 in
theorem fx_at_9 {sL : Nat} {sx : Nat → Int32} {cs : Nat → Nat → Option Int32} {H : am_H} {v0_13 : Int32} {x0 : Int32} {x1 : Int32} {x2 : Int32} (h0 : am_is H 0 (.inr (11, [.ref 1, .int 0, .ref 2, .int 0, .ref 3, .ref 93, .ref 97, .ref 115, .ref 116, .ref 129, .ref 123, .ref 127, .ref 128, .int v0_13, .null, .int 0]))) (h115 : am_is H 115 (.inl ((.object "TerminalHouse$Window"), (8, .inr (.inr (.inr (.inr am_q115))))))) (h141 : am_is H 141 (.inr (9, [.ref 142, .int 0, .int 0, .int 0, .int 0, .int 0, .int 0, .int 0, .int 0, .int 0]))) (h143 : am_is H 143 (.inr (9, [.ref 144, .int 0, .int 0, .int 0, .int 0, .int 0, .int 0, .int 0, .int 0, .int 0]))) (h145 : am_is H 145 (.inr (9, [.ref 146, .int 0, .int 0, .int 0, .int 0, .int 0, .int 0, .int 0, .int 0, .int 0]))) (h147 : am_is H 147 (.inr (9, [.ref 148, .int 0, .int 0, .int 0, .int 0, .int 0, .int 0, .int 0, .int 0, .int 0]))) (h149 : am_is H 149 (.inr (9, [.ref 150, .int 0, .int 0, .int 0, .int 0, .int 0, .int 0, .int 0, .int 0, .int 0]))) (h151 : am_is H 151 (.inr (9, [.ref 152, .int 0, .int 0, .int 0, .int 0, .int 0, .int 0, .int 0, .int 0, .int 0]))) (h153 : am_is H 153 (.inr (9, [.ref 154, .int 0, .int 0, .int 0, .int 0, .int 0, .int 0, .int 0, .int 0, .int 0]))) (h155 : am_is H 155 (.inr (9, [.ref 156, .int 0, .int 0, .int 0, .int 0, .int 0, .int 0, .int 0, .int 0, .int 0]))) (c1 : ¬ x0 < 0) (c2 : ¬ 8 ≤ x0) (c3 : x0 = 7)  :
    am_E sL sx cs 99 0 [(0, .ref 0), (1, .int x0), (2, .int x1), (3, .int x2)] [] H (some (.int 0)) (fun H1 => (True) ∧ ∀ j : Nat, H1[j]? = H[j]?) := by
  refine ex_s (am_nb (m := 2) (pc1 := 2) (ls1 := [(0, .ref 0), (1, .int x0), (2, .int x1), (3, .int x2)]) (st1 := [.int x0, .ref 0]) (H1 := H) (k1 := 0) (n1 := 0) (by with_unfolding_all rfl)) ?_
  refine ex_cv1 (as := [.int x0]) (rest := []) rfl rfl rfl rfl h0 rfl (by with_unfolding_all rfl) (by with_unfolding_all rfl) (fx_at_1_9 h0 h115 h141 h143 h145 h147 h149 h151 h153 h155 c1 c2 c3) ?_
  rintro H96 ⟨-, k96⟩
  refine ex_s (am_nb (m := 4) (pc1 := 23) (ls1 := [(4, .null), (0, .ref 0), (1, .int x0), (2, .int x1), (3, .int x2)]) (st1 := [.int 0]) (H1 := H96) (k1 := 0) (n1 := 0) (by with_unfolding_all rfl)) ?_
  exact ex_r (st_iret rfl rfl rfl) ⟨trivial, fun j => (k96 j)⟩

set_option maxRecDepth 100000 in
theorem fx_dress_1_0 {sL : Nat} {sx : Nat → Int32} {cs : Nat → Nat → Option Int32} {H : am_H} {v0_13 : Int32} {x0 : Int32} (h0 : am_is H 0 (.inr (11, [.ref 1, .int 0, .ref 2, .int 0, .ref 3, .ref 93, .ref 97, .ref 115, .ref 116, .ref 129, .ref 123, .ref 127, .ref 128, .int v0_13, .null, .int 0]))) (h115 : am_is H 115 (.inl ((.object "TerminalHouse$Window"), (8, .inr (.inr (.inr (.inr am_q115))))))) (h141 : am_is H 141 (.inr (9, [.ref 142, .int 0, .int 0, .int 0, .int 0, .int 0, .int 0, .int 0, .int 0, .int 0]))) (h143 : am_is H 143 (.inr (9, [.ref 144, .int 0, .int 0, .int 0, .int 0, .int 0, .int 0, .int 0, .int 0, .int 0]))) (h145 : am_is H 145 (.inr (9, [.ref 146, .int 0, .int 0, .int 0, .int 0, .int 0, .int 0, .int 0, .int 0, .int 0]))) (h147 : am_is H 147 (.inr (9, [.ref 148, .int 0, .int 0, .int 0, .int 0, .int 0, .int 0, .int 0, .int 0, .int 0]))) (h149 : am_is H 149 (.inr (9, [.ref 150, .int 0, .int 0, .int 0, .int 0, .int 0, .int 0, .int 0, .int 0, .int 0]))) (h151 : am_is H 151 (.inr (9, [.ref 152, .int 0, .int 0, .int 0, .int 0, .int 0, .int 0, .int 0, .int 0, .int 0]))) (h153 : am_is H 153 (.inr (9, [.ref 154, .int 0, .int 0, .int 0, .int 0, .int 0, .int 0, .int 0, .int 0, .int 0]))) (h155 : am_is H 155 (.inr (9, [.ref 156, .int 0, .int 0, .int 0, .int 0, .int 0, .int 0, .int 0, .int 0, .int 0]))) (c1 : x0 < 0)  :
    am_E sL sx cs 98 0 [(0, .ref 0), (1, .int x0)] [] H (some (.null)) (fun H1 => (True) ∧ ∀ j : Nat, H1[j]? = H[j]?) := by
  refine ex_s (am_nb (m := 1) (pc1 := 1) (ls1 := [(0, .ref 0), (1, .int x0)]) (st1 := [.int x0]) (H1 := H) (k1 := 0) (n1 := 0) (by with_unfolding_all rfl)) ?_
  refine ex_s (st_if rfl) ?_
  refine ex_pc (if_pos c1) ?_
  refine ex_s (am_nb (m := 1) (pc1 := 23) (ls1 := [(0, .ref 0), (1, .int x0)]) (st1 := [.null]) (H1 := H) (k1 := 0) (n1 := 0) (by with_unfolding_all rfl)) ?_
  exact ex_r (st_aret rfl rfl rfl rfl) ⟨trivial, fun j => rfl⟩

set_option maxRecDepth 100000 in
theorem fx_dress_1_1 {sL : Nat} {sx : Nat → Int32} {cs : Nat → Nat → Option Int32} {H : am_H} {v0_13 : Int32} {x0 : Int32} (h0 : am_is H 0 (.inr (11, [.ref 1, .int 0, .ref 2, .int 0, .ref 3, .ref 93, .ref 97, .ref 115, .ref 116, .ref 129, .ref 123, .ref 127, .ref 128, .int v0_13, .null, .int 0]))) (h115 : am_is H 115 (.inl ((.object "TerminalHouse$Window"), (8, .inr (.inr (.inr (.inr am_q115))))))) (h141 : am_is H 141 (.inr (9, [.ref 142, .int 0, .int 0, .int 0, .int 0, .int 0, .int 0, .int 0, .int 0, .int 0]))) (h143 : am_is H 143 (.inr (9, [.ref 144, .int 0, .int 0, .int 0, .int 0, .int 0, .int 0, .int 0, .int 0, .int 0]))) (h145 : am_is H 145 (.inr (9, [.ref 146, .int 0, .int 0, .int 0, .int 0, .int 0, .int 0, .int 0, .int 0, .int 0]))) (h147 : am_is H 147 (.inr (9, [.ref 148, .int 0, .int 0, .int 0, .int 0, .int 0, .int 0, .int 0, .int 0, .int 0]))) (h149 : am_is H 149 (.inr (9, [.ref 150, .int 0, .int 0, .int 0, .int 0, .int 0, .int 0, .int 0, .int 0, .int 0]))) (h151 : am_is H 151 (.inr (9, [.ref 152, .int 0, .int 0, .int 0, .int 0, .int 0, .int 0, .int 0, .int 0, .int 0]))) (h153 : am_is H 153 (.inr (9, [.ref 154, .int 0, .int 0, .int 0, .int 0, .int 0, .int 0, .int 0, .int 0, .int 0]))) (h155 : am_is H 155 (.inr (9, [.ref 156, .int 0, .int 0, .int 0, .int 0, .int 0, .int 0, .int 0, .int 0, .int 0]))) (c1 : ¬ x0 < 0) (c2 : 8 ≤ x0)  :
    am_E sL sx cs 98 0 [(0, .ref 0), (1, .int x0)] [] H (some (.null)) (fun H1 => (True) ∧ ∀ j : Nat, H1[j]? = H[j]?) := by
  refine ex_s (am_nb (m := 1) (pc1 := 1) (ls1 := [(0, .ref 0), (1, .int x0)]) (st1 := [.int x0]) (H1 := H) (k1 := 0) (n1 := 0) (by with_unfolding_all rfl)) ?_
  refine ex_s (st_if rfl) ?_
  refine ex_pc (if_neg c1) ?_
  refine ex_s (am_nb (m := 2) (pc1 := 7) (ls1 := [(0, .ref 0), (1, .int x0)]) (st1 := [.int 8, .int x0]) (H1 := H) (k1 := 0) (n1 := 0) (by with_unfolding_all rfl)) ?_
  refine ex_s (st_icmp rfl) ?_
  refine ex_pc (if_pos c2) ?_
  refine ex_s (am_nb (m := 1) (pc1 := 23) (ls1 := [(0, .ref 0), (1, .int x0)]) (st1 := [.null]) (H1 := H) (k1 := 0) (n1 := 0) (by with_unfolding_all rfl)) ?_
  exact ex_r (st_aret rfl rfl rfl rfl) ⟨trivial, fun j => rfl⟩

set_option maxRecDepth 100000 in
theorem fx_dress_1_2 {sL : Nat} {sx : Nat → Int32} {cs : Nat → Nat → Option Int32} {H : am_H} {v0_13 : Int32} {x0 : Int32} (h0 : am_is H 0 (.inr (11, [.ref 1, .int 0, .ref 2, .int 0, .ref 3, .ref 93, .ref 97, .ref 115, .ref 116, .ref 129, .ref 123, .ref 127, .ref 128, .int v0_13, .null, .int 0]))) (h115 : am_is H 115 (.inl ((.object "TerminalHouse$Window"), (8, .inr (.inr (.inr (.inr am_q115))))))) (h141 : am_is H 141 (.inr (9, [.ref 142, .int 0, .int 0, .int 0, .int 0, .int 0, .int 0, .int 0, .int 0, .int 0]))) (h143 : am_is H 143 (.inr (9, [.ref 144, .int 0, .int 0, .int 0, .int 0, .int 0, .int 0, .int 0, .int 0, .int 0]))) (h145 : am_is H 145 (.inr (9, [.ref 146, .int 0, .int 0, .int 0, .int 0, .int 0, .int 0, .int 0, .int 0, .int 0]))) (h147 : am_is H 147 (.inr (9, [.ref 148, .int 0, .int 0, .int 0, .int 0, .int 0, .int 0, .int 0, .int 0, .int 0]))) (h149 : am_is H 149 (.inr (9, [.ref 150, .int 0, .int 0, .int 0, .int 0, .int 0, .int 0, .int 0, .int 0, .int 0]))) (h151 : am_is H 151 (.inr (9, [.ref 152, .int 0, .int 0, .int 0, .int 0, .int 0, .int 0, .int 0, .int 0, .int 0]))) (h153 : am_is H 153 (.inr (9, [.ref 154, .int 0, .int 0, .int 0, .int 0, .int 0, .int 0, .int 0, .int 0, .int 0]))) (h155 : am_is H 155 (.inr (9, [.ref 156, .int 0, .int 0, .int 0, .int 0, .int 0, .int 0, .int 0, .int 0, .int 0]))) (c1 : ¬ x0 < 0) (c2 : ¬ 8 ≤ x0) (c3 : x0 = 0)  :
    am_E sL sx cs 98 0 [(0, .ref 0), (1, .int x0)] [] H (some (.null)) (fun H1 => (True) ∧ ∀ j : Nat, H1[j]? = H[j]?) := by
  refine ex_s (am_nb (m := 1) (pc1 := 1) (ls1 := [(0, .ref 0), (1, .int x0)]) (st1 := [.int x0]) (H1 := H) (k1 := 0) (n1 := 0) (by with_unfolding_all rfl)) ?_
  refine ex_s (st_if rfl) ?_
  refine ex_pc (if_neg c1) ?_
  refine ex_s (am_nb (m := 2) (pc1 := 7) (ls1 := [(0, .ref 0), (1, .int x0)]) (st1 := [.int 8, .int x0]) (H1 := H) (k1 := 0) (n1 := 0) (by with_unfolding_all rfl)) ?_
  refine ex_s (st_icmp rfl) ?_
  refine ex_pc (if_neg c2) ?_
  refine ex_s (am_nb (m := 1) (pc1 := 11) (ls1 := [(0, .ref 0), (1, .int x0)]) (st1 := [.ref 0]) (H1 := H) (k1 := 0) (n1 := 0) (by with_unfolding_all rfl)) ?_
  refine ex_s (st_get rfl h0 rfl) ?_
  refine ex_s (am_nb (m := 1) (pc1 := 15) (ls1 := [(0, .ref 0), (1, .int x0)]) (st1 := [.int x0, .ref 115]) (H1 := H) (k1 := 0) (n1 := 0) (by with_unfolding_all rfl)) ?_
  refine ex_s (st_aald rfl h115 (by rw [c3]; decide) rfl) ?_
  refine ex_s (am_nb (m := 0) (pc1 := 16) (ls1 := [(0, .ref 0), (1, .int x0)]) (st1 := [.ref 141]) (H1 := H) (k1 := 0) (n1 := 0) (by rw [c3]; with_unfolding_all rfl)) ?_
  refine ex_s (st_get rfl h141 rfl) ?_
  refine ex_s (am_nb (m := 2) (pc1 := 23) (ls1 := [(0, .ref 0), (1, .int x0)]) (st1 := [.null]) (H1 := H) (k1 := 0) (n1 := 0) (by with_unfolding_all rfl)) ?_
  exact ex_r (st_aret rfl rfl rfl rfl) ⟨trivial, fun j => rfl⟩

set_option maxRecDepth 100000 in
theorem fx_dress_1_3 {sL : Nat} {sx : Nat → Int32} {cs : Nat → Nat → Option Int32} {H : am_H} {v0_13 : Int32} {x0 : Int32} (h0 : am_is H 0 (.inr (11, [.ref 1, .int 0, .ref 2, .int 0, .ref 3, .ref 93, .ref 97, .ref 115, .ref 116, .ref 129, .ref 123, .ref 127, .ref 128, .int v0_13, .null, .int 0]))) (h115 : am_is H 115 (.inl ((.object "TerminalHouse$Window"), (8, .inr (.inr (.inr (.inr am_q115))))))) (h141 : am_is H 141 (.inr (9, [.ref 142, .int 0, .int 0, .int 0, .int 0, .int 0, .int 0, .int 0, .int 0, .int 0]))) (h143 : am_is H 143 (.inr (9, [.ref 144, .int 0, .int 0, .int 0, .int 0, .int 0, .int 0, .int 0, .int 0, .int 0]))) (h145 : am_is H 145 (.inr (9, [.ref 146, .int 0, .int 0, .int 0, .int 0, .int 0, .int 0, .int 0, .int 0, .int 0]))) (h147 : am_is H 147 (.inr (9, [.ref 148, .int 0, .int 0, .int 0, .int 0, .int 0, .int 0, .int 0, .int 0, .int 0]))) (h149 : am_is H 149 (.inr (9, [.ref 150, .int 0, .int 0, .int 0, .int 0, .int 0, .int 0, .int 0, .int 0, .int 0]))) (h151 : am_is H 151 (.inr (9, [.ref 152, .int 0, .int 0, .int 0, .int 0, .int 0, .int 0, .int 0, .int 0, .int 0]))) (h153 : am_is H 153 (.inr (9, [.ref 154, .int 0, .int 0, .int 0, .int 0, .int 0, .int 0, .int 0, .int 0, .int 0]))) (h155 : am_is H 155 (.inr (9, [.ref 156, .int 0, .int 0, .int 0, .int 0, .int 0, .int 0, .int 0, .int 0, .int 0]))) (c1 : ¬ x0 < 0) (c2 : ¬ 8 ≤ x0) (c3 : x0 = 1)  :
    am_E sL sx cs 98 0 [(0, .ref 0), (1, .int x0)] [] H (some (.null)) (fun H1 => (True) ∧ ∀ j : Nat, H1[j]? = H[j]?) := by
  refine ex_s (am_nb (m := 1) (pc1 := 1) (ls1 := [(0, .ref 0), (1, .int x0)]) (st1 := [.int x0]) (H1 := H) (k1 := 0) (n1 := 0) (by with_unfolding_all rfl)) ?_
  refine ex_s (st_if rfl) ?_
  refine ex_pc (if_neg c1) ?_
  refine ex_s (am_nb (m := 2) (pc1 := 7) (ls1 := [(0, .ref 0), (1, .int x0)]) (st1 := [.int 8, .int x0]) (H1 := H) (k1 := 0) (n1 := 0) (by with_unfolding_all rfl)) ?_
  refine ex_s (st_icmp rfl) ?_
  refine ex_pc (if_neg c2) ?_
  refine ex_s (am_nb (m := 1) (pc1 := 11) (ls1 := [(0, .ref 0), (1, .int x0)]) (st1 := [.ref 0]) (H1 := H) (k1 := 0) (n1 := 0) (by with_unfolding_all rfl)) ?_
  refine ex_s (st_get rfl h0 rfl) ?_
  refine ex_s (am_nb (m := 1) (pc1 := 15) (ls1 := [(0, .ref 0), (1, .int x0)]) (st1 := [.int x0, .ref 115]) (H1 := H) (k1 := 0) (n1 := 0) (by with_unfolding_all rfl)) ?_
  refine ex_s (st_aald rfl h115 (by rw [c3]; decide) rfl) ?_
  refine ex_s (am_nb (m := 0) (pc1 := 16) (ls1 := [(0, .ref 0), (1, .int x0)]) (st1 := [.ref 143]) (H1 := H) (k1 := 0) (n1 := 0) (by rw [c3]; with_unfolding_all rfl)) ?_
  refine ex_s (st_get rfl h143 rfl) ?_
  refine ex_s (am_nb (m := 2) (pc1 := 23) (ls1 := [(0, .ref 0), (1, .int x0)]) (st1 := [.null]) (H1 := H) (k1 := 0) (n1 := 0) (by with_unfolding_all rfl)) ?_
  exact ex_r (st_aret rfl rfl rfl rfl) ⟨trivial, fun j => rfl⟩

set_option maxRecDepth 100000 in
theorem fx_dress_1_4 {sL : Nat} {sx : Nat → Int32} {cs : Nat → Nat → Option Int32} {H : am_H} {v0_13 : Int32} {x0 : Int32} (h0 : am_is H 0 (.inr (11, [.ref 1, .int 0, .ref 2, .int 0, .ref 3, .ref 93, .ref 97, .ref 115, .ref 116, .ref 129, .ref 123, .ref 127, .ref 128, .int v0_13, .null, .int 0]))) (h115 : am_is H 115 (.inl ((.object "TerminalHouse$Window"), (8, .inr (.inr (.inr (.inr am_q115))))))) (h141 : am_is H 141 (.inr (9, [.ref 142, .int 0, .int 0, .int 0, .int 0, .int 0, .int 0, .int 0, .int 0, .int 0]))) (h143 : am_is H 143 (.inr (9, [.ref 144, .int 0, .int 0, .int 0, .int 0, .int 0, .int 0, .int 0, .int 0, .int 0]))) (h145 : am_is H 145 (.inr (9, [.ref 146, .int 0, .int 0, .int 0, .int 0, .int 0, .int 0, .int 0, .int 0, .int 0]))) (h147 : am_is H 147 (.inr (9, [.ref 148, .int 0, .int 0, .int 0, .int 0, .int 0, .int 0, .int 0, .int 0, .int 0]))) (h149 : am_is H 149 (.inr (9, [.ref 150, .int 0, .int 0, .int 0, .int 0, .int 0, .int 0, .int 0, .int 0, .int 0]))) (h151 : am_is H 151 (.inr (9, [.ref 152, .int 0, .int 0, .int 0, .int 0, .int 0, .int 0, .int 0, .int 0, .int 0]))) (h153 : am_is H 153 (.inr (9, [.ref 154, .int 0, .int 0, .int 0, .int 0, .int 0, .int 0, .int 0, .int 0, .int 0]))) (h155 : am_is H 155 (.inr (9, [.ref 156, .int 0, .int 0, .int 0, .int 0, .int 0, .int 0, .int 0, .int 0, .int 0]))) (c1 : ¬ x0 < 0) (c2 : ¬ 8 ≤ x0) (c3 : x0 = 2)  :
    am_E sL sx cs 98 0 [(0, .ref 0), (1, .int x0)] [] H (some (.null)) (fun H1 => (True) ∧ ∀ j : Nat, H1[j]? = H[j]?) := by
  refine ex_s (am_nb (m := 1) (pc1 := 1) (ls1 := [(0, .ref 0), (1, .int x0)]) (st1 := [.int x0]) (H1 := H) (k1 := 0) (n1 := 0) (by with_unfolding_all rfl)) ?_
  refine ex_s (st_if rfl) ?_
  refine ex_pc (if_neg c1) ?_
  refine ex_s (am_nb (m := 2) (pc1 := 7) (ls1 := [(0, .ref 0), (1, .int x0)]) (st1 := [.int 8, .int x0]) (H1 := H) (k1 := 0) (n1 := 0) (by with_unfolding_all rfl)) ?_
  refine ex_s (st_icmp rfl) ?_
  refine ex_pc (if_neg c2) ?_
  refine ex_s (am_nb (m := 1) (pc1 := 11) (ls1 := [(0, .ref 0), (1, .int x0)]) (st1 := [.ref 0]) (H1 := H) (k1 := 0) (n1 := 0) (by with_unfolding_all rfl)) ?_
  refine ex_s (st_get rfl h0 rfl) ?_
  refine ex_s (am_nb (m := 1) (pc1 := 15) (ls1 := [(0, .ref 0), (1, .int x0)]) (st1 := [.int x0, .ref 115]) (H1 := H) (k1 := 0) (n1 := 0) (by with_unfolding_all rfl)) ?_
  refine ex_s (st_aald rfl h115 (by rw [c3]; decide) rfl) ?_
  refine ex_s (am_nb (m := 0) (pc1 := 16) (ls1 := [(0, .ref 0), (1, .int x0)]) (st1 := [.ref 145]) (H1 := H) (k1 := 0) (n1 := 0) (by rw [c3]; with_unfolding_all rfl)) ?_
  refine ex_s (st_get rfl h145 rfl) ?_
  refine ex_s (am_nb (m := 2) (pc1 := 23) (ls1 := [(0, .ref 0), (1, .int x0)]) (st1 := [.null]) (H1 := H) (k1 := 0) (n1 := 0) (by with_unfolding_all rfl)) ?_
  exact ex_r (st_aret rfl rfl rfl rfl) ⟨trivial, fun j => rfl⟩

set_option maxRecDepth 100000 in
theorem fx_dress_1_5 {sL : Nat} {sx : Nat → Int32} {cs : Nat → Nat → Option Int32} {H : am_H} {v0_13 : Int32} {x0 : Int32} (h0 : am_is H 0 (.inr (11, [.ref 1, .int 0, .ref 2, .int 0, .ref 3, .ref 93, .ref 97, .ref 115, .ref 116, .ref 129, .ref 123, .ref 127, .ref 128, .int v0_13, .null, .int 0]))) (h115 : am_is H 115 (.inl ((.object "TerminalHouse$Window"), (8, .inr (.inr (.inr (.inr am_q115))))))) (h141 : am_is H 141 (.inr (9, [.ref 142, .int 0, .int 0, .int 0, .int 0, .int 0, .int 0, .int 0, .int 0, .int 0]))) (h143 : am_is H 143 (.inr (9, [.ref 144, .int 0, .int 0, .int 0, .int 0, .int 0, .int 0, .int 0, .int 0, .int 0]))) (h145 : am_is H 145 (.inr (9, [.ref 146, .int 0, .int 0, .int 0, .int 0, .int 0, .int 0, .int 0, .int 0, .int 0]))) (h147 : am_is H 147 (.inr (9, [.ref 148, .int 0, .int 0, .int 0, .int 0, .int 0, .int 0, .int 0, .int 0, .int 0]))) (h149 : am_is H 149 (.inr (9, [.ref 150, .int 0, .int 0, .int 0, .int 0, .int 0, .int 0, .int 0, .int 0, .int 0]))) (h151 : am_is H 151 (.inr (9, [.ref 152, .int 0, .int 0, .int 0, .int 0, .int 0, .int 0, .int 0, .int 0, .int 0]))) (h153 : am_is H 153 (.inr (9, [.ref 154, .int 0, .int 0, .int 0, .int 0, .int 0, .int 0, .int 0, .int 0, .int 0]))) (h155 : am_is H 155 (.inr (9, [.ref 156, .int 0, .int 0, .int 0, .int 0, .int 0, .int 0, .int 0, .int 0, .int 0]))) (c1 : ¬ x0 < 0) (c2 : ¬ 8 ≤ x0) (c3 : x0 = 3)  :
    am_E sL sx cs 98 0 [(0, .ref 0), (1, .int x0)] [] H (some (.null)) (fun H1 => (True) ∧ ∀ j : Nat, H1[j]? = H[j]?) := by
  refine ex_s (am_nb (m := 1) (pc1 := 1) (ls1 := [(0, .ref 0), (1, .int x0)]) (st1 := [.int x0]) (H1 := H) (k1 := 0) (n1 := 0) (by with_unfolding_all rfl)) ?_
  refine ex_s (st_if rfl) ?_
  refine ex_pc (if_neg c1) ?_
  refine ex_s (am_nb (m := 2) (pc1 := 7) (ls1 := [(0, .ref 0), (1, .int x0)]) (st1 := [.int 8, .int x0]) (H1 := H) (k1 := 0) (n1 := 0) (by with_unfolding_all rfl)) ?_
  refine ex_s (st_icmp rfl) ?_
  refine ex_pc (if_neg c2) ?_
  refine ex_s (am_nb (m := 1) (pc1 := 11) (ls1 := [(0, .ref 0), (1, .int x0)]) (st1 := [.ref 0]) (H1 := H) (k1 := 0) (n1 := 0) (by with_unfolding_all rfl)) ?_
  refine ex_s (st_get rfl h0 rfl) ?_
  refine ex_s (am_nb (m := 1) (pc1 := 15) (ls1 := [(0, .ref 0), (1, .int x0)]) (st1 := [.int x0, .ref 115]) (H1 := H) (k1 := 0) (n1 := 0) (by with_unfolding_all rfl)) ?_
  refine ex_s (st_aald rfl h115 (by rw [c3]; decide) rfl) ?_
  refine ex_s (am_nb (m := 0) (pc1 := 16) (ls1 := [(0, .ref 0), (1, .int x0)]) (st1 := [.ref 147]) (H1 := H) (k1 := 0) (n1 := 0) (by rw [c3]; with_unfolding_all rfl)) ?_
  refine ex_s (st_get rfl h147 rfl) ?_
  refine ex_s (am_nb (m := 2) (pc1 := 23) (ls1 := [(0, .ref 0), (1, .int x0)]) (st1 := [.null]) (H1 := H) (k1 := 0) (n1 := 0) (by with_unfolding_all rfl)) ?_
  exact ex_r (st_aret rfl rfl rfl rfl) ⟨trivial, fun j => rfl⟩

set_option maxRecDepth 100000 in
theorem fx_dress_1_6 {sL : Nat} {sx : Nat → Int32} {cs : Nat → Nat → Option Int32} {H : am_H} {v0_13 : Int32} {x0 : Int32} (h0 : am_is H 0 (.inr (11, [.ref 1, .int 0, .ref 2, .int 0, .ref 3, .ref 93, .ref 97, .ref 115, .ref 116, .ref 129, .ref 123, .ref 127, .ref 128, .int v0_13, .null, .int 0]))) (h115 : am_is H 115 (.inl ((.object "TerminalHouse$Window"), (8, .inr (.inr (.inr (.inr am_q115))))))) (h141 : am_is H 141 (.inr (9, [.ref 142, .int 0, .int 0, .int 0, .int 0, .int 0, .int 0, .int 0, .int 0, .int 0]))) (h143 : am_is H 143 (.inr (9, [.ref 144, .int 0, .int 0, .int 0, .int 0, .int 0, .int 0, .int 0, .int 0, .int 0]))) (h145 : am_is H 145 (.inr (9, [.ref 146, .int 0, .int 0, .int 0, .int 0, .int 0, .int 0, .int 0, .int 0, .int 0]))) (h147 : am_is H 147 (.inr (9, [.ref 148, .int 0, .int 0, .int 0, .int 0, .int 0, .int 0, .int 0, .int 0, .int 0]))) (h149 : am_is H 149 (.inr (9, [.ref 150, .int 0, .int 0, .int 0, .int 0, .int 0, .int 0, .int 0, .int 0, .int 0]))) (h151 : am_is H 151 (.inr (9, [.ref 152, .int 0, .int 0, .int 0, .int 0, .int 0, .int 0, .int 0, .int 0, .int 0]))) (h153 : am_is H 153 (.inr (9, [.ref 154, .int 0, .int 0, .int 0, .int 0, .int 0, .int 0, .int 0, .int 0, .int 0]))) (h155 : am_is H 155 (.inr (9, [.ref 156, .int 0, .int 0, .int 0, .int 0, .int 0, .int 0, .int 0, .int 0, .int 0]))) (c1 : ¬ x0 < 0) (c2 : ¬ 8 ≤ x0) (c3 : x0 = 4)  :
    am_E sL sx cs 98 0 [(0, .ref 0), (1, .int x0)] [] H (some (.null)) (fun H1 => (True) ∧ ∀ j : Nat, H1[j]? = H[j]?) := by
  refine ex_s (am_nb (m := 1) (pc1 := 1) (ls1 := [(0, .ref 0), (1, .int x0)]) (st1 := [.int x0]) (H1 := H) (k1 := 0) (n1 := 0) (by with_unfolding_all rfl)) ?_
  refine ex_s (st_if rfl) ?_
  refine ex_pc (if_neg c1) ?_
  refine ex_s (am_nb (m := 2) (pc1 := 7) (ls1 := [(0, .ref 0), (1, .int x0)]) (st1 := [.int 8, .int x0]) (H1 := H) (k1 := 0) (n1 := 0) (by with_unfolding_all rfl)) ?_
  refine ex_s (st_icmp rfl) ?_
  refine ex_pc (if_neg c2) ?_
  refine ex_s (am_nb (m := 1) (pc1 := 11) (ls1 := [(0, .ref 0), (1, .int x0)]) (st1 := [.ref 0]) (H1 := H) (k1 := 0) (n1 := 0) (by with_unfolding_all rfl)) ?_
  refine ex_s (st_get rfl h0 rfl) ?_
  refine ex_s (am_nb (m := 1) (pc1 := 15) (ls1 := [(0, .ref 0), (1, .int x0)]) (st1 := [.int x0, .ref 115]) (H1 := H) (k1 := 0) (n1 := 0) (by with_unfolding_all rfl)) ?_
  refine ex_s (st_aald rfl h115 (by rw [c3]; decide) rfl) ?_
  refine ex_s (am_nb (m := 0) (pc1 := 16) (ls1 := [(0, .ref 0), (1, .int x0)]) (st1 := [.ref 149]) (H1 := H) (k1 := 0) (n1 := 0) (by rw [c3]; with_unfolding_all rfl)) ?_
  refine ex_s (st_get rfl h149 rfl) ?_
  refine ex_s (am_nb (m := 2) (pc1 := 23) (ls1 := [(0, .ref 0), (1, .int x0)]) (st1 := [.null]) (H1 := H) (k1 := 0) (n1 := 0) (by with_unfolding_all rfl)) ?_
  exact ex_r (st_aret rfl rfl rfl rfl) ⟨trivial, fun j => rfl⟩

set_option maxRecDepth 100000 in
theorem fx_dress_1_7 {sL : Nat} {sx : Nat → Int32} {cs : Nat → Nat → Option Int32} {H : am_H} {v0_13 : Int32} {x0 : Int32} (h0 : am_is H 0 (.inr (11, [.ref 1, .int 0, .ref 2, .int 0, .ref 3, .ref 93, .ref 97, .ref 115, .ref 116, .ref 129, .ref 123, .ref 127, .ref 128, .int v0_13, .null, .int 0]))) (h115 : am_is H 115 (.inl ((.object "TerminalHouse$Window"), (8, .inr (.inr (.inr (.inr am_q115))))))) (h141 : am_is H 141 (.inr (9, [.ref 142, .int 0, .int 0, .int 0, .int 0, .int 0, .int 0, .int 0, .int 0, .int 0]))) (h143 : am_is H 143 (.inr (9, [.ref 144, .int 0, .int 0, .int 0, .int 0, .int 0, .int 0, .int 0, .int 0, .int 0]))) (h145 : am_is H 145 (.inr (9, [.ref 146, .int 0, .int 0, .int 0, .int 0, .int 0, .int 0, .int 0, .int 0, .int 0]))) (h147 : am_is H 147 (.inr (9, [.ref 148, .int 0, .int 0, .int 0, .int 0, .int 0, .int 0, .int 0, .int 0, .int 0]))) (h149 : am_is H 149 (.inr (9, [.ref 150, .int 0, .int 0, .int 0, .int 0, .int 0, .int 0, .int 0, .int 0, .int 0]))) (h151 : am_is H 151 (.inr (9, [.ref 152, .int 0, .int 0, .int 0, .int 0, .int 0, .int 0, .int 0, .int 0, .int 0]))) (h153 : am_is H 153 (.inr (9, [.ref 154, .int 0, .int 0, .int 0, .int 0, .int 0, .int 0, .int 0, .int 0, .int 0]))) (h155 : am_is H 155 (.inr (9, [.ref 156, .int 0, .int 0, .int 0, .int 0, .int 0, .int 0, .int 0, .int 0, .int 0]))) (c1 : ¬ x0 < 0) (c2 : ¬ 8 ≤ x0) (c3 : x0 = 5)  :
    am_E sL sx cs 98 0 [(0, .ref 0), (1, .int x0)] [] H (some (.null)) (fun H1 => (True) ∧ ∀ j : Nat, H1[j]? = H[j]?) := by
  refine ex_s (am_nb (m := 1) (pc1 := 1) (ls1 := [(0, .ref 0), (1, .int x0)]) (st1 := [.int x0]) (H1 := H) (k1 := 0) (n1 := 0) (by with_unfolding_all rfl)) ?_
  refine ex_s (st_if rfl) ?_
  refine ex_pc (if_neg c1) ?_
  refine ex_s (am_nb (m := 2) (pc1 := 7) (ls1 := [(0, .ref 0), (1, .int x0)]) (st1 := [.int 8, .int x0]) (H1 := H) (k1 := 0) (n1 := 0) (by with_unfolding_all rfl)) ?_
  refine ex_s (st_icmp rfl) ?_
  refine ex_pc (if_neg c2) ?_
  refine ex_s (am_nb (m := 1) (pc1 := 11) (ls1 := [(0, .ref 0), (1, .int x0)]) (st1 := [.ref 0]) (H1 := H) (k1 := 0) (n1 := 0) (by with_unfolding_all rfl)) ?_
  refine ex_s (st_get rfl h0 rfl) ?_
  refine ex_s (am_nb (m := 1) (pc1 := 15) (ls1 := [(0, .ref 0), (1, .int x0)]) (st1 := [.int x0, .ref 115]) (H1 := H) (k1 := 0) (n1 := 0) (by with_unfolding_all rfl)) ?_
  refine ex_s (st_aald rfl h115 (by rw [c3]; decide) rfl) ?_
  refine ex_s (am_nb (m := 0) (pc1 := 16) (ls1 := [(0, .ref 0), (1, .int x0)]) (st1 := [.ref 151]) (H1 := H) (k1 := 0) (n1 := 0) (by rw [c3]; with_unfolding_all rfl)) ?_
  refine ex_s (st_get rfl h151 rfl) ?_
  refine ex_s (am_nb (m := 2) (pc1 := 23) (ls1 := [(0, .ref 0), (1, .int x0)]) (st1 := [.null]) (H1 := H) (k1 := 0) (n1 := 0) (by with_unfolding_all rfl)) ?_
  exact ex_r (st_aret rfl rfl rfl rfl) ⟨trivial, fun j => rfl⟩

set_option maxRecDepth 100000 in
theorem fx_dress_1_8 {sL : Nat} {sx : Nat → Int32} {cs : Nat → Nat → Option Int32} {H : am_H} {v0_13 : Int32} {x0 : Int32} (h0 : am_is H 0 (.inr (11, [.ref 1, .int 0, .ref 2, .int 0, .ref 3, .ref 93, .ref 97, .ref 115, .ref 116, .ref 129, .ref 123, .ref 127, .ref 128, .int v0_13, .null, .int 0]))) (h115 : am_is H 115 (.inl ((.object "TerminalHouse$Window"), (8, .inr (.inr (.inr (.inr am_q115))))))) (h141 : am_is H 141 (.inr (9, [.ref 142, .int 0, .int 0, .int 0, .int 0, .int 0, .int 0, .int 0, .int 0, .int 0]))) (h143 : am_is H 143 (.inr (9, [.ref 144, .int 0, .int 0, .int 0, .int 0, .int 0, .int 0, .int 0, .int 0, .int 0]))) (h145 : am_is H 145 (.inr (9, [.ref 146, .int 0, .int 0, .int 0, .int 0, .int 0, .int 0, .int 0, .int 0, .int 0]))) (h147 : am_is H 147 (.inr (9, [.ref 148, .int 0, .int 0, .int 0, .int 0, .int 0, .int 0, .int 0, .int 0, .int 0]))) (h149 : am_is H 149 (.inr (9, [.ref 150, .int 0, .int 0, .int 0, .int 0, .int 0, .int 0, .int 0, .int 0, .int 0]))) (h151 : am_is H 151 (.inr (9, [.ref 152, .int 0, .int 0, .int 0, .int 0, .int 0, .int 0, .int 0, .int 0, .int 0]))) (h153 : am_is H 153 (.inr (9, [.ref 154, .int 0, .int 0, .int 0, .int 0, .int 0, .int 0, .int 0, .int 0, .int 0]))) (h155 : am_is H 155 (.inr (9, [.ref 156, .int 0, .int 0, .int 0, .int 0, .int 0, .int 0, .int 0, .int 0, .int 0]))) (c1 : ¬ x0 < 0) (c2 : ¬ 8 ≤ x0) (c3 : x0 = 6)  :
    am_E sL sx cs 98 0 [(0, .ref 0), (1, .int x0)] [] H (some (.null)) (fun H1 => (True) ∧ ∀ j : Nat, H1[j]? = H[j]?) := by
  refine ex_s (am_nb (m := 1) (pc1 := 1) (ls1 := [(0, .ref 0), (1, .int x0)]) (st1 := [.int x0]) (H1 := H) (k1 := 0) (n1 := 0) (by with_unfolding_all rfl)) ?_
  refine ex_s (st_if rfl) ?_
  refine ex_pc (if_neg c1) ?_
  refine ex_s (am_nb (m := 2) (pc1 := 7) (ls1 := [(0, .ref 0), (1, .int x0)]) (st1 := [.int 8, .int x0]) (H1 := H) (k1 := 0) (n1 := 0) (by with_unfolding_all rfl)) ?_
  refine ex_s (st_icmp rfl) ?_
  refine ex_pc (if_neg c2) ?_
  refine ex_s (am_nb (m := 1) (pc1 := 11) (ls1 := [(0, .ref 0), (1, .int x0)]) (st1 := [.ref 0]) (H1 := H) (k1 := 0) (n1 := 0) (by with_unfolding_all rfl)) ?_
  refine ex_s (st_get rfl h0 rfl) ?_
  refine ex_s (am_nb (m := 1) (pc1 := 15) (ls1 := [(0, .ref 0), (1, .int x0)]) (st1 := [.int x0, .ref 115]) (H1 := H) (k1 := 0) (n1 := 0) (by with_unfolding_all rfl)) ?_
  refine ex_s (st_aald rfl h115 (by rw [c3]; decide) rfl) ?_
  refine ex_s (am_nb (m := 0) (pc1 := 16) (ls1 := [(0, .ref 0), (1, .int x0)]) (st1 := [.ref 153]) (H1 := H) (k1 := 0) (n1 := 0) (by rw [c3]; with_unfolding_all rfl)) ?_
  refine ex_s (st_get rfl h153 rfl) ?_
  refine ex_s (am_nb (m := 2) (pc1 := 23) (ls1 := [(0, .ref 0), (1, .int x0)]) (st1 := [.null]) (H1 := H) (k1 := 0) (n1 := 0) (by with_unfolding_all rfl)) ?_
  exact ex_r (st_aret rfl rfl rfl rfl) ⟨trivial, fun j => rfl⟩

set_option maxRecDepth 100000 in
theorem fx_dress_1_9 {sL : Nat} {sx : Nat → Int32} {cs : Nat → Nat → Option Int32} {H : am_H} {v0_13 : Int32} {x0 : Int32} (h0 : am_is H 0 (.inr (11, [.ref 1, .int 0, .ref 2, .int 0, .ref 3, .ref 93, .ref 97, .ref 115, .ref 116, .ref 129, .ref 123, .ref 127, .ref 128, .int v0_13, .null, .int 0]))) (h115 : am_is H 115 (.inl ((.object "TerminalHouse$Window"), (8, .inr (.inr (.inr (.inr am_q115))))))) (h141 : am_is H 141 (.inr (9, [.ref 142, .int 0, .int 0, .int 0, .int 0, .int 0, .int 0, .int 0, .int 0, .int 0]))) (h143 : am_is H 143 (.inr (9, [.ref 144, .int 0, .int 0, .int 0, .int 0, .int 0, .int 0, .int 0, .int 0, .int 0]))) (h145 : am_is H 145 (.inr (9, [.ref 146, .int 0, .int 0, .int 0, .int 0, .int 0, .int 0, .int 0, .int 0, .int 0]))) (h147 : am_is H 147 (.inr (9, [.ref 148, .int 0, .int 0, .int 0, .int 0, .int 0, .int 0, .int 0, .int 0, .int 0]))) (h149 : am_is H 149 (.inr (9, [.ref 150, .int 0, .int 0, .int 0, .int 0, .int 0, .int 0, .int 0, .int 0, .int 0]))) (h151 : am_is H 151 (.inr (9, [.ref 152, .int 0, .int 0, .int 0, .int 0, .int 0, .int 0, .int 0, .int 0, .int 0]))) (h153 : am_is H 153 (.inr (9, [.ref 154, .int 0, .int 0, .int 0, .int 0, .int 0, .int 0, .int 0, .int 0, .int 0]))) (h155 : am_is H 155 (.inr (9, [.ref 156, .int 0, .int 0, .int 0, .int 0, .int 0, .int 0, .int 0, .int 0, .int 0]))) (c1 : ¬ x0 < 0) (c2 : ¬ 8 ≤ x0) (c3 : x0 = 7)  :
    am_E sL sx cs 98 0 [(0, .ref 0), (1, .int x0)] [] H (some (.null)) (fun H1 => (True) ∧ ∀ j : Nat, H1[j]? = H[j]?) := by
  refine ex_s (am_nb (m := 1) (pc1 := 1) (ls1 := [(0, .ref 0), (1, .int x0)]) (st1 := [.int x0]) (H1 := H) (k1 := 0) (n1 := 0) (by with_unfolding_all rfl)) ?_
  refine ex_s (st_if rfl) ?_
  refine ex_pc (if_neg c1) ?_
  refine ex_s (am_nb (m := 2) (pc1 := 7) (ls1 := [(0, .ref 0), (1, .int x0)]) (st1 := [.int 8, .int x0]) (H1 := H) (k1 := 0) (n1 := 0) (by with_unfolding_all rfl)) ?_
  refine ex_s (st_icmp rfl) ?_
  refine ex_pc (if_neg c2) ?_
  refine ex_s (am_nb (m := 1) (pc1 := 11) (ls1 := [(0, .ref 0), (1, .int x0)]) (st1 := [.ref 0]) (H1 := H) (k1 := 0) (n1 := 0) (by with_unfolding_all rfl)) ?_
  refine ex_s (st_get rfl h0 rfl) ?_
  refine ex_s (am_nb (m := 1) (pc1 := 15) (ls1 := [(0, .ref 0), (1, .int x0)]) (st1 := [.int x0, .ref 115]) (H1 := H) (k1 := 0) (n1 := 0) (by with_unfolding_all rfl)) ?_
  refine ex_s (st_aald rfl h115 (by rw [c3]; decide) rfl) ?_
  refine ex_s (am_nb (m := 0) (pc1 := 16) (ls1 := [(0, .ref 0), (1, .int x0)]) (st1 := [.ref 155]) (H1 := H) (k1 := 0) (n1 := 0) (by rw [c3]; with_unfolding_all rfl)) ?_
  refine ex_s (st_get rfl h155 rfl) ?_
  refine ex_s (am_nb (m := 2) (pc1 := 23) (ls1 := [(0, .ref 0), (1, .int x0)]) (st1 := [.null]) (H1 := H) (k1 := 0) (n1 := 0) (by with_unfolding_all rfl)) ?_
  exact ex_r (st_aret rfl rfl rfl rfl) ⟨trivial, fun j => rfl⟩

set_option maxRecDepth 100000 in
theorem fx_dress_0 {sL : Nat} {sx : Nat → Int32} {cs : Nat → Nat → Option Int32} {H : am_H} {v0_13 : Int32} {x0 : Int32} {x1 : Int32} (h0 : am_is H 0 (.inr (11, [.ref 1, .int 0, .ref 2, .int 0, .ref 3, .ref 93, .ref 97, .ref 115, .ref 116, .ref 129, .ref 123, .ref 127, .ref 128, .int v0_13, .null, .int 0]))) (h115 : am_is H 115 (.inl ((.object "TerminalHouse$Window"), (8, .inr (.inr (.inr (.inr am_q115))))))) (h141 : am_is H 141 (.inr (9, [.ref 142, .int 0, .int 0, .int 0, .int 0, .int 0, .int 0, .int 0, .int 0, .int 0]))) (h143 : am_is H 143 (.inr (9, [.ref 144, .int 0, .int 0, .int 0, .int 0, .int 0, .int 0, .int 0, .int 0, .int 0]))) (h145 : am_is H 145 (.inr (9, [.ref 146, .int 0, .int 0, .int 0, .int 0, .int 0, .int 0, .int 0, .int 0, .int 0]))) (h147 : am_is H 147 (.inr (9, [.ref 148, .int 0, .int 0, .int 0, .int 0, .int 0, .int 0, .int 0, .int 0, .int 0]))) (h149 : am_is H 149 (.inr (9, [.ref 150, .int 0, .int 0, .int 0, .int 0, .int 0, .int 0, .int 0, .int 0, .int 0]))) (h151 : am_is H 151 (.inr (9, [.ref 152, .int 0, .int 0, .int 0, .int 0, .int 0, .int 0, .int 0, .int 0, .int 0]))) (h153 : am_is H 153 (.inr (9, [.ref 154, .int 0, .int 0, .int 0, .int 0, .int 0, .int 0, .int 0, .int 0, .int 0]))) (h155 : am_is H 155 (.inr (9, [.ref 156, .int 0, .int 0, .int 0, .int 0, .int 0, .int 0, .int 0, .int 0, .int 0]))) (c1 : x0 < 0)  :
    am_E sL sx cs 101 0 [(0, .ref 0), (1, .int x0), (2, .int x1)] [] H (some (.int 0)) (fun H1 => (True) ∧ ∀ j : Nat, H1[j]? = H[j]?) := by
  refine ex_s (am_nb (m := 2) (pc1 := 2) (ls1 := [(0, .ref 0), (1, .int x0), (2, .int x1)]) (st1 := [.int x0, .ref 0]) (H1 := H) (k1 := 0) (n1 := 0) (by with_unfolding_all rfl)) ?_
  refine ex_cv1 (as := [.int x0]) (rest := []) rfl rfl rfl rfl h0 rfl (by with_unfolding_all rfl) (by with_unfolding_all rfl) (fx_dress_1_0 h0 h115 h141 h143 h145 h147 h149 h151 h153 h155 c1) ?_
  rintro H97 ⟨-, k97⟩
  refine ex_s (am_nb (m := 4) (pc1 := 21) (ls1 := [(3, .null), (0, .ref 0), (1, .int x0), (2, .int x1)]) (st1 := [.int 0]) (H1 := H97) (k1 := 0) (n1 := 0) (by with_unfolding_all rfl)) ?_
  exact ex_r (st_iret rfl rfl rfl) ⟨trivial, fun j => (k97 j)⟩

set_option maxRecDepth 100000 in
theorem fx_dress_1 {sL : Nat} {sx : Nat → Int32} {cs : Nat → Nat → Option Int32} {H : am_H} {v0_13 : Int32} {x0 : Int32} {x1 : Int32} (h0 : am_is H 0 (.inr (11, [.ref 1, .int 0, .ref 2, .int 0, .ref 3, .ref 93, .ref 97, .ref 115, .ref 116, .ref 129, .ref 123, .ref 127, .ref 128, .int v0_13, .null, .int 0]))) (h115 : am_is H 115 (.inl ((.object "TerminalHouse$Window"), (8, .inr (.inr (.inr (.inr am_q115))))))) (h141 : am_is H 141 (.inr (9, [.ref 142, .int 0, .int 0, .int 0, .int 0, .int 0, .int 0, .int 0, .int 0, .int 0]))) (h143 : am_is H 143 (.inr (9, [.ref 144, .int 0, .int 0, .int 0, .int 0, .int 0, .int 0, .int 0, .int 0, .int 0]))) (h145 : am_is H 145 (.inr (9, [.ref 146, .int 0, .int 0, .int 0, .int 0, .int 0, .int 0, .int 0, .int 0, .int 0]))) (h147 : am_is H 147 (.inr (9, [.ref 148, .int 0, .int 0, .int 0, .int 0, .int 0, .int 0, .int 0, .int 0, .int 0]))) (h149 : am_is H 149 (.inr (9, [.ref 150, .int 0, .int 0, .int 0, .int 0, .int 0, .int 0, .int 0, .int 0, .int 0]))) (h151 : am_is H 151 (.inr (9, [.ref 152, .int 0, .int 0, .int 0, .int 0, .int 0, .int 0, .int 0, .int 0, .int 0]))) (h153 : am_is H 153 (.inr (9, [.ref 154, .int 0, .int 0, .int 0, .int 0, .int 0, .int 0, .int 0, .int 0, .int 0]))) (h155 : am_is H 155 (.inr (9, [.ref 156, .int 0, .int 0, .int 0, .int 0, .int 0, .int 0, .int 0, .int 0, .int 0]))) (c1 : ¬ x0 < 0) (c2 : 8 ≤ x0)  :
    am_E sL sx cs 101 0 [(0, .ref 0), (1, .int x0), (2, .int x1)] [] H (some (.int 0)) (fun H1 => (True) ∧ ∀ j : Nat, H1[j]? = H[j]?) := by
  refine ex_s (am_nb (m := 2) (pc1 := 2) (ls1 := [(0, .ref 0), (1, .int x0), (2, .int x1)]) (st1 := [.int x0, .ref 0]) (H1 := H) (k1 := 0) (n1 := 0) (by with_unfolding_all rfl)) ?_
  refine ex_cv1 (as := [.int x0]) (rest := []) rfl rfl rfl rfl h0 rfl (by with_unfolding_all rfl) (by with_unfolding_all rfl) (fx_dress_1_1 h0 h115 h141 h143 h145 h147 h149 h151 h153 h155 c1 c2) ?_
  rintro H98 ⟨-, k98⟩
  refine ex_s (am_nb (m := 4) (pc1 := 21) (ls1 := [(3, .null), (0, .ref 0), (1, .int x0), (2, .int x1)]) (st1 := [.int 0]) (H1 := H98) (k1 := 0) (n1 := 0) (by with_unfolding_all rfl)) ?_
  exact ex_r (st_iret rfl rfl rfl) ⟨trivial, fun j => (k98 j)⟩

set_option maxRecDepth 100000 in
theorem fx_dress_2 {sL : Nat} {sx : Nat → Int32} {cs : Nat → Nat → Option Int32} {H : am_H} {v0_13 : Int32} {x0 : Int32} {x1 : Int32} (h0 : am_is H 0 (.inr (11, [.ref 1, .int 0, .ref 2, .int 0, .ref 3, .ref 93, .ref 97, .ref 115, .ref 116, .ref 129, .ref 123, .ref 127, .ref 128, .int v0_13, .null, .int 0]))) (h115 : am_is H 115 (.inl ((.object "TerminalHouse$Window"), (8, .inr (.inr (.inr (.inr am_q115))))))) (h141 : am_is H 141 (.inr (9, [.ref 142, .int 0, .int 0, .int 0, .int 0, .int 0, .int 0, .int 0, .int 0, .int 0]))) (h143 : am_is H 143 (.inr (9, [.ref 144, .int 0, .int 0, .int 0, .int 0, .int 0, .int 0, .int 0, .int 0, .int 0]))) (h145 : am_is H 145 (.inr (9, [.ref 146, .int 0, .int 0, .int 0, .int 0, .int 0, .int 0, .int 0, .int 0, .int 0]))) (h147 : am_is H 147 (.inr (9, [.ref 148, .int 0, .int 0, .int 0, .int 0, .int 0, .int 0, .int 0, .int 0, .int 0]))) (h149 : am_is H 149 (.inr (9, [.ref 150, .int 0, .int 0, .int 0, .int 0, .int 0, .int 0, .int 0, .int 0, .int 0]))) (h151 : am_is H 151 (.inr (9, [.ref 152, .int 0, .int 0, .int 0, .int 0, .int 0, .int 0, .int 0, .int 0, .int 0]))) (h153 : am_is H 153 (.inr (9, [.ref 154, .int 0, .int 0, .int 0, .int 0, .int 0, .int 0, .int 0, .int 0, .int 0]))) (h155 : am_is H 155 (.inr (9, [.ref 156, .int 0, .int 0, .int 0, .int 0, .int 0, .int 0, .int 0, .int 0, .int 0]))) (c1 : ¬ x0 < 0) (c2 : ¬ 8 ≤ x0) (c3 : x0 = 0)  :
    am_E sL sx cs 101 0 [(0, .ref 0), (1, .int x0), (2, .int x1)] [] H (some (.int 0)) (fun H1 => (True) ∧ ∀ j : Nat, H1[j]? = H[j]?) := by
  refine ex_s (am_nb (m := 2) (pc1 := 2) (ls1 := [(0, .ref 0), (1, .int x0), (2, .int x1)]) (st1 := [.int x0, .ref 0]) (H1 := H) (k1 := 0) (n1 := 0) (by with_unfolding_all rfl)) ?_
  refine ex_cv1 (as := [.int x0]) (rest := []) rfl rfl rfl rfl h0 rfl (by with_unfolding_all rfl) (by with_unfolding_all rfl) (fx_dress_1_2 h0 h115 h141 h143 h145 h147 h149 h151 h153 h155 c1 c2 c3) ?_
  rintro H99 ⟨-, k99⟩
  refine ex_s (am_nb (m := 4) (pc1 := 21) (ls1 := [(3, .null), (0, .ref 0), (1, .int x0), (2, .int x1)]) (st1 := [.int 0]) (H1 := H99) (k1 := 0) (n1 := 0) (by with_unfolding_all rfl)) ?_
  exact ex_r (st_iret rfl rfl rfl) ⟨trivial, fun j => (k99 j)⟩

set_option maxRecDepth 100000 in
theorem fx_dress_3 {sL : Nat} {sx : Nat → Int32} {cs : Nat → Nat → Option Int32} {H : am_H} {v0_13 : Int32} {x0 : Int32} {x1 : Int32} (h0 : am_is H 0 (.inr (11, [.ref 1, .int 0, .ref 2, .int 0, .ref 3, .ref 93, .ref 97, .ref 115, .ref 116, .ref 129, .ref 123, .ref 127, .ref 128, .int v0_13, .null, .int 0]))) (h115 : am_is H 115 (.inl ((.object "TerminalHouse$Window"), (8, .inr (.inr (.inr (.inr am_q115))))))) (h141 : am_is H 141 (.inr (9, [.ref 142, .int 0, .int 0, .int 0, .int 0, .int 0, .int 0, .int 0, .int 0, .int 0]))) (h143 : am_is H 143 (.inr (9, [.ref 144, .int 0, .int 0, .int 0, .int 0, .int 0, .int 0, .int 0, .int 0, .int 0]))) (h145 : am_is H 145 (.inr (9, [.ref 146, .int 0, .int 0, .int 0, .int 0, .int 0, .int 0, .int 0, .int 0, .int 0]))) (h147 : am_is H 147 (.inr (9, [.ref 148, .int 0, .int 0, .int 0, .int 0, .int 0, .int 0, .int 0, .int 0, .int 0]))) (h149 : am_is H 149 (.inr (9, [.ref 150, .int 0, .int 0, .int 0, .int 0, .int 0, .int 0, .int 0, .int 0, .int 0]))) (h151 : am_is H 151 (.inr (9, [.ref 152, .int 0, .int 0, .int 0, .int 0, .int 0, .int 0, .int 0, .int 0, .int 0]))) (h153 : am_is H 153 (.inr (9, [.ref 154, .int 0, .int 0, .int 0, .int 0, .int 0, .int 0, .int 0, .int 0, .int 0]))) (h155 : am_is H 155 (.inr (9, [.ref 156, .int 0, .int 0, .int 0, .int 0, .int 0, .int 0, .int 0, .int 0, .int 0]))) (c1 : ¬ x0 < 0) (c2 : ¬ 8 ≤ x0) (c3 : x0 = 1)  :
    am_E sL sx cs 101 0 [(0, .ref 0), (1, .int x0), (2, .int x1)] [] H (some (.int 0)) (fun H1 => (True) ∧ ∀ j : Nat, H1[j]? = H[j]?) := by
  refine ex_s (am_nb (m := 2) (pc1 := 2) (ls1 := [(0, .ref 0), (1, .int x0), (2, .int x1)]) (st1 := [.int x0, .ref 0]) (H1 := H) (k1 := 0) (n1 := 0) (by with_unfolding_all rfl)) ?_
  refine ex_cv1 (as := [.int x0]) (rest := []) rfl rfl rfl rfl h0 rfl (by with_unfolding_all rfl) (by with_unfolding_all rfl) (fx_dress_1_3 h0 h115 h141 h143 h145 h147 h149 h151 h153 h155 c1 c2 c3) ?_
  rintro H100 ⟨-, k100⟩
  refine ex_s (am_nb (m := 4) (pc1 := 21) (ls1 := [(3, .null), (0, .ref 0), (1, .int x0), (2, .int x1)]) (st1 := [.int 0]) (H1 := H100) (k1 := 0) (n1 := 0) (by with_unfolding_all rfl)) ?_
  exact ex_r (st_iret rfl rfl rfl) ⟨trivial, fun j => (k100 j)⟩

set_option maxRecDepth 100000 in
theorem fx_dress_4 {sL : Nat} {sx : Nat → Int32} {cs : Nat → Nat → Option Int32} {H : am_H} {v0_13 : Int32} {x0 : Int32} {x1 : Int32} (h0 : am_is H 0 (.inr (11, [.ref 1, .int 0, .ref 2, .int 0, .ref 3, .ref 93, .ref 97, .ref 115, .ref 116, .ref 129, .ref 123, .ref 127, .ref 128, .int v0_13, .null, .int 0]))) (h115 : am_is H 115 (.inl ((.object "TerminalHouse$Window"), (8, .inr (.inr (.inr (.inr am_q115))))))) (h141 : am_is H 141 (.inr (9, [.ref 142, .int 0, .int 0, .int 0, .int 0, .int 0, .int 0, .int 0, .int 0, .int 0]))) (h143 : am_is H 143 (.inr (9, [.ref 144, .int 0, .int 0, .int 0, .int 0, .int 0, .int 0, .int 0, .int 0, .int 0]))) (h145 : am_is H 145 (.inr (9, [.ref 146, .int 0, .int 0, .int 0, .int 0, .int 0, .int 0, .int 0, .int 0, .int 0]))) (h147 : am_is H 147 (.inr (9, [.ref 148, .int 0, .int 0, .int 0, .int 0, .int 0, .int 0, .int 0, .int 0, .int 0]))) (h149 : am_is H 149 (.inr (9, [.ref 150, .int 0, .int 0, .int 0, .int 0, .int 0, .int 0, .int 0, .int 0, .int 0]))) (h151 : am_is H 151 (.inr (9, [.ref 152, .int 0, .int 0, .int 0, .int 0, .int 0, .int 0, .int 0, .int 0, .int 0]))) (h153 : am_is H 153 (.inr (9, [.ref 154, .int 0, .int 0, .int 0, .int 0, .int 0, .int 0, .int 0, .int 0, .int 0]))) (h155 : am_is H 155 (.inr (9, [.ref 156, .int 0, .int 0, .int 0, .int 0, .int 0, .int 0, .int 0, .int 0, .int 0]))) (c1 : ¬ x0 < 0) (c2 : ¬ 8 ≤ x0) (c3 : x0 = 2)  :
    am_E sL sx cs 101 0 [(0, .ref 0), (1, .int x0), (2, .int x1)] [] H (some (.int 0)) (fun H1 => (True) ∧ ∀ j : Nat, H1[j]? = H[j]?) := by
  refine ex_s (am_nb (m := 2) (pc1 := 2) (ls1 := [(0, .ref 0), (1, .int x0), (2, .int x1)]) (st1 := [.int x0, .ref 0]) (H1 := H) (k1 := 0) (n1 := 0) (by with_unfolding_all rfl)) ?_
  refine ex_cv1 (as := [.int x0]) (rest := []) rfl rfl rfl rfl h0 rfl (by with_unfolding_all rfl) (by with_unfolding_all rfl) (fx_dress_1_4 h0 h115 h141 h143 h145 h147 h149 h151 h153 h155 c1 c2 c3) ?_
  rintro H101 ⟨-, k101⟩
  refine ex_s (am_nb (m := 4) (pc1 := 21) (ls1 := [(3, .null), (0, .ref 0), (1, .int x0), (2, .int x1)]) (st1 := [.int 0]) (H1 := H101) (k1 := 0) (n1 := 0) (by with_unfolding_all rfl)) ?_
  exact ex_r (st_iret rfl rfl rfl) ⟨trivial, fun j => (k101 j)⟩

set_option maxRecDepth 100000 in
theorem fx_dress_5 {sL : Nat} {sx : Nat → Int32} {cs : Nat → Nat → Option Int32} {H : am_H} {v0_13 : Int32} {x0 : Int32} {x1 : Int32} (h0 : am_is H 0 (.inr (11, [.ref 1, .int 0, .ref 2, .int 0, .ref 3, .ref 93, .ref 97, .ref 115, .ref 116, .ref 129, .ref 123, .ref 127, .ref 128, .int v0_13, .null, .int 0]))) (h115 : am_is H 115 (.inl ((.object "TerminalHouse$Window"), (8, .inr (.inr (.inr (.inr am_q115))))))) (h141 : am_is H 141 (.inr (9, [.ref 142, .int 0, .int 0, .int 0, .int 0, .int 0, .int 0, .int 0, .int 0, .int 0]))) (h143 : am_is H 143 (.inr (9, [.ref 144, .int 0, .int 0, .int 0, .int 0, .int 0, .int 0, .int 0, .int 0, .int 0]))) (h145 : am_is H 145 (.inr (9, [.ref 146, .int 0, .int 0, .int 0, .int 0, .int 0, .int 0, .int 0, .int 0, .int 0]))) (h147 : am_is H 147 (.inr (9, [.ref 148, .int 0, .int 0, .int 0, .int 0, .int 0, .int 0, .int 0, .int 0, .int 0]))) (h149 : am_is H 149 (.inr (9, [.ref 150, .int 0, .int 0, .int 0, .int 0, .int 0, .int 0, .int 0, .int 0, .int 0]))) (h151 : am_is H 151 (.inr (9, [.ref 152, .int 0, .int 0, .int 0, .int 0, .int 0, .int 0, .int 0, .int 0, .int 0]))) (h153 : am_is H 153 (.inr (9, [.ref 154, .int 0, .int 0, .int 0, .int 0, .int 0, .int 0, .int 0, .int 0, .int 0]))) (h155 : am_is H 155 (.inr (9, [.ref 156, .int 0, .int 0, .int 0, .int 0, .int 0, .int 0, .int 0, .int 0, .int 0]))) (c1 : ¬ x0 < 0) (c2 : ¬ 8 ≤ x0) (c3 : x0 = 3)  :
    am_E sL sx cs 101 0 [(0, .ref 0), (1, .int x0), (2, .int x1)] [] H (some (.int 0)) (fun H1 => (True) ∧ ∀ j : Nat, H1[j]? = H[j]?) := by
  refine ex_s (am_nb (m := 2) (pc1 := 2) (ls1 := [(0, .ref 0), (1, .int x0), (2, .int x1)]) (st1 := [.int x0, .ref 0]) (H1 := H) (k1 := 0) (n1 := 0) (by with_unfolding_all rfl)) ?_
  refine ex_cv1 (as := [.int x0]) (rest := []) rfl rfl rfl rfl h0 rfl (by with_unfolding_all rfl) (by with_unfolding_all rfl) (fx_dress_1_5 h0 h115 h141 h143 h145 h147 h149 h151 h153 h155 c1 c2 c3) ?_
  rintro H102 ⟨-, k102⟩
  refine ex_s (am_nb (m := 4) (pc1 := 21) (ls1 := [(3, .null), (0, .ref 0), (1, .int x0), (2, .int x1)]) (st1 := [.int 0]) (H1 := H102) (k1 := 0) (n1 := 0) (by with_unfolding_all rfl)) ?_
  exact ex_r (st_iret rfl rfl rfl) ⟨trivial, fun j => (k102 j)⟩

set_option maxRecDepth 100000 in
theorem fx_dress_6 {sL : Nat} {sx : Nat → Int32} {cs : Nat → Nat → Option Int32} {H : am_H} {v0_13 : Int32} {x0 : Int32} {x1 : Int32} (h0 : am_is H 0 (.inr (11, [.ref 1, .int 0, .ref 2, .int 0, .ref 3, .ref 93, .ref 97, .ref 115, .ref 116, .ref 129, .ref 123, .ref 127, .ref 128, .int v0_13, .null, .int 0]))) (h115 : am_is H 115 (.inl ((.object "TerminalHouse$Window"), (8, .inr (.inr (.inr (.inr am_q115))))))) (h141 : am_is H 141 (.inr (9, [.ref 142, .int 0, .int 0, .int 0, .int 0, .int 0, .int 0, .int 0, .int 0, .int 0]))) (h143 : am_is H 143 (.inr (9, [.ref 144, .int 0, .int 0, .int 0, .int 0, .int 0, .int 0, .int 0, .int 0, .int 0]))) (h145 : am_is H 145 (.inr (9, [.ref 146, .int 0, .int 0, .int 0, .int 0, .int 0, .int 0, .int 0, .int 0, .int 0]))) (h147 : am_is H 147 (.inr (9, [.ref 148, .int 0, .int 0, .int 0, .int 0, .int 0, .int 0, .int 0, .int 0, .int 0]))) (h149 : am_is H 149 (.inr (9, [.ref 150, .int 0, .int 0, .int 0, .int 0, .int 0, .int 0, .int 0, .int 0, .int 0]))) (h151 : am_is H 151 (.inr (9, [.ref 152, .int 0, .int 0, .int 0, .int 0, .int 0, .int 0, .int 0, .int 0, .int 0]))) (h153 : am_is H 153 (.inr (9, [.ref 154, .int 0, .int 0, .int 0, .int 0, .int 0, .int 0, .int 0, .int 0, .int 0]))) (h155 : am_is H 155 (.inr (9, [.ref 156, .int 0, .int 0, .int 0, .int 0, .int 0, .int 0, .int 0, .int 0, .int 0]))) (c1 : ¬ x0 < 0) (c2 : ¬ 8 ≤ x0) (c3 : x0 = 4)  :
    am_E sL sx cs 101 0 [(0, .ref 0), (1, .int x0), (2, .int x1)] [] H (some (.int 0)) (fun H1 => (True) ∧ ∀ j : Nat, H1[j]? = H[j]?) := by
  refine ex_s (am_nb (m := 2) (pc1 := 2) (ls1 := [(0, .ref 0), (1, .int x0), (2, .int x1)]) (st1 := [.int x0, .ref 0]) (H1 := H) (k1 := 0) (n1 := 0) (by with_unfolding_all rfl)) ?_
  refine ex_cv1 (as := [.int x0]) (rest := []) rfl rfl rfl rfl h0 rfl (by with_unfolding_all rfl) (by with_unfolding_all rfl) (fx_dress_1_6 h0 h115 h141 h143 h145 h147 h149 h151 h153 h155 c1 c2 c3) ?_
  rintro H103 ⟨-, k103⟩
  refine ex_s (am_nb (m := 4) (pc1 := 21) (ls1 := [(3, .null), (0, .ref 0), (1, .int x0), (2, .int x1)]) (st1 := [.int 0]) (H1 := H103) (k1 := 0) (n1 := 0) (by with_unfolding_all rfl)) ?_
  exact ex_r (st_iret rfl rfl rfl) ⟨trivial, fun j => (k103 j)⟩

set_option maxRecDepth 100000 in
theorem fx_dress_7 {sL : Nat} {sx : Nat → Int32} {cs : Nat → Nat → Option Int32} {H : am_H} {v0_13 : Int32} {x0 : Int32} {x1 : Int32} (h0 : am_is H 0 (.inr (11, [.ref 1, .int 0, .ref 2, .int 0, .ref 3, .ref 93, .ref 97, .ref 115, .ref 116, .ref 129, .ref 123, .ref 127, .ref 128, .int v0_13, .null, .int 0]))) (h115 : am_is H 115 (.inl ((.object "TerminalHouse$Window"), (8, .inr (.inr (.inr (.inr am_q115))))))) (h141 : am_is H 141 (.inr (9, [.ref 142, .int 0, .int 0, .int 0, .int 0, .int 0, .int 0, .int 0, .int 0, .int 0]))) (h143 : am_is H 143 (.inr (9, [.ref 144, .int 0, .int 0, .int 0, .int 0, .int 0, .int 0, .int 0, .int 0, .int 0]))) (h145 : am_is H 145 (.inr (9, [.ref 146, .int 0, .int 0, .int 0, .int 0, .int 0, .int 0, .int 0, .int 0, .int 0]))) (h147 : am_is H 147 (.inr (9, [.ref 148, .int 0, .int 0, .int 0, .int 0, .int 0, .int 0, .int 0, .int 0, .int 0]))) (h149 : am_is H 149 (.inr (9, [.ref 150, .int 0, .int 0, .int 0, .int 0, .int 0, .int 0, .int 0, .int 0, .int 0]))) (h151 : am_is H 151 (.inr (9, [.ref 152, .int 0, .int 0, .int 0, .int 0, .int 0, .int 0, .int 0, .int 0, .int 0]))) (h153 : am_is H 153 (.inr (9, [.ref 154, .int 0, .int 0, .int 0, .int 0, .int 0, .int 0, .int 0, .int 0, .int 0]))) (h155 : am_is H 155 (.inr (9, [.ref 156, .int 0, .int 0, .int 0, .int 0, .int 0, .int 0, .int 0, .int 0, .int 0]))) (c1 : ¬ x0 < 0) (c2 : ¬ 8 ≤ x0) (c3 : x0 = 5)  :
    am_E sL sx cs 101 0 [(0, .ref 0), (1, .int x0), (2, .int x1)] [] H (some (.int 0)) (fun H1 => (True) ∧ ∀ j : Nat, H1[j]? = H[j]?) := by
  refine ex_s (am_nb (m := 2) (pc1 := 2) (ls1 := [(0, .ref 0), (1, .int x0), (2, .int x1)]) (st1 := [.int x0, .ref 0]) (H1 := H) (k1 := 0) (n1 := 0) (by with_unfolding_all rfl)) ?_
  refine ex_cv1 (as := [.int x0]) (rest := []) rfl rfl rfl rfl h0 rfl (by with_unfolding_all rfl) (by with_unfolding_all rfl) (fx_dress_1_7 h0 h115 h141 h143 h145 h147 h149 h151 h153 h155 c1 c2 c3) ?_
  rintro H104 ⟨-, k104⟩
  refine ex_s (am_nb (m := 4) (pc1 := 21) (ls1 := [(3, .null), (0, .ref 0), (1, .int x0), (2, .int x1)]) (st1 := [.int 0]) (H1 := H104) (k1 := 0) (n1 := 0) (by with_unfolding_all rfl)) ?_
  exact ex_r (st_iret rfl rfl rfl) ⟨trivial, fun j => (k104 j)⟩

set_option maxRecDepth 100000 in
theorem fx_dress_8 {sL : Nat} {sx : Nat → Int32} {cs : Nat → Nat → Option Int32} {H : am_H} {v0_13 : Int32} {x0 : Int32} {x1 : Int32} (h0 : am_is H 0 (.inr (11, [.ref 1, .int 0, .ref 2, .int 0, .ref 3, .ref 93, .ref 97, .ref 115, .ref 116, .ref 129, .ref 123, .ref 127, .ref 128, .int v0_13, .null, .int 0]))) (h115 : am_is H 115 (.inl ((.object "TerminalHouse$Window"), (8, .inr (.inr (.inr (.inr am_q115))))))) (h141 : am_is H 141 (.inr (9, [.ref 142, .int 0, .int 0, .int 0, .int 0, .int 0, .int 0, .int 0, .int 0, .int 0]))) (h143 : am_is H 143 (.inr (9, [.ref 144, .int 0, .int 0, .int 0, .int 0, .int 0, .int 0, .int 0, .int 0, .int 0]))) (h145 : am_is H 145 (.inr (9, [.ref 146, .int 0, .int 0, .int 0, .int 0, .int 0, .int 0, .int 0, .int 0, .int 0]))) (h147 : am_is H 147 (.inr (9, [.ref 148, .int 0, .int 0, .int 0, .int 0, .int 0, .int 0, .int 0, .int 0, .int 0]))) (h149 : am_is H 149 (.inr (9, [.ref 150, .int 0, .int 0, .int 0, .int 0, .int 0, .int 0, .int 0, .int 0, .int 0]))) (h151 : am_is H 151 (.inr (9, [.ref 152, .int 0, .int 0, .int 0, .int 0, .int 0, .int 0, .int 0, .int 0, .int 0]))) (h153 : am_is H 153 (.inr (9, [.ref 154, .int 0, .int 0, .int 0, .int 0, .int 0, .int 0, .int 0, .int 0, .int 0]))) (h155 : am_is H 155 (.inr (9, [.ref 156, .int 0, .int 0, .int 0, .int 0, .int 0, .int 0, .int 0, .int 0, .int 0]))) (c1 : ¬ x0 < 0) (c2 : ¬ 8 ≤ x0) (c3 : x0 = 6)  :
    am_E sL sx cs 101 0 [(0, .ref 0), (1, .int x0), (2, .int x1)] [] H (some (.int 0)) (fun H1 => (True) ∧ ∀ j : Nat, H1[j]? = H[j]?) := by
  refine ex_s (am_nb (m := 2) (pc1 := 2) (ls1 := [(0, .ref 0), (1, .int x0), (2, .int x1)]) (st1 := [.int x0, .ref 0]) (H1 := H) (k1 := 0) (n1 := 0) (by with_unfolding_all rfl)) ?_
  refine ex_cv1 (as := [.int x0]) (rest := []) rfl rfl rfl rfl h0 rfl (by with_unfolding_all rfl) (by with_unfolding_all rfl) (fx_dress_1_8 h0 h115 h141 h143 h145 h147 h149 h151 h153 h155 c1 c2 c3) ?_
  rintro H105 ⟨-, k105⟩
  refine ex_s (am_nb (m := 4) (pc1 := 21) (ls1 := [(3, .null), (0, .ref 0), (1, .int x0), (2, .int x1)]) (st1 := [.int 0]) (H1 := H105) (k1 := 0) (n1 := 0) (by with_unfolding_all rfl)) ?_
  exact ex_r (st_iret rfl rfl rfl) ⟨trivial, fun j => (k105 j)⟩

set_option maxRecDepth 100000 in
theorem fx_dress_9 {sL : Nat} {sx : Nat → Int32} {cs : Nat → Nat → Option Int32} {H : am_H} {v0_13 : Int32} {x0 : Int32} {x1 : Int32} (h0 : am_is H 0 (.inr (11, [.ref 1, .int 0, .ref 2, .int 0, .ref 3, .ref 93, .ref 97, .ref 115, .ref 116, .ref 129, .ref 123, .ref 127, .ref 128, .int v0_13, .null, .int 0]))) (h115 : am_is H 115 (.inl ((.object "TerminalHouse$Window"), (8, .inr (.inr (.inr (.inr am_q115))))))) (h141 : am_is H 141 (.inr (9, [.ref 142, .int 0, .int 0, .int 0, .int 0, .int 0, .int 0, .int 0, .int 0, .int 0]))) (h143 : am_is H 143 (.inr (9, [.ref 144, .int 0, .int 0, .int 0, .int 0, .int 0, .int 0, .int 0, .int 0, .int 0]))) (h145 : am_is H 145 (.inr (9, [.ref 146, .int 0, .int 0, .int 0, .int 0, .int 0, .int 0, .int 0, .int 0, .int 0]))) (h147 : am_is H 147 (.inr (9, [.ref 148, .int 0, .int 0, .int 0, .int 0, .int 0, .int 0, .int 0, .int 0, .int 0]))) (h149 : am_is H 149 (.inr (9, [.ref 150, .int 0, .int 0, .int 0, .int 0, .int 0, .int 0, .int 0, .int 0, .int 0]))) (h151 : am_is H 151 (.inr (9, [.ref 152, .int 0, .int 0, .int 0, .int 0, .int 0, .int 0, .int 0, .int 0, .int 0]))) (h153 : am_is H 153 (.inr (9, [.ref 154, .int 0, .int 0, .int 0, .int 0, .int 0, .int 0, .int 0, .int 0, .int 0]))) (h155 : am_is H 155 (.inr (9, [.ref 156, .int 0, .int 0, .int 0, .int 0, .int 0, .int 0, .int 0, .int 0, .int 0]))) (c1 : ¬ x0 < 0) (c2 : ¬ 8 ≤ x0) (c3 : x0 = 7)  :
    am_E sL sx cs 101 0 [(0, .ref 0), (1, .int x0), (2, .int x1)] [] H (some (.int 0)) (fun H1 => (True) ∧ ∀ j : Nat, H1[j]? = H[j]?) := by
  refine ex_s (am_nb (m := 2) (pc1 := 2) (ls1 := [(0, .ref 0), (1, .int x0), (2, .int x1)]) (st1 := [.int x0, .ref 0]) (H1 := H) (k1 := 0) (n1 := 0) (by with_unfolding_all rfl)) ?_
  refine ex_cv1 (as := [.int x0]) (rest := []) rfl rfl rfl rfl h0 rfl (by with_unfolding_all rfl) (by with_unfolding_all rfl) (fx_dress_1_9 h0 h115 h141 h143 h145 h147 h149 h151 h153 h155 c1 c2 c3) ?_
  rintro H106 ⟨-, k106⟩
  refine ex_s (am_nb (m := 4) (pc1 := 21) (ls1 := [(3, .null), (0, .ref 0), (1, .int x0), (2, .int x1)]) (st1 := [.int 0]) (H1 := H106) (k1 := 0) (n1 := 0) (by with_unfolding_all rfl)) ?_
  exact ex_r (st_iret rfl rfl rfl) ⟨trivial, fun j => (k106 j)⟩

set_option maxRecDepth 100000 in
theorem fx_scrolls_1_0 {sL : Nat} {sx : Nat → Int32} {cs : Nat → Nat → Option Int32} {H : am_H} {v0_13 : Int32} {x0 : Int32} (h0 : am_is H 0 (.inr (11, [.ref 1, .int 0, .ref 2, .int 0, .ref 3, .ref 93, .ref 97, .ref 115, .ref 116, .ref 129, .ref 123, .ref 127, .ref 128, .int v0_13, .null, .int 0]))) (h115 : am_is H 115 (.inl ((.object "TerminalHouse$Window"), (8, .inr (.inr (.inr (.inr am_q115))))))) (h141 : am_is H 141 (.inr (9, [.ref 142, .int 0, .int 0, .int 0, .int 0, .int 0, .int 0, .int 0, .int 0, .int 0]))) (h143 : am_is H 143 (.inr (9, [.ref 144, .int 0, .int 0, .int 0, .int 0, .int 0, .int 0, .int 0, .int 0, .int 0]))) (h145 : am_is H 145 (.inr (9, [.ref 146, .int 0, .int 0, .int 0, .int 0, .int 0, .int 0, .int 0, .int 0, .int 0]))) (h147 : am_is H 147 (.inr (9, [.ref 148, .int 0, .int 0, .int 0, .int 0, .int 0, .int 0, .int 0, .int 0, .int 0]))) (h149 : am_is H 149 (.inr (9, [.ref 150, .int 0, .int 0, .int 0, .int 0, .int 0, .int 0, .int 0, .int 0, .int 0]))) (h151 : am_is H 151 (.inr (9, [.ref 152, .int 0, .int 0, .int 0, .int 0, .int 0, .int 0, .int 0, .int 0, .int 0]))) (h153 : am_is H 153 (.inr (9, [.ref 154, .int 0, .int 0, .int 0, .int 0, .int 0, .int 0, .int 0, .int 0, .int 0]))) (h155 : am_is H 155 (.inr (9, [.ref 156, .int 0, .int 0, .int 0, .int 0, .int 0, .int 0, .int 0, .int 0, .int 0]))) (c1 : x0 < 0)  :
    am_E sL sx cs 98 0 [(0, .ref 0), (1, .int x0)] [] H (some (.null)) (fun H1 => (True) ∧ ∀ j : Nat, H1[j]? = H[j]?) := by
  refine ex_s (am_nb (m := 1) (pc1 := 1) (ls1 := [(0, .ref 0), (1, .int x0)]) (st1 := [.int x0]) (H1 := H) (k1 := 0) (n1 := 0) (by with_unfolding_all rfl)) ?_
  refine ex_s (st_if rfl) ?_
  refine ex_pc (if_pos c1) ?_
  refine ex_s (am_nb (m := 1) (pc1 := 23) (ls1 := [(0, .ref 0), (1, .int x0)]) (st1 := [.null]) (H1 := H) (k1 := 0) (n1 := 0) (by with_unfolding_all rfl)) ?_
  exact ex_r (st_aret rfl rfl rfl rfl) ⟨trivial, fun j => rfl⟩

set_option maxRecDepth 100000 in
theorem fx_scrolls_1_1 {sL : Nat} {sx : Nat → Int32} {cs : Nat → Nat → Option Int32} {H : am_H} {v0_13 : Int32} {x0 : Int32} (h0 : am_is H 0 (.inr (11, [.ref 1, .int 0, .ref 2, .int 0, .ref 3, .ref 93, .ref 97, .ref 115, .ref 116, .ref 129, .ref 123, .ref 127, .ref 128, .int v0_13, .null, .int 0]))) (h115 : am_is H 115 (.inl ((.object "TerminalHouse$Window"), (8, .inr (.inr (.inr (.inr am_q115))))))) (h141 : am_is H 141 (.inr (9, [.ref 142, .int 0, .int 0, .int 0, .int 0, .int 0, .int 0, .int 0, .int 0, .int 0]))) (h143 : am_is H 143 (.inr (9, [.ref 144, .int 0, .int 0, .int 0, .int 0, .int 0, .int 0, .int 0, .int 0, .int 0]))) (h145 : am_is H 145 (.inr (9, [.ref 146, .int 0, .int 0, .int 0, .int 0, .int 0, .int 0, .int 0, .int 0, .int 0]))) (h147 : am_is H 147 (.inr (9, [.ref 148, .int 0, .int 0, .int 0, .int 0, .int 0, .int 0, .int 0, .int 0, .int 0]))) (h149 : am_is H 149 (.inr (9, [.ref 150, .int 0, .int 0, .int 0, .int 0, .int 0, .int 0, .int 0, .int 0, .int 0]))) (h151 : am_is H 151 (.inr (9, [.ref 152, .int 0, .int 0, .int 0, .int 0, .int 0, .int 0, .int 0, .int 0, .int 0]))) (h153 : am_is H 153 (.inr (9, [.ref 154, .int 0, .int 0, .int 0, .int 0, .int 0, .int 0, .int 0, .int 0, .int 0]))) (h155 : am_is H 155 (.inr (9, [.ref 156, .int 0, .int 0, .int 0, .int 0, .int 0, .int 0, .int 0, .int 0, .int 0]))) (c1 : ¬ x0 < 0) (c2 : 8 ≤ x0)  :
    am_E sL sx cs 98 0 [(0, .ref 0), (1, .int x0)] [] H (some (.null)) (fun H1 => (True) ∧ ∀ j : Nat, H1[j]? = H[j]?) := by
  refine ex_s (am_nb (m := 1) (pc1 := 1) (ls1 := [(0, .ref 0), (1, .int x0)]) (st1 := [.int x0]) (H1 := H) (k1 := 0) (n1 := 0) (by with_unfolding_all rfl)) ?_
  refine ex_s (st_if rfl) ?_
  refine ex_pc (if_neg c1) ?_
  refine ex_s (am_nb (m := 2) (pc1 := 7) (ls1 := [(0, .ref 0), (1, .int x0)]) (st1 := [.int 8, .int x0]) (H1 := H) (k1 := 0) (n1 := 0) (by with_unfolding_all rfl)) ?_
  refine ex_s (st_icmp rfl) ?_
  refine ex_pc (if_pos c2) ?_
  refine ex_s (am_nb (m := 1) (pc1 := 23) (ls1 := [(0, .ref 0), (1, .int x0)]) (st1 := [.null]) (H1 := H) (k1 := 0) (n1 := 0) (by with_unfolding_all rfl)) ?_
  exact ex_r (st_aret rfl rfl rfl rfl) ⟨trivial, fun j => rfl⟩

set_option maxRecDepth 100000 in
theorem fx_scrolls_1_2 {sL : Nat} {sx : Nat → Int32} {cs : Nat → Nat → Option Int32} {H : am_H} {v0_13 : Int32} {x0 : Int32} (h0 : am_is H 0 (.inr (11, [.ref 1, .int 0, .ref 2, .int 0, .ref 3, .ref 93, .ref 97, .ref 115, .ref 116, .ref 129, .ref 123, .ref 127, .ref 128, .int v0_13, .null, .int 0]))) (h115 : am_is H 115 (.inl ((.object "TerminalHouse$Window"), (8, .inr (.inr (.inr (.inr am_q115))))))) (h141 : am_is H 141 (.inr (9, [.ref 142, .int 0, .int 0, .int 0, .int 0, .int 0, .int 0, .int 0, .int 0, .int 0]))) (h143 : am_is H 143 (.inr (9, [.ref 144, .int 0, .int 0, .int 0, .int 0, .int 0, .int 0, .int 0, .int 0, .int 0]))) (h145 : am_is H 145 (.inr (9, [.ref 146, .int 0, .int 0, .int 0, .int 0, .int 0, .int 0, .int 0, .int 0, .int 0]))) (h147 : am_is H 147 (.inr (9, [.ref 148, .int 0, .int 0, .int 0, .int 0, .int 0, .int 0, .int 0, .int 0, .int 0]))) (h149 : am_is H 149 (.inr (9, [.ref 150, .int 0, .int 0, .int 0, .int 0, .int 0, .int 0, .int 0, .int 0, .int 0]))) (h151 : am_is H 151 (.inr (9, [.ref 152, .int 0, .int 0, .int 0, .int 0, .int 0, .int 0, .int 0, .int 0, .int 0]))) (h153 : am_is H 153 (.inr (9, [.ref 154, .int 0, .int 0, .int 0, .int 0, .int 0, .int 0, .int 0, .int 0, .int 0]))) (h155 : am_is H 155 (.inr (9, [.ref 156, .int 0, .int 0, .int 0, .int 0, .int 0, .int 0, .int 0, .int 0, .int 0]))) (c1 : ¬ x0 < 0) (c2 : ¬ 8 ≤ x0) (c3 : x0 = 0)  :
    am_E sL sx cs 98 0 [(0, .ref 0), (1, .int x0)] [] H (some (.null)) (fun H1 => (True) ∧ ∀ j : Nat, H1[j]? = H[j]?) := by
  refine ex_s (am_nb (m := 1) (pc1 := 1) (ls1 := [(0, .ref 0), (1, .int x0)]) (st1 := [.int x0]) (H1 := H) (k1 := 0) (n1 := 0) (by with_unfolding_all rfl)) ?_
  refine ex_s (st_if rfl) ?_
  refine ex_pc (if_neg c1) ?_
  refine ex_s (am_nb (m := 2) (pc1 := 7) (ls1 := [(0, .ref 0), (1, .int x0)]) (st1 := [.int 8, .int x0]) (H1 := H) (k1 := 0) (n1 := 0) (by with_unfolding_all rfl)) ?_
  refine ex_s (st_icmp rfl) ?_
  refine ex_pc (if_neg c2) ?_
  refine ex_s (am_nb (m := 1) (pc1 := 11) (ls1 := [(0, .ref 0), (1, .int x0)]) (st1 := [.ref 0]) (H1 := H) (k1 := 0) (n1 := 0) (by with_unfolding_all rfl)) ?_
  refine ex_s (st_get rfl h0 rfl) ?_
  refine ex_s (am_nb (m := 1) (pc1 := 15) (ls1 := [(0, .ref 0), (1, .int x0)]) (st1 := [.int x0, .ref 115]) (H1 := H) (k1 := 0) (n1 := 0) (by with_unfolding_all rfl)) ?_
  refine ex_s (st_aald rfl h115 (by rw [c3]; decide) rfl) ?_
  refine ex_s (am_nb (m := 0) (pc1 := 16) (ls1 := [(0, .ref 0), (1, .int x0)]) (st1 := [.ref 141]) (H1 := H) (k1 := 0) (n1 := 0) (by rw [c3]; with_unfolding_all rfl)) ?_
  refine ex_s (st_get rfl h141 rfl) ?_
  refine ex_s (am_nb (m := 2) (pc1 := 23) (ls1 := [(0, .ref 0), (1, .int x0)]) (st1 := [.null]) (H1 := H) (k1 := 0) (n1 := 0) (by with_unfolding_all rfl)) ?_
  exact ex_r (st_aret rfl rfl rfl rfl) ⟨trivial, fun j => rfl⟩

set_option maxRecDepth 100000 in
theorem fx_scrolls_1_3 {sL : Nat} {sx : Nat → Int32} {cs : Nat → Nat → Option Int32} {H : am_H} {v0_13 : Int32} {x0 : Int32} (h0 : am_is H 0 (.inr (11, [.ref 1, .int 0, .ref 2, .int 0, .ref 3, .ref 93, .ref 97, .ref 115, .ref 116, .ref 129, .ref 123, .ref 127, .ref 128, .int v0_13, .null, .int 0]))) (h115 : am_is H 115 (.inl ((.object "TerminalHouse$Window"), (8, .inr (.inr (.inr (.inr am_q115))))))) (h141 : am_is H 141 (.inr (9, [.ref 142, .int 0, .int 0, .int 0, .int 0, .int 0, .int 0, .int 0, .int 0, .int 0]))) (h143 : am_is H 143 (.inr (9, [.ref 144, .int 0, .int 0, .int 0, .int 0, .int 0, .int 0, .int 0, .int 0, .int 0]))) (h145 : am_is H 145 (.inr (9, [.ref 146, .int 0, .int 0, .int 0, .int 0, .int 0, .int 0, .int 0, .int 0, .int 0]))) (h147 : am_is H 147 (.inr (9, [.ref 148, .int 0, .int 0, .int 0, .int 0, .int 0, .int 0, .int 0, .int 0, .int 0]))) (h149 : am_is H 149 (.inr (9, [.ref 150, .int 0, .int 0, .int 0, .int 0, .int 0, .int 0, .int 0, .int 0, .int 0]))) (h151 : am_is H 151 (.inr (9, [.ref 152, .int 0, .int 0, .int 0, .int 0, .int 0, .int 0, .int 0, .int 0, .int 0]))) (h153 : am_is H 153 (.inr (9, [.ref 154, .int 0, .int 0, .int 0, .int 0, .int 0, .int 0, .int 0, .int 0, .int 0]))) (h155 : am_is H 155 (.inr (9, [.ref 156, .int 0, .int 0, .int 0, .int 0, .int 0, .int 0, .int 0, .int 0, .int 0]))) (c1 : ¬ x0 < 0) (c2 : ¬ 8 ≤ x0) (c3 : x0 = 1)  :
    am_E sL sx cs 98 0 [(0, .ref 0), (1, .int x0)] [] H (some (.null)) (fun H1 => (True) ∧ ∀ j : Nat, H1[j]? = H[j]?) := by
  refine ex_s (am_nb (m := 1) (pc1 := 1) (ls1 := [(0, .ref 0), (1, .int x0)]) (st1 := [.int x0]) (H1 := H) (k1 := 0) (n1 := 0) (by with_unfolding_all rfl)) ?_
  refine ex_s (st_if rfl) ?_
  refine ex_pc (if_neg c1) ?_
  refine ex_s (am_nb (m := 2) (pc1 := 7) (ls1 := [(0, .ref 0), (1, .int x0)]) (st1 := [.int 8, .int x0]) (H1 := H) (k1 := 0) (n1 := 0) (by with_unfolding_all rfl)) ?_
  refine ex_s (st_icmp rfl) ?_
  refine ex_pc (if_neg c2) ?_
  refine ex_s (am_nb (m := 1) (pc1 := 11) (ls1 := [(0, .ref 0), (1, .int x0)]) (st1 := [.ref 0]) (H1 := H) (k1 := 0) (n1 := 0) (by with_unfolding_all rfl)) ?_
  refine ex_s (st_get rfl h0 rfl) ?_
  refine ex_s (am_nb (m := 1) (pc1 := 15) (ls1 := [(0, .ref 0), (1, .int x0)]) (st1 := [.int x0, .ref 115]) (H1 := H) (k1 := 0) (n1 := 0) (by with_unfolding_all rfl)) ?_
  refine ex_s (st_aald rfl h115 (by rw [c3]; decide) rfl) ?_
  refine ex_s (am_nb (m := 0) (pc1 := 16) (ls1 := [(0, .ref 0), (1, .int x0)]) (st1 := [.ref 143]) (H1 := H) (k1 := 0) (n1 := 0) (by rw [c3]; with_unfolding_all rfl)) ?_
  refine ex_s (st_get rfl h143 rfl) ?_
  refine ex_s (am_nb (m := 2) (pc1 := 23) (ls1 := [(0, .ref 0), (1, .int x0)]) (st1 := [.null]) (H1 := H) (k1 := 0) (n1 := 0) (by with_unfolding_all rfl)) ?_
  exact ex_r (st_aret rfl rfl rfl rfl) ⟨trivial, fun j => rfl⟩

set_option maxRecDepth 100000 in
theorem fx_scrolls_1_4 {sL : Nat} {sx : Nat → Int32} {cs : Nat → Nat → Option Int32} {H : am_H} {v0_13 : Int32} {x0 : Int32} (h0 : am_is H 0 (.inr (11, [.ref 1, .int 0, .ref 2, .int 0, .ref 3, .ref 93, .ref 97, .ref 115, .ref 116, .ref 129, .ref 123, .ref 127, .ref 128, .int v0_13, .null, .int 0]))) (h115 : am_is H 115 (.inl ((.object "TerminalHouse$Window"), (8, .inr (.inr (.inr (.inr am_q115))))))) (h141 : am_is H 141 (.inr (9, [.ref 142, .int 0, .int 0, .int 0, .int 0, .int 0, .int 0, .int 0, .int 0, .int 0]))) (h143 : am_is H 143 (.inr (9, [.ref 144, .int 0, .int 0, .int 0, .int 0, .int 0, .int 0, .int 0, .int 0, .int 0]))) (h145 : am_is H 145 (.inr (9, [.ref 146, .int 0, .int 0, .int 0, .int 0, .int 0, .int 0, .int 0, .int 0, .int 0]))) (h147 : am_is H 147 (.inr (9, [.ref 148, .int 0, .int 0, .int 0, .int 0, .int 0, .int 0, .int 0, .int 0, .int 0]))) (h149 : am_is H 149 (.inr (9, [.ref 150, .int 0, .int 0, .int 0, .int 0, .int 0, .int 0, .int 0, .int 0, .int 0]))) (h151 : am_is H 151 (.inr (9, [.ref 152, .int 0, .int 0, .int 0, .int 0, .int 0, .int 0, .int 0, .int 0, .int 0]))) (h153 : am_is H 153 (.inr (9, [.ref 154, .int 0, .int 0, .int 0, .int 0, .int 0, .int 0, .int 0, .int 0, .int 0]))) (h155 : am_is H 155 (.inr (9, [.ref 156, .int 0, .int 0, .int 0, .int 0, .int 0, .int 0, .int 0, .int 0, .int 0]))) (c1 : ¬ x0 < 0) (c2 : ¬ 8 ≤ x0) (c3 : x0 = 2)  :
    am_E sL sx cs 98 0 [(0, .ref 0), (1, .int x0)] [] H (some (.null)) (fun H1 => (True) ∧ ∀ j : Nat, H1[j]? = H[j]?) := by
  refine ex_s (am_nb (m := 1) (pc1 := 1) (ls1 := [(0, .ref 0), (1, .int x0)]) (st1 := [.int x0]) (H1 := H) (k1 := 0) (n1 := 0) (by with_unfolding_all rfl)) ?_
  refine ex_s (st_if rfl) ?_
  refine ex_pc (if_neg c1) ?_
  refine ex_s (am_nb (m := 2) (pc1 := 7) (ls1 := [(0, .ref 0), (1, .int x0)]) (st1 := [.int 8, .int x0]) (H1 := H) (k1 := 0) (n1 := 0) (by with_unfolding_all rfl)) ?_
  refine ex_s (st_icmp rfl) ?_
  refine ex_pc (if_neg c2) ?_
  refine ex_s (am_nb (m := 1) (pc1 := 11) (ls1 := [(0, .ref 0), (1, .int x0)]) (st1 := [.ref 0]) (H1 := H) (k1 := 0) (n1 := 0) (by with_unfolding_all rfl)) ?_
  refine ex_s (st_get rfl h0 rfl) ?_
  refine ex_s (am_nb (m := 1) (pc1 := 15) (ls1 := [(0, .ref 0), (1, .int x0)]) (st1 := [.int x0, .ref 115]) (H1 := H) (k1 := 0) (n1 := 0) (by with_unfolding_all rfl)) ?_
  refine ex_s (st_aald rfl h115 (by rw [c3]; decide) rfl) ?_
  refine ex_s (am_nb (m := 0) (pc1 := 16) (ls1 := [(0, .ref 0), (1, .int x0)]) (st1 := [.ref 145]) (H1 := H) (k1 := 0) (n1 := 0) (by rw [c3]; with_unfolding_all rfl)) ?_
  refine ex_s (st_get rfl h145 rfl) ?_
  refine ex_s (am_nb (m := 2) (pc1 := 23) (ls1 := [(0, .ref 0), (1, .int x0)]) (st1 := [.null]) (H1 := H) (k1 := 0) (n1 := 0) (by with_unfolding_all rfl)) ?_
  exact ex_r (st_aret rfl rfl rfl rfl) ⟨trivial, fun j => rfl⟩

set_option maxRecDepth 100000 in
theorem fx_scrolls_1_5 {sL : Nat} {sx : Nat → Int32} {cs : Nat → Nat → Option Int32} {H : am_H} {v0_13 : Int32} {x0 : Int32} (h0 : am_is H 0 (.inr (11, [.ref 1, .int 0, .ref 2, .int 0, .ref 3, .ref 93, .ref 97, .ref 115, .ref 116, .ref 129, .ref 123, .ref 127, .ref 128, .int v0_13, .null, .int 0]))) (h115 : am_is H 115 (.inl ((.object "TerminalHouse$Window"), (8, .inr (.inr (.inr (.inr am_q115))))))) (h141 : am_is H 141 (.inr (9, [.ref 142, .int 0, .int 0, .int 0, .int 0, .int 0, .int 0, .int 0, .int 0, .int 0]))) (h143 : am_is H 143 (.inr (9, [.ref 144, .int 0, .int 0, .int 0, .int 0, .int 0, .int 0, .int 0, .int 0, .int 0]))) (h145 : am_is H 145 (.inr (9, [.ref 146, .int 0, .int 0, .int 0, .int 0, .int 0, .int 0, .int 0, .int 0, .int 0]))) (h147 : am_is H 147 (.inr (9, [.ref 148, .int 0, .int 0, .int 0, .int 0, .int 0, .int 0, .int 0, .int 0, .int 0]))) (h149 : am_is H 149 (.inr (9, [.ref 150, .int 0, .int 0, .int 0, .int 0, .int 0, .int 0, .int 0, .int 0, .int 0]))) (h151 : am_is H 151 (.inr (9, [.ref 152, .int 0, .int 0, .int 0, .int 0, .int 0, .int 0, .int 0, .int 0, .int 0]))) (h153 : am_is H 153 (.inr (9, [.ref 154, .int 0, .int 0, .int 0, .int 0, .int 0, .int 0, .int 0, .int 0, .int 0]))) (h155 : am_is H 155 (.inr (9, [.ref 156, .int 0, .int 0, .int 0, .int 0, .int 0, .int 0, .int 0, .int 0, .int 0]))) (c1 : ¬ x0 < 0) (c2 : ¬ 8 ≤ x0) (c3 : x0 = 3)  :
    am_E sL sx cs 98 0 [(0, .ref 0), (1, .int x0)] [] H (some (.null)) (fun H1 => (True) ∧ ∀ j : Nat, H1[j]? = H[j]?) := by
  refine ex_s (am_nb (m := 1) (pc1 := 1) (ls1 := [(0, .ref 0), (1, .int x0)]) (st1 := [.int x0]) (H1 := H) (k1 := 0) (n1 := 0) (by with_unfolding_all rfl)) ?_
  refine ex_s (st_if rfl) ?_
  refine ex_pc (if_neg c1) ?_
  refine ex_s (am_nb (m := 2) (pc1 := 7) (ls1 := [(0, .ref 0), (1, .int x0)]) (st1 := [.int 8, .int x0]) (H1 := H) (k1 := 0) (n1 := 0) (by with_unfolding_all rfl)) ?_
  refine ex_s (st_icmp rfl) ?_
  refine ex_pc (if_neg c2) ?_
  refine ex_s (am_nb (m := 1) (pc1 := 11) (ls1 := [(0, .ref 0), (1, .int x0)]) (st1 := [.ref 0]) (H1 := H) (k1 := 0) (n1 := 0) (by with_unfolding_all rfl)) ?_
  refine ex_s (st_get rfl h0 rfl) ?_
  refine ex_s (am_nb (m := 1) (pc1 := 15) (ls1 := [(0, .ref 0), (1, .int x0)]) (st1 := [.int x0, .ref 115]) (H1 := H) (k1 := 0) (n1 := 0) (by with_unfolding_all rfl)) ?_
  refine ex_s (st_aald rfl h115 (by rw [c3]; decide) rfl) ?_
  refine ex_s (am_nb (m := 0) (pc1 := 16) (ls1 := [(0, .ref 0), (1, .int x0)]) (st1 := [.ref 147]) (H1 := H) (k1 := 0) (n1 := 0) (by rw [c3]; with_unfolding_all rfl)) ?_
  refine ex_s (st_get rfl h147 rfl) ?_
  refine ex_s (am_nb (m := 2) (pc1 := 23) (ls1 := [(0, .ref 0), (1, .int x0)]) (st1 := [.null]) (H1 := H) (k1 := 0) (n1 := 0) (by with_unfolding_all rfl)) ?_
  exact ex_r (st_aret rfl rfl rfl rfl) ⟨trivial, fun j => rfl⟩

set_option maxRecDepth 100000 in
theorem fx_scrolls_1_6 {sL : Nat} {sx : Nat → Int32} {cs : Nat → Nat → Option Int32} {H : am_H} {v0_13 : Int32} {x0 : Int32} (h0 : am_is H 0 (.inr (11, [.ref 1, .int 0, .ref 2, .int 0, .ref 3, .ref 93, .ref 97, .ref 115, .ref 116, .ref 129, .ref 123, .ref 127, .ref 128, .int v0_13, .null, .int 0]))) (h115 : am_is H 115 (.inl ((.object "TerminalHouse$Window"), (8, .inr (.inr (.inr (.inr am_q115))))))) (h141 : am_is H 141 (.inr (9, [.ref 142, .int 0, .int 0, .int 0, .int 0, .int 0, .int 0, .int 0, .int 0, .int 0]))) (h143 : am_is H 143 (.inr (9, [.ref 144, .int 0, .int 0, .int 0, .int 0, .int 0, .int 0, .int 0, .int 0, .int 0]))) (h145 : am_is H 145 (.inr (9, [.ref 146, .int 0, .int 0, .int 0, .int 0, .int 0, .int 0, .int 0, .int 0, .int 0]))) (h147 : am_is H 147 (.inr (9, [.ref 148, .int 0, .int 0, .int 0, .int 0, .int 0, .int 0, .int 0, .int 0, .int 0]))) (h149 : am_is H 149 (.inr (9, [.ref 150, .int 0, .int 0, .int 0, .int 0, .int 0, .int 0, .int 0, .int 0, .int 0]))) (h151 : am_is H 151 (.inr (9, [.ref 152, .int 0, .int 0, .int 0, .int 0, .int 0, .int 0, .int 0, .int 0, .int 0]))) (h153 : am_is H 153 (.inr (9, [.ref 154, .int 0, .int 0, .int 0, .int 0, .int 0, .int 0, .int 0, .int 0, .int 0]))) (h155 : am_is H 155 (.inr (9, [.ref 156, .int 0, .int 0, .int 0, .int 0, .int 0, .int 0, .int 0, .int 0, .int 0]))) (c1 : ¬ x0 < 0) (c2 : ¬ 8 ≤ x0) (c3 : x0 = 4)  :
    am_E sL sx cs 98 0 [(0, .ref 0), (1, .int x0)] [] H (some (.null)) (fun H1 => (True) ∧ ∀ j : Nat, H1[j]? = H[j]?) := by
  refine ex_s (am_nb (m := 1) (pc1 := 1) (ls1 := [(0, .ref 0), (1, .int x0)]) (st1 := [.int x0]) (H1 := H) (k1 := 0) (n1 := 0) (by with_unfolding_all rfl)) ?_
  refine ex_s (st_if rfl) ?_
  refine ex_pc (if_neg c1) ?_
  refine ex_s (am_nb (m := 2) (pc1 := 7) (ls1 := [(0, .ref 0), (1, .int x0)]) (st1 := [.int 8, .int x0]) (H1 := H) (k1 := 0) (n1 := 0) (by with_unfolding_all rfl)) ?_
  refine ex_s (st_icmp rfl) ?_
  refine ex_pc (if_neg c2) ?_
  refine ex_s (am_nb (m := 1) (pc1 := 11) (ls1 := [(0, .ref 0), (1, .int x0)]) (st1 := [.ref 0]) (H1 := H) (k1 := 0) (n1 := 0) (by with_unfolding_all rfl)) ?_
  refine ex_s (st_get rfl h0 rfl) ?_
  refine ex_s (am_nb (m := 1) (pc1 := 15) (ls1 := [(0, .ref 0), (1, .int x0)]) (st1 := [.int x0, .ref 115]) (H1 := H) (k1 := 0) (n1 := 0) (by with_unfolding_all rfl)) ?_
  refine ex_s (st_aald rfl h115 (by rw [c3]; decide) rfl) ?_
  refine ex_s (am_nb (m := 0) (pc1 := 16) (ls1 := [(0, .ref 0), (1, .int x0)]) (st1 := [.ref 149]) (H1 := H) (k1 := 0) (n1 := 0) (by rw [c3]; with_unfolding_all rfl)) ?_
  refine ex_s (st_get rfl h149 rfl) ?_
  refine ex_s (am_nb (m := 2) (pc1 := 23) (ls1 := [(0, .ref 0), (1, .int x0)]) (st1 := [.null]) (H1 := H) (k1 := 0) (n1 := 0) (by with_unfolding_all rfl)) ?_
  exact ex_r (st_aret rfl rfl rfl rfl) ⟨trivial, fun j => rfl⟩

set_option maxRecDepth 100000 in
theorem fx_scrolls_1_7 {sL : Nat} {sx : Nat → Int32} {cs : Nat → Nat → Option Int32} {H : am_H} {v0_13 : Int32} {x0 : Int32} (h0 : am_is H 0 (.inr (11, [.ref 1, .int 0, .ref 2, .int 0, .ref 3, .ref 93, .ref 97, .ref 115, .ref 116, .ref 129, .ref 123, .ref 127, .ref 128, .int v0_13, .null, .int 0]))) (h115 : am_is H 115 (.inl ((.object "TerminalHouse$Window"), (8, .inr (.inr (.inr (.inr am_q115))))))) (h141 : am_is H 141 (.inr (9, [.ref 142, .int 0, .int 0, .int 0, .int 0, .int 0, .int 0, .int 0, .int 0, .int 0]))) (h143 : am_is H 143 (.inr (9, [.ref 144, .int 0, .int 0, .int 0, .int 0, .int 0, .int 0, .int 0, .int 0, .int 0]))) (h145 : am_is H 145 (.inr (9, [.ref 146, .int 0, .int 0, .int 0, .int 0, .int 0, .int 0, .int 0, .int 0, .int 0]))) (h147 : am_is H 147 (.inr (9, [.ref 148, .int 0, .int 0, .int 0, .int 0, .int 0, .int 0, .int 0, .int 0, .int 0]))) (h149 : am_is H 149 (.inr (9, [.ref 150, .int 0, .int 0, .int 0, .int 0, .int 0, .int 0, .int 0, .int 0, .int 0]))) (h151 : am_is H 151 (.inr (9, [.ref 152, .int 0, .int 0, .int 0, .int 0, .int 0, .int 0, .int 0, .int 0, .int 0]))) (h153 : am_is H 153 (.inr (9, [.ref 154, .int 0, .int 0, .int 0, .int 0, .int 0, .int 0, .int 0, .int 0, .int 0]))) (h155 : am_is H 155 (.inr (9, [.ref 156, .int 0, .int 0, .int 0, .int 0, .int 0, .int 0, .int 0, .int 0, .int 0]))) (c1 : ¬ x0 < 0) (c2 : ¬ 8 ≤ x0) (c3 : x0 = 5)  :
    am_E sL sx cs 98 0 [(0, .ref 0), (1, .int x0)] [] H (some (.null)) (fun H1 => (True) ∧ ∀ j : Nat, H1[j]? = H[j]?) := by
  refine ex_s (am_nb (m := 1) (pc1 := 1) (ls1 := [(0, .ref 0), (1, .int x0)]) (st1 := [.int x0]) (H1 := H) (k1 := 0) (n1 := 0) (by with_unfolding_all rfl)) ?_
  refine ex_s (st_if rfl) ?_
  refine ex_pc (if_neg c1) ?_
  refine ex_s (am_nb (m := 2) (pc1 := 7) (ls1 := [(0, .ref 0), (1, .int x0)]) (st1 := [.int 8, .int x0]) (H1 := H) (k1 := 0) (n1 := 0) (by with_unfolding_all rfl)) ?_
  refine ex_s (st_icmp rfl) ?_
  refine ex_pc (if_neg c2) ?_
  refine ex_s (am_nb (m := 1) (pc1 := 11) (ls1 := [(0, .ref 0), (1, .int x0)]) (st1 := [.ref 0]) (H1 := H) (k1 := 0) (n1 := 0) (by with_unfolding_all rfl)) ?_
  refine ex_s (st_get rfl h0 rfl) ?_
  refine ex_s (am_nb (m := 1) (pc1 := 15) (ls1 := [(0, .ref 0), (1, .int x0)]) (st1 := [.int x0, .ref 115]) (H1 := H) (k1 := 0) (n1 := 0) (by with_unfolding_all rfl)) ?_
  refine ex_s (st_aald rfl h115 (by rw [c3]; decide) rfl) ?_
  refine ex_s (am_nb (m := 0) (pc1 := 16) (ls1 := [(0, .ref 0), (1, .int x0)]) (st1 := [.ref 151]) (H1 := H) (k1 := 0) (n1 := 0) (by rw [c3]; with_unfolding_all rfl)) ?_
  refine ex_s (st_get rfl h151 rfl) ?_
  refine ex_s (am_nb (m := 2) (pc1 := 23) (ls1 := [(0, .ref 0), (1, .int x0)]) (st1 := [.null]) (H1 := H) (k1 := 0) (n1 := 0) (by with_unfolding_all rfl)) ?_
  exact ex_r (st_aret rfl rfl rfl rfl) ⟨trivial, fun j => rfl⟩

set_option maxRecDepth 100000 in
theorem fx_scrolls_1_8 {sL : Nat} {sx : Nat → Int32} {cs : Nat → Nat → Option Int32} {H : am_H} {v0_13 : Int32} {x0 : Int32} (h0 : am_is H 0 (.inr (11, [.ref 1, .int 0, .ref 2, .int 0, .ref 3, .ref 93, .ref 97, .ref 115, .ref 116, .ref 129, .ref 123, .ref 127, .ref 128, .int v0_13, .null, .int 0]))) (h115 : am_is H 115 (.inl ((.object "TerminalHouse$Window"), (8, .inr (.inr (.inr (.inr am_q115))))))) (h141 : am_is H 141 (.inr (9, [.ref 142, .int 0, .int 0, .int 0, .int 0, .int 0, .int 0, .int 0, .int 0, .int 0]))) (h143 : am_is H 143 (.inr (9, [.ref 144, .int 0, .int 0, .int 0, .int 0, .int 0, .int 0, .int 0, .int 0, .int 0]))) (h145 : am_is H 145 (.inr (9, [.ref 146, .int 0, .int 0, .int 0, .int 0, .int 0, .int 0, .int 0, .int 0, .int 0]))) (h147 : am_is H 147 (.inr (9, [.ref 148, .int 0, .int 0, .int 0, .int 0, .int 0, .int 0, .int 0, .int 0, .int 0]))) (h149 : am_is H 149 (.inr (9, [.ref 150, .int 0, .int 0, .int 0, .int 0, .int 0, .int 0, .int 0, .int 0, .int 0]))) (h151 : am_is H 151 (.inr (9, [.ref 152, .int 0, .int 0, .int 0, .int 0, .int 0, .int 0, .int 0, .int 0, .int 0]))) (h153 : am_is H 153 (.inr (9, [.ref 154, .int 0, .int 0, .int 0, .int 0, .int 0, .int 0, .int 0, .int 0, .int 0]))) (h155 : am_is H 155 (.inr (9, [.ref 156, .int 0, .int 0, .int 0, .int 0, .int 0, .int 0, .int 0, .int 0, .int 0]))) (c1 : ¬ x0 < 0) (c2 : ¬ 8 ≤ x0) (c3 : x0 = 6)  :
    am_E sL sx cs 98 0 [(0, .ref 0), (1, .int x0)] [] H (some (.null)) (fun H1 => (True) ∧ ∀ j : Nat, H1[j]? = H[j]?) := by
  refine ex_s (am_nb (m := 1) (pc1 := 1) (ls1 := [(0, .ref 0), (1, .int x0)]) (st1 := [.int x0]) (H1 := H) (k1 := 0) (n1 := 0) (by with_unfolding_all rfl)) ?_
  refine ex_s (st_if rfl) ?_
  refine ex_pc (if_neg c1) ?_
  refine ex_s (am_nb (m := 2) (pc1 := 7) (ls1 := [(0, .ref 0), (1, .int x0)]) (st1 := [.int 8, .int x0]) (H1 := H) (k1 := 0) (n1 := 0) (by with_unfolding_all rfl)) ?_
  refine ex_s (st_icmp rfl) ?_
  refine ex_pc (if_neg c2) ?_
  refine ex_s (am_nb (m := 1) (pc1 := 11) (ls1 := [(0, .ref 0), (1, .int x0)]) (st1 := [.ref 0]) (H1 := H) (k1 := 0) (n1 := 0) (by with_unfolding_all rfl)) ?_
  refine ex_s (st_get rfl h0 rfl) ?_
  refine ex_s (am_nb (m := 1) (pc1 := 15) (ls1 := [(0, .ref 0), (1, .int x0)]) (st1 := [.int x0, .ref 115]) (H1 := H) (k1 := 0) (n1 := 0) (by with_unfolding_all rfl)) ?_
  refine ex_s (st_aald rfl h115 (by rw [c3]; decide) rfl) ?_
  refine ex_s (am_nb (m := 0) (pc1 := 16) (ls1 := [(0, .ref 0), (1, .int x0)]) (st1 := [.ref 153]) (H1 := H) (k1 := 0) (n1 := 0) (by rw [c3]; with_unfolding_all rfl)) ?_
  refine ex_s (st_get rfl h153 rfl) ?_
  refine ex_s (am_nb (m := 2) (pc1 := 23) (ls1 := [(0, .ref 0), (1, .int x0)]) (st1 := [.null]) (H1 := H) (k1 := 0) (n1 := 0) (by with_unfolding_all rfl)) ?_
  exact ex_r (st_aret rfl rfl rfl rfl) ⟨trivial, fun j => rfl⟩

set_option maxRecDepth 100000 in
theorem fx_scrolls_1_9 {sL : Nat} {sx : Nat → Int32} {cs : Nat → Nat → Option Int32} {H : am_H} {v0_13 : Int32} {x0 : Int32} (h0 : am_is H 0 (.inr (11, [.ref 1, .int 0, .ref 2, .int 0, .ref 3, .ref 93, .ref 97, .ref 115, .ref 116, .ref 129, .ref 123, .ref 127, .ref 128, .int v0_13, .null, .int 0]))) (h115 : am_is H 115 (.inl ((.object "TerminalHouse$Window"), (8, .inr (.inr (.inr (.inr am_q115))))))) (h141 : am_is H 141 (.inr (9, [.ref 142, .int 0, .int 0, .int 0, .int 0, .int 0, .int 0, .int 0, .int 0, .int 0]))) (h143 : am_is H 143 (.inr (9, [.ref 144, .int 0, .int 0, .int 0, .int 0, .int 0, .int 0, .int 0, .int 0, .int 0]))) (h145 : am_is H 145 (.inr (9, [.ref 146, .int 0, .int 0, .int 0, .int 0, .int 0, .int 0, .int 0, .int 0, .int 0]))) (h147 : am_is H 147 (.inr (9, [.ref 148, .int 0, .int 0, .int 0, .int 0, .int 0, .int 0, .int 0, .int 0, .int 0]))) (h149 : am_is H 149 (.inr (9, [.ref 150, .int 0, .int 0, .int 0, .int 0, .int 0, .int 0, .int 0, .int 0, .int 0]))) (h151 : am_is H 151 (.inr (9, [.ref 152, .int 0, .int 0, .int 0, .int 0, .int 0, .int 0, .int 0, .int 0, .int 0]))) (h153 : am_is H 153 (.inr (9, [.ref 154, .int 0, .int 0, .int 0, .int 0, .int 0, .int 0, .int 0, .int 0, .int 0]))) (h155 : am_is H 155 (.inr (9, [.ref 156, .int 0, .int 0, .int 0, .int 0, .int 0, .int 0, .int 0, .int 0, .int 0]))) (c1 : ¬ x0 < 0) (c2 : ¬ 8 ≤ x0) (c3 : x0 = 7)  :
    am_E sL sx cs 98 0 [(0, .ref 0), (1, .int x0)] [] H (some (.null)) (fun H1 => (True) ∧ ∀ j : Nat, H1[j]? = H[j]?) := by
  refine ex_s (am_nb (m := 1) (pc1 := 1) (ls1 := [(0, .ref 0), (1, .int x0)]) (st1 := [.int x0]) (H1 := H) (k1 := 0) (n1 := 0) (by with_unfolding_all rfl)) ?_
  refine ex_s (st_if rfl) ?_
  refine ex_pc (if_neg c1) ?_
  refine ex_s (am_nb (m := 2) (pc1 := 7) (ls1 := [(0, .ref 0), (1, .int x0)]) (st1 := [.int 8, .int x0]) (H1 := H) (k1 := 0) (n1 := 0) (by with_unfolding_all rfl)) ?_
  refine ex_s (st_icmp rfl) ?_
  refine ex_pc (if_neg c2) ?_
  refine ex_s (am_nb (m := 1) (pc1 := 11) (ls1 := [(0, .ref 0), (1, .int x0)]) (st1 := [.ref 0]) (H1 := H) (k1 := 0) (n1 := 0) (by with_unfolding_all rfl)) ?_
  refine ex_s (st_get rfl h0 rfl) ?_
  refine ex_s (am_nb (m := 1) (pc1 := 15) (ls1 := [(0, .ref 0), (1, .int x0)]) (st1 := [.int x0, .ref 115]) (H1 := H) (k1 := 0) (n1 := 0) (by with_unfolding_all rfl)) ?_
  refine ex_s (st_aald rfl h115 (by rw [c3]; decide) rfl) ?_
  refine ex_s (am_nb (m := 0) (pc1 := 16) (ls1 := [(0, .ref 0), (1, .int x0)]) (st1 := [.ref 155]) (H1 := H) (k1 := 0) (n1 := 0) (by rw [c3]; with_unfolding_all rfl)) ?_
  refine ex_s (st_get rfl h155 rfl) ?_
  refine ex_s (am_nb (m := 2) (pc1 := 23) (ls1 := [(0, .ref 0), (1, .int x0)]) (st1 := [.null]) (H1 := H) (k1 := 0) (n1 := 0) (by with_unfolding_all rfl)) ?_
  exact ex_r (st_aret rfl rfl rfl rfl) ⟨trivial, fun j => rfl⟩

set_option maxRecDepth 100000 in
theorem fx_scrolls_0 {sL : Nat} {sx : Nat → Int32} {cs : Nat → Nat → Option Int32} {H : am_H} {v0_13 : Int32} {x0 : Int32} {x1 : Int32} (h0 : am_is H 0 (.inr (11, [.ref 1, .int 0, .ref 2, .int 0, .ref 3, .ref 93, .ref 97, .ref 115, .ref 116, .ref 129, .ref 123, .ref 127, .ref 128, .int v0_13, .null, .int 0]))) (h115 : am_is H 115 (.inl ((.object "TerminalHouse$Window"), (8, .inr (.inr (.inr (.inr am_q115))))))) (h141 : am_is H 141 (.inr (9, [.ref 142, .int 0, .int 0, .int 0, .int 0, .int 0, .int 0, .int 0, .int 0, .int 0]))) (h143 : am_is H 143 (.inr (9, [.ref 144, .int 0, .int 0, .int 0, .int 0, .int 0, .int 0, .int 0, .int 0, .int 0]))) (h145 : am_is H 145 (.inr (9, [.ref 146, .int 0, .int 0, .int 0, .int 0, .int 0, .int 0, .int 0, .int 0, .int 0]))) (h147 : am_is H 147 (.inr (9, [.ref 148, .int 0, .int 0, .int 0, .int 0, .int 0, .int 0, .int 0, .int 0, .int 0]))) (h149 : am_is H 149 (.inr (9, [.ref 150, .int 0, .int 0, .int 0, .int 0, .int 0, .int 0, .int 0, .int 0, .int 0]))) (h151 : am_is H 151 (.inr (9, [.ref 152, .int 0, .int 0, .int 0, .int 0, .int 0, .int 0, .int 0, .int 0, .int 0]))) (h153 : am_is H 153 (.inr (9, [.ref 154, .int 0, .int 0, .int 0, .int 0, .int 0, .int 0, .int 0, .int 0, .int 0]))) (h155 : am_is H 155 (.inr (9, [.ref 156, .int 0, .int 0, .int 0, .int 0, .int 0, .int 0, .int 0, .int 0, .int 0]))) (c1 : x0 < 0)  :
    am_E sL sx cs 102 0 [(0, .ref 0), (1, .int x0), (2, .int x1)] [] H (some (.int 0)) (fun H1 => (True) ∧ ∀ j : Nat, H1[j]? = H[j]?) := by
  refine ex_s (am_nb (m := 2) (pc1 := 2) (ls1 := [(0, .ref 0), (1, .int x0), (2, .int x1)]) (st1 := [.int x0, .ref 0]) (H1 := H) (k1 := 0) (n1 := 0) (by with_unfolding_all rfl)) ?_
  refine ex_cv1 (as := [.int x0]) (rest := []) rfl rfl rfl rfl h0 rfl (by with_unfolding_all rfl) (by with_unfolding_all rfl) (fx_scrolls_1_0 h0 h115 h141 h143 h145 h147 h149 h151 h153 h155 c1) ?_
  rintro H107 ⟨-, k107⟩
  refine ex_s (am_nb (m := 4) (pc1 := 11) (ls1 := [(3, .null), (0, .ref 0), (1, .int x0), (2, .int x1)]) (st1 := [.int 0]) (H1 := H107) (k1 := 0) (n1 := 0) (by with_unfolding_all rfl)) ?_
  exact ex_r (st_iret rfl rfl rfl) ⟨trivial, fun j => (k107 j)⟩

set_option maxRecDepth 100000 in
theorem fx_scrolls_1 {sL : Nat} {sx : Nat → Int32} {cs : Nat → Nat → Option Int32} {H : am_H} {v0_13 : Int32} {x0 : Int32} {x1 : Int32} (h0 : am_is H 0 (.inr (11, [.ref 1, .int 0, .ref 2, .int 0, .ref 3, .ref 93, .ref 97, .ref 115, .ref 116, .ref 129, .ref 123, .ref 127, .ref 128, .int v0_13, .null, .int 0]))) (h115 : am_is H 115 (.inl ((.object "TerminalHouse$Window"), (8, .inr (.inr (.inr (.inr am_q115))))))) (h141 : am_is H 141 (.inr (9, [.ref 142, .int 0, .int 0, .int 0, .int 0, .int 0, .int 0, .int 0, .int 0, .int 0]))) (h143 : am_is H 143 (.inr (9, [.ref 144, .int 0, .int 0, .int 0, .int 0, .int 0, .int 0, .int 0, .int 0, .int 0]))) (h145 : am_is H 145 (.inr (9, [.ref 146, .int 0, .int 0, .int 0, .int 0, .int 0, .int 0, .int 0, .int 0, .int 0]))) (h147 : am_is H 147 (.inr (9, [.ref 148, .int 0, .int 0, .int 0, .int 0, .int 0, .int 0, .int 0, .int 0, .int 0]))) (h149 : am_is H 149 (.inr (9, [.ref 150, .int 0, .int 0, .int 0, .int 0, .int 0, .int 0, .int 0, .int 0, .int 0]))) (h151 : am_is H 151 (.inr (9, [.ref 152, .int 0, .int 0, .int 0, .int 0, .int 0, .int 0, .int 0, .int 0, .int 0]))) (h153 : am_is H 153 (.inr (9, [.ref 154, .int 0, .int 0, .int 0, .int 0, .int 0, .int 0, .int 0, .int 0, .int 0]))) (h155 : am_is H 155 (.inr (9, [.ref 156, .int 0, .int 0, .int 0, .int 0, .int 0, .int 0, .int 0, .int 0, .int 0]))) (c1 : ¬ x0 < 0) (c2 : 8 ≤ x0)  :
    am_E sL sx cs 102 0 [(0, .ref 0), (1, .int x0), (2, .int x1)] [] H (some (.int 0)) (fun H1 => (True) ∧ ∀ j : Nat, H1[j]? = H[j]?) := by
  refine ex_s (am_nb (m := 2) (pc1 := 2) (ls1 := [(0, .ref 0), (1, .int x0), (2, .int x1)]) (st1 := [.int x0, .ref 0]) (H1 := H) (k1 := 0) (n1 := 0) (by with_unfolding_all rfl)) ?_
  refine ex_cv1 (as := [.int x0]) (rest := []) rfl rfl rfl rfl h0 rfl (by with_unfolding_all rfl) (by with_unfolding_all rfl) (fx_scrolls_1_1 h0 h115 h141 h143 h145 h147 h149 h151 h153 h155 c1 c2) ?_
  rintro H108 ⟨-, k108⟩
  refine ex_s (am_nb (m := 4) (pc1 := 11) (ls1 := [(3, .null), (0, .ref 0), (1, .int x0), (2, .int x1)]) (st1 := [.int 0]) (H1 := H108) (k1 := 0) (n1 := 0) (by with_unfolding_all rfl)) ?_
  exact ex_r (st_iret rfl rfl rfl) ⟨trivial, fun j => (k108 j)⟩

set_option maxRecDepth 100000 in
theorem fx_scrolls_2 {sL : Nat} {sx : Nat → Int32} {cs : Nat → Nat → Option Int32} {H : am_H} {v0_13 : Int32} {x0 : Int32} {x1 : Int32} (h0 : am_is H 0 (.inr (11, [.ref 1, .int 0, .ref 2, .int 0, .ref 3, .ref 93, .ref 97, .ref 115, .ref 116, .ref 129, .ref 123, .ref 127, .ref 128, .int v0_13, .null, .int 0]))) (h115 : am_is H 115 (.inl ((.object "TerminalHouse$Window"), (8, .inr (.inr (.inr (.inr am_q115))))))) (h141 : am_is H 141 (.inr (9, [.ref 142, .int 0, .int 0, .int 0, .int 0, .int 0, .int 0, .int 0, .int 0, .int 0]))) (h143 : am_is H 143 (.inr (9, [.ref 144, .int 0, .int 0, .int 0, .int 0, .int 0, .int 0, .int 0, .int 0, .int 0]))) (h145 : am_is H 145 (.inr (9, [.ref 146, .int 0, .int 0, .int 0, .int 0, .int 0, .int 0, .int 0, .int 0, .int 0]))) (h147 : am_is H 147 (.inr (9, [.ref 148, .int 0, .int 0, .int 0, .int 0, .int 0, .int 0, .int 0, .int 0, .int 0]))) (h149 : am_is H 149 (.inr (9, [.ref 150, .int 0, .int 0, .int 0, .int 0, .int 0, .int 0, .int 0, .int 0, .int 0]))) (h151 : am_is H 151 (.inr (9, [.ref 152, .int 0, .int 0, .int 0, .int 0, .int 0, .int 0, .int 0, .int 0, .int 0]))) (h153 : am_is H 153 (.inr (9, [.ref 154, .int 0, .int 0, .int 0, .int 0, .int 0, .int 0, .int 0, .int 0, .int 0]))) (h155 : am_is H 155 (.inr (9, [.ref 156, .int 0, .int 0, .int 0, .int 0, .int 0, .int 0, .int 0, .int 0, .int 0]))) (c1 : ¬ x0 < 0) (c2 : ¬ 8 ≤ x0) (c3 : x0 = 0)  :
    am_E sL sx cs 102 0 [(0, .ref 0), (1, .int x0), (2, .int x1)] [] H (some (.int 0)) (fun H1 => (True) ∧ ∀ j : Nat, H1[j]? = H[j]?) := by
  refine ex_s (am_nb (m := 2) (pc1 := 2) (ls1 := [(0, .ref 0), (1, .int x0), (2, .int x1)]) (st1 := [.int x0, .ref 0]) (H1 := H) (k1 := 0) (n1 := 0) (by with_unfolding_all rfl)) ?_
  refine ex_cv1 (as := [.int x0]) (rest := []) rfl rfl rfl rfl h0 rfl (by with_unfolding_all rfl) (by with_unfolding_all rfl) (fx_scrolls_1_2 h0 h115 h141 h143 h145 h147 h149 h151 h153 h155 c1 c2 c3) ?_
  rintro H109 ⟨-, k109⟩
  refine ex_s (am_nb (m := 4) (pc1 := 11) (ls1 := [(3, .null), (0, .ref 0), (1, .int x0), (2, .int x1)]) (st1 := [.int 0]) (H1 := H109) (k1 := 0) (n1 := 0) (by with_unfolding_all rfl)) ?_
  exact ex_r (st_iret rfl rfl rfl) ⟨trivial, fun j => (k109 j)⟩

set_option maxRecDepth 100000 in
theorem fx_scrolls_3 {sL : Nat} {sx : Nat → Int32} {cs : Nat → Nat → Option Int32} {H : am_H} {v0_13 : Int32} {x0 : Int32} {x1 : Int32} (h0 : am_is H 0 (.inr (11, [.ref 1, .int 0, .ref 2, .int 0, .ref 3, .ref 93, .ref 97, .ref 115, .ref 116, .ref 129, .ref 123, .ref 127, .ref 128, .int v0_13, .null, .int 0]))) (h115 : am_is H 115 (.inl ((.object "TerminalHouse$Window"), (8, .inr (.inr (.inr (.inr am_q115))))))) (h141 : am_is H 141 (.inr (9, [.ref 142, .int 0, .int 0, .int 0, .int 0, .int 0, .int 0, .int 0, .int 0, .int 0]))) (h143 : am_is H 143 (.inr (9, [.ref 144, .int 0, .int 0, .int 0, .int 0, .int 0, .int 0, .int 0, .int 0, .int 0]))) (h145 : am_is H 145 (.inr (9, [.ref 146, .int 0, .int 0, .int 0, .int 0, .int 0, .int 0, .int 0, .int 0, .int 0]))) (h147 : am_is H 147 (.inr (9, [.ref 148, .int 0, .int 0, .int 0, .int 0, .int 0, .int 0, .int 0, .int 0, .int 0]))) (h149 : am_is H 149 (.inr (9, [.ref 150, .int 0, .int 0, .int 0, .int 0, .int 0, .int 0, .int 0, .int 0, .int 0]))) (h151 : am_is H 151 (.inr (9, [.ref 152, .int 0, .int 0, .int 0, .int 0, .int 0, .int 0, .int 0, .int 0, .int 0]))) (h153 : am_is H 153 (.inr (9, [.ref 154, .int 0, .int 0, .int 0, .int 0, .int 0, .int 0, .int 0, .int 0, .int 0]))) (h155 : am_is H 155 (.inr (9, [.ref 156, .int 0, .int 0, .int 0, .int 0, .int 0, .int 0, .int 0, .int 0, .int 0]))) (c1 : ¬ x0 < 0) (c2 : ¬ 8 ≤ x0) (c3 : x0 = 1)  :
    am_E sL sx cs 102 0 [(0, .ref 0), (1, .int x0), (2, .int x1)] [] H (some (.int 0)) (fun H1 => (True) ∧ ∀ j : Nat, H1[j]? = H[j]?) := by
  refine ex_s (am_nb (m := 2) (pc1 := 2) (ls1 := [(0, .ref 0), (1, .int x0), (2, .int x1)]) (st1 := [.int x0, .ref 0]) (H1 := H) (k1 := 0) (n1 := 0) (by with_unfolding_all rfl)) ?_
  refine ex_cv1 (as := [.int x0]) (rest := []) rfl rfl rfl rfl h0 rfl (by with_unfolding_all rfl) (by with_unfolding_all rfl) (fx_scrolls_1_3 h0 h115 h141 h143 h145 h147 h149 h151 h153 h155 c1 c2 c3) ?_
  rintro H110 ⟨-, k110⟩
  refine ex_s (am_nb (m := 4) (pc1 := 11) (ls1 := [(3, .null), (0, .ref 0), (1, .int x0), (2, .int x1)]) (st1 := [.int 0]) (H1 := H110) (k1 := 0) (n1 := 0) (by with_unfolding_all rfl)) ?_
  exact ex_r (st_iret rfl rfl rfl) ⟨trivial, fun j => (k110 j)⟩

set_option maxRecDepth 100000 in
theorem fx_scrolls_4 {sL : Nat} {sx : Nat → Int32} {cs : Nat → Nat → Option Int32} {H : am_H} {v0_13 : Int32} {x0 : Int32} {x1 : Int32} (h0 : am_is H 0 (.inr (11, [.ref 1, .int 0, .ref 2, .int 0, .ref 3, .ref 93, .ref 97, .ref 115, .ref 116, .ref 129, .ref 123, .ref 127, .ref 128, .int v0_13, .null, .int 0]))) (h115 : am_is H 115 (.inl ((.object "TerminalHouse$Window"), (8, .inr (.inr (.inr (.inr am_q115))))))) (h141 : am_is H 141 (.inr (9, [.ref 142, .int 0, .int 0, .int 0, .int 0, .int 0, .int 0, .int 0, .int 0, .int 0]))) (h143 : am_is H 143 (.inr (9, [.ref 144, .int 0, .int 0, .int 0, .int 0, .int 0, .int 0, .int 0, .int 0, .int 0]))) (h145 : am_is H 145 (.inr (9, [.ref 146, .int 0, .int 0, .int 0, .int 0, .int 0, .int 0, .int 0, .int 0, .int 0]))) (h147 : am_is H 147 (.inr (9, [.ref 148, .int 0, .int 0, .int 0, .int 0, .int 0, .int 0, .int 0, .int 0, .int 0]))) (h149 : am_is H 149 (.inr (9, [.ref 150, .int 0, .int 0, .int 0, .int 0, .int 0, .int 0, .int 0, .int 0, .int 0]))) (h151 : am_is H 151 (.inr (9, [.ref 152, .int 0, .int 0, .int 0, .int 0, .int 0, .int 0, .int 0, .int 0, .int 0]))) (h153 : am_is H 153 (.inr (9, [.ref 154, .int 0, .int 0, .int 0, .int 0, .int 0, .int 0, .int 0, .int 0, .int 0]))) (h155 : am_is H 155 (.inr (9, [.ref 156, .int 0, .int 0, .int 0, .int 0, .int 0, .int 0, .int 0, .int 0, .int 0]))) (c1 : ¬ x0 < 0) (c2 : ¬ 8 ≤ x0) (c3 : x0 = 2)  :
    am_E sL sx cs 102 0 [(0, .ref 0), (1, .int x0), (2, .int x1)] [] H (some (.int 0)) (fun H1 => (True) ∧ ∀ j : Nat, H1[j]? = H[j]?) := by
  refine ex_s (am_nb (m := 2) (pc1 := 2) (ls1 := [(0, .ref 0), (1, .int x0), (2, .int x1)]) (st1 := [.int x0, .ref 0]) (H1 := H) (k1 := 0) (n1 := 0) (by with_unfolding_all rfl)) ?_
  refine ex_cv1 (as := [.int x0]) (rest := []) rfl rfl rfl rfl h0 rfl (by with_unfolding_all rfl) (by with_unfolding_all rfl) (fx_scrolls_1_4 h0 h115 h141 h143 h145 h147 h149 h151 h153 h155 c1 c2 c3) ?_
  rintro H111 ⟨-, k111⟩
  refine ex_s (am_nb (m := 4) (pc1 := 11) (ls1 := [(3, .null), (0, .ref 0), (1, .int x0), (2, .int x1)]) (st1 := [.int 0]) (H1 := H111) (k1 := 0) (n1 := 0) (by with_unfolding_all rfl)) ?_
  exact ex_r (st_iret rfl rfl rfl) ⟨trivial, fun j => (k111 j)⟩

set_option maxRecDepth 100000 in
theorem fx_scrolls_5 {sL : Nat} {sx : Nat → Int32} {cs : Nat → Nat → Option Int32} {H : am_H} {v0_13 : Int32} {x0 : Int32} {x1 : Int32} (h0 : am_is H 0 (.inr (11, [.ref 1, .int 0, .ref 2, .int 0, .ref 3, .ref 93, .ref 97, .ref 115, .ref 116, .ref 129, .ref 123, .ref 127, .ref 128, .int v0_13, .null, .int 0]))) (h115 : am_is H 115 (.inl ((.object "TerminalHouse$Window"), (8, .inr (.inr (.inr (.inr am_q115))))))) (h141 : am_is H 141 (.inr (9, [.ref 142, .int 0, .int 0, .int 0, .int 0, .int 0, .int 0, .int 0, .int 0, .int 0]))) (h143 : am_is H 143 (.inr (9, [.ref 144, .int 0, .int 0, .int 0, .int 0, .int 0, .int 0, .int 0, .int 0, .int 0]))) (h145 : am_is H 145 (.inr (9, [.ref 146, .int 0, .int 0, .int 0, .int 0, .int 0, .int 0, .int 0, .int 0, .int 0]))) (h147 : am_is H 147 (.inr (9, [.ref 148, .int 0, .int 0, .int 0, .int 0, .int 0, .int 0, .int 0, .int 0, .int 0]))) (h149 : am_is H 149 (.inr (9, [.ref 150, .int 0, .int 0, .int 0, .int 0, .int 0, .int 0, .int 0, .int 0, .int 0]))) (h151 : am_is H 151 (.inr (9, [.ref 152, .int 0, .int 0, .int 0, .int 0, .int 0, .int 0, .int 0, .int 0, .int 0]))) (h153 : am_is H 153 (.inr (9, [.ref 154, .int 0, .int 0, .int 0, .int 0, .int 0, .int 0, .int 0, .int 0, .int 0]))) (h155 : am_is H 155 (.inr (9, [.ref 156, .int 0, .int 0, .int 0, .int 0, .int 0, .int 0, .int 0, .int 0, .int 0]))) (c1 : ¬ x0 < 0) (c2 : ¬ 8 ≤ x0) (c3 : x0 = 3)  :
    am_E sL sx cs 102 0 [(0, .ref 0), (1, .int x0), (2, .int x1)] [] H (some (.int 0)) (fun H1 => (True) ∧ ∀ j : Nat, H1[j]? = H[j]?) := by
  refine ex_s (am_nb (m := 2) (pc1 := 2) (ls1 := [(0, .ref 0), (1, .int x0), (2, .int x1)]) (st1 := [.int x0, .ref 0]) (H1 := H) (k1 := 0) (n1 := 0) (by with_unfolding_all rfl)) ?_
  refine ex_cv1 (as := [.int x0]) (rest := []) rfl rfl rfl rfl h0 rfl (by with_unfolding_all rfl) (by with_unfolding_all rfl) (fx_scrolls_1_5 h0 h115 h141 h143 h145 h147 h149 h151 h153 h155 c1 c2 c3) ?_
  rintro H112 ⟨-, k112⟩
  refine ex_s (am_nb (m := 4) (pc1 := 11) (ls1 := [(3, .null), (0, .ref 0), (1, .int x0), (2, .int x1)]) (st1 := [.int 0]) (H1 := H112) (k1 := 0) (n1 := 0) (by with_unfolding_all rfl)) ?_
  exact ex_r (st_iret rfl rfl rfl) ⟨trivial, fun j => (k112 j)⟩

set_option maxRecDepth 100000 in
theorem fx_scrolls_6 {sL : Nat} {sx : Nat → Int32} {cs : Nat → Nat → Option Int32} {H : am_H} {v0_13 : Int32} {x0 : Int32} {x1 : Int32} (h0 : am_is H 0 (.inr (11, [.ref 1, .int 0, .ref 2, .int 0, .ref 3, .ref 93, .ref 97, .ref 115, .ref 116, .ref 129, .ref 123, .ref 127, .ref 128, .int v0_13, .null, .int 0]))) (h115 : am_is H 115 (.inl ((.object "TerminalHouse$Window"), (8, .inr (.inr (.inr (.inr am_q115))))))) (h141 : am_is H 141 (.inr (9, [.ref 142, .int 0, .int 0, .int 0, .int 0, .int 0, .int 0, .int 0, .int 0, .int 0]))) (h143 : am_is H 143 (.inr (9, [.ref 144, .int 0, .int 0, .int 0, .int 0, .int 0, .int 0, .int 0, .int 0, .int 0]))) (h145 : am_is H 145 (.inr (9, [.ref 146, .int 0, .int 0, .int 0, .int 0, .int 0, .int 0, .int 0, .int 0, .int 0]))) (h147 : am_is H 147 (.inr (9, [.ref 148, .int 0, .int 0, .int 0, .int 0, .int 0, .int 0, .int 0, .int 0, .int 0]))) (h149 : am_is H 149 (.inr (9, [.ref 150, .int 0, .int 0, .int 0, .int 0, .int 0, .int 0, .int 0, .int 0, .int 0]))) (h151 : am_is H 151 (.inr (9, [.ref 152, .int 0, .int 0, .int 0, .int 0, .int 0, .int 0, .int 0, .int 0, .int 0]))) (h153 : am_is H 153 (.inr (9, [.ref 154, .int 0, .int 0, .int 0, .int 0, .int 0, .int 0, .int 0, .int 0, .int 0]))) (h155 : am_is H 155 (.inr (9, [.ref 156, .int 0, .int 0, .int 0, .int 0, .int 0, .int 0, .int 0, .int 0, .int 0]))) (c1 : ¬ x0 < 0) (c2 : ¬ 8 ≤ x0) (c3 : x0 = 4)  :
    am_E sL sx cs 102 0 [(0, .ref 0), (1, .int x0), (2, .int x1)] [] H (some (.int 0)) (fun H1 => (True) ∧ ∀ j : Nat, H1[j]? = H[j]?) := by
  refine ex_s (am_nb (m := 2) (pc1 := 2) (ls1 := [(0, .ref 0), (1, .int x0), (2, .int x1)]) (st1 := [.int x0, .ref 0]) (H1 := H) (k1 := 0) (n1 := 0) (by with_unfolding_all rfl)) ?_
  refine ex_cv1 (as := [.int x0]) (rest := []) rfl rfl rfl rfl h0 rfl (by with_unfolding_all rfl) (by with_unfolding_all rfl) (fx_scrolls_1_6 h0 h115 h141 h143 h145 h147 h149 h151 h153 h155 c1 c2 c3) ?_
  rintro H113 ⟨-, k113⟩
  refine ex_s (am_nb (m := 4) (pc1 := 11) (ls1 := [(3, .null), (0, .ref 0), (1, .int x0), (2, .int x1)]) (st1 := [.int 0]) (H1 := H113) (k1 := 0) (n1 := 0) (by with_unfolding_all rfl)) ?_
  exact ex_r (st_iret rfl rfl rfl) ⟨trivial, fun j => (k113 j)⟩

set_option maxRecDepth 100000 in
theorem fx_scrolls_7 {sL : Nat} {sx : Nat → Int32} {cs : Nat → Nat → Option Int32} {H : am_H} {v0_13 : Int32} {x0 : Int32} {x1 : Int32} (h0 : am_is H 0 (.inr (11, [.ref 1, .int 0, .ref 2, .int 0, .ref 3, .ref 93, .ref 97, .ref 115, .ref 116, .ref 129, .ref 123, .ref 127, .ref 128, .int v0_13, .null, .int 0]))) (h115 : am_is H 115 (.inl ((.object "TerminalHouse$Window"), (8, .inr (.inr (.inr (.inr am_q115))))))) (h141 : am_is H 141 (.inr (9, [.ref 142, .int 0, .int 0, .int 0, .int 0, .int 0, .int 0, .int 0, .int 0, .int 0]))) (h143 : am_is H 143 (.inr (9, [.ref 144, .int 0, .int 0, .int 0, .int 0, .int 0, .int 0, .int 0, .int 0, .int 0]))) (h145 : am_is H 145 (.inr (9, [.ref 146, .int 0, .int 0, .int 0, .int 0, .int 0, .int 0, .int 0, .int 0, .int 0]))) (h147 : am_is H 147 (.inr (9, [.ref 148, .int 0, .int 0, .int 0, .int 0, .int 0, .int 0, .int 0, .int 0, .int 0]))) (h149 : am_is H 149 (.inr (9, [.ref 150, .int 0, .int 0, .int 0, .int 0, .int 0, .int 0, .int 0, .int 0, .int 0]))) (h151 : am_is H 151 (.inr (9, [.ref 152, .int 0, .int 0, .int 0, .int 0, .int 0, .int 0, .int 0, .int 0, .int 0]))) (h153 : am_is H 153 (.inr (9, [.ref 154, .int 0, .int 0, .int 0, .int 0, .int 0, .int 0, .int 0, .int 0, .int 0]))) (h155 : am_is H 155 (.inr (9, [.ref 156, .int 0, .int 0, .int 0, .int 0, .int 0, .int 0, .int 0, .int 0, .int 0]))) (c1 : ¬ x0 < 0) (c2 : ¬ 8 ≤ x0) (c3 : x0 = 5)  :
    am_E sL sx cs 102 0 [(0, .ref 0), (1, .int x0), (2, .int x1)] [] H (some (.int 0)) (fun H1 => (True) ∧ ∀ j : Nat, H1[j]? = H[j]?) := by
  refine ex_s (am_nb (m := 2) (pc1 := 2) (ls1 := [(0, .ref 0), (1, .int x0), (2, .int x1)]) (st1 := [.int x0, .ref 0]) (H1 := H) (k1 := 0) (n1 := 0) (by with_unfolding_all rfl)) ?_
  refine ex_cv1 (as := [.int x0]) (rest := []) rfl rfl rfl rfl h0 rfl (by with_unfolding_all rfl) (by with_unfolding_all rfl) (fx_scrolls_1_7 h0 h115 h141 h143 h145 h147 h149 h151 h153 h155 c1 c2 c3) ?_
  rintro H114 ⟨-, k114⟩
  refine ex_s (am_nb (m := 4) (pc1 := 11) (ls1 := [(3, .null), (0, .ref 0), (1, .int x0), (2, .int x1)]) (st1 := [.int 0]) (H1 := H114) (k1 := 0) (n1 := 0) (by with_unfolding_all rfl)) ?_
  exact ex_r (st_iret rfl rfl rfl) ⟨trivial, fun j => (k114 j)⟩

set_option maxRecDepth 100000 in
theorem fx_scrolls_8 {sL : Nat} {sx : Nat → Int32} {cs : Nat → Nat → Option Int32} {H : am_H} {v0_13 : Int32} {x0 : Int32} {x1 : Int32} (h0 : am_is H 0 (.inr (11, [.ref 1, .int 0, .ref 2, .int 0, .ref 3, .ref 93, .ref 97, .ref 115, .ref 116, .ref 129, .ref 123, .ref 127, .ref 128, .int v0_13, .null, .int 0]))) (h115 : am_is H 115 (.inl ((.object "TerminalHouse$Window"), (8, .inr (.inr (.inr (.inr am_q115))))))) (h141 : am_is H 141 (.inr (9, [.ref 142, .int 0, .int 0, .int 0, .int 0, .int 0, .int 0, .int 0, .int 0, .int 0]))) (h143 : am_is H 143 (.inr (9, [.ref 144, .int 0, .int 0, .int 0, .int 0, .int 0, .int 0, .int 0, .int 0, .int 0]))) (h145 : am_is H 145 (.inr (9, [.ref 146, .int 0, .int 0, .int 0, .int 0, .int 0, .int 0, .int 0, .int 0, .int 0]))) (h147 : am_is H 147 (.inr (9, [.ref 148, .int 0, .int 0, .int 0, .int 0, .int 0, .int 0, .int 0, .int 0, .int 0]))) (h149 : am_is H 149 (.inr (9, [.ref 150, .int 0, .int 0, .int 0, .int 0, .int 0, .int 0, .int 0, .int 0, .int 0]))) (h151 : am_is H 151 (.inr (9, [.ref 152, .int 0, .int 0, .int 0, .int 0, .int 0, .int 0, .int 0, .int 0, .int 0]))) (h153 : am_is H 153 (.inr (9, [.ref 154, .int 0, .int 0, .int 0, .int 0, .int 0, .int 0, .int 0, .int 0, .int 0]))) (h155 : am_is H 155 (.inr (9, [.ref 156, .int 0, .int 0, .int 0, .int 0, .int 0, .int 0, .int 0, .int 0, .int 0]))) (c1 : ¬ x0 < 0) (c2 : ¬ 8 ≤ x0) (c3 : x0 = 6)  :
    am_E sL sx cs 102 0 [(0, .ref 0), (1, .int x0), (2, .int x1)] [] H (some (.int 0)) (fun H1 => (True) ∧ ∀ j : Nat, H1[j]? = H[j]?) := by
  refine ex_s (am_nb (m := 2) (pc1 := 2) (ls1 := [(0, .ref 0), (1, .int x0), (2, .int x1)]) (st1 := [.int x0, .ref 0]) (H1 := H) (k1 := 0) (n1 := 0) (by with_unfolding_all rfl)) ?_
  refine ex_cv1 (as := [.int x0]) (rest := []) rfl rfl rfl rfl h0 rfl (by with_unfolding_all rfl) (by with_unfolding_all rfl) (fx_scrolls_1_8 h0 h115 h141 h143 h145 h147 h149 h151 h153 h155 c1 c2 c3) ?_
  rintro H115 ⟨-, k115⟩
  refine ex_s (am_nb (m := 4) (pc1 := 11) (ls1 := [(3, .null), (0, .ref 0), (1, .int x0), (2, .int x1)]) (st1 := [.int 0]) (H1 := H115) (k1 := 0) (n1 := 0) (by with_unfolding_all rfl)) ?_
  exact ex_r (st_iret rfl rfl rfl) ⟨trivial, fun j => (k115 j)⟩

set_option maxRecDepth 100000 in
theorem fx_scrolls_9 {sL : Nat} {sx : Nat → Int32} {cs : Nat → Nat → Option Int32} {H : am_H} {v0_13 : Int32} {x0 : Int32} {x1 : Int32} (h0 : am_is H 0 (.inr (11, [.ref 1, .int 0, .ref 2, .int 0, .ref 3, .ref 93, .ref 97, .ref 115, .ref 116, .ref 129, .ref 123, .ref 127, .ref 128, .int v0_13, .null, .int 0]))) (h115 : am_is H 115 (.inl ((.object "TerminalHouse$Window"), (8, .inr (.inr (.inr (.inr am_q115))))))) (h141 : am_is H 141 (.inr (9, [.ref 142, .int 0, .int 0, .int 0, .int 0, .int 0, .int 0, .int 0, .int 0, .int 0]))) (h143 : am_is H 143 (.inr (9, [.ref 144, .int 0, .int 0, .int 0, .int 0, .int 0, .int 0, .int 0, .int 0, .int 0]))) (h145 : am_is H 145 (.inr (9, [.ref 146, .int 0, .int 0, .int 0, .int 0, .int 0, .int 0, .int 0, .int 0, .int 0]))) (h147 : am_is H 147 (.inr (9, [.ref 148, .int 0, .int 0, .int 0, .int 0, .int 0, .int 0, .int 0, .int 0, .int 0]))) (h149 : am_is H 149 (.inr (9, [.ref 150, .int 0, .int 0, .int 0, .int 0, .int 0, .int 0, .int 0, .int 0, .int 0]))) (h151 : am_is H 151 (.inr (9, [.ref 152, .int 0, .int 0, .int 0, .int 0, .int 0, .int 0, .int 0, .int 0, .int 0]))) (h153 : am_is H 153 (.inr (9, [.ref 154, .int 0, .int 0, .int 0, .int 0, .int 0, .int 0, .int 0, .int 0, .int 0]))) (h155 : am_is H 155 (.inr (9, [.ref 156, .int 0, .int 0, .int 0, .int 0, .int 0, .int 0, .int 0, .int 0, .int 0]))) (c1 : ¬ x0 < 0) (c2 : ¬ 8 ≤ x0) (c3 : x0 = 7)  :
    am_E sL sx cs 102 0 [(0, .ref 0), (1, .int x0), (2, .int x1)] [] H (some (.int 0)) (fun H1 => (True) ∧ ∀ j : Nat, H1[j]? = H[j]?) := by
  refine ex_s (am_nb (m := 2) (pc1 := 2) (ls1 := [(0, .ref 0), (1, .int x0), (2, .int x1)]) (st1 := [.int x0, .ref 0]) (H1 := H) (k1 := 0) (n1 := 0) (by with_unfolding_all rfl)) ?_
  refine ex_cv1 (as := [.int x0]) (rest := []) rfl rfl rfl rfl h0 rfl (by with_unfolding_all rfl) (by with_unfolding_all rfl) (fx_scrolls_1_9 h0 h115 h141 h143 h145 h147 h149 h151 h153 h155 c1 c2 c3) ?_
  rintro H116 ⟨-, k116⟩
  refine ex_s (am_nb (m := 4) (pc1 := 11) (ls1 := [(3, .null), (0, .ref 0), (1, .int x0), (2, .int x1)]) (st1 := [.int 0]) (H1 := H116) (k1 := 0) (n1 := 0) (by with_unfolding_all rfl)) ?_
  exact ex_r (st_iret rfl rfl rfl) ⟨trivial, fun j => (k116 j)⟩

set_option maxRecDepth 100000 in
theorem fx_say_1_0 {sL : Nat} {sx : Nat → Int32} {cs : Nat → Nat → Option Int32} {H : am_H} {v0_13 : Int32} {x0 : Int32} (h0 : am_is H 0 (.inr (11, [.ref 1, .int 0, .ref 2, .int 0, .ref 3, .ref 93, .ref 97, .ref 115, .ref 116, .ref 129, .ref 123, .ref 127, .ref 128, .int v0_13, .null, .int 0]))) (h115 : am_is H 115 (.inl ((.object "TerminalHouse$Window"), (8, .inr (.inr (.inr (.inr am_q115))))))) (h141 : am_is H 141 (.inr (9, [.ref 142, .int 0, .int 0, .int 0, .int 0, .int 0, .int 0, .int 0, .int 0, .int 0]))) (h143 : am_is H 143 (.inr (9, [.ref 144, .int 0, .int 0, .int 0, .int 0, .int 0, .int 0, .int 0, .int 0, .int 0]))) (h145 : am_is H 145 (.inr (9, [.ref 146, .int 0, .int 0, .int 0, .int 0, .int 0, .int 0, .int 0, .int 0, .int 0]))) (h147 : am_is H 147 (.inr (9, [.ref 148, .int 0, .int 0, .int 0, .int 0, .int 0, .int 0, .int 0, .int 0, .int 0]))) (h149 : am_is H 149 (.inr (9, [.ref 150, .int 0, .int 0, .int 0, .int 0, .int 0, .int 0, .int 0, .int 0, .int 0]))) (h151 : am_is H 151 (.inr (9, [.ref 152, .int 0, .int 0, .int 0, .int 0, .int 0, .int 0, .int 0, .int 0, .int 0]))) (h153 : am_is H 153 (.inr (9, [.ref 154, .int 0, .int 0, .int 0, .int 0, .int 0, .int 0, .int 0, .int 0, .int 0]))) (h155 : am_is H 155 (.inr (9, [.ref 156, .int 0, .int 0, .int 0, .int 0, .int 0, .int 0, .int 0, .int 0, .int 0]))) (c1 : x0 < 0)  :
    am_E sL sx cs 98 0 [(0, .ref 0), (1, .int x0)] [] H (some (.null)) (fun H1 => (True) ∧ ∀ j : Nat, H1[j]? = H[j]?) := by
  refine ex_s (am_nb (m := 1) (pc1 := 1) (ls1 := [(0, .ref 0), (1, .int x0)]) (st1 := [.int x0]) (H1 := H) (k1 := 0) (n1 := 0) (by with_unfolding_all rfl)) ?_
  refine ex_s (st_if rfl) ?_
  refine ex_pc (if_pos c1) ?_
  refine ex_s (am_nb (m := 1) (pc1 := 23) (ls1 := [(0, .ref 0), (1, .int x0)]) (st1 := [.null]) (H1 := H) (k1 := 0) (n1 := 0) (by with_unfolding_all rfl)) ?_
  exact ex_r (st_aret rfl rfl rfl rfl) ⟨trivial, fun j => rfl⟩

set_option maxRecDepth 100000 in
theorem fx_say_1_1 {sL : Nat} {sx : Nat → Int32} {cs : Nat → Nat → Option Int32} {H : am_H} {v0_13 : Int32} {x0 : Int32} (h0 : am_is H 0 (.inr (11, [.ref 1, .int 0, .ref 2, .int 0, .ref 3, .ref 93, .ref 97, .ref 115, .ref 116, .ref 129, .ref 123, .ref 127, .ref 128, .int v0_13, .null, .int 0]))) (h115 : am_is H 115 (.inl ((.object "TerminalHouse$Window"), (8, .inr (.inr (.inr (.inr am_q115))))))) (h141 : am_is H 141 (.inr (9, [.ref 142, .int 0, .int 0, .int 0, .int 0, .int 0, .int 0, .int 0, .int 0, .int 0]))) (h143 : am_is H 143 (.inr (9, [.ref 144, .int 0, .int 0, .int 0, .int 0, .int 0, .int 0, .int 0, .int 0, .int 0]))) (h145 : am_is H 145 (.inr (9, [.ref 146, .int 0, .int 0, .int 0, .int 0, .int 0, .int 0, .int 0, .int 0, .int 0]))) (h147 : am_is H 147 (.inr (9, [.ref 148, .int 0, .int 0, .int 0, .int 0, .int 0, .int 0, .int 0, .int 0, .int 0]))) (h149 : am_is H 149 (.inr (9, [.ref 150, .int 0, .int 0, .int 0, .int 0, .int 0, .int 0, .int 0, .int 0, .int 0]))) (h151 : am_is H 151 (.inr (9, [.ref 152, .int 0, .int 0, .int 0, .int 0, .int 0, .int 0, .int 0, .int 0, .int 0]))) (h153 : am_is H 153 (.inr (9, [.ref 154, .int 0, .int 0, .int 0, .int 0, .int 0, .int 0, .int 0, .int 0, .int 0]))) (h155 : am_is H 155 (.inr (9, [.ref 156, .int 0, .int 0, .int 0, .int 0, .int 0, .int 0, .int 0, .int 0, .int 0]))) (c1 : ¬ x0 < 0) (c2 : 8 ≤ x0)  :
    am_E sL sx cs 98 0 [(0, .ref 0), (1, .int x0)] [] H (some (.null)) (fun H1 => (True) ∧ ∀ j : Nat, H1[j]? = H[j]?) := by
  refine ex_s (am_nb (m := 1) (pc1 := 1) (ls1 := [(0, .ref 0), (1, .int x0)]) (st1 := [.int x0]) (H1 := H) (k1 := 0) (n1 := 0) (by with_unfolding_all rfl)) ?_
  refine ex_s (st_if rfl) ?_
  refine ex_pc (if_neg c1) ?_
  refine ex_s (am_nb (m := 2) (pc1 := 7) (ls1 := [(0, .ref 0), (1, .int x0)]) (st1 := [.int 8, .int x0]) (H1 := H) (k1 := 0) (n1 := 0) (by with_unfolding_all rfl)) ?_
  refine ex_s (st_icmp rfl) ?_
  refine ex_pc (if_pos c2) ?_
  refine ex_s (am_nb (m := 1) (pc1 := 23) (ls1 := [(0, .ref 0), (1, .int x0)]) (st1 := [.null]) (H1 := H) (k1 := 0) (n1 := 0) (by with_unfolding_all rfl)) ?_
  exact ex_r (st_aret rfl rfl rfl rfl) ⟨trivial, fun j => rfl⟩

set_option maxRecDepth 100000 in
theorem fx_say_1_2 {sL : Nat} {sx : Nat → Int32} {cs : Nat → Nat → Option Int32} {H : am_H} {v0_13 : Int32} {x0 : Int32} (h0 : am_is H 0 (.inr (11, [.ref 1, .int 0, .ref 2, .int 0, .ref 3, .ref 93, .ref 97, .ref 115, .ref 116, .ref 129, .ref 123, .ref 127, .ref 128, .int v0_13, .null, .int 0]))) (h115 : am_is H 115 (.inl ((.object "TerminalHouse$Window"), (8, .inr (.inr (.inr (.inr am_q115))))))) (h141 : am_is H 141 (.inr (9, [.ref 142, .int 0, .int 0, .int 0, .int 0, .int 0, .int 0, .int 0, .int 0, .int 0]))) (h143 : am_is H 143 (.inr (9, [.ref 144, .int 0, .int 0, .int 0, .int 0, .int 0, .int 0, .int 0, .int 0, .int 0]))) (h145 : am_is H 145 (.inr (9, [.ref 146, .int 0, .int 0, .int 0, .int 0, .int 0, .int 0, .int 0, .int 0, .int 0]))) (h147 : am_is H 147 (.inr (9, [.ref 148, .int 0, .int 0, .int 0, .int 0, .int 0, .int 0, .int 0, .int 0, .int 0]))) (h149 : am_is H 149 (.inr (9, [.ref 150, .int 0, .int 0, .int 0, .int 0, .int 0, .int 0, .int 0, .int 0, .int 0]))) (h151 : am_is H 151 (.inr (9, [.ref 152, .int 0, .int 0, .int 0, .int 0, .int 0, .int 0, .int 0, .int 0, .int 0]))) (h153 : am_is H 153 (.inr (9, [.ref 154, .int 0, .int 0, .int 0, .int 0, .int 0, .int 0, .int 0, .int 0, .int 0]))) (h155 : am_is H 155 (.inr (9, [.ref 156, .int 0, .int 0, .int 0, .int 0, .int 0, .int 0, .int 0, .int 0, .int 0]))) (c1 : ¬ x0 < 0) (c2 : ¬ 8 ≤ x0) (c3 : x0 = 0)  :
    am_E sL sx cs 98 0 [(0, .ref 0), (1, .int x0)] [] H (some (.null)) (fun H1 => (True) ∧ ∀ j : Nat, H1[j]? = H[j]?) := by
  refine ex_s (am_nb (m := 1) (pc1 := 1) (ls1 := [(0, .ref 0), (1, .int x0)]) (st1 := [.int x0]) (H1 := H) (k1 := 0) (n1 := 0) (by with_unfolding_all rfl)) ?_
  refine ex_s (st_if rfl) ?_
  refine ex_pc (if_neg c1) ?_
  refine ex_s (am_nb (m := 2) (pc1 := 7) (ls1 := [(0, .ref 0), (1, .int x0)]) (st1 := [.int 8, .int x0]) (H1 := H) (k1 := 0) (n1 := 0) (by with_unfolding_all rfl)) ?_
  refine ex_s (st_icmp rfl) ?_
  refine ex_pc (if_neg c2) ?_
  refine ex_s (am_nb (m := 1) (pc1 := 11) (ls1 := [(0, .ref 0), (1, .int x0)]) (st1 := [.ref 0]) (H1 := H) (k1 := 0) (n1 := 0) (by with_unfolding_all rfl)) ?_
  refine ex_s (st_get rfl h0 rfl) ?_
  refine ex_s (am_nb (m := 1) (pc1 := 15) (ls1 := [(0, .ref 0), (1, .int x0)]) (st1 := [.int x0, .ref 115]) (H1 := H) (k1 := 0) (n1 := 0) (by with_unfolding_all rfl)) ?_
  refine ex_s (st_aald rfl h115 (by rw [c3]; decide) rfl) ?_
  refine ex_s (am_nb (m := 0) (pc1 := 16) (ls1 := [(0, .ref 0), (1, .int x0)]) (st1 := [.ref 141]) (H1 := H) (k1 := 0) (n1 := 0) (by rw [c3]; with_unfolding_all rfl)) ?_
  refine ex_s (st_get rfl h141 rfl) ?_
  refine ex_s (am_nb (m := 2) (pc1 := 23) (ls1 := [(0, .ref 0), (1, .int x0)]) (st1 := [.null]) (H1 := H) (k1 := 0) (n1 := 0) (by with_unfolding_all rfl)) ?_
  exact ex_r (st_aret rfl rfl rfl rfl) ⟨trivial, fun j => rfl⟩

set_option maxRecDepth 100000 in
theorem fx_say_1_3 {sL : Nat} {sx : Nat → Int32} {cs : Nat → Nat → Option Int32} {H : am_H} {v0_13 : Int32} {x0 : Int32} (h0 : am_is H 0 (.inr (11, [.ref 1, .int 0, .ref 2, .int 0, .ref 3, .ref 93, .ref 97, .ref 115, .ref 116, .ref 129, .ref 123, .ref 127, .ref 128, .int v0_13, .null, .int 0]))) (h115 : am_is H 115 (.inl ((.object "TerminalHouse$Window"), (8, .inr (.inr (.inr (.inr am_q115))))))) (h141 : am_is H 141 (.inr (9, [.ref 142, .int 0, .int 0, .int 0, .int 0, .int 0, .int 0, .int 0, .int 0, .int 0]))) (h143 : am_is H 143 (.inr (9, [.ref 144, .int 0, .int 0, .int 0, .int 0, .int 0, .int 0, .int 0, .int 0, .int 0]))) (h145 : am_is H 145 (.inr (9, [.ref 146, .int 0, .int 0, .int 0, .int 0, .int 0, .int 0, .int 0, .int 0, .int 0]))) (h147 : am_is H 147 (.inr (9, [.ref 148, .int 0, .int 0, .int 0, .int 0, .int 0, .int 0, .int 0, .int 0, .int 0]))) (h149 : am_is H 149 (.inr (9, [.ref 150, .int 0, .int 0, .int 0, .int 0, .int 0, .int 0, .int 0, .int 0, .int 0]))) (h151 : am_is H 151 (.inr (9, [.ref 152, .int 0, .int 0, .int 0, .int 0, .int 0, .int 0, .int 0, .int 0, .int 0]))) (h153 : am_is H 153 (.inr (9, [.ref 154, .int 0, .int 0, .int 0, .int 0, .int 0, .int 0, .int 0, .int 0, .int 0]))) (h155 : am_is H 155 (.inr (9, [.ref 156, .int 0, .int 0, .int 0, .int 0, .int 0, .int 0, .int 0, .int 0, .int 0]))) (c1 : ¬ x0 < 0) (c2 : ¬ 8 ≤ x0) (c3 : x0 = 1)  :
    am_E sL sx cs 98 0 [(0, .ref 0), (1, .int x0)] [] H (some (.null)) (fun H1 => (True) ∧ ∀ j : Nat, H1[j]? = H[j]?) := by
  refine ex_s (am_nb (m := 1) (pc1 := 1) (ls1 := [(0, .ref 0), (1, .int x0)]) (st1 := [.int x0]) (H1 := H) (k1 := 0) (n1 := 0) (by with_unfolding_all rfl)) ?_
  refine ex_s (st_if rfl) ?_
  refine ex_pc (if_neg c1) ?_
  refine ex_s (am_nb (m := 2) (pc1 := 7) (ls1 := [(0, .ref 0), (1, .int x0)]) (st1 := [.int 8, .int x0]) (H1 := H) (k1 := 0) (n1 := 0) (by with_unfolding_all rfl)) ?_
  refine ex_s (st_icmp rfl) ?_
  refine ex_pc (if_neg c2) ?_
  refine ex_s (am_nb (m := 1) (pc1 := 11) (ls1 := [(0, .ref 0), (1, .int x0)]) (st1 := [.ref 0]) (H1 := H) (k1 := 0) (n1 := 0) (by with_unfolding_all rfl)) ?_
  refine ex_s (st_get rfl h0 rfl) ?_
  refine ex_s (am_nb (m := 1) (pc1 := 15) (ls1 := [(0, .ref 0), (1, .int x0)]) (st1 := [.int x0, .ref 115]) (H1 := H) (k1 := 0) (n1 := 0) (by with_unfolding_all rfl)) ?_
  refine ex_s (st_aald rfl h115 (by rw [c3]; decide) rfl) ?_
  refine ex_s (am_nb (m := 0) (pc1 := 16) (ls1 := [(0, .ref 0), (1, .int x0)]) (st1 := [.ref 143]) (H1 := H) (k1 := 0) (n1 := 0) (by rw [c3]; with_unfolding_all rfl)) ?_
  refine ex_s (st_get rfl h143 rfl) ?_
  refine ex_s (am_nb (m := 2) (pc1 := 23) (ls1 := [(0, .ref 0), (1, .int x0)]) (st1 := [.null]) (H1 := H) (k1 := 0) (n1 := 0) (by with_unfolding_all rfl)) ?_
  exact ex_r (st_aret rfl rfl rfl rfl) ⟨trivial, fun j => rfl⟩

set_option maxRecDepth 100000 in
theorem fx_say_1_4 {sL : Nat} {sx : Nat → Int32} {cs : Nat → Nat → Option Int32} {H : am_H} {v0_13 : Int32} {x0 : Int32} (h0 : am_is H 0 (.inr (11, [.ref 1, .int 0, .ref 2, .int 0, .ref 3, .ref 93, .ref 97, .ref 115, .ref 116, .ref 129, .ref 123, .ref 127, .ref 128, .int v0_13, .null, .int 0]))) (h115 : am_is H 115 (.inl ((.object "TerminalHouse$Window"), (8, .inr (.inr (.inr (.inr am_q115))))))) (h141 : am_is H 141 (.inr (9, [.ref 142, .int 0, .int 0, .int 0, .int 0, .int 0, .int 0, .int 0, .int 0, .int 0]))) (h143 : am_is H 143 (.inr (9, [.ref 144, .int 0, .int 0, .int 0, .int 0, .int 0, .int 0, .int 0, .int 0, .int 0]))) (h145 : am_is H 145 (.inr (9, [.ref 146, .int 0, .int 0, .int 0, .int 0, .int 0, .int 0, .int 0, .int 0, .int 0]))) (h147 : am_is H 147 (.inr (9, [.ref 148, .int 0, .int 0, .int 0, .int 0, .int 0, .int 0, .int 0, .int 0, .int 0]))) (h149 : am_is H 149 (.inr (9, [.ref 150, .int 0, .int 0, .int 0, .int 0, .int 0, .int 0, .int 0, .int 0, .int 0]))) (h151 : am_is H 151 (.inr (9, [.ref 152, .int 0, .int 0, .int 0, .int 0, .int 0, .int 0, .int 0, .int 0, .int 0]))) (h153 : am_is H 153 (.inr (9, [.ref 154, .int 0, .int 0, .int 0, .int 0, .int 0, .int 0, .int 0, .int 0, .int 0]))) (h155 : am_is H 155 (.inr (9, [.ref 156, .int 0, .int 0, .int 0, .int 0, .int 0, .int 0, .int 0, .int 0, .int 0]))) (c1 : ¬ x0 < 0) (c2 : ¬ 8 ≤ x0) (c3 : x0 = 2)  :
    am_E sL sx cs 98 0 [(0, .ref 0), (1, .int x0)] [] H (some (.null)) (fun H1 => (True) ∧ ∀ j : Nat, H1[j]? = H[j]?) := by
  refine ex_s (am_nb (m := 1) (pc1 := 1) (ls1 := [(0, .ref 0), (1, .int x0)]) (st1 := [.int x0]) (H1 := H) (k1 := 0) (n1 := 0) (by with_unfolding_all rfl)) ?_
  refine ex_s (st_if rfl) ?_
  refine ex_pc (if_neg c1) ?_
  refine ex_s (am_nb (m := 2) (pc1 := 7) (ls1 := [(0, .ref 0), (1, .int x0)]) (st1 := [.int 8, .int x0]) (H1 := H) (k1 := 0) (n1 := 0) (by with_unfolding_all rfl)) ?_
  refine ex_s (st_icmp rfl) ?_
  refine ex_pc (if_neg c2) ?_
  refine ex_s (am_nb (m := 1) (pc1 := 11) (ls1 := [(0, .ref 0), (1, .int x0)]) (st1 := [.ref 0]) (H1 := H) (k1 := 0) (n1 := 0) (by with_unfolding_all rfl)) ?_
  refine ex_s (st_get rfl h0 rfl) ?_
  refine ex_s (am_nb (m := 1) (pc1 := 15) (ls1 := [(0, .ref 0), (1, .int x0)]) (st1 := [.int x0, .ref 115]) (H1 := H) (k1 := 0) (n1 := 0) (by with_unfolding_all rfl)) ?_
  refine ex_s (st_aald rfl h115 (by rw [c3]; decide) rfl) ?_
  refine ex_s (am_nb (m := 0) (pc1 := 16) (ls1 := [(0, .ref 0), (1, .int x0)]) (st1 := [.ref 145]) (H1 := H) (k1 := 0) (n1 := 0) (by rw [c3]; with_unfolding_all rfl)) ?_
  refine ex_s (st_get rfl h145 rfl) ?_
  refine ex_s (am_nb (m := 2) (pc1 := 23) (ls1 := [(0, .ref 0), (1, .int x0)]) (st1 := [.null]) (H1 := H) (k1 := 0) (n1 := 0) (by with_unfolding_all rfl)) ?_
  exact ex_r (st_aret rfl rfl rfl rfl) ⟨trivial, fun j => rfl⟩

set_option maxRecDepth 100000 in
theorem fx_say_1_5 {sL : Nat} {sx : Nat → Int32} {cs : Nat → Nat → Option Int32} {H : am_H} {v0_13 : Int32} {x0 : Int32} (h0 : am_is H 0 (.inr (11, [.ref 1, .int 0, .ref 2, .int 0, .ref 3, .ref 93, .ref 97, .ref 115, .ref 116, .ref 129, .ref 123, .ref 127, .ref 128, .int v0_13, .null, .int 0]))) (h115 : am_is H 115 (.inl ((.object "TerminalHouse$Window"), (8, .inr (.inr (.inr (.inr am_q115))))))) (h141 : am_is H 141 (.inr (9, [.ref 142, .int 0, .int 0, .int 0, .int 0, .int 0, .int 0, .int 0, .int 0, .int 0]))) (h143 : am_is H 143 (.inr (9, [.ref 144, .int 0, .int 0, .int 0, .int 0, .int 0, .int 0, .int 0, .int 0, .int 0]))) (h145 : am_is H 145 (.inr (9, [.ref 146, .int 0, .int 0, .int 0, .int 0, .int 0, .int 0, .int 0, .int 0, .int 0]))) (h147 : am_is H 147 (.inr (9, [.ref 148, .int 0, .int 0, .int 0, .int 0, .int 0, .int 0, .int 0, .int 0, .int 0]))) (h149 : am_is H 149 (.inr (9, [.ref 150, .int 0, .int 0, .int 0, .int 0, .int 0, .int 0, .int 0, .int 0, .int 0]))) (h151 : am_is H 151 (.inr (9, [.ref 152, .int 0, .int 0, .int 0, .int 0, .int 0, .int 0, .int 0, .int 0, .int 0]))) (h153 : am_is H 153 (.inr (9, [.ref 154, .int 0, .int 0, .int 0, .int 0, .int 0, .int 0, .int 0, .int 0, .int 0]))) (h155 : am_is H 155 (.inr (9, [.ref 156, .int 0, .int 0, .int 0, .int 0, .int 0, .int 0, .int 0, .int 0, .int 0]))) (c1 : ¬ x0 < 0) (c2 : ¬ 8 ≤ x0) (c3 : x0 = 3)  :
    am_E sL sx cs 98 0 [(0, .ref 0), (1, .int x0)] [] H (some (.null)) (fun H1 => (True) ∧ ∀ j : Nat, H1[j]? = H[j]?) := by
  refine ex_s (am_nb (m := 1) (pc1 := 1) (ls1 := [(0, .ref 0), (1, .int x0)]) (st1 := [.int x0]) (H1 := H) (k1 := 0) (n1 := 0) (by with_unfolding_all rfl)) ?_
  refine ex_s (st_if rfl) ?_
  refine ex_pc (if_neg c1) ?_
  refine ex_s (am_nb (m := 2) (pc1 := 7) (ls1 := [(0, .ref 0), (1, .int x0)]) (st1 := [.int 8, .int x0]) (H1 := H) (k1 := 0) (n1 := 0) (by with_unfolding_all rfl)) ?_
  refine ex_s (st_icmp rfl) ?_
  refine ex_pc (if_neg c2) ?_
  refine ex_s (am_nb (m := 1) (pc1 := 11) (ls1 := [(0, .ref 0), (1, .int x0)]) (st1 := [.ref 0]) (H1 := H) (k1 := 0) (n1 := 0) (by with_unfolding_all rfl)) ?_
  refine ex_s (st_get rfl h0 rfl) ?_
  refine ex_s (am_nb (m := 1) (pc1 := 15) (ls1 := [(0, .ref 0), (1, .int x0)]) (st1 := [.int x0, .ref 115]) (H1 := H) (k1 := 0) (n1 := 0) (by with_unfolding_all rfl)) ?_
  refine ex_s (st_aald rfl h115 (by rw [c3]; decide) rfl) ?_
  refine ex_s (am_nb (m := 0) (pc1 := 16) (ls1 := [(0, .ref 0), (1, .int x0)]) (st1 := [.ref 147]) (H1 := H) (k1 := 0) (n1 := 0) (by rw [c3]; with_unfolding_all rfl)) ?_
  refine ex_s (st_get rfl h147 rfl) ?_
  refine ex_s (am_nb (m := 2) (pc1 := 23) (ls1 := [(0, .ref 0), (1, .int x0)]) (st1 := [.null]) (H1 := H) (k1 := 0) (n1 := 0) (by with_unfolding_all rfl)) ?_
  exact ex_r (st_aret rfl rfl rfl rfl) ⟨trivial, fun j => rfl⟩

set_option maxRecDepth 100000 in
theorem fx_say_1_6 {sL : Nat} {sx : Nat → Int32} {cs : Nat → Nat → Option Int32} {H : am_H} {v0_13 : Int32} {x0 : Int32} (h0 : am_is H 0 (.inr (11, [.ref 1, .int 0, .ref 2, .int 0, .ref 3, .ref 93, .ref 97, .ref 115, .ref 116, .ref 129, .ref 123, .ref 127, .ref 128, .int v0_13, .null, .int 0]))) (h115 : am_is H 115 (.inl ((.object "TerminalHouse$Window"), (8, .inr (.inr (.inr (.inr am_q115))))))) (h141 : am_is H 141 (.inr (9, [.ref 142, .int 0, .int 0, .int 0, .int 0, .int 0, .int 0, .int 0, .int 0, .int 0]))) (h143 : am_is H 143 (.inr (9, [.ref 144, .int 0, .int 0, .int 0, .int 0, .int 0, .int 0, .int 0, .int 0, .int 0]))) (h145 : am_is H 145 (.inr (9, [.ref 146, .int 0, .int 0, .int 0, .int 0, .int 0, .int 0, .int 0, .int 0, .int 0]))) (h147 : am_is H 147 (.inr (9, [.ref 148, .int 0, .int 0, .int 0, .int 0, .int 0, .int 0, .int 0, .int 0, .int 0]))) (h149 : am_is H 149 (.inr (9, [.ref 150, .int 0, .int 0, .int 0, .int 0, .int 0, .int 0, .int 0, .int 0, .int 0]))) (h151 : am_is H 151 (.inr (9, [.ref 152, .int 0, .int 0, .int 0, .int 0, .int 0, .int 0, .int 0, .int 0, .int 0]))) (h153 : am_is H 153 (.inr (9, [.ref 154, .int 0, .int 0, .int 0, .int 0, .int 0, .int 0, .int 0, .int 0, .int 0]))) (h155 : am_is H 155 (.inr (9, [.ref 156, .int 0, .int 0, .int 0, .int 0, .int 0, .int 0, .int 0, .int 0, .int 0]))) (c1 : ¬ x0 < 0) (c2 : ¬ 8 ≤ x0) (c3 : x0 = 4)  :
    am_E sL sx cs 98 0 [(0, .ref 0), (1, .int x0)] [] H (some (.null)) (fun H1 => (True) ∧ ∀ j : Nat, H1[j]? = H[j]?) := by
  refine ex_s (am_nb (m := 1) (pc1 := 1) (ls1 := [(0, .ref 0), (1, .int x0)]) (st1 := [.int x0]) (H1 := H) (k1 := 0) (n1 := 0) (by with_unfolding_all rfl)) ?_
  refine ex_s (st_if rfl) ?_
  refine ex_pc (if_neg c1) ?_
  refine ex_s (am_nb (m := 2) (pc1 := 7) (ls1 := [(0, .ref 0), (1, .int x0)]) (st1 := [.int 8, .int x0]) (H1 := H) (k1 := 0) (n1 := 0) (by with_unfolding_all rfl)) ?_
  refine ex_s (st_icmp rfl) ?_
  refine ex_pc (if_neg c2) ?_
  refine ex_s (am_nb (m := 1) (pc1 := 11) (ls1 := [(0, .ref 0), (1, .int x0)]) (st1 := [.ref 0]) (H1 := H) (k1 := 0) (n1 := 0) (by with_unfolding_all rfl)) ?_
  refine ex_s (st_get rfl h0 rfl) ?_
  refine ex_s (am_nb (m := 1) (pc1 := 15) (ls1 := [(0, .ref 0), (1, .int x0)]) (st1 := [.int x0, .ref 115]) (H1 := H) (k1 := 0) (n1 := 0) (by with_unfolding_all rfl)) ?_
  refine ex_s (st_aald rfl h115 (by rw [c3]; decide) rfl) ?_
  refine ex_s (am_nb (m := 0) (pc1 := 16) (ls1 := [(0, .ref 0), (1, .int x0)]) (st1 := [.ref 149]) (H1 := H) (k1 := 0) (n1 := 0) (by rw [c3]; with_unfolding_all rfl)) ?_
  refine ex_s (st_get rfl h149 rfl) ?_
  refine ex_s (am_nb (m := 2) (pc1 := 23) (ls1 := [(0, .ref 0), (1, .int x0)]) (st1 := [.null]) (H1 := H) (k1 := 0) (n1 := 0) (by with_unfolding_all rfl)) ?_
  exact ex_r (st_aret rfl rfl rfl rfl) ⟨trivial, fun j => rfl⟩

set_option maxRecDepth 100000 in
theorem fx_say_1_7 {sL : Nat} {sx : Nat → Int32} {cs : Nat → Nat → Option Int32} {H : am_H} {v0_13 : Int32} {x0 : Int32} (h0 : am_is H 0 (.inr (11, [.ref 1, .int 0, .ref 2, .int 0, .ref 3, .ref 93, .ref 97, .ref 115, .ref 116, .ref 129, .ref 123, .ref 127, .ref 128, .int v0_13, .null, .int 0]))) (h115 : am_is H 115 (.inl ((.object "TerminalHouse$Window"), (8, .inr (.inr (.inr (.inr am_q115))))))) (h141 : am_is H 141 (.inr (9, [.ref 142, .int 0, .int 0, .int 0, .int 0, .int 0, .int 0, .int 0, .int 0, .int 0]))) (h143 : am_is H 143 (.inr (9, [.ref 144, .int 0, .int 0, .int 0, .int 0, .int 0, .int 0, .int 0, .int 0, .int 0]))) (h145 : am_is H 145 (.inr (9, [.ref 146, .int 0, .int 0, .int 0, .int 0, .int 0, .int 0, .int 0, .int 0, .int 0]))) (h147 : am_is H 147 (.inr (9, [.ref 148, .int 0, .int 0, .int 0, .int 0, .int 0, .int 0, .int 0, .int 0, .int 0]))) (h149 : am_is H 149 (.inr (9, [.ref 150, .int 0, .int 0, .int 0, .int 0, .int 0, .int 0, .int 0, .int 0, .int 0]))) (h151 : am_is H 151 (.inr (9, [.ref 152, .int 0, .int 0, .int 0, .int 0, .int 0, .int 0, .int 0, .int 0, .int 0]))) (h153 : am_is H 153 (.inr (9, [.ref 154, .int 0, .int 0, .int 0, .int 0, .int 0, .int 0, .int 0, .int 0, .int 0]))) (h155 : am_is H 155 (.inr (9, [.ref 156, .int 0, .int 0, .int 0, .int 0, .int 0, .int 0, .int 0, .int 0, .int 0]))) (c1 : ¬ x0 < 0) (c2 : ¬ 8 ≤ x0) (c3 : x0 = 5)  :
    am_E sL sx cs 98 0 [(0, .ref 0), (1, .int x0)] [] H (some (.null)) (fun H1 => (True) ∧ ∀ j : Nat, H1[j]? = H[j]?) := by
  refine ex_s (am_nb (m := 1) (pc1 := 1) (ls1 := [(0, .ref 0), (1, .int x0)]) (st1 := [.int x0]) (H1 := H) (k1 := 0) (n1 := 0) (by with_unfolding_all rfl)) ?_
  refine ex_s (st_if rfl) ?_
  refine ex_pc (if_neg c1) ?_
  refine ex_s (am_nb (m := 2) (pc1 := 7) (ls1 := [(0, .ref 0), (1, .int x0)]) (st1 := [.int 8, .int x0]) (H1 := H) (k1 := 0) (n1 := 0) (by with_unfolding_all rfl)) ?_
  refine ex_s (st_icmp rfl) ?_
  refine ex_pc (if_neg c2) ?_
  refine ex_s (am_nb (m := 1) (pc1 := 11) (ls1 := [(0, .ref 0), (1, .int x0)]) (st1 := [.ref 0]) (H1 := H) (k1 := 0) (n1 := 0) (by with_unfolding_all rfl)) ?_
  refine ex_s (st_get rfl h0 rfl) ?_
  refine ex_s (am_nb (m := 1) (pc1 := 15) (ls1 := [(0, .ref 0), (1, .int x0)]) (st1 := [.int x0, .ref 115]) (H1 := H) (k1 := 0) (n1 := 0) (by with_unfolding_all rfl)) ?_
  refine ex_s (st_aald rfl h115 (by rw [c3]; decide) rfl) ?_
  refine ex_s (am_nb (m := 0) (pc1 := 16) (ls1 := [(0, .ref 0), (1, .int x0)]) (st1 := [.ref 151]) (H1 := H) (k1 := 0) (n1 := 0) (by rw [c3]; with_unfolding_all rfl)) ?_
  refine ex_s (st_get rfl h151 rfl) ?_
  refine ex_s (am_nb (m := 2) (pc1 := 23) (ls1 := [(0, .ref 0), (1, .int x0)]) (st1 := [.null]) (H1 := H) (k1 := 0) (n1 := 0) (by with_unfolding_all rfl)) ?_
  exact ex_r (st_aret rfl rfl rfl rfl) ⟨trivial, fun j => rfl⟩

set_option maxRecDepth 100000 in
theorem fx_say_1_8 {sL : Nat} {sx : Nat → Int32} {cs : Nat → Nat → Option Int32} {H : am_H} {v0_13 : Int32} {x0 : Int32} (h0 : am_is H 0 (.inr (11, [.ref 1, .int 0, .ref 2, .int 0, .ref 3, .ref 93, .ref 97, .ref 115, .ref 116, .ref 129, .ref 123, .ref 127, .ref 128, .int v0_13, .null, .int 0]))) (h115 : am_is H 115 (.inl ((.object "TerminalHouse$Window"), (8, .inr (.inr (.inr (.inr am_q115))))))) (h141 : am_is H 141 (.inr (9, [.ref 142, .int 0, .int 0, .int 0, .int 0, .int 0, .int 0, .int 0, .int 0, .int 0]))) (h143 : am_is H 143 (.inr (9, [.ref 144, .int 0, .int 0, .int 0, .int 0, .int 0, .int 0, .int 0, .int 0, .int 0]))) (h145 : am_is H 145 (.inr (9, [.ref 146, .int 0, .int 0, .int 0, .int 0, .int 0, .int 0, .int 0, .int 0, .int 0]))) (h147 : am_is H 147 (.inr (9, [.ref 148, .int 0, .int 0, .int 0, .int 0, .int 0, .int 0, .int 0, .int 0, .int 0]))) (h149 : am_is H 149 (.inr (9, [.ref 150, .int 0, .int 0, .int 0, .int 0, .int 0, .int 0, .int 0, .int 0, .int 0]))) (h151 : am_is H 151 (.inr (9, [.ref 152, .int 0, .int 0, .int 0, .int 0, .int 0, .int 0, .int 0, .int 0, .int 0]))) (h153 : am_is H 153 (.inr (9, [.ref 154, .int 0, .int 0, .int 0, .int 0, .int 0, .int 0, .int 0, .int 0, .int 0]))) (h155 : am_is H 155 (.inr (9, [.ref 156, .int 0, .int 0, .int 0, .int 0, .int 0, .int 0, .int 0, .int 0, .int 0]))) (c1 : ¬ x0 < 0) (c2 : ¬ 8 ≤ x0) (c3 : x0 = 6)  :
    am_E sL sx cs 98 0 [(0, .ref 0), (1, .int x0)] [] H (some (.null)) (fun H1 => (True) ∧ ∀ j : Nat, H1[j]? = H[j]?) := by
  refine ex_s (am_nb (m := 1) (pc1 := 1) (ls1 := [(0, .ref 0), (1, .int x0)]) (st1 := [.int x0]) (H1 := H) (k1 := 0) (n1 := 0) (by with_unfolding_all rfl)) ?_
  refine ex_s (st_if rfl) ?_
  refine ex_pc (if_neg c1) ?_
  refine ex_s (am_nb (m := 2) (pc1 := 7) (ls1 := [(0, .ref 0), (1, .int x0)]) (st1 := [.int 8, .int x0]) (H1 := H) (k1 := 0) (n1 := 0) (by with_unfolding_all rfl)) ?_
  refine ex_s (st_icmp rfl) ?_
  refine ex_pc (if_neg c2) ?_
  refine ex_s (am_nb (m := 1) (pc1 := 11) (ls1 := [(0, .ref 0), (1, .int x0)]) (st1 := [.ref 0]) (H1 := H) (k1 := 0) (n1 := 0) (by with_unfolding_all rfl)) ?_
  refine ex_s (st_get rfl h0 rfl) ?_
  refine ex_s (am_nb (m := 1) (pc1 := 15) (ls1 := [(0, .ref 0), (1, .int x0)]) (st1 := [.int x0, .ref 115]) (H1 := H) (k1 := 0) (n1 := 0) (by with_unfolding_all rfl)) ?_
  refine ex_s (st_aald rfl h115 (by rw [c3]; decide) rfl) ?_
  refine ex_s (am_nb (m := 0) (pc1 := 16) (ls1 := [(0, .ref 0), (1, .int x0)]) (st1 := [.ref 153]) (H1 := H) (k1 := 0) (n1 := 0) (by rw [c3]; with_unfolding_all rfl)) ?_
  refine ex_s (st_get rfl h153 rfl) ?_
  refine ex_s (am_nb (m := 2) (pc1 := 23) (ls1 := [(0, .ref 0), (1, .int x0)]) (st1 := [.null]) (H1 := H) (k1 := 0) (n1 := 0) (by with_unfolding_all rfl)) ?_
  exact ex_r (st_aret rfl rfl rfl rfl) ⟨trivial, fun j => rfl⟩

set_option maxRecDepth 100000 in
theorem fx_say_1_9 {sL : Nat} {sx : Nat → Int32} {cs : Nat → Nat → Option Int32} {H : am_H} {v0_13 : Int32} {x0 : Int32} (h0 : am_is H 0 (.inr (11, [.ref 1, .int 0, .ref 2, .int 0, .ref 3, .ref 93, .ref 97, .ref 115, .ref 116, .ref 129, .ref 123, .ref 127, .ref 128, .int v0_13, .null, .int 0]))) (h115 : am_is H 115 (.inl ((.object "TerminalHouse$Window"), (8, .inr (.inr (.inr (.inr am_q115))))))) (h141 : am_is H 141 (.inr (9, [.ref 142, .int 0, .int 0, .int 0, .int 0, .int 0, .int 0, .int 0, .int 0, .int 0]))) (h143 : am_is H 143 (.inr (9, [.ref 144, .int 0, .int 0, .int 0, .int 0, .int 0, .int 0, .int 0, .int 0, .int 0]))) (h145 : am_is H 145 (.inr (9, [.ref 146, .int 0, .int 0, .int 0, .int 0, .int 0, .int 0, .int 0, .int 0, .int 0]))) (h147 : am_is H 147 (.inr (9, [.ref 148, .int 0, .int 0, .int 0, .int 0, .int 0, .int 0, .int 0, .int 0, .int 0]))) (h149 : am_is H 149 (.inr (9, [.ref 150, .int 0, .int 0, .int 0, .int 0, .int 0, .int 0, .int 0, .int 0, .int 0]))) (h151 : am_is H 151 (.inr (9, [.ref 152, .int 0, .int 0, .int 0, .int 0, .int 0, .int 0, .int 0, .int 0, .int 0]))) (h153 : am_is H 153 (.inr (9, [.ref 154, .int 0, .int 0, .int 0, .int 0, .int 0, .int 0, .int 0, .int 0, .int 0]))) (h155 : am_is H 155 (.inr (9, [.ref 156, .int 0, .int 0, .int 0, .int 0, .int 0, .int 0, .int 0, .int 0, .int 0]))) (c1 : ¬ x0 < 0) (c2 : ¬ 8 ≤ x0) (c3 : x0 = 7)  :
    am_E sL sx cs 98 0 [(0, .ref 0), (1, .int x0)] [] H (some (.null)) (fun H1 => (True) ∧ ∀ j : Nat, H1[j]? = H[j]?) := by
  refine ex_s (am_nb (m := 1) (pc1 := 1) (ls1 := [(0, .ref 0), (1, .int x0)]) (st1 := [.int x0]) (H1 := H) (k1 := 0) (n1 := 0) (by with_unfolding_all rfl)) ?_
  refine ex_s (st_if rfl) ?_
  refine ex_pc (if_neg c1) ?_
  refine ex_s (am_nb (m := 2) (pc1 := 7) (ls1 := [(0, .ref 0), (1, .int x0)]) (st1 := [.int 8, .int x0]) (H1 := H) (k1 := 0) (n1 := 0) (by with_unfolding_all rfl)) ?_
  refine ex_s (st_icmp rfl) ?_
  refine ex_pc (if_neg c2) ?_
  refine ex_s (am_nb (m := 1) (pc1 := 11) (ls1 := [(0, .ref 0), (1, .int x0)]) (st1 := [.ref 0]) (H1 := H) (k1 := 0) (n1 := 0) (by with_unfolding_all rfl)) ?_
  refine ex_s (st_get rfl h0 rfl) ?_
  refine ex_s (am_nb (m := 1) (pc1 := 15) (ls1 := [(0, .ref 0), (1, .int x0)]) (st1 := [.int x0, .ref 115]) (H1 := H) (k1 := 0) (n1 := 0) (by with_unfolding_all rfl)) ?_
  refine ex_s (st_aald rfl h115 (by rw [c3]; decide) rfl) ?_
  refine ex_s (am_nb (m := 0) (pc1 := 16) (ls1 := [(0, .ref 0), (1, .int x0)]) (st1 := [.ref 155]) (H1 := H) (k1 := 0) (n1 := 0) (by rw [c3]; with_unfolding_all rfl)) ?_
  refine ex_s (st_get rfl h155 rfl) ?_
  refine ex_s (am_nb (m := 2) (pc1 := 23) (ls1 := [(0, .ref 0), (1, .int x0)]) (st1 := [.null]) (H1 := H) (k1 := 0) (n1 := 0) (by with_unfolding_all rfl)) ?_
  exact ex_r (st_aret rfl rfl rfl rfl) ⟨trivial, fun j => rfl⟩

set_option maxRecDepth 100000 in
theorem fx_say_0 {sL : Nat} {sx : Nat → Int32} {cs : Nat → Nat → Option Int32} {H : am_H} {v0_13 : Int32} {x0 : Int32} (h0 : am_is H 0 (.inr (11, [.ref 1, .int 0, .ref 2, .int 0, .ref 3, .ref 93, .ref 97, .ref 115, .ref 116, .ref 129, .ref 123, .ref 127, .ref 128, .int v0_13, .null, .int 0]))) (h115 : am_is H 115 (.inl ((.object "TerminalHouse$Window"), (8, .inr (.inr (.inr (.inr am_q115))))))) (h141 : am_is H 141 (.inr (9, [.ref 142, .int 0, .int 0, .int 0, .int 0, .int 0, .int 0, .int 0, .int 0, .int 0]))) (h143 : am_is H 143 (.inr (9, [.ref 144, .int 0, .int 0, .int 0, .int 0, .int 0, .int 0, .int 0, .int 0, .int 0]))) (h145 : am_is H 145 (.inr (9, [.ref 146, .int 0, .int 0, .int 0, .int 0, .int 0, .int 0, .int 0, .int 0, .int 0]))) (h147 : am_is H 147 (.inr (9, [.ref 148, .int 0, .int 0, .int 0, .int 0, .int 0, .int 0, .int 0, .int 0, .int 0]))) (h149 : am_is H 149 (.inr (9, [.ref 150, .int 0, .int 0, .int 0, .int 0, .int 0, .int 0, .int 0, .int 0, .int 0]))) (h151 : am_is H 151 (.inr (9, [.ref 152, .int 0, .int 0, .int 0, .int 0, .int 0, .int 0, .int 0, .int 0, .int 0]))) (h153 : am_is H 153 (.inr (9, [.ref 154, .int 0, .int 0, .int 0, .int 0, .int 0, .int 0, .int 0, .int 0, .int 0]))) (h155 : am_is H 155 (.inr (9, [.ref 156, .int 0, .int 0, .int 0, .int 0, .int 0, .int 0, .int 0, .int 0, .int 0]))) (c1 : x0 < 0)  :
    am_E sL sx cs 103 0 [(0, .ref 0), (1, .int x0)] [] H (some (.int (-1))) (fun H1 => (am_is H1 0 (.inr (11, [.ref 1, .int 0, .ref 2, .int 0, .ref 3, .ref 93, .ref 97, .ref 115, .ref 116, .ref 129, .ref 123, .ref 127, .ref 128, .int v0_13, .null, .int 0])) ∧ True) ∧ ∀ j : Nat, j ≠ 0 → H1[j]? = H[j]?) := by
  refine ex_s (am_nb (m := 2) (pc1 := 2) (ls1 := [(0, .ref 0), (1, .int x0)]) (st1 := [.int x0, .ref 0]) (H1 := H) (k1 := 0) (n1 := 0) (by with_unfolding_all rfl)) ?_
  refine ex_cv1 (as := [.int x0]) (rest := []) rfl rfl rfl rfl h0 rfl (by with_unfolding_all rfl) (by with_unfolding_all rfl) (fx_say_1_0 h0 h115 h141 h143 h145 h147 h149 h151 h153 h155 c1) ?_
  rintro H117 ⟨-, k117⟩
  refine ex_s (am_nb (m := 8) (pc1 := 22) (ls1 := [(3, .int (-1)), (2, .null), (0, .ref 0), (1, .int x0)]) (st1 := [.int 0, .ref 0]) (H1 := H117) (k1 := 0) (n1 := 0) (by with_unfolding_all rfl)) ?_
  refine ex_put rfl ((k117 0).trans h0) rfl rfl rfl ?_
  intro H127 f127 k127
  refine ex_s (am_nb (m := 1) (pc1 := 26) (ls1 := [(3, .int (-1)), (2, .null), (0, .ref 0), (1, .int x0)]) (st1 := [.int (-1)]) (H1 := H127) (k1 := 0) (n1 := 0) (by with_unfolding_all rfl)) ?_
  exact ex_r (st_iret rfl rfl rfl) ⟨⟨f127, trivial⟩, fun j n0 => ((k127 j n0).trans (k117 j))⟩

set_option maxRecDepth 100000 in
theorem fx_say_1 {sL : Nat} {sx : Nat → Int32} {cs : Nat → Nat → Option Int32} {H : am_H} {v0_13 : Int32} {x0 : Int32} (h0 : am_is H 0 (.inr (11, [.ref 1, .int 0, .ref 2, .int 0, .ref 3, .ref 93, .ref 97, .ref 115, .ref 116, .ref 129, .ref 123, .ref 127, .ref 128, .int v0_13, .null, .int 0]))) (h115 : am_is H 115 (.inl ((.object "TerminalHouse$Window"), (8, .inr (.inr (.inr (.inr am_q115))))))) (h141 : am_is H 141 (.inr (9, [.ref 142, .int 0, .int 0, .int 0, .int 0, .int 0, .int 0, .int 0, .int 0, .int 0]))) (h143 : am_is H 143 (.inr (9, [.ref 144, .int 0, .int 0, .int 0, .int 0, .int 0, .int 0, .int 0, .int 0, .int 0]))) (h145 : am_is H 145 (.inr (9, [.ref 146, .int 0, .int 0, .int 0, .int 0, .int 0, .int 0, .int 0, .int 0, .int 0]))) (h147 : am_is H 147 (.inr (9, [.ref 148, .int 0, .int 0, .int 0, .int 0, .int 0, .int 0, .int 0, .int 0, .int 0]))) (h149 : am_is H 149 (.inr (9, [.ref 150, .int 0, .int 0, .int 0, .int 0, .int 0, .int 0, .int 0, .int 0, .int 0]))) (h151 : am_is H 151 (.inr (9, [.ref 152, .int 0, .int 0, .int 0, .int 0, .int 0, .int 0, .int 0, .int 0, .int 0]))) (h153 : am_is H 153 (.inr (9, [.ref 154, .int 0, .int 0, .int 0, .int 0, .int 0, .int 0, .int 0, .int 0, .int 0]))) (h155 : am_is H 155 (.inr (9, [.ref 156, .int 0, .int 0, .int 0, .int 0, .int 0, .int 0, .int 0, .int 0, .int 0]))) (c1 : ¬ x0 < 0) (c2 : 8 ≤ x0)  :
    am_E sL sx cs 103 0 [(0, .ref 0), (1, .int x0)] [] H (some (.int (-1))) (fun H1 => (am_is H1 0 (.inr (11, [.ref 1, .int 0, .ref 2, .int 0, .ref 3, .ref 93, .ref 97, .ref 115, .ref 116, .ref 129, .ref 123, .ref 127, .ref 128, .int v0_13, .null, .int 0])) ∧ True) ∧ ∀ j : Nat, j ≠ 0 → H1[j]? = H[j]?) := by
  refine ex_s (am_nb (m := 2) (pc1 := 2) (ls1 := [(0, .ref 0), (1, .int x0)]) (st1 := [.int x0, .ref 0]) (H1 := H) (k1 := 0) (n1 := 0) (by with_unfolding_all rfl)) ?_
  refine ex_cv1 (as := [.int x0]) (rest := []) rfl rfl rfl rfl h0 rfl (by with_unfolding_all rfl) (by with_unfolding_all rfl) (fx_say_1_1 h0 h115 h141 h143 h145 h147 h149 h151 h153 h155 c1 c2) ?_
  rintro H118 ⟨-, k118⟩
  refine ex_s (am_nb (m := 8) (pc1 := 22) (ls1 := [(3, .int (-1)), (2, .null), (0, .ref 0), (1, .int x0)]) (st1 := [.int 0, .ref 0]) (H1 := H118) (k1 := 0) (n1 := 0) (by with_unfolding_all rfl)) ?_
  refine ex_put rfl ((k118 0).trans h0) rfl rfl rfl ?_
  intro H128 f128 k128
  refine ex_s (am_nb (m := 1) (pc1 := 26) (ls1 := [(3, .int (-1)), (2, .null), (0, .ref 0), (1, .int x0)]) (st1 := [.int (-1)]) (H1 := H128) (k1 := 0) (n1 := 0) (by with_unfolding_all rfl)) ?_
  exact ex_r (st_iret rfl rfl rfl) ⟨⟨f128, trivial⟩, fun j n0 => ((k128 j n0).trans (k118 j))⟩

set_option maxRecDepth 100000 in
theorem fx_say_2 {sL : Nat} {sx : Nat → Int32} {cs : Nat → Nat → Option Int32} {H : am_H} {v0_13 : Int32} {x0 : Int32} (h0 : am_is H 0 (.inr (11, [.ref 1, .int 0, .ref 2, .int 0, .ref 3, .ref 93, .ref 97, .ref 115, .ref 116, .ref 129, .ref 123, .ref 127, .ref 128, .int v0_13, .null, .int 0]))) (h115 : am_is H 115 (.inl ((.object "TerminalHouse$Window"), (8, .inr (.inr (.inr (.inr am_q115))))))) (h141 : am_is H 141 (.inr (9, [.ref 142, .int 0, .int 0, .int 0, .int 0, .int 0, .int 0, .int 0, .int 0, .int 0]))) (h143 : am_is H 143 (.inr (9, [.ref 144, .int 0, .int 0, .int 0, .int 0, .int 0, .int 0, .int 0, .int 0, .int 0]))) (h145 : am_is H 145 (.inr (9, [.ref 146, .int 0, .int 0, .int 0, .int 0, .int 0, .int 0, .int 0, .int 0, .int 0]))) (h147 : am_is H 147 (.inr (9, [.ref 148, .int 0, .int 0, .int 0, .int 0, .int 0, .int 0, .int 0, .int 0, .int 0]))) (h149 : am_is H 149 (.inr (9, [.ref 150, .int 0, .int 0, .int 0, .int 0, .int 0, .int 0, .int 0, .int 0, .int 0]))) (h151 : am_is H 151 (.inr (9, [.ref 152, .int 0, .int 0, .int 0, .int 0, .int 0, .int 0, .int 0, .int 0, .int 0]))) (h153 : am_is H 153 (.inr (9, [.ref 154, .int 0, .int 0, .int 0, .int 0, .int 0, .int 0, .int 0, .int 0, .int 0]))) (h155 : am_is H 155 (.inr (9, [.ref 156, .int 0, .int 0, .int 0, .int 0, .int 0, .int 0, .int 0, .int 0, .int 0]))) (c1 : ¬ x0 < 0) (c2 : ¬ 8 ≤ x0) (c3 : x0 = 0)  :
    am_E sL sx cs 103 0 [(0, .ref 0), (1, .int x0)] [] H (some (.int (-1))) (fun H1 => (am_is H1 0 (.inr (11, [.ref 1, .int 0, .ref 2, .int 0, .ref 3, .ref 93, .ref 97, .ref 115, .ref 116, .ref 129, .ref 123, .ref 127, .ref 128, .int v0_13, .null, .int 0])) ∧ True) ∧ ∀ j : Nat, j ≠ 0 → H1[j]? = H[j]?) := by
  refine ex_s (am_nb (m := 2) (pc1 := 2) (ls1 := [(0, .ref 0), (1, .int x0)]) (st1 := [.int x0, .ref 0]) (H1 := H) (k1 := 0) (n1 := 0) (by with_unfolding_all rfl)) ?_
  refine ex_cv1 (as := [.int x0]) (rest := []) rfl rfl rfl rfl h0 rfl (by with_unfolding_all rfl) (by with_unfolding_all rfl) (fx_say_1_2 h0 h115 h141 h143 h145 h147 h149 h151 h153 h155 c1 c2 c3) ?_
  rintro H119 ⟨-, k119⟩
  refine ex_s (am_nb (m := 8) (pc1 := 22) (ls1 := [(3, .int (-1)), (2, .null), (0, .ref 0), (1, .int x0)]) (st1 := [.int 0, .ref 0]) (H1 := H119) (k1 := 0) (n1 := 0) (by with_unfolding_all rfl)) ?_
  refine ex_put rfl ((k119 0).trans h0) rfl rfl rfl ?_
  intro H129 f129 k129
  refine ex_s (am_nb (m := 1) (pc1 := 26) (ls1 := [(3, .int (-1)), (2, .null), (0, .ref 0), (1, .int x0)]) (st1 := [.int (-1)]) (H1 := H129) (k1 := 0) (n1 := 0) (by with_unfolding_all rfl)) ?_
  exact ex_r (st_iret rfl rfl rfl) ⟨⟨f129, trivial⟩, fun j n0 => ((k129 j n0).trans (k119 j))⟩

set_option maxRecDepth 100000 in
theorem fx_say_3 {sL : Nat} {sx : Nat → Int32} {cs : Nat → Nat → Option Int32} {H : am_H} {v0_13 : Int32} {x0 : Int32} (h0 : am_is H 0 (.inr (11, [.ref 1, .int 0, .ref 2, .int 0, .ref 3, .ref 93, .ref 97, .ref 115, .ref 116, .ref 129, .ref 123, .ref 127, .ref 128, .int v0_13, .null, .int 0]))) (h115 : am_is H 115 (.inl ((.object "TerminalHouse$Window"), (8, .inr (.inr (.inr (.inr am_q115))))))) (h141 : am_is H 141 (.inr (9, [.ref 142, .int 0, .int 0, .int 0, .int 0, .int 0, .int 0, .int 0, .int 0, .int 0]))) (h143 : am_is H 143 (.inr (9, [.ref 144, .int 0, .int 0, .int 0, .int 0, .int 0, .int 0, .int 0, .int 0, .int 0]))) (h145 : am_is H 145 (.inr (9, [.ref 146, .int 0, .int 0, .int 0, .int 0, .int 0, .int 0, .int 0, .int 0, .int 0]))) (h147 : am_is H 147 (.inr (9, [.ref 148, .int 0, .int 0, .int 0, .int 0, .int 0, .int 0, .int 0, .int 0, .int 0]))) (h149 : am_is H 149 (.inr (9, [.ref 150, .int 0, .int 0, .int 0, .int 0, .int 0, .int 0, .int 0, .int 0, .int 0]))) (h151 : am_is H 151 (.inr (9, [.ref 152, .int 0, .int 0, .int 0, .int 0, .int 0, .int 0, .int 0, .int 0, .int 0]))) (h153 : am_is H 153 (.inr (9, [.ref 154, .int 0, .int 0, .int 0, .int 0, .int 0, .int 0, .int 0, .int 0, .int 0]))) (h155 : am_is H 155 (.inr (9, [.ref 156, .int 0, .int 0, .int 0, .int 0, .int 0, .int 0, .int 0, .int 0, .int 0]))) (c1 : ¬ x0 < 0) (c2 : ¬ 8 ≤ x0) (c3 : x0 = 1)  :
    am_E sL sx cs 103 0 [(0, .ref 0), (1, .int x0)] [] H (some (.int (-1))) (fun H1 => (am_is H1 0 (.inr (11, [.ref 1, .int 0, .ref 2, .int 0, .ref 3, .ref 93, .ref 97, .ref 115, .ref 116, .ref 129, .ref 123, .ref 127, .ref 128, .int v0_13, .null, .int 0])) ∧ True) ∧ ∀ j : Nat, j ≠ 0 → H1[j]? = H[j]?) := by
  refine ex_s (am_nb (m := 2) (pc1 := 2) (ls1 := [(0, .ref 0), (1, .int x0)]) (st1 := [.int x0, .ref 0]) (H1 := H) (k1 := 0) (n1 := 0) (by with_unfolding_all rfl)) ?_
  refine ex_cv1 (as := [.int x0]) (rest := []) rfl rfl rfl rfl h0 rfl (by with_unfolding_all rfl) (by with_unfolding_all rfl) (fx_say_1_3 h0 h115 h141 h143 h145 h147 h149 h151 h153 h155 c1 c2 c3) ?_
  rintro H120 ⟨-, k120⟩
  refine ex_s (am_nb (m := 8) (pc1 := 22) (ls1 := [(3, .int (-1)), (2, .null), (0, .ref 0), (1, .int x0)]) (st1 := [.int 0, .ref 0]) (H1 := H120) (k1 := 0) (n1 := 0) (by with_unfolding_all rfl)) ?_
  refine ex_put rfl ((k120 0).trans h0) rfl rfl rfl ?_
  intro H130 f130 k130
  refine ex_s (am_nb (m := 1) (pc1 := 26) (ls1 := [(3, .int (-1)), (2, .null), (0, .ref 0), (1, .int x0)]) (st1 := [.int (-1)]) (H1 := H130) (k1 := 0) (n1 := 0) (by with_unfolding_all rfl)) ?_
  exact ex_r (st_iret rfl rfl rfl) ⟨⟨f130, trivial⟩, fun j n0 => ((k130 j n0).trans (k120 j))⟩

set_option maxRecDepth 100000 in
theorem fx_say_4 {sL : Nat} {sx : Nat → Int32} {cs : Nat → Nat → Option Int32} {H : am_H} {v0_13 : Int32} {x0 : Int32} (h0 : am_is H 0 (.inr (11, [.ref 1, .int 0, .ref 2, .int 0, .ref 3, .ref 93, .ref 97, .ref 115, .ref 116, .ref 129, .ref 123, .ref 127, .ref 128, .int v0_13, .null, .int 0]))) (h115 : am_is H 115 (.inl ((.object "TerminalHouse$Window"), (8, .inr (.inr (.inr (.inr am_q115))))))) (h141 : am_is H 141 (.inr (9, [.ref 142, .int 0, .int 0, .int 0, .int 0, .int 0, .int 0, .int 0, .int 0, .int 0]))) (h143 : am_is H 143 (.inr (9, [.ref 144, .int 0, .int 0, .int 0, .int 0, .int 0, .int 0, .int 0, .int 0, .int 0]))) (h145 : am_is H 145 (.inr (9, [.ref 146, .int 0, .int 0, .int 0, .int 0, .int 0, .int 0, .int 0, .int 0, .int 0]))) (h147 : am_is H 147 (.inr (9, [.ref 148, .int 0, .int 0, .int 0, .int 0, .int 0, .int 0, .int 0, .int 0, .int 0]))) (h149 : am_is H 149 (.inr (9, [.ref 150, .int 0, .int 0, .int 0, .int 0, .int 0, .int 0, .int 0, .int 0, .int 0]))) (h151 : am_is H 151 (.inr (9, [.ref 152, .int 0, .int 0, .int 0, .int 0, .int 0, .int 0, .int 0, .int 0, .int 0]))) (h153 : am_is H 153 (.inr (9, [.ref 154, .int 0, .int 0, .int 0, .int 0, .int 0, .int 0, .int 0, .int 0, .int 0]))) (h155 : am_is H 155 (.inr (9, [.ref 156, .int 0, .int 0, .int 0, .int 0, .int 0, .int 0, .int 0, .int 0, .int 0]))) (c1 : ¬ x0 < 0) (c2 : ¬ 8 ≤ x0) (c3 : x0 = 2)  :
    am_E sL sx cs 103 0 [(0, .ref 0), (1, .int x0)] [] H (some (.int (-1))) (fun H1 => (am_is H1 0 (.inr (11, [.ref 1, .int 0, .ref 2, .int 0, .ref 3, .ref 93, .ref 97, .ref 115, .ref 116, .ref 129, .ref 123, .ref 127, .ref 128, .int v0_13, .null, .int 0])) ∧ True) ∧ ∀ j : Nat, j ≠ 0 → H1[j]? = H[j]?) := by
  refine ex_s (am_nb (m := 2) (pc1 := 2) (ls1 := [(0, .ref 0), (1, .int x0)]) (st1 := [.int x0, .ref 0]) (H1 := H) (k1 := 0) (n1 := 0) (by with_unfolding_all rfl)) ?_
  refine ex_cv1 (as := [.int x0]) (rest := []) rfl rfl rfl rfl h0 rfl (by with_unfolding_all rfl) (by with_unfolding_all rfl) (fx_say_1_4 h0 h115 h141 h143 h145 h147 h149 h151 h153 h155 c1 c2 c3) ?_
  rintro H121 ⟨-, k121⟩
  refine ex_s (am_nb (m := 8) (pc1 := 22) (ls1 := [(3, .int (-1)), (2, .null), (0, .ref 0), (1, .int x0)]) (st1 := [.int 0, .ref 0]) (H1 := H121) (k1 := 0) (n1 := 0) (by with_unfolding_all rfl)) ?_
  refine ex_put rfl ((k121 0).trans h0) rfl rfl rfl ?_
  intro H131 f131 k131
  refine ex_s (am_nb (m := 1) (pc1 := 26) (ls1 := [(3, .int (-1)), (2, .null), (0, .ref 0), (1, .int x0)]) (st1 := [.int (-1)]) (H1 := H131) (k1 := 0) (n1 := 0) (by with_unfolding_all rfl)) ?_
  exact ex_r (st_iret rfl rfl rfl) ⟨⟨f131, trivial⟩, fun j n0 => ((k131 j n0).trans (k121 j))⟩

set_option maxRecDepth 100000 in
theorem fx_say_5 {sL : Nat} {sx : Nat → Int32} {cs : Nat → Nat → Option Int32} {H : am_H} {v0_13 : Int32} {x0 : Int32} (h0 : am_is H 0 (.inr (11, [.ref 1, .int 0, .ref 2, .int 0, .ref 3, .ref 93, .ref 97, .ref 115, .ref 116, .ref 129, .ref 123, .ref 127, .ref 128, .int v0_13, .null, .int 0]))) (h115 : am_is H 115 (.inl ((.object "TerminalHouse$Window"), (8, .inr (.inr (.inr (.inr am_q115))))))) (h141 : am_is H 141 (.inr (9, [.ref 142, .int 0, .int 0, .int 0, .int 0, .int 0, .int 0, .int 0, .int 0, .int 0]))) (h143 : am_is H 143 (.inr (9, [.ref 144, .int 0, .int 0, .int 0, .int 0, .int 0, .int 0, .int 0, .int 0, .int 0]))) (h145 : am_is H 145 (.inr (9, [.ref 146, .int 0, .int 0, .int 0, .int 0, .int 0, .int 0, .int 0, .int 0, .int 0]))) (h147 : am_is H 147 (.inr (9, [.ref 148, .int 0, .int 0, .int 0, .int 0, .int 0, .int 0, .int 0, .int 0, .int 0]))) (h149 : am_is H 149 (.inr (9, [.ref 150, .int 0, .int 0, .int 0, .int 0, .int 0, .int 0, .int 0, .int 0, .int 0]))) (h151 : am_is H 151 (.inr (9, [.ref 152, .int 0, .int 0, .int 0, .int 0, .int 0, .int 0, .int 0, .int 0, .int 0]))) (h153 : am_is H 153 (.inr (9, [.ref 154, .int 0, .int 0, .int 0, .int 0, .int 0, .int 0, .int 0, .int 0, .int 0]))) (h155 : am_is H 155 (.inr (9, [.ref 156, .int 0, .int 0, .int 0, .int 0, .int 0, .int 0, .int 0, .int 0, .int 0]))) (c1 : ¬ x0 < 0) (c2 : ¬ 8 ≤ x0) (c3 : x0 = 3)  :
    am_E sL sx cs 103 0 [(0, .ref 0), (1, .int x0)] [] H (some (.int (-1))) (fun H1 => (am_is H1 0 (.inr (11, [.ref 1, .int 0, .ref 2, .int 0, .ref 3, .ref 93, .ref 97, .ref 115, .ref 116, .ref 129, .ref 123, .ref 127, .ref 128, .int v0_13, .null, .int 0])) ∧ True) ∧ ∀ j : Nat, j ≠ 0 → H1[j]? = H[j]?) := by
  refine ex_s (am_nb (m := 2) (pc1 := 2) (ls1 := [(0, .ref 0), (1, .int x0)]) (st1 := [.int x0, .ref 0]) (H1 := H) (k1 := 0) (n1 := 0) (by with_unfolding_all rfl)) ?_
  refine ex_cv1 (as := [.int x0]) (rest := []) rfl rfl rfl rfl h0 rfl (by with_unfolding_all rfl) (by with_unfolding_all rfl) (fx_say_1_5 h0 h115 h141 h143 h145 h147 h149 h151 h153 h155 c1 c2 c3) ?_
  rintro H122 ⟨-, k122⟩
  refine ex_s (am_nb (m := 8) (pc1 := 22) (ls1 := [(3, .int (-1)), (2, .null), (0, .ref 0), (1, .int x0)]) (st1 := [.int 0, .ref 0]) (H1 := H122) (k1 := 0) (n1 := 0) (by with_unfolding_all rfl)) ?_
  refine ex_put rfl ((k122 0).trans h0) rfl rfl rfl ?_
  intro H132 f132 k132
  refine ex_s (am_nb (m := 1) (pc1 := 26) (ls1 := [(3, .int (-1)), (2, .null), (0, .ref 0), (1, .int x0)]) (st1 := [.int (-1)]) (H1 := H132) (k1 := 0) (n1 := 0) (by with_unfolding_all rfl)) ?_
  exact ex_r (st_iret rfl rfl rfl) ⟨⟨f132, trivial⟩, fun j n0 => ((k132 j n0).trans (k122 j))⟩

set_option maxRecDepth 100000 in
theorem fx_say_6 {sL : Nat} {sx : Nat → Int32} {cs : Nat → Nat → Option Int32} {H : am_H} {v0_13 : Int32} {x0 : Int32} (h0 : am_is H 0 (.inr (11, [.ref 1, .int 0, .ref 2, .int 0, .ref 3, .ref 93, .ref 97, .ref 115, .ref 116, .ref 129, .ref 123, .ref 127, .ref 128, .int v0_13, .null, .int 0]))) (h115 : am_is H 115 (.inl ((.object "TerminalHouse$Window"), (8, .inr (.inr (.inr (.inr am_q115))))))) (h141 : am_is H 141 (.inr (9, [.ref 142, .int 0, .int 0, .int 0, .int 0, .int 0, .int 0, .int 0, .int 0, .int 0]))) (h143 : am_is H 143 (.inr (9, [.ref 144, .int 0, .int 0, .int 0, .int 0, .int 0, .int 0, .int 0, .int 0, .int 0]))) (h145 : am_is H 145 (.inr (9, [.ref 146, .int 0, .int 0, .int 0, .int 0, .int 0, .int 0, .int 0, .int 0, .int 0]))) (h147 : am_is H 147 (.inr (9, [.ref 148, .int 0, .int 0, .int 0, .int 0, .int 0, .int 0, .int 0, .int 0, .int 0]))) (h149 : am_is H 149 (.inr (9, [.ref 150, .int 0, .int 0, .int 0, .int 0, .int 0, .int 0, .int 0, .int 0, .int 0]))) (h151 : am_is H 151 (.inr (9, [.ref 152, .int 0, .int 0, .int 0, .int 0, .int 0, .int 0, .int 0, .int 0, .int 0]))) (h153 : am_is H 153 (.inr (9, [.ref 154, .int 0, .int 0, .int 0, .int 0, .int 0, .int 0, .int 0, .int 0, .int 0]))) (h155 : am_is H 155 (.inr (9, [.ref 156, .int 0, .int 0, .int 0, .int 0, .int 0, .int 0, .int 0, .int 0, .int 0]))) (c1 : ¬ x0 < 0) (c2 : ¬ 8 ≤ x0) (c3 : x0 = 4)  :
    am_E sL sx cs 103 0 [(0, .ref 0), (1, .int x0)] [] H (some (.int (-1))) (fun H1 => (am_is H1 0 (.inr (11, [.ref 1, .int 0, .ref 2, .int 0, .ref 3, .ref 93, .ref 97, .ref 115, .ref 116, .ref 129, .ref 123, .ref 127, .ref 128, .int v0_13, .null, .int 0])) ∧ True) ∧ ∀ j : Nat, j ≠ 0 → H1[j]? = H[j]?) := by
  refine ex_s (am_nb (m := 2) (pc1 := 2) (ls1 := [(0, .ref 0), (1, .int x0)]) (st1 := [.int x0, .ref 0]) (H1 := H) (k1 := 0) (n1 := 0) (by with_unfolding_all rfl)) ?_
  refine ex_cv1 (as := [.int x0]) (rest := []) rfl rfl rfl rfl h0 rfl (by with_unfolding_all rfl) (by with_unfolding_all rfl) (fx_say_1_6 h0 h115 h141 h143 h145 h147 h149 h151 h153 h155 c1 c2 c3) ?_
  rintro H123 ⟨-, k123⟩
  refine ex_s (am_nb (m := 8) (pc1 := 22) (ls1 := [(3, .int (-1)), (2, .null), (0, .ref 0), (1, .int x0)]) (st1 := [.int 0, .ref 0]) (H1 := H123) (k1 := 0) (n1 := 0) (by with_unfolding_all rfl)) ?_
  refine ex_put rfl ((k123 0).trans h0) rfl rfl rfl ?_
  intro H133 f133 k133
  refine ex_s (am_nb (m := 1) (pc1 := 26) (ls1 := [(3, .int (-1)), (2, .null), (0, .ref 0), (1, .int x0)]) (st1 := [.int (-1)]) (H1 := H133) (k1 := 0) (n1 := 0) (by with_unfolding_all rfl)) ?_
  exact ex_r (st_iret rfl rfl rfl) ⟨⟨f133, trivial⟩, fun j n0 => ((k133 j n0).trans (k123 j))⟩

set_option maxRecDepth 100000 in
theorem fx_say_7 {sL : Nat} {sx : Nat → Int32} {cs : Nat → Nat → Option Int32} {H : am_H} {v0_13 : Int32} {x0 : Int32} (h0 : am_is H 0 (.inr (11, [.ref 1, .int 0, .ref 2, .int 0, .ref 3, .ref 93, .ref 97, .ref 115, .ref 116, .ref 129, .ref 123, .ref 127, .ref 128, .int v0_13, .null, .int 0]))) (h115 : am_is H 115 (.inl ((.object "TerminalHouse$Window"), (8, .inr (.inr (.inr (.inr am_q115))))))) (h141 : am_is H 141 (.inr (9, [.ref 142, .int 0, .int 0, .int 0, .int 0, .int 0, .int 0, .int 0, .int 0, .int 0]))) (h143 : am_is H 143 (.inr (9, [.ref 144, .int 0, .int 0, .int 0, .int 0, .int 0, .int 0, .int 0, .int 0, .int 0]))) (h145 : am_is H 145 (.inr (9, [.ref 146, .int 0, .int 0, .int 0, .int 0, .int 0, .int 0, .int 0, .int 0, .int 0]))) (h147 : am_is H 147 (.inr (9, [.ref 148, .int 0, .int 0, .int 0, .int 0, .int 0, .int 0, .int 0, .int 0, .int 0]))) (h149 : am_is H 149 (.inr (9, [.ref 150, .int 0, .int 0, .int 0, .int 0, .int 0, .int 0, .int 0, .int 0, .int 0]))) (h151 : am_is H 151 (.inr (9, [.ref 152, .int 0, .int 0, .int 0, .int 0, .int 0, .int 0, .int 0, .int 0, .int 0]))) (h153 : am_is H 153 (.inr (9, [.ref 154, .int 0, .int 0, .int 0, .int 0, .int 0, .int 0, .int 0, .int 0, .int 0]))) (h155 : am_is H 155 (.inr (9, [.ref 156, .int 0, .int 0, .int 0, .int 0, .int 0, .int 0, .int 0, .int 0, .int 0]))) (c1 : ¬ x0 < 0) (c2 : ¬ 8 ≤ x0) (c3 : x0 = 5)  :
    am_E sL sx cs 103 0 [(0, .ref 0), (1, .int x0)] [] H (some (.int (-1))) (fun H1 => (am_is H1 0 (.inr (11, [.ref 1, .int 0, .ref 2, .int 0, .ref 3, .ref 93, .ref 97, .ref 115, .ref 116, .ref 129, .ref 123, .ref 127, .ref 128, .int v0_13, .null, .int 0])) ∧ True) ∧ ∀ j : Nat, j ≠ 0 → H1[j]? = H[j]?) := by
  refine ex_s (am_nb (m := 2) (pc1 := 2) (ls1 := [(0, .ref 0), (1, .int x0)]) (st1 := [.int x0, .ref 0]) (H1 := H) (k1 := 0) (n1 := 0) (by with_unfolding_all rfl)) ?_
  refine ex_cv1 (as := [.int x0]) (rest := []) rfl rfl rfl rfl h0 rfl (by with_unfolding_all rfl) (by with_unfolding_all rfl) (fx_say_1_7 h0 h115 h141 h143 h145 h147 h149 h151 h153 h155 c1 c2 c3) ?_
  rintro H124 ⟨-, k124⟩
  refine ex_s (am_nb (m := 8) (pc1 := 22) (ls1 := [(3, .int (-1)), (2, .null), (0, .ref 0), (1, .int x0)]) (st1 := [.int 0, .ref 0]) (H1 := H124) (k1 := 0) (n1 := 0) (by with_unfolding_all rfl)) ?_
  refine ex_put rfl ((k124 0).trans h0) rfl rfl rfl ?_
  intro H134 f134 k134
  refine ex_s (am_nb (m := 1) (pc1 := 26) (ls1 := [(3, .int (-1)), (2, .null), (0, .ref 0), (1, .int x0)]) (st1 := [.int (-1)]) (H1 := H134) (k1 := 0) (n1 := 0) (by with_unfolding_all rfl)) ?_
  exact ex_r (st_iret rfl rfl rfl) ⟨⟨f134, trivial⟩, fun j n0 => ((k134 j n0).trans (k124 j))⟩

set_option maxRecDepth 100000 in
theorem fx_say_8 {sL : Nat} {sx : Nat → Int32} {cs : Nat → Nat → Option Int32} {H : am_H} {v0_13 : Int32} {x0 : Int32} (h0 : am_is H 0 (.inr (11, [.ref 1, .int 0, .ref 2, .int 0, .ref 3, .ref 93, .ref 97, .ref 115, .ref 116, .ref 129, .ref 123, .ref 127, .ref 128, .int v0_13, .null, .int 0]))) (h115 : am_is H 115 (.inl ((.object "TerminalHouse$Window"), (8, .inr (.inr (.inr (.inr am_q115))))))) (h141 : am_is H 141 (.inr (9, [.ref 142, .int 0, .int 0, .int 0, .int 0, .int 0, .int 0, .int 0, .int 0, .int 0]))) (h143 : am_is H 143 (.inr (9, [.ref 144, .int 0, .int 0, .int 0, .int 0, .int 0, .int 0, .int 0, .int 0, .int 0]))) (h145 : am_is H 145 (.inr (9, [.ref 146, .int 0, .int 0, .int 0, .int 0, .int 0, .int 0, .int 0, .int 0, .int 0]))) (h147 : am_is H 147 (.inr (9, [.ref 148, .int 0, .int 0, .int 0, .int 0, .int 0, .int 0, .int 0, .int 0, .int 0]))) (h149 : am_is H 149 (.inr (9, [.ref 150, .int 0, .int 0, .int 0, .int 0, .int 0, .int 0, .int 0, .int 0, .int 0]))) (h151 : am_is H 151 (.inr (9, [.ref 152, .int 0, .int 0, .int 0, .int 0, .int 0, .int 0, .int 0, .int 0, .int 0]))) (h153 : am_is H 153 (.inr (9, [.ref 154, .int 0, .int 0, .int 0, .int 0, .int 0, .int 0, .int 0, .int 0, .int 0]))) (h155 : am_is H 155 (.inr (9, [.ref 156, .int 0, .int 0, .int 0, .int 0, .int 0, .int 0, .int 0, .int 0, .int 0]))) (c1 : ¬ x0 < 0) (c2 : ¬ 8 ≤ x0) (c3 : x0 = 6)  :
    am_E sL sx cs 103 0 [(0, .ref 0), (1, .int x0)] [] H (some (.int (-1))) (fun H1 => (am_is H1 0 (.inr (11, [.ref 1, .int 0, .ref 2, .int 0, .ref 3, .ref 93, .ref 97, .ref 115, .ref 116, .ref 129, .ref 123, .ref 127, .ref 128, .int v0_13, .null, .int 0])) ∧ True) ∧ ∀ j : Nat, j ≠ 0 → H1[j]? = H[j]?) := by
  refine ex_s (am_nb (m := 2) (pc1 := 2) (ls1 := [(0, .ref 0), (1, .int x0)]) (st1 := [.int x0, .ref 0]) (H1 := H) (k1 := 0) (n1 := 0) (by with_unfolding_all rfl)) ?_
  refine ex_cv1 (as := [.int x0]) (rest := []) rfl rfl rfl rfl h0 rfl (by with_unfolding_all rfl) (by with_unfolding_all rfl) (fx_say_1_8 h0 h115 h141 h143 h145 h147 h149 h151 h153 h155 c1 c2 c3) ?_
  rintro H125 ⟨-, k125⟩
  refine ex_s (am_nb (m := 8) (pc1 := 22) (ls1 := [(3, .int (-1)), (2, .null), (0, .ref 0), (1, .int x0)]) (st1 := [.int 0, .ref 0]) (H1 := H125) (k1 := 0) (n1 := 0) (by with_unfolding_all rfl)) ?_
  refine ex_put rfl ((k125 0).trans h0) rfl rfl rfl ?_
  intro H135 f135 k135
  refine ex_s (am_nb (m := 1) (pc1 := 26) (ls1 := [(3, .int (-1)), (2, .null), (0, .ref 0), (1, .int x0)]) (st1 := [.int (-1)]) (H1 := H135) (k1 := 0) (n1 := 0) (by with_unfolding_all rfl)) ?_
  exact ex_r (st_iret rfl rfl rfl) ⟨⟨f135, trivial⟩, fun j n0 => ((k135 j n0).trans (k125 j))⟩

set_option maxRecDepth 100000 in
theorem fx_say_9 {sL : Nat} {sx : Nat → Int32} {cs : Nat → Nat → Option Int32} {H : am_H} {v0_13 : Int32} {x0 : Int32} (h0 : am_is H 0 (.inr (11, [.ref 1, .int 0, .ref 2, .int 0, .ref 3, .ref 93, .ref 97, .ref 115, .ref 116, .ref 129, .ref 123, .ref 127, .ref 128, .int v0_13, .null, .int 0]))) (h115 : am_is H 115 (.inl ((.object "TerminalHouse$Window"), (8, .inr (.inr (.inr (.inr am_q115))))))) (h141 : am_is H 141 (.inr (9, [.ref 142, .int 0, .int 0, .int 0, .int 0, .int 0, .int 0, .int 0, .int 0, .int 0]))) (h143 : am_is H 143 (.inr (9, [.ref 144, .int 0, .int 0, .int 0, .int 0, .int 0, .int 0, .int 0, .int 0, .int 0]))) (h145 : am_is H 145 (.inr (9, [.ref 146, .int 0, .int 0, .int 0, .int 0, .int 0, .int 0, .int 0, .int 0, .int 0]))) (h147 : am_is H 147 (.inr (9, [.ref 148, .int 0, .int 0, .int 0, .int 0, .int 0, .int 0, .int 0, .int 0, .int 0]))) (h149 : am_is H 149 (.inr (9, [.ref 150, .int 0, .int 0, .int 0, .int 0, .int 0, .int 0, .int 0, .int 0, .int 0]))) (h151 : am_is H 151 (.inr (9, [.ref 152, .int 0, .int 0, .int 0, .int 0, .int 0, .int 0, .int 0, .int 0, .int 0]))) (h153 : am_is H 153 (.inr (9, [.ref 154, .int 0, .int 0, .int 0, .int 0, .int 0, .int 0, .int 0, .int 0, .int 0]))) (h155 : am_is H 155 (.inr (9, [.ref 156, .int 0, .int 0, .int 0, .int 0, .int 0, .int 0, .int 0, .int 0, .int 0]))) (c1 : ¬ x0 < 0) (c2 : ¬ 8 ≤ x0) (c3 : x0 = 7)  :
    am_E sL sx cs 103 0 [(0, .ref 0), (1, .int x0)] [] H (some (.int (-1))) (fun H1 => (am_is H1 0 (.inr (11, [.ref 1, .int 0, .ref 2, .int 0, .ref 3, .ref 93, .ref 97, .ref 115, .ref 116, .ref 129, .ref 123, .ref 127, .ref 128, .int v0_13, .null, .int 0])) ∧ True) ∧ ∀ j : Nat, j ≠ 0 → H1[j]? = H[j]?) := by
  refine ex_s (am_nb (m := 2) (pc1 := 2) (ls1 := [(0, .ref 0), (1, .int x0)]) (st1 := [.int x0, .ref 0]) (H1 := H) (k1 := 0) (n1 := 0) (by with_unfolding_all rfl)) ?_
  refine ex_cv1 (as := [.int x0]) (rest := []) rfl rfl rfl rfl h0 rfl (by with_unfolding_all rfl) (by with_unfolding_all rfl) (fx_say_1_9 h0 h115 h141 h143 h145 h147 h149 h151 h153 h155 c1 c2 c3) ?_
  rintro H126 ⟨-, k126⟩
  refine ex_s (am_nb (m := 8) (pc1 := 22) (ls1 := [(3, .int (-1)), (2, .null), (0, .ref 0), (1, .int x0)]) (st1 := [.int 0, .ref 0]) (H1 := H126) (k1 := 0) (n1 := 0) (by with_unfolding_all rfl)) ?_
  refine ex_put rfl ((k126 0).trans h0) rfl rfl rfl ?_
  intro H136 f136 k136
  refine ex_s (am_nb (m := 1) (pc1 := 26) (ls1 := [(3, .int (-1)), (2, .null), (0, .ref 0), (1, .int x0)]) (st1 := [.int (-1)]) (H1 := H136) (k1 := 0) (n1 := 0) (by with_unfolding_all rfl)) ?_
  exact ex_r (st_iret rfl rfl rfl) ⟨⟨f136, trivial⟩, fun j n0 => ((k136 j n0).trans (k126 j))⟩

set_option maxRecDepth 100000 in
theorem fx_erase_1_0 {sL : Nat} {sx : Nat → Int32} {cs : Nat → Nat → Option Int32} {H : am_H} {v0_13 : Int32} {x0 : Int32} (h0 : am_is H 0 (.inr (11, [.ref 1, .int 0, .ref 2, .int 0, .ref 3, .ref 93, .ref 97, .ref 115, .ref 116, .ref 129, .ref 123, .ref 127, .ref 128, .int v0_13, .null, .int 0]))) (h115 : am_is H 115 (.inl ((.object "TerminalHouse$Window"), (8, .inr (.inr (.inr (.inr am_q115))))))) (h141 : am_is H 141 (.inr (9, [.ref 142, .int 0, .int 0, .int 0, .int 0, .int 0, .int 0, .int 0, .int 0, .int 0]))) (h143 : am_is H 143 (.inr (9, [.ref 144, .int 0, .int 0, .int 0, .int 0, .int 0, .int 0, .int 0, .int 0, .int 0]))) (h145 : am_is H 145 (.inr (9, [.ref 146, .int 0, .int 0, .int 0, .int 0, .int 0, .int 0, .int 0, .int 0, .int 0]))) (h147 : am_is H 147 (.inr (9, [.ref 148, .int 0, .int 0, .int 0, .int 0, .int 0, .int 0, .int 0, .int 0, .int 0]))) (h149 : am_is H 149 (.inr (9, [.ref 150, .int 0, .int 0, .int 0, .int 0, .int 0, .int 0, .int 0, .int 0, .int 0]))) (h151 : am_is H 151 (.inr (9, [.ref 152, .int 0, .int 0, .int 0, .int 0, .int 0, .int 0, .int 0, .int 0, .int 0]))) (h153 : am_is H 153 (.inr (9, [.ref 154, .int 0, .int 0, .int 0, .int 0, .int 0, .int 0, .int 0, .int 0, .int 0]))) (h155 : am_is H 155 (.inr (9, [.ref 156, .int 0, .int 0, .int 0, .int 0, .int 0, .int 0, .int 0, .int 0, .int 0]))) (c1 : x0 < 0)  :
    am_E sL sx cs 98 0 [(0, .ref 0), (1, .int x0)] [] H (some (.null)) (fun H1 => (True) ∧ ∀ j : Nat, H1[j]? = H[j]?) := by
  refine ex_s (am_nb (m := 1) (pc1 := 1) (ls1 := [(0, .ref 0), (1, .int x0)]) (st1 := [.int x0]) (H1 := H) (k1 := 0) (n1 := 0) (by with_unfolding_all rfl)) ?_
  refine ex_s (st_if rfl) ?_
  refine ex_pc (if_pos c1) ?_
  refine ex_s (am_nb (m := 1) (pc1 := 23) (ls1 := [(0, .ref 0), (1, .int x0)]) (st1 := [.null]) (H1 := H) (k1 := 0) (n1 := 0) (by with_unfolding_all rfl)) ?_
  exact ex_r (st_aret rfl rfl rfl rfl) ⟨trivial, fun j => rfl⟩

set_option maxRecDepth 100000 in
theorem fx_erase_1_1 {sL : Nat} {sx : Nat → Int32} {cs : Nat → Nat → Option Int32} {H : am_H} {v0_13 : Int32} {x0 : Int32} (h0 : am_is H 0 (.inr (11, [.ref 1, .int 0, .ref 2, .int 0, .ref 3, .ref 93, .ref 97, .ref 115, .ref 116, .ref 129, .ref 123, .ref 127, .ref 128, .int v0_13, .null, .int 0]))) (h115 : am_is H 115 (.inl ((.object "TerminalHouse$Window"), (8, .inr (.inr (.inr (.inr am_q115))))))) (h141 : am_is H 141 (.inr (9, [.ref 142, .int 0, .int 0, .int 0, .int 0, .int 0, .int 0, .int 0, .int 0, .int 0]))) (h143 : am_is H 143 (.inr (9, [.ref 144, .int 0, .int 0, .int 0, .int 0, .int 0, .int 0, .int 0, .int 0, .int 0]))) (h145 : am_is H 145 (.inr (9, [.ref 146, .int 0, .int 0, .int 0, .int 0, .int 0, .int 0, .int 0, .int 0, .int 0]))) (h147 : am_is H 147 (.inr (9, [.ref 148, .int 0, .int 0, .int 0, .int 0, .int 0, .int 0, .int 0, .int 0, .int 0]))) (h149 : am_is H 149 (.inr (9, [.ref 150, .int 0, .int 0, .int 0, .int 0, .int 0, .int 0, .int 0, .int 0, .int 0]))) (h151 : am_is H 151 (.inr (9, [.ref 152, .int 0, .int 0, .int 0, .int 0, .int 0, .int 0, .int 0, .int 0, .int 0]))) (h153 : am_is H 153 (.inr (9, [.ref 154, .int 0, .int 0, .int 0, .int 0, .int 0, .int 0, .int 0, .int 0, .int 0]))) (h155 : am_is H 155 (.inr (9, [.ref 156, .int 0, .int 0, .int 0, .int 0, .int 0, .int 0, .int 0, .int 0, .int 0]))) (c1 : ¬ x0 < 0) (c2 : 8 ≤ x0)  :
    am_E sL sx cs 98 0 [(0, .ref 0), (1, .int x0)] [] H (some (.null)) (fun H1 => (True) ∧ ∀ j : Nat, H1[j]? = H[j]?) := by
  refine ex_s (am_nb (m := 1) (pc1 := 1) (ls1 := [(0, .ref 0), (1, .int x0)]) (st1 := [.int x0]) (H1 := H) (k1 := 0) (n1 := 0) (by with_unfolding_all rfl)) ?_
  refine ex_s (st_if rfl) ?_
  refine ex_pc (if_neg c1) ?_
  refine ex_s (am_nb (m := 2) (pc1 := 7) (ls1 := [(0, .ref 0), (1, .int x0)]) (st1 := [.int 8, .int x0]) (H1 := H) (k1 := 0) (n1 := 0) (by with_unfolding_all rfl)) ?_
  refine ex_s (st_icmp rfl) ?_
  refine ex_pc (if_pos c2) ?_
  refine ex_s (am_nb (m := 1) (pc1 := 23) (ls1 := [(0, .ref 0), (1, .int x0)]) (st1 := [.null]) (H1 := H) (k1 := 0) (n1 := 0) (by with_unfolding_all rfl)) ?_
  exact ex_r (st_aret rfl rfl rfl rfl) ⟨trivial, fun j => rfl⟩

set_option maxRecDepth 100000 in
theorem fx_erase_1_2 {sL : Nat} {sx : Nat → Int32} {cs : Nat → Nat → Option Int32} {H : am_H} {v0_13 : Int32} {x0 : Int32} (h0 : am_is H 0 (.inr (11, [.ref 1, .int 0, .ref 2, .int 0, .ref 3, .ref 93, .ref 97, .ref 115, .ref 116, .ref 129, .ref 123, .ref 127, .ref 128, .int v0_13, .null, .int 0]))) (h115 : am_is H 115 (.inl ((.object "TerminalHouse$Window"), (8, .inr (.inr (.inr (.inr am_q115))))))) (h141 : am_is H 141 (.inr (9, [.ref 142, .int 0, .int 0, .int 0, .int 0, .int 0, .int 0, .int 0, .int 0, .int 0]))) (h143 : am_is H 143 (.inr (9, [.ref 144, .int 0, .int 0, .int 0, .int 0, .int 0, .int 0, .int 0, .int 0, .int 0]))) (h145 : am_is H 145 (.inr (9, [.ref 146, .int 0, .int 0, .int 0, .int 0, .int 0, .int 0, .int 0, .int 0, .int 0]))) (h147 : am_is H 147 (.inr (9, [.ref 148, .int 0, .int 0, .int 0, .int 0, .int 0, .int 0, .int 0, .int 0, .int 0]))) (h149 : am_is H 149 (.inr (9, [.ref 150, .int 0, .int 0, .int 0, .int 0, .int 0, .int 0, .int 0, .int 0, .int 0]))) (h151 : am_is H 151 (.inr (9, [.ref 152, .int 0, .int 0, .int 0, .int 0, .int 0, .int 0, .int 0, .int 0, .int 0]))) (h153 : am_is H 153 (.inr (9, [.ref 154, .int 0, .int 0, .int 0, .int 0, .int 0, .int 0, .int 0, .int 0, .int 0]))) (h155 : am_is H 155 (.inr (9, [.ref 156, .int 0, .int 0, .int 0, .int 0, .int 0, .int 0, .int 0, .int 0, .int 0]))) (c1 : ¬ x0 < 0) (c2 : ¬ 8 ≤ x0) (c3 : x0 = 0)  :
    am_E sL sx cs 98 0 [(0, .ref 0), (1, .int x0)] [] H (some (.null)) (fun H1 => (True) ∧ ∀ j : Nat, H1[j]? = H[j]?) := by
  refine ex_s (am_nb (m := 1) (pc1 := 1) (ls1 := [(0, .ref 0), (1, .int x0)]) (st1 := [.int x0]) (H1 := H) (k1 := 0) (n1 := 0) (by with_unfolding_all rfl)) ?_
  refine ex_s (st_if rfl) ?_
  refine ex_pc (if_neg c1) ?_
  refine ex_s (am_nb (m := 2) (pc1 := 7) (ls1 := [(0, .ref 0), (1, .int x0)]) (st1 := [.int 8, .int x0]) (H1 := H) (k1 := 0) (n1 := 0) (by with_unfolding_all rfl)) ?_
  refine ex_s (st_icmp rfl) ?_
  refine ex_pc (if_neg c2) ?_
  refine ex_s (am_nb (m := 1) (pc1 := 11) (ls1 := [(0, .ref 0), (1, .int x0)]) (st1 := [.ref 0]) (H1 := H) (k1 := 0) (n1 := 0) (by with_unfolding_all rfl)) ?_
  refine ex_s (st_get rfl h0 rfl) ?_
  refine ex_s (am_nb (m := 1) (pc1 := 15) (ls1 := [(0, .ref 0), (1, .int x0)]) (st1 := [.int x0, .ref 115]) (H1 := H) (k1 := 0) (n1 := 0) (by with_unfolding_all rfl)) ?_
  refine ex_s (st_aald rfl h115 (by rw [c3]; decide) rfl) ?_
  refine ex_s (am_nb (m := 0) (pc1 := 16) (ls1 := [(0, .ref 0), (1, .int x0)]) (st1 := [.ref 141]) (H1 := H) (k1 := 0) (n1 := 0) (by rw [c3]; with_unfolding_all rfl)) ?_
  refine ex_s (st_get rfl h141 rfl) ?_
  refine ex_s (am_nb (m := 2) (pc1 := 23) (ls1 := [(0, .ref 0), (1, .int x0)]) (st1 := [.null]) (H1 := H) (k1 := 0) (n1 := 0) (by with_unfolding_all rfl)) ?_
  exact ex_r (st_aret rfl rfl rfl rfl) ⟨trivial, fun j => rfl⟩

set_option maxRecDepth 100000 in
theorem fx_erase_1_3 {sL : Nat} {sx : Nat → Int32} {cs : Nat → Nat → Option Int32} {H : am_H} {v0_13 : Int32} {x0 : Int32} (h0 : am_is H 0 (.inr (11, [.ref 1, .int 0, .ref 2, .int 0, .ref 3, .ref 93, .ref 97, .ref 115, .ref 116, .ref 129, .ref 123, .ref 127, .ref 128, .int v0_13, .null, .int 0]))) (h115 : am_is H 115 (.inl ((.object "TerminalHouse$Window"), (8, .inr (.inr (.inr (.inr am_q115))))))) (h141 : am_is H 141 (.inr (9, [.ref 142, .int 0, .int 0, .int 0, .int 0, .int 0, .int 0, .int 0, .int 0, .int 0]))) (h143 : am_is H 143 (.inr (9, [.ref 144, .int 0, .int 0, .int 0, .int 0, .int 0, .int 0, .int 0, .int 0, .int 0]))) (h145 : am_is H 145 (.inr (9, [.ref 146, .int 0, .int 0, .int 0, .int 0, .int 0, .int 0, .int 0, .int 0, .int 0]))) (h147 : am_is H 147 (.inr (9, [.ref 148, .int 0, .int 0, .int 0, .int 0, .int 0, .int 0, .int 0, .int 0, .int 0]))) (h149 : am_is H 149 (.inr (9, [.ref 150, .int 0, .int 0, .int 0, .int 0, .int 0, .int 0, .int 0, .int 0, .int 0]))) (h151 : am_is H 151 (.inr (9, [.ref 152, .int 0, .int 0, .int 0, .int 0, .int 0, .int 0, .int 0, .int 0, .int 0]))) (h153 : am_is H 153 (.inr (9, [.ref 154, .int 0, .int 0, .int 0, .int 0, .int 0, .int 0, .int 0, .int 0, .int 0]))) (h155 : am_is H 155 (.inr (9, [.ref 156, .int 0, .int 0, .int 0, .int 0, .int 0, .int 0, .int 0, .int 0, .int 0]))) (c1 : ¬ x0 < 0) (c2 : ¬ 8 ≤ x0) (c3 : x0 = 1)  :
    am_E sL sx cs 98 0 [(0, .ref 0), (1, .int x0)] [] H (some (.null)) (fun H1 => (True) ∧ ∀ j : Nat, H1[j]? = H[j]?) := by
  refine ex_s (am_nb (m := 1) (pc1 := 1) (ls1 := [(0, .ref 0), (1, .int x0)]) (st1 := [.int x0]) (H1 := H) (k1 := 0) (n1 := 0) (by with_unfolding_all rfl)) ?_
  refine ex_s (st_if rfl) ?_
  refine ex_pc (if_neg c1) ?_
  refine ex_s (am_nb (m := 2) (pc1 := 7) (ls1 := [(0, .ref 0), (1, .int x0)]) (st1 := [.int 8, .int x0]) (H1 := H) (k1 := 0) (n1 := 0) (by with_unfolding_all rfl)) ?_
  refine ex_s (st_icmp rfl) ?_
  refine ex_pc (if_neg c2) ?_
  refine ex_s (am_nb (m := 1) (pc1 := 11) (ls1 := [(0, .ref 0), (1, .int x0)]) (st1 := [.ref 0]) (H1 := H) (k1 := 0) (n1 := 0) (by with_unfolding_all rfl)) ?_
  refine ex_s (st_get rfl h0 rfl) ?_
  refine ex_s (am_nb (m := 1) (pc1 := 15) (ls1 := [(0, .ref 0), (1, .int x0)]) (st1 := [.int x0, .ref 115]) (H1 := H) (k1 := 0) (n1 := 0) (by with_unfolding_all rfl)) ?_
  refine ex_s (st_aald rfl h115 (by rw [c3]; decide) rfl) ?_
  refine ex_s (am_nb (m := 0) (pc1 := 16) (ls1 := [(0, .ref 0), (1, .int x0)]) (st1 := [.ref 143]) (H1 := H) (k1 := 0) (n1 := 0) (by rw [c3]; with_unfolding_all rfl)) ?_
  refine ex_s (st_get rfl h143 rfl) ?_
  refine ex_s (am_nb (m := 2) (pc1 := 23) (ls1 := [(0, .ref 0), (1, .int x0)]) (st1 := [.null]) (H1 := H) (k1 := 0) (n1 := 0) (by with_unfolding_all rfl)) ?_
  exact ex_r (st_aret rfl rfl rfl rfl) ⟨trivial, fun j => rfl⟩

set_option maxRecDepth 100000 in
theorem fx_erase_1_4 {sL : Nat} {sx : Nat → Int32} {cs : Nat → Nat → Option Int32} {H : am_H} {v0_13 : Int32} {x0 : Int32} (h0 : am_is H 0 (.inr (11, [.ref 1, .int 0, .ref 2, .int 0, .ref 3, .ref 93, .ref 97, .ref 115, .ref 116, .ref 129, .ref 123, .ref 127, .ref 128, .int v0_13, .null, .int 0]))) (h115 : am_is H 115 (.inl ((.object "TerminalHouse$Window"), (8, .inr (.inr (.inr (.inr am_q115))))))) (h141 : am_is H 141 (.inr (9, [.ref 142, .int 0, .int 0, .int 0, .int 0, .int 0, .int 0, .int 0, .int 0, .int 0]))) (h143 : am_is H 143 (.inr (9, [.ref 144, .int 0, .int 0, .int 0, .int 0, .int 0, .int 0, .int 0, .int 0, .int 0]))) (h145 : am_is H 145 (.inr (9, [.ref 146, .int 0, .int 0, .int 0, .int 0, .int 0, .int 0, .int 0, .int 0, .int 0]))) (h147 : am_is H 147 (.inr (9, [.ref 148, .int 0, .int 0, .int 0, .int 0, .int 0, .int 0, .int 0, .int 0, .int 0]))) (h149 : am_is H 149 (.inr (9, [.ref 150, .int 0, .int 0, .int 0, .int 0, .int 0, .int 0, .int 0, .int 0, .int 0]))) (h151 : am_is H 151 (.inr (9, [.ref 152, .int 0, .int 0, .int 0, .int 0, .int 0, .int 0, .int 0, .int 0, .int 0]))) (h153 : am_is H 153 (.inr (9, [.ref 154, .int 0, .int 0, .int 0, .int 0, .int 0, .int 0, .int 0, .int 0, .int 0]))) (h155 : am_is H 155 (.inr (9, [.ref 156, .int 0, .int 0, .int 0, .int 0, .int 0, .int 0, .int 0, .int 0, .int 0]))) (c1 : ¬ x0 < 0) (c2 : ¬ 8 ≤ x0) (c3 : x0 = 2)  :
    am_E sL sx cs 98 0 [(0, .ref 0), (1, .int x0)] [] H (some (.null)) (fun H1 => (True) ∧ ∀ j : Nat, H1[j]? = H[j]?) := by
  refine ex_s (am_nb (m := 1) (pc1 := 1) (ls1 := [(0, .ref 0), (1, .int x0)]) (st1 := [.int x0]) (H1 := H) (k1 := 0) (n1 := 0) (by with_unfolding_all rfl)) ?_
  refine ex_s (st_if rfl) ?_
  refine ex_pc (if_neg c1) ?_
  refine ex_s (am_nb (m := 2) (pc1 := 7) (ls1 := [(0, .ref 0), (1, .int x0)]) (st1 := [.int 8, .int x0]) (H1 := H) (k1 := 0) (n1 := 0) (by with_unfolding_all rfl)) ?_
  refine ex_s (st_icmp rfl) ?_
  refine ex_pc (if_neg c2) ?_
  refine ex_s (am_nb (m := 1) (pc1 := 11) (ls1 := [(0, .ref 0), (1, .int x0)]) (st1 := [.ref 0]) (H1 := H) (k1 := 0) (n1 := 0) (by with_unfolding_all rfl)) ?_
  refine ex_s (st_get rfl h0 rfl) ?_
  refine ex_s (am_nb (m := 1) (pc1 := 15) (ls1 := [(0, .ref 0), (1, .int x0)]) (st1 := [.int x0, .ref 115]) (H1 := H) (k1 := 0) (n1 := 0) (by with_unfolding_all rfl)) ?_
  refine ex_s (st_aald rfl h115 (by rw [c3]; decide) rfl) ?_
  refine ex_s (am_nb (m := 0) (pc1 := 16) (ls1 := [(0, .ref 0), (1, .int x0)]) (st1 := [.ref 145]) (H1 := H) (k1 := 0) (n1 := 0) (by rw [c3]; with_unfolding_all rfl)) ?_
  refine ex_s (st_get rfl h145 rfl) ?_
  refine ex_s (am_nb (m := 2) (pc1 := 23) (ls1 := [(0, .ref 0), (1, .int x0)]) (st1 := [.null]) (H1 := H) (k1 := 0) (n1 := 0) (by with_unfolding_all rfl)) ?_
  exact ex_r (st_aret rfl rfl rfl rfl) ⟨trivial, fun j => rfl⟩

set_option maxRecDepth 100000 in
theorem fx_erase_1_5 {sL : Nat} {sx : Nat → Int32} {cs : Nat → Nat → Option Int32} {H : am_H} {v0_13 : Int32} {x0 : Int32} (h0 : am_is H 0 (.inr (11, [.ref 1, .int 0, .ref 2, .int 0, .ref 3, .ref 93, .ref 97, .ref 115, .ref 116, .ref 129, .ref 123, .ref 127, .ref 128, .int v0_13, .null, .int 0]))) (h115 : am_is H 115 (.inl ((.object "TerminalHouse$Window"), (8, .inr (.inr (.inr (.inr am_q115))))))) (h141 : am_is H 141 (.inr (9, [.ref 142, .int 0, .int 0, .int 0, .int 0, .int 0, .int 0, .int 0, .int 0, .int 0]))) (h143 : am_is H 143 (.inr (9, [.ref 144, .int 0, .int 0, .int 0, .int 0, .int 0, .int 0, .int 0, .int 0, .int 0]))) (h145 : am_is H 145 (.inr (9, [.ref 146, .int 0, .int 0, .int 0, .int 0, .int 0, .int 0, .int 0, .int 0, .int 0]))) (h147 : am_is H 147 (.inr (9, [.ref 148, .int 0, .int 0, .int 0, .int 0, .int 0, .int 0, .int 0, .int 0, .int 0]))) (h149 : am_is H 149 (.inr (9, [.ref 150, .int 0, .int 0, .int 0, .int 0, .int 0, .int 0, .int 0, .int 0, .int 0]))) (h151 : am_is H 151 (.inr (9, [.ref 152, .int 0, .int 0, .int 0, .int 0, .int 0, .int 0, .int 0, .int 0, .int 0]))) (h153 : am_is H 153 (.inr (9, [.ref 154, .int 0, .int 0, .int 0, .int 0, .int 0, .int 0, .int 0, .int 0, .int 0]))) (h155 : am_is H 155 (.inr (9, [.ref 156, .int 0, .int 0, .int 0, .int 0, .int 0, .int 0, .int 0, .int 0, .int 0]))) (c1 : ¬ x0 < 0) (c2 : ¬ 8 ≤ x0) (c3 : x0 = 3)  :
    am_E sL sx cs 98 0 [(0, .ref 0), (1, .int x0)] [] H (some (.null)) (fun H1 => (True) ∧ ∀ j : Nat, H1[j]? = H[j]?) := by
  refine ex_s (am_nb (m := 1) (pc1 := 1) (ls1 := [(0, .ref 0), (1, .int x0)]) (st1 := [.int x0]) (H1 := H) (k1 := 0) (n1 := 0) (by with_unfolding_all rfl)) ?_
  refine ex_s (st_if rfl) ?_
  refine ex_pc (if_neg c1) ?_
  refine ex_s (am_nb (m := 2) (pc1 := 7) (ls1 := [(0, .ref 0), (1, .int x0)]) (st1 := [.int 8, .int x0]) (H1 := H) (k1 := 0) (n1 := 0) (by with_unfolding_all rfl)) ?_
  refine ex_s (st_icmp rfl) ?_
  refine ex_pc (if_neg c2) ?_
  refine ex_s (am_nb (m := 1) (pc1 := 11) (ls1 := [(0, .ref 0), (1, .int x0)]) (st1 := [.ref 0]) (H1 := H) (k1 := 0) (n1 := 0) (by with_unfolding_all rfl)) ?_
  refine ex_s (st_get rfl h0 rfl) ?_
  refine ex_s (am_nb (m := 1) (pc1 := 15) (ls1 := [(0, .ref 0), (1, .int x0)]) (st1 := [.int x0, .ref 115]) (H1 := H) (k1 := 0) (n1 := 0) (by with_unfolding_all rfl)) ?_
  refine ex_s (st_aald rfl h115 (by rw [c3]; decide) rfl) ?_
  refine ex_s (am_nb (m := 0) (pc1 := 16) (ls1 := [(0, .ref 0), (1, .int x0)]) (st1 := [.ref 147]) (H1 := H) (k1 := 0) (n1 := 0) (by rw [c3]; with_unfolding_all rfl)) ?_
  refine ex_s (st_get rfl h147 rfl) ?_
  refine ex_s (am_nb (m := 2) (pc1 := 23) (ls1 := [(0, .ref 0), (1, .int x0)]) (st1 := [.null]) (H1 := H) (k1 := 0) (n1 := 0) (by with_unfolding_all rfl)) ?_
  exact ex_r (st_aret rfl rfl rfl rfl) ⟨trivial, fun j => rfl⟩

set_option maxRecDepth 100000 in
theorem fx_erase_1_6 {sL : Nat} {sx : Nat → Int32} {cs : Nat → Nat → Option Int32} {H : am_H} {v0_13 : Int32} {x0 : Int32} (h0 : am_is H 0 (.inr (11, [.ref 1, .int 0, .ref 2, .int 0, .ref 3, .ref 93, .ref 97, .ref 115, .ref 116, .ref 129, .ref 123, .ref 127, .ref 128, .int v0_13, .null, .int 0]))) (h115 : am_is H 115 (.inl ((.object "TerminalHouse$Window"), (8, .inr (.inr (.inr (.inr am_q115))))))) (h141 : am_is H 141 (.inr (9, [.ref 142, .int 0, .int 0, .int 0, .int 0, .int 0, .int 0, .int 0, .int 0, .int 0]))) (h143 : am_is H 143 (.inr (9, [.ref 144, .int 0, .int 0, .int 0, .int 0, .int 0, .int 0, .int 0, .int 0, .int 0]))) (h145 : am_is H 145 (.inr (9, [.ref 146, .int 0, .int 0, .int 0, .int 0, .int 0, .int 0, .int 0, .int 0, .int 0]))) (h147 : am_is H 147 (.inr (9, [.ref 148, .int 0, .int 0, .int 0, .int 0, .int 0, .int 0, .int 0, .int 0, .int 0]))) (h149 : am_is H 149 (.inr (9, [.ref 150, .int 0, .int 0, .int 0, .int 0, .int 0, .int 0, .int 0, .int 0, .int 0]))) (h151 : am_is H 151 (.inr (9, [.ref 152, .int 0, .int 0, .int 0, .int 0, .int 0, .int 0, .int 0, .int 0, .int 0]))) (h153 : am_is H 153 (.inr (9, [.ref 154, .int 0, .int 0, .int 0, .int 0, .int 0, .int 0, .int 0, .int 0, .int 0]))) (h155 : am_is H 155 (.inr (9, [.ref 156, .int 0, .int 0, .int 0, .int 0, .int 0, .int 0, .int 0, .int 0, .int 0]))) (c1 : ¬ x0 < 0) (c2 : ¬ 8 ≤ x0) (c3 : x0 = 4)  :
    am_E sL sx cs 98 0 [(0, .ref 0), (1, .int x0)] [] H (some (.null)) (fun H1 => (True) ∧ ∀ j : Nat, H1[j]? = H[j]?) := by
  refine ex_s (am_nb (m := 1) (pc1 := 1) (ls1 := [(0, .ref 0), (1, .int x0)]) (st1 := [.int x0]) (H1 := H) (k1 := 0) (n1 := 0) (by with_unfolding_all rfl)) ?_
  refine ex_s (st_if rfl) ?_
  refine ex_pc (if_neg c1) ?_
  refine ex_s (am_nb (m := 2) (pc1 := 7) (ls1 := [(0, .ref 0), (1, .int x0)]) (st1 := [.int 8, .int x0]) (H1 := H) (k1 := 0) (n1 := 0) (by with_unfolding_all rfl)) ?_
  refine ex_s (st_icmp rfl) ?_
  refine ex_pc (if_neg c2) ?_
  refine ex_s (am_nb (m := 1) (pc1 := 11) (ls1 := [(0, .ref 0), (1, .int x0)]) (st1 := [.ref 0]) (H1 := H) (k1 := 0) (n1 := 0) (by with_unfolding_all rfl)) ?_
  refine ex_s (st_get rfl h0 rfl) ?_
  refine ex_s (am_nb (m := 1) (pc1 := 15) (ls1 := [(0, .ref 0), (1, .int x0)]) (st1 := [.int x0, .ref 115]) (H1 := H) (k1 := 0) (n1 := 0) (by with_unfolding_all rfl)) ?_
  refine ex_s (st_aald rfl h115 (by rw [c3]; decide) rfl) ?_
  refine ex_s (am_nb (m := 0) (pc1 := 16) (ls1 := [(0, .ref 0), (1, .int x0)]) (st1 := [.ref 149]) (H1 := H) (k1 := 0) (n1 := 0) (by rw [c3]; with_unfolding_all rfl)) ?_
  refine ex_s (st_get rfl h149 rfl) ?_
  refine ex_s (am_nb (m := 2) (pc1 := 23) (ls1 := [(0, .ref 0), (1, .int x0)]) (st1 := [.null]) (H1 := H) (k1 := 0) (n1 := 0) (by with_unfolding_all rfl)) ?_
  exact ex_r (st_aret rfl rfl rfl rfl) ⟨trivial, fun j => rfl⟩

set_option maxRecDepth 100000 in
theorem fx_erase_1_7 {sL : Nat} {sx : Nat → Int32} {cs : Nat → Nat → Option Int32} {H : am_H} {v0_13 : Int32} {x0 : Int32} (h0 : am_is H 0 (.inr (11, [.ref 1, .int 0, .ref 2, .int 0, .ref 3, .ref 93, .ref 97, .ref 115, .ref 116, .ref 129, .ref 123, .ref 127, .ref 128, .int v0_13, .null, .int 0]))) (h115 : am_is H 115 (.inl ((.object "TerminalHouse$Window"), (8, .inr (.inr (.inr (.inr am_q115))))))) (h141 : am_is H 141 (.inr (9, [.ref 142, .int 0, .int 0, .int 0, .int 0, .int 0, .int 0, .int 0, .int 0, .int 0]))) (h143 : am_is H 143 (.inr (9, [.ref 144, .int 0, .int 0, .int 0, .int 0, .int 0, .int 0, .int 0, .int 0, .int 0]))) (h145 : am_is H 145 (.inr (9, [.ref 146, .int 0, .int 0, .int 0, .int 0, .int 0, .int 0, .int 0, .int 0, .int 0]))) (h147 : am_is H 147 (.inr (9, [.ref 148, .int 0, .int 0, .int 0, .int 0, .int 0, .int 0, .int 0, .int 0, .int 0]))) (h149 : am_is H 149 (.inr (9, [.ref 150, .int 0, .int 0, .int 0, .int 0, .int 0, .int 0, .int 0, .int 0, .int 0]))) (h151 : am_is H 151 (.inr (9, [.ref 152, .int 0, .int 0, .int 0, .int 0, .int 0, .int 0, .int 0, .int 0, .int 0]))) (h153 : am_is H 153 (.inr (9, [.ref 154, .int 0, .int 0, .int 0, .int 0, .int 0, .int 0, .int 0, .int 0, .int 0]))) (h155 : am_is H 155 (.inr (9, [.ref 156, .int 0, .int 0, .int 0, .int 0, .int 0, .int 0, .int 0, .int 0, .int 0]))) (c1 : ¬ x0 < 0) (c2 : ¬ 8 ≤ x0) (c3 : x0 = 5)  :
    am_E sL sx cs 98 0 [(0, .ref 0), (1, .int x0)] [] H (some (.null)) (fun H1 => (True) ∧ ∀ j : Nat, H1[j]? = H[j]?) := by
  refine ex_s (am_nb (m := 1) (pc1 := 1) (ls1 := [(0, .ref 0), (1, .int x0)]) (st1 := [.int x0]) (H1 := H) (k1 := 0) (n1 := 0) (by with_unfolding_all rfl)) ?_
  refine ex_s (st_if rfl) ?_
  refine ex_pc (if_neg c1) ?_
  refine ex_s (am_nb (m := 2) (pc1 := 7) (ls1 := [(0, .ref 0), (1, .int x0)]) (st1 := [.int 8, .int x0]) (H1 := H) (k1 := 0) (n1 := 0) (by with_unfolding_all rfl)) ?_
  refine ex_s (st_icmp rfl) ?_
  refine ex_pc (if_neg c2) ?_
  refine ex_s (am_nb (m := 1) (pc1 := 11) (ls1 := [(0, .ref 0), (1, .int x0)]) (st1 := [.ref 0]) (H1 := H) (k1 := 0) (n1 := 0) (by with_unfolding_all rfl)) ?_
  refine ex_s (st_get rfl h0 rfl) ?_
  refine ex_s (am_nb (m := 1) (pc1 := 15) (ls1 := [(0, .ref 0), (1, .int x0)]) (st1 := [.int x0, .ref 115]) (H1 := H) (k1 := 0) (n1 := 0) (by with_unfolding_all rfl)) ?_
  refine ex_s (st_aald rfl h115 (by rw [c3]; decide) rfl) ?_
  refine ex_s (am_nb (m := 0) (pc1 := 16) (ls1 := [(0, .ref 0), (1, .int x0)]) (st1 := [.ref 151]) (H1 := H) (k1 := 0) (n1 := 0) (by rw [c3]; with_unfolding_all rfl)) ?_
  refine ex_s (st_get rfl h151 rfl) ?_
  refine ex_s (am_nb (m := 2) (pc1 := 23) (ls1 := [(0, .ref 0), (1, .int x0)]) (st1 := [.null]) (H1 := H) (k1 := 0) (n1 := 0) (by with_unfolding_all rfl)) ?_
  exact ex_r (st_aret rfl rfl rfl rfl) ⟨trivial, fun j => rfl⟩

set_option maxRecDepth 100000 in
theorem fx_erase_1_8 {sL : Nat} {sx : Nat → Int32} {cs : Nat → Nat → Option Int32} {H : am_H} {v0_13 : Int32} {x0 : Int32} (h0 : am_is H 0 (.inr (11, [.ref 1, .int 0, .ref 2, .int 0, .ref 3, .ref 93, .ref 97, .ref 115, .ref 116, .ref 129, .ref 123, .ref 127, .ref 128, .int v0_13, .null, .int 0]))) (h115 : am_is H 115 (.inl ((.object "TerminalHouse$Window"), (8, .inr (.inr (.inr (.inr am_q115))))))) (h141 : am_is H 141 (.inr (9, [.ref 142, .int 0, .int 0, .int 0, .int 0, .int 0, .int 0, .int 0, .int 0, .int 0]))) (h143 : am_is H 143 (.inr (9, [.ref 144, .int 0, .int 0, .int 0, .int 0, .int 0, .int 0, .int 0, .int 0, .int 0]))) (h145 : am_is H 145 (.inr (9, [.ref 146, .int 0, .int 0, .int 0, .int 0, .int 0, .int 0, .int 0, .int 0, .int 0]))) (h147 : am_is H 147 (.inr (9, [.ref 148, .int 0, .int 0, .int 0, .int 0, .int 0, .int 0, .int 0, .int 0, .int 0]))) (h149 : am_is H 149 (.inr (9, [.ref 150, .int 0, .int 0, .int 0, .int 0, .int 0, .int 0, .int 0, .int 0, .int 0]))) (h151 : am_is H 151 (.inr (9, [.ref 152, .int 0, .int 0, .int 0, .int 0, .int 0, .int 0, .int 0, .int 0, .int 0]))) (h153 : am_is H 153 (.inr (9, [.ref 154, .int 0, .int 0, .int 0, .int 0, .int 0, .int 0, .int 0, .int 0, .int 0]))) (h155 : am_is H 155 (.inr (9, [.ref 156, .int 0, .int 0, .int 0, .int 0, .int 0, .int 0, .int 0, .int 0, .int 0]))) (c1 : ¬ x0 < 0) (c2 : ¬ 8 ≤ x0) (c3 : x0 = 6)  :
    am_E sL sx cs 98 0 [(0, .ref 0), (1, .int x0)] [] H (some (.null)) (fun H1 => (True) ∧ ∀ j : Nat, H1[j]? = H[j]?) := by
  refine ex_s (am_nb (m := 1) (pc1 := 1) (ls1 := [(0, .ref 0), (1, .int x0)]) (st1 := [.int x0]) (H1 := H) (k1 := 0) (n1 := 0) (by with_unfolding_all rfl)) ?_
  refine ex_s (st_if rfl) ?_
  refine ex_pc (if_neg c1) ?_
  refine ex_s (am_nb (m := 2) (pc1 := 7) (ls1 := [(0, .ref 0), (1, .int x0)]) (st1 := [.int 8, .int x0]) (H1 := H) (k1 := 0) (n1 := 0) (by with_unfolding_all rfl)) ?_
  refine ex_s (st_icmp rfl) ?_
  refine ex_pc (if_neg c2) ?_
  refine ex_s (am_nb (m := 1) (pc1 := 11) (ls1 := [(0, .ref 0), (1, .int x0)]) (st1 := [.ref 0]) (H1 := H) (k1 := 0) (n1 := 0) (by with_unfolding_all rfl)) ?_
  refine ex_s (st_get rfl h0 rfl) ?_
  refine ex_s (am_nb (m := 1) (pc1 := 15) (ls1 := [(0, .ref 0), (1, .int x0)]) (st1 := [.int x0, .ref 115]) (H1 := H) (k1 := 0) (n1 := 0) (by with_unfolding_all rfl)) ?_
  refine ex_s (st_aald rfl h115 (by rw [c3]; decide) rfl) ?_
  refine ex_s (am_nb (m := 0) (pc1 := 16) (ls1 := [(0, .ref 0), (1, .int x0)]) (st1 := [.ref 153]) (H1 := H) (k1 := 0) (n1 := 0) (by rw [c3]; with_unfolding_all rfl)) ?_
  refine ex_s (st_get rfl h153 rfl) ?_
  refine ex_s (am_nb (m := 2) (pc1 := 23) (ls1 := [(0, .ref 0), (1, .int x0)]) (st1 := [.null]) (H1 := H) (k1 := 0) (n1 := 0) (by with_unfolding_all rfl)) ?_
  exact ex_r (st_aret rfl rfl rfl rfl) ⟨trivial, fun j => rfl⟩

set_option maxRecDepth 100000 in
theorem fx_erase_1_9 {sL : Nat} {sx : Nat → Int32} {cs : Nat → Nat → Option Int32} {H : am_H} {v0_13 : Int32} {x0 : Int32} (h0 : am_is H 0 (.inr (11, [.ref 1, .int 0, .ref 2, .int 0, .ref 3, .ref 93, .ref 97, .ref 115, .ref 116, .ref 129, .ref 123, .ref 127, .ref 128, .int v0_13, .null, .int 0]))) (h115 : am_is H 115 (.inl ((.object "TerminalHouse$Window"), (8, .inr (.inr (.inr (.inr am_q115))))))) (h141 : am_is H 141 (.inr (9, [.ref 142, .int 0, .int 0, .int 0, .int 0, .int 0, .int 0, .int 0, .int 0, .int 0]))) (h143 : am_is H 143 (.inr (9, [.ref 144, .int 0, .int 0, .int 0, .int 0, .int 0, .int 0, .int 0, .int 0, .int 0]))) (h145 : am_is H 145 (.inr (9, [.ref 146, .int 0, .int 0, .int 0, .int 0, .int 0, .int 0, .int 0, .int 0, .int 0]))) (h147 : am_is H 147 (.inr (9, [.ref 148, .int 0, .int 0, .int 0, .int 0, .int 0, .int 0, .int 0, .int 0, .int 0]))) (h149 : am_is H 149 (.inr (9, [.ref 150, .int 0, .int 0, .int 0, .int 0, .int 0, .int 0, .int 0, .int 0, .int 0]))) (h151 : am_is H 151 (.inr (9, [.ref 152, .int 0, .int 0, .int 0, .int 0, .int 0, .int 0, .int 0, .int 0, .int 0]))) (h153 : am_is H 153 (.inr (9, [.ref 154, .int 0, .int 0, .int 0, .int 0, .int 0, .int 0, .int 0, .int 0, .int 0]))) (h155 : am_is H 155 (.inr (9, [.ref 156, .int 0, .int 0, .int 0, .int 0, .int 0, .int 0, .int 0, .int 0, .int 0]))) (c1 : ¬ x0 < 0) (c2 : ¬ 8 ≤ x0) (c3 : x0 = 7)  :
    am_E sL sx cs 98 0 [(0, .ref 0), (1, .int x0)] [] H (some (.null)) (fun H1 => (True) ∧ ∀ j : Nat, H1[j]? = H[j]?) := by
  refine ex_s (am_nb (m := 1) (pc1 := 1) (ls1 := [(0, .ref 0), (1, .int x0)]) (st1 := [.int x0]) (H1 := H) (k1 := 0) (n1 := 0) (by with_unfolding_all rfl)) ?_
  refine ex_s (st_if rfl) ?_
  refine ex_pc (if_neg c1) ?_
  refine ex_s (am_nb (m := 2) (pc1 := 7) (ls1 := [(0, .ref 0), (1, .int x0)]) (st1 := [.int 8, .int x0]) (H1 := H) (k1 := 0) (n1 := 0) (by with_unfolding_all rfl)) ?_
  refine ex_s (st_icmp rfl) ?_
  refine ex_pc (if_neg c2) ?_
  refine ex_s (am_nb (m := 1) (pc1 := 11) (ls1 := [(0, .ref 0), (1, .int x0)]) (st1 := [.ref 0]) (H1 := H) (k1 := 0) (n1 := 0) (by with_unfolding_all rfl)) ?_
  refine ex_s (st_get rfl h0 rfl) ?_
  refine ex_s (am_nb (m := 1) (pc1 := 15) (ls1 := [(0, .ref 0), (1, .int x0)]) (st1 := [.int x0, .ref 115]) (H1 := H) (k1 := 0) (n1 := 0) (by with_unfolding_all rfl)) ?_
  refine ex_s (st_aald rfl h115 (by rw [c3]; decide) rfl) ?_
  refine ex_s (am_nb (m := 0) (pc1 := 16) (ls1 := [(0, .ref 0), (1, .int x0)]) (st1 := [.ref 155]) (H1 := H) (k1 := 0) (n1 := 0) (by rw [c3]; with_unfolding_all rfl)) ?_
  refine ex_s (st_get rfl h155 rfl) ?_
  refine ex_s (am_nb (m := 2) (pc1 := 23) (ls1 := [(0, .ref 0), (1, .int x0)]) (st1 := [.null]) (H1 := H) (k1 := 0) (n1 := 0) (by with_unfolding_all rfl)) ?_
  exact ex_r (st_aret rfl rfl rfl rfl) ⟨trivial, fun j => rfl⟩

set_option maxRecDepth 100000 in
theorem fx_erase_0 {sL : Nat} {sx : Nat → Int32} {cs : Nat → Nat → Option Int32} {H : am_H} {v0_13 : Int32} {x0 : Int32} {x1 : Int32} (h0 : am_is H 0 (.inr (11, [.ref 1, .int 0, .ref 2, .int 0, .ref 3, .ref 93, .ref 97, .ref 115, .ref 116, .ref 129, .ref 123, .ref 127, .ref 128, .int v0_13, .null, .int 0]))) (h115 : am_is H 115 (.inl ((.object "TerminalHouse$Window"), (8, .inr (.inr (.inr (.inr am_q115))))))) (h141 : am_is H 141 (.inr (9, [.ref 142, .int 0, .int 0, .int 0, .int 0, .int 0, .int 0, .int 0, .int 0, .int 0]))) (h143 : am_is H 143 (.inr (9, [.ref 144, .int 0, .int 0, .int 0, .int 0, .int 0, .int 0, .int 0, .int 0, .int 0]))) (h145 : am_is H 145 (.inr (9, [.ref 146, .int 0, .int 0, .int 0, .int 0, .int 0, .int 0, .int 0, .int 0, .int 0]))) (h147 : am_is H 147 (.inr (9, [.ref 148, .int 0, .int 0, .int 0, .int 0, .int 0, .int 0, .int 0, .int 0, .int 0]))) (h149 : am_is H 149 (.inr (9, [.ref 150, .int 0, .int 0, .int 0, .int 0, .int 0, .int 0, .int 0, .int 0, .int 0]))) (h151 : am_is H 151 (.inr (9, [.ref 152, .int 0, .int 0, .int 0, .int 0, .int 0, .int 0, .int 0, .int 0, .int 0]))) (h153 : am_is H 153 (.inr (9, [.ref 154, .int 0, .int 0, .int 0, .int 0, .int 0, .int 0, .int 0, .int 0, .int 0]))) (h155 : am_is H 155 (.inr (9, [.ref 156, .int 0, .int 0, .int 0, .int 0, .int 0, .int 0, .int 0, .int 0, .int 0]))) (c1 : x0 < 0)  :
    am_E sL sx cs 112 0 [(0, .ref 0), (1, .int x0), (2, .int x1)] [] H (some (.int 0)) (fun H1 => (True) ∧ ∀ j : Nat, H1[j]? = H[j]?) := by
  refine ex_s (am_nb (m := 2) (pc1 := 2) (ls1 := [(0, .ref 0), (1, .int x0), (2, .int x1)]) (st1 := [.int x0, .ref 0]) (H1 := H) (k1 := 0) (n1 := 0) (by with_unfolding_all rfl)) ?_
  refine ex_cv1 (as := [.int x0]) (rest := []) rfl rfl rfl rfl h0 rfl (by with_unfolding_all rfl) (by with_unfolding_all rfl) (fx_erase_1_0 h0 h115 h141 h143 h145 h147 h149 h151 h153 h155 c1) ?_
  rintro H137 ⟨-, k137⟩
  refine ex_s (am_nb (m := 4) (pc1 := 23) (ls1 := [(3, .null), (0, .ref 0), (1, .int x0), (2, .int x1)]) (st1 := [.int 0]) (H1 := H137) (k1 := 0) (n1 := 0) (by with_unfolding_all rfl)) ?_
  exact ex_r (st_iret rfl rfl rfl) ⟨trivial, fun j => (k137 j)⟩

set_option maxRecDepth 100000 in
theorem fx_erase_1 {sL : Nat} {sx : Nat → Int32} {cs : Nat → Nat → Option Int32} {H : am_H} {v0_13 : Int32} {x0 : Int32} {x1 : Int32} (h0 : am_is H 0 (.inr (11, [.ref 1, .int 0, .ref 2, .int 0, .ref 3, .ref 93, .ref 97, .ref 115, .ref 116, .ref 129, .ref 123, .ref 127, .ref 128, .int v0_13, .null, .int 0]))) (h115 : am_is H 115 (.inl ((.object "TerminalHouse$Window"), (8, .inr (.inr (.inr (.inr am_q115))))))) (h141 : am_is H 141 (.inr (9, [.ref 142, .int 0, .int 0, .int 0, .int 0, .int 0, .int 0, .int 0, .int 0, .int 0]))) (h143 : am_is H 143 (.inr (9, [.ref 144, .int 0, .int 0, .int 0, .int 0, .int 0, .int 0, .int 0, .int 0, .int 0]))) (h145 : am_is H 145 (.inr (9, [.ref 146, .int 0, .int 0, .int 0, .int 0, .int 0, .int 0, .int 0, .int 0, .int 0]))) (h147 : am_is H 147 (.inr (9, [.ref 148, .int 0, .int 0, .int 0, .int 0, .int 0, .int 0, .int 0, .int 0, .int 0]))) (h149 : am_is H 149 (.inr (9, [.ref 150, .int 0, .int 0, .int 0, .int 0, .int 0, .int 0, .int 0, .int 0, .int 0]))) (h151 : am_is H 151 (.inr (9, [.ref 152, .int 0, .int 0, .int 0, .int 0, .int 0, .int 0, .int 0, .int 0, .int 0]))) (h153 : am_is H 153 (.inr (9, [.ref 154, .int 0, .int 0, .int 0, .int 0, .int 0, .int 0, .int 0, .int 0, .int 0]))) (h155 : am_is H 155 (.inr (9, [.ref 156, .int 0, .int 0, .int 0, .int 0, .int 0, .int 0, .int 0, .int 0, .int 0]))) (c1 : ¬ x0 < 0) (c2 : 8 ≤ x0)  :
    am_E sL sx cs 112 0 [(0, .ref 0), (1, .int x0), (2, .int x1)] [] H (some (.int 0)) (fun H1 => (True) ∧ ∀ j : Nat, H1[j]? = H[j]?) := by
  refine ex_s (am_nb (m := 2) (pc1 := 2) (ls1 := [(0, .ref 0), (1, .int x0), (2, .int x1)]) (st1 := [.int x0, .ref 0]) (H1 := H) (k1 := 0) (n1 := 0) (by with_unfolding_all rfl)) ?_
  refine ex_cv1 (as := [.int x0]) (rest := []) rfl rfl rfl rfl h0 rfl (by with_unfolding_all rfl) (by with_unfolding_all rfl) (fx_erase_1_1 h0 h115 h141 h143 h145 h147 h149 h151 h153 h155 c1 c2) ?_
  rintro H138 ⟨-, k138⟩
  refine ex_s (am_nb (m := 4) (pc1 := 23) (ls1 := [(3, .null), (0, .ref 0), (1, .int x0), (2, .int x1)]) (st1 := [.int 0]) (H1 := H138) (k1 := 0) (n1 := 0) (by with_unfolding_all rfl)) ?_
  exact ex_r (st_iret rfl rfl rfl) ⟨trivial, fun j => (k138 j)⟩

set_option maxRecDepth 100000 in
theorem fx_erase_2 {sL : Nat} {sx : Nat → Int32} {cs : Nat → Nat → Option Int32} {H : am_H} {v0_13 : Int32} {x0 : Int32} {x1 : Int32} (h0 : am_is H 0 (.inr (11, [.ref 1, .int 0, .ref 2, .int 0, .ref 3, .ref 93, .ref 97, .ref 115, .ref 116, .ref 129, .ref 123, .ref 127, .ref 128, .int v0_13, .null, .int 0]))) (h115 : am_is H 115 (.inl ((.object "TerminalHouse$Window"), (8, .inr (.inr (.inr (.inr am_q115))))))) (h141 : am_is H 141 (.inr (9, [.ref 142, .int 0, .int 0, .int 0, .int 0, .int 0, .int 0, .int 0, .int 0, .int 0]))) (h143 : am_is H 143 (.inr (9, [.ref 144, .int 0, .int 0, .int 0, .int 0, .int 0, .int 0, .int 0, .int 0, .int 0]))) (h145 : am_is H 145 (.inr (9, [.ref 146, .int 0, .int 0, .int 0, .int 0, .int 0, .int 0, .int 0, .int 0, .int 0]))) (h147 : am_is H 147 (.inr (9, [.ref 148, .int 0, .int 0, .int 0, .int 0, .int 0, .int 0, .int 0, .int 0, .int 0]))) (h149 : am_is H 149 (.inr (9, [.ref 150, .int 0, .int 0, .int 0, .int 0, .int 0, .int 0, .int 0, .int 0, .int 0]))) (h151 : am_is H 151 (.inr (9, [.ref 152, .int 0, .int 0, .int 0, .int 0, .int 0, .int 0, .int 0, .int 0, .int 0]))) (h153 : am_is H 153 (.inr (9, [.ref 154, .int 0, .int 0, .int 0, .int 0, .int 0, .int 0, .int 0, .int 0, .int 0]))) (h155 : am_is H 155 (.inr (9, [.ref 156, .int 0, .int 0, .int 0, .int 0, .int 0, .int 0, .int 0, .int 0, .int 0]))) (c1 : ¬ x0 < 0) (c2 : ¬ 8 ≤ x0) (c3 : x0 = 0)  :
    am_E sL sx cs 112 0 [(0, .ref 0), (1, .int x0), (2, .int x1)] [] H (some (.int 0)) (fun H1 => (True) ∧ ∀ j : Nat, H1[j]? = H[j]?) := by
  refine ex_s (am_nb (m := 2) (pc1 := 2) (ls1 := [(0, .ref 0), (1, .int x0), (2, .int x1)]) (st1 := [.int x0, .ref 0]) (H1 := H) (k1 := 0) (n1 := 0) (by with_unfolding_all rfl)) ?_
  refine ex_cv1 (as := [.int x0]) (rest := []) rfl rfl rfl rfl h0 rfl (by with_unfolding_all rfl) (by with_unfolding_all rfl) (fx_erase_1_2 h0 h115 h141 h143 h145 h147 h149 h151 h153 h155 c1 c2 c3) ?_
  rintro H139 ⟨-, k139⟩
  refine ex_s (am_nb (m := 4) (pc1 := 23) (ls1 := [(3, .null), (0, .ref 0), (1, .int x0), (2, .int x1)]) (st1 := [.int 0]) (H1 := H139) (k1 := 0) (n1 := 0) (by with_unfolding_all rfl)) ?_
  exact ex_r (st_iret rfl rfl rfl) ⟨trivial, fun j => (k139 j)⟩

set_option maxRecDepth 100000 in
theorem fx_erase_3 {sL : Nat} {sx : Nat → Int32} {cs : Nat → Nat → Option Int32} {H : am_H} {v0_13 : Int32} {x0 : Int32} {x1 : Int32} (h0 : am_is H 0 (.inr (11, [.ref 1, .int 0, .ref 2, .int 0, .ref 3, .ref 93, .ref 97, .ref 115, .ref 116, .ref 129, .ref 123, .ref 127, .ref 128, .int v0_13, .null, .int 0]))) (h115 : am_is H 115 (.inl ((.object "TerminalHouse$Window"), (8, .inr (.inr (.inr (.inr am_q115))))))) (h141 : am_is H 141 (.inr (9, [.ref 142, .int 0, .int 0, .int 0, .int 0, .int 0, .int 0, .int 0, .int 0, .int 0]))) (h143 : am_is H 143 (.inr (9, [.ref 144, .int 0, .int 0, .int 0, .int 0, .int 0, .int 0, .int 0, .int 0, .int 0]))) (h145 : am_is H 145 (.inr (9, [.ref 146, .int 0, .int 0, .int 0, .int 0, .int 0, .int 0, .int 0, .int 0, .int 0]))) (h147 : am_is H 147 (.inr (9, [.ref 148, .int 0, .int 0, .int 0, .int 0, .int 0, .int 0, .int 0, .int 0, .int 0]))) (h149 : am_is H 149 (.inr (9, [.ref 150, .int 0, .int 0, .int 0, .int 0, .int 0, .int 0, .int 0, .int 0, .int 0]))) (h151 : am_is H 151 (.inr (9, [.ref 152, .int 0, .int 0, .int 0, .int 0, .int 0, .int 0, .int 0, .int 0, .int 0]))) (h153 : am_is H 153 (.inr (9, [.ref 154, .int 0, .int 0, .int 0, .int 0, .int 0, .int 0, .int 0, .int 0, .int 0]))) (h155 : am_is H 155 (.inr (9, [.ref 156, .int 0, .int 0, .int 0, .int 0, .int 0, .int 0, .int 0, .int 0, .int 0]))) (c1 : ¬ x0 < 0) (c2 : ¬ 8 ≤ x0) (c3 : x0 = 1)  :
    am_E sL sx cs 112 0 [(0, .ref 0), (1, .int x0), (2, .int x1)] [] H (some (.int 0)) (fun H1 => (True) ∧ ∀ j : Nat, H1[j]? = H[j]?) := by
  refine ex_s (am_nb (m := 2) (pc1 := 2) (ls1 := [(0, .ref 0), (1, .int x0), (2, .int x1)]) (st1 := [.int x0, .ref 0]) (H1 := H) (k1 := 0) (n1 := 0) (by with_unfolding_all rfl)) ?_
  refine ex_cv1 (as := [.int x0]) (rest := []) rfl rfl rfl rfl h0 rfl (by with_unfolding_all rfl) (by with_unfolding_all rfl) (fx_erase_1_3 h0 h115 h141 h143 h145 h147 h149 h151 h153 h155 c1 c2 c3) ?_
  rintro H140 ⟨-, k140⟩
  refine ex_s (am_nb (m := 4) (pc1 := 23) (ls1 := [(3, .null), (0, .ref 0), (1, .int x0), (2, .int x1)]) (st1 := [.int 0]) (H1 := H140) (k1 := 0) (n1 := 0) (by with_unfolding_all rfl)) ?_
  exact ex_r (st_iret rfl rfl rfl) ⟨trivial, fun j => (k140 j)⟩

set_option maxRecDepth 100000 in
theorem fx_erase_4 {sL : Nat} {sx : Nat → Int32} {cs : Nat → Nat → Option Int32} {H : am_H} {v0_13 : Int32} {x0 : Int32} {x1 : Int32} (h0 : am_is H 0 (.inr (11, [.ref 1, .int 0, .ref 2, .int 0, .ref 3, .ref 93, .ref 97, .ref 115, .ref 116, .ref 129, .ref 123, .ref 127, .ref 128, .int v0_13, .null, .int 0]))) (h115 : am_is H 115 (.inl ((.object "TerminalHouse$Window"), (8, .inr (.inr (.inr (.inr am_q115))))))) (h141 : am_is H 141 (.inr (9, [.ref 142, .int 0, .int 0, .int 0, .int 0, .int 0, .int 0, .int 0, .int 0, .int 0]))) (h143 : am_is H 143 (.inr (9, [.ref 144, .int 0, .int 0, .int 0, .int 0, .int 0, .int 0, .int 0, .int 0, .int 0]))) (h145 : am_is H 145 (.inr (9, [.ref 146, .int 0, .int 0, .int 0, .int 0, .int 0, .int 0, .int 0, .int 0, .int 0]))) (h147 : am_is H 147 (.inr (9, [.ref 148, .int 0, .int 0, .int 0, .int 0, .int 0, .int 0, .int 0, .int 0, .int 0]))) (h149 : am_is H 149 (.inr (9, [.ref 150, .int 0, .int 0, .int 0, .int 0, .int 0, .int 0, .int 0, .int 0, .int 0]))) (h151 : am_is H 151 (.inr (9, [.ref 152, .int 0, .int 0, .int 0, .int 0, .int 0, .int 0, .int 0, .int 0, .int 0]))) (h153 : am_is H 153 (.inr (9, [.ref 154, .int 0, .int 0, .int 0, .int 0, .int 0, .int 0, .int 0, .int 0, .int 0]))) (h155 : am_is H 155 (.inr (9, [.ref 156, .int 0, .int 0, .int 0, .int 0, .int 0, .int 0, .int 0, .int 0, .int 0]))) (c1 : ¬ x0 < 0) (c2 : ¬ 8 ≤ x0) (c3 : x0 = 2)  :
    am_E sL sx cs 112 0 [(0, .ref 0), (1, .int x0), (2, .int x1)] [] H (some (.int 0)) (fun H1 => (True) ∧ ∀ j : Nat, H1[j]? = H[j]?) := by
  refine ex_s (am_nb (m := 2) (pc1 := 2) (ls1 := [(0, .ref 0), (1, .int x0), (2, .int x1)]) (st1 := [.int x0, .ref 0]) (H1 := H) (k1 := 0) (n1 := 0) (by with_unfolding_all rfl)) ?_
  refine ex_cv1 (as := [.int x0]) (rest := []) rfl rfl rfl rfl h0 rfl (by with_unfolding_all rfl) (by with_unfolding_all rfl) (fx_erase_1_4 h0 h115 h141 h143 h145 h147 h149 h151 h153 h155 c1 c2 c3) ?_
  rintro H141 ⟨-, k141⟩
  refine ex_s (am_nb (m := 4) (pc1 := 23) (ls1 := [(3, .null), (0, .ref 0), (1, .int x0), (2, .int x1)]) (st1 := [.int 0]) (H1 := H141) (k1 := 0) (n1 := 0) (by with_unfolding_all rfl)) ?_
  exact ex_r (st_iret rfl rfl rfl) ⟨trivial, fun j => (k141 j)⟩

set_option maxRecDepth 100000 in
theorem fx_erase_5 {sL : Nat} {sx : Nat → Int32} {cs : Nat → Nat → Option Int32} {H : am_H} {v0_13 : Int32} {x0 : Int32} {x1 : Int32} (h0 : am_is H 0 (.inr (11, [.ref 1, .int 0, .ref 2, .int 0, .ref 3, .ref 93, .ref 97, .ref 115, .ref 116, .ref 129, .ref 123, .ref 127, .ref 128, .int v0_13, .null, .int 0]))) (h115 : am_is H 115 (.inl ((.object "TerminalHouse$Window"), (8, .inr (.inr (.inr (.inr am_q115))))))) (h141 : am_is H 141 (.inr (9, [.ref 142, .int 0, .int 0, .int 0, .int 0, .int 0, .int 0, .int 0, .int 0, .int 0]))) (h143 : am_is H 143 (.inr (9, [.ref 144, .int 0, .int 0, .int 0, .int 0, .int 0, .int 0, .int 0, .int 0, .int 0]))) (h145 : am_is H 145 (.inr (9, [.ref 146, .int 0, .int 0, .int 0, .int 0, .int 0, .int 0, .int 0, .int 0, .int 0]))) (h147 : am_is H 147 (.inr (9, [.ref 148, .int 0, .int 0, .int 0, .int 0, .int 0, .int 0, .int 0, .int 0, .int 0]))) (h149 : am_is H 149 (.inr (9, [.ref 150, .int 0, .int 0, .int 0, .int 0, .int 0, .int 0, .int 0, .int 0, .int 0]))) (h151 : am_is H 151 (.inr (9, [.ref 152, .int 0, .int 0, .int 0, .int 0, .int 0, .int 0, .int 0, .int 0, .int 0]))) (h153 : am_is H 153 (.inr (9, [.ref 154, .int 0, .int 0, .int 0, .int 0, .int 0, .int 0, .int 0, .int 0, .int 0]))) (h155 : am_is H 155 (.inr (9, [.ref 156, .int 0, .int 0, .int 0, .int 0, .int 0, .int 0, .int 0, .int 0, .int 0]))) (c1 : ¬ x0 < 0) (c2 : ¬ 8 ≤ x0) (c3 : x0 = 3)  :
    am_E sL sx cs 112 0 [(0, .ref 0), (1, .int x0), (2, .int x1)] [] H (some (.int 0)) (fun H1 => (True) ∧ ∀ j : Nat, H1[j]? = H[j]?) := by
  refine ex_s (am_nb (m := 2) (pc1 := 2) (ls1 := [(0, .ref 0), (1, .int x0), (2, .int x1)]) (st1 := [.int x0, .ref 0]) (H1 := H) (k1 := 0) (n1 := 0) (by with_unfolding_all rfl)) ?_
  refine ex_cv1 (as := [.int x0]) (rest := []) rfl rfl rfl rfl h0 rfl (by with_unfolding_all rfl) (by with_unfolding_all rfl) (fx_erase_1_5 h0 h115 h141 h143 h145 h147 h149 h151 h153 h155 c1 c2 c3) ?_
  rintro H142 ⟨-, k142⟩
  refine ex_s (am_nb (m := 4) (pc1 := 23) (ls1 := [(3, .null), (0, .ref 0), (1, .int x0), (2, .int x1)]) (st1 := [.int 0]) (H1 := H142) (k1 := 0) (n1 := 0) (by with_unfolding_all rfl)) ?_
  exact ex_r (st_iret rfl rfl rfl) ⟨trivial, fun j => (k142 j)⟩

set_option maxRecDepth 100000 in
theorem fx_erase_6 {sL : Nat} {sx : Nat → Int32} {cs : Nat → Nat → Option Int32} {H : am_H} {v0_13 : Int32} {x0 : Int32} {x1 : Int32} (h0 : am_is H 0 (.inr (11, [.ref 1, .int 0, .ref 2, .int 0, .ref 3, .ref 93, .ref 97, .ref 115, .ref 116, .ref 129, .ref 123, .ref 127, .ref 128, .int v0_13, .null, .int 0]))) (h115 : am_is H 115 (.inl ((.object "TerminalHouse$Window"), (8, .inr (.inr (.inr (.inr am_q115))))))) (h141 : am_is H 141 (.inr (9, [.ref 142, .int 0, .int 0, .int 0, .int 0, .int 0, .int 0, .int 0, .int 0, .int 0]))) (h143 : am_is H 143 (.inr (9, [.ref 144, .int 0, .int 0, .int 0, .int 0, .int 0, .int 0, .int 0, .int 0, .int 0]))) (h145 : am_is H 145 (.inr (9, [.ref 146, .int 0, .int 0, .int 0, .int 0, .int 0, .int 0, .int 0, .int 0, .int 0]))) (h147 : am_is H 147 (.inr (9, [.ref 148, .int 0, .int 0, .int 0, .int 0, .int 0, .int 0, .int 0, .int 0, .int 0]))) (h149 : am_is H 149 (.inr (9, [.ref 150, .int 0, .int 0, .int 0, .int 0, .int 0, .int 0, .int 0, .int 0, .int 0]))) (h151 : am_is H 151 (.inr (9, [.ref 152, .int 0, .int 0, .int 0, .int 0, .int 0, .int 0, .int 0, .int 0, .int 0]))) (h153 : am_is H 153 (.inr (9, [.ref 154, .int 0, .int 0, .int 0, .int 0, .int 0, .int 0, .int 0, .int 0, .int 0]))) (h155 : am_is H 155 (.inr (9, [.ref 156, .int 0, .int 0, .int 0, .int 0, .int 0, .int 0, .int 0, .int 0, .int 0]))) (c1 : ¬ x0 < 0) (c2 : ¬ 8 ≤ x0) (c3 : x0 = 4)  :
    am_E sL sx cs 112 0 [(0, .ref 0), (1, .int x0), (2, .int x1)] [] H (some (.int 0)) (fun H1 => (True) ∧ ∀ j : Nat, H1[j]? = H[j]?) := by
  refine ex_s (am_nb (m := 2) (pc1 := 2) (ls1 := [(0, .ref 0), (1, .int x0), (2, .int x1)]) (st1 := [.int x0, .ref 0]) (H1 := H) (k1 := 0) (n1 := 0) (by with_unfolding_all rfl)) ?_
  refine ex_cv1 (as := [.int x0]) (rest := []) rfl rfl rfl rfl h0 rfl (by with_unfolding_all rfl) (by with_unfolding_all rfl) (fx_erase_1_6 h0 h115 h141 h143 h145 h147 h149 h151 h153 h155 c1 c2 c3) ?_
  rintro H143 ⟨-, k143⟩
  refine ex_s (am_nb (m := 4) (pc1 := 23) (ls1 := [(3, .null), (0, .ref 0), (1, .int x0), (2, .int x1)]) (st1 := [.int 0]) (H1 := H143) (k1 := 0) (n1 := 0) (by with_unfolding_all rfl)) ?_
  exact ex_r (st_iret rfl rfl rfl) ⟨trivial, fun j => (k143 j)⟩

set_option maxRecDepth 100000 in
theorem fx_erase_7 {sL : Nat} {sx : Nat → Int32} {cs : Nat → Nat → Option Int32} {H : am_H} {v0_13 : Int32} {x0 : Int32} {x1 : Int32} (h0 : am_is H 0 (.inr (11, [.ref 1, .int 0, .ref 2, .int 0, .ref 3, .ref 93, .ref 97, .ref 115, .ref 116, .ref 129, .ref 123, .ref 127, .ref 128, .int v0_13, .null, .int 0]))) (h115 : am_is H 115 (.inl ((.object "TerminalHouse$Window"), (8, .inr (.inr (.inr (.inr am_q115))))))) (h141 : am_is H 141 (.inr (9, [.ref 142, .int 0, .int 0, .int 0, .int 0, .int 0, .int 0, .int 0, .int 0, .int 0]))) (h143 : am_is H 143 (.inr (9, [.ref 144, .int 0, .int 0, .int 0, .int 0, .int 0, .int 0, .int 0, .int 0, .int 0]))) (h145 : am_is H 145 (.inr (9, [.ref 146, .int 0, .int 0, .int 0, .int 0, .int 0, .int 0, .int 0, .int 0, .int 0]))) (h147 : am_is H 147 (.inr (9, [.ref 148, .int 0, .int 0, .int 0, .int 0, .int 0, .int 0, .int 0, .int 0, .int 0]))) (h149 : am_is H 149 (.inr (9, [.ref 150, .int 0, .int 0, .int 0, .int 0, .int 0, .int 0, .int 0, .int 0, .int 0]))) (h151 : am_is H 151 (.inr (9, [.ref 152, .int 0, .int 0, .int 0, .int 0, .int 0, .int 0, .int 0, .int 0, .int 0]))) (h153 : am_is H 153 (.inr (9, [.ref 154, .int 0, .int 0, .int 0, .int 0, .int 0, .int 0, .int 0, .int 0, .int 0]))) (h155 : am_is H 155 (.inr (9, [.ref 156, .int 0, .int 0, .int 0, .int 0, .int 0, .int 0, .int 0, .int 0, .int 0]))) (c1 : ¬ x0 < 0) (c2 : ¬ 8 ≤ x0) (c3 : x0 = 5)  :
    am_E sL sx cs 112 0 [(0, .ref 0), (1, .int x0), (2, .int x1)] [] H (some (.int 0)) (fun H1 => (True) ∧ ∀ j : Nat, H1[j]? = H[j]?) := by
  refine ex_s (am_nb (m := 2) (pc1 := 2) (ls1 := [(0, .ref 0), (1, .int x0), (2, .int x1)]) (st1 := [.int x0, .ref 0]) (H1 := H) (k1 := 0) (n1 := 0) (by with_unfolding_all rfl)) ?_
  refine ex_cv1 (as := [.int x0]) (rest := []) rfl rfl rfl rfl h0 rfl (by with_unfolding_all rfl) (by with_unfolding_all rfl) (fx_erase_1_7 h0 h115 h141 h143 h145 h147 h149 h151 h153 h155 c1 c2 c3) ?_
  rintro H144 ⟨-, k144⟩
  refine ex_s (am_nb (m := 4) (pc1 := 23) (ls1 := [(3, .null), (0, .ref 0), (1, .int x0), (2, .int x1)]) (st1 := [.int 0]) (H1 := H144) (k1 := 0) (n1 := 0) (by with_unfolding_all rfl)) ?_
  exact ex_r (st_iret rfl rfl rfl) ⟨trivial, fun j => (k144 j)⟩

set_option maxRecDepth 100000 in
theorem fx_erase_8 {sL : Nat} {sx : Nat → Int32} {cs : Nat → Nat → Option Int32} {H : am_H} {v0_13 : Int32} {x0 : Int32} {x1 : Int32} (h0 : am_is H 0 (.inr (11, [.ref 1, .int 0, .ref 2, .int 0, .ref 3, .ref 93, .ref 97, .ref 115, .ref 116, .ref 129, .ref 123, .ref 127, .ref 128, .int v0_13, .null, .int 0]))) (h115 : am_is H 115 (.inl ((.object "TerminalHouse$Window"), (8, .inr (.inr (.inr (.inr am_q115))))))) (h141 : am_is H 141 (.inr (9, [.ref 142, .int 0, .int 0, .int 0, .int 0, .int 0, .int 0, .int 0, .int 0, .int 0]))) (h143 : am_is H 143 (.inr (9, [.ref 144, .int 0, .int 0, .int 0, .int 0, .int 0, .int 0, .int 0, .int 0, .int 0]))) (h145 : am_is H 145 (.inr (9, [.ref 146, .int 0, .int 0, .int 0, .int 0, .int 0, .int 0, .int 0, .int 0, .int 0]))) (h147 : am_is H 147 (.inr (9, [.ref 148, .int 0, .int 0, .int 0, .int 0, .int 0, .int 0, .int 0, .int 0, .int 0]))) (h149 : am_is H 149 (.inr (9, [.ref 150, .int 0, .int 0, .int 0, .int 0, .int 0, .int 0, .int 0, .int 0, .int 0]))) (h151 : am_is H 151 (.inr (9, [.ref 152, .int 0, .int 0, .int 0, .int 0, .int 0, .int 0, .int 0, .int 0, .int 0]))) (h153 : am_is H 153 (.inr (9, [.ref 154, .int 0, .int 0, .int 0, .int 0, .int 0, .int 0, .int 0, .int 0, .int 0]))) (h155 : am_is H 155 (.inr (9, [.ref 156, .int 0, .int 0, .int 0, .int 0, .int 0, .int 0, .int 0, .int 0, .int 0]))) (c1 : ¬ x0 < 0) (c2 : ¬ 8 ≤ x0) (c3 : x0 = 6)  :
    am_E sL sx cs 112 0 [(0, .ref 0), (1, .int x0), (2, .int x1)] [] H (some (.int 0)) (fun H1 => (True) ∧ ∀ j : Nat, H1[j]? = H[j]?) := by
  refine ex_s (am_nb (m := 2) (pc1 := 2) (ls1 := [(0, .ref 0), (1, .int x0), (2, .int x1)]) (st1 := [.int x0, .ref 0]) (H1 := H) (k1 := 0) (n1 := 0) (by with_unfolding_all rfl)) ?_
  refine ex_cv1 (as := [.int x0]) (rest := []) rfl rfl rfl rfl h0 rfl (by with_unfolding_all rfl) (by with_unfolding_all rfl) (fx_erase_1_8 h0 h115 h141 h143 h145 h147 h149 h151 h153 h155 c1 c2 c3) ?_
  rintro H145 ⟨-, k145⟩
  refine ex_s (am_nb (m := 4) (pc1 := 23) (ls1 := [(3, .null), (0, .ref 0), (1, .int x0), (2, .int x1)]) (st1 := [.int 0]) (H1 := H145) (k1 := 0) (n1 := 0) (by with_unfolding_all rfl)) ?_
  exact ex_r (st_iret rfl rfl rfl) ⟨trivial, fun j => (k145 j)⟩

set_option maxRecDepth 100000 in
theorem fx_erase_9 {sL : Nat} {sx : Nat → Int32} {cs : Nat → Nat → Option Int32} {H : am_H} {v0_13 : Int32} {x0 : Int32} {x1 : Int32} (h0 : am_is H 0 (.inr (11, [.ref 1, .int 0, .ref 2, .int 0, .ref 3, .ref 93, .ref 97, .ref 115, .ref 116, .ref 129, .ref 123, .ref 127, .ref 128, .int v0_13, .null, .int 0]))) (h115 : am_is H 115 (.inl ((.object "TerminalHouse$Window"), (8, .inr (.inr (.inr (.inr am_q115))))))) (h141 : am_is H 141 (.inr (9, [.ref 142, .int 0, .int 0, .int 0, .int 0, .int 0, .int 0, .int 0, .int 0, .int 0]))) (h143 : am_is H 143 (.inr (9, [.ref 144, .int 0, .int 0, .int 0, .int 0, .int 0, .int 0, .int 0, .int 0, .int 0]))) (h145 : am_is H 145 (.inr (9, [.ref 146, .int 0, .int 0, .int 0, .int 0, .int 0, .int 0, .int 0, .int 0, .int 0]))) (h147 : am_is H 147 (.inr (9, [.ref 148, .int 0, .int 0, .int 0, .int 0, .int 0, .int 0, .int 0, .int 0, .int 0]))) (h149 : am_is H 149 (.inr (9, [.ref 150, .int 0, .int 0, .int 0, .int 0, .int 0, .int 0, .int 0, .int 0, .int 0]))) (h151 : am_is H 151 (.inr (9, [.ref 152, .int 0, .int 0, .int 0, .int 0, .int 0, .int 0, .int 0, .int 0, .int 0]))) (h153 : am_is H 153 (.inr (9, [.ref 154, .int 0, .int 0, .int 0, .int 0, .int 0, .int 0, .int 0, .int 0, .int 0]))) (h155 : am_is H 155 (.inr (9, [.ref 156, .int 0, .int 0, .int 0, .int 0, .int 0, .int 0, .int 0, .int 0, .int 0]))) (c1 : ¬ x0 < 0) (c2 : ¬ 8 ≤ x0) (c3 : x0 = 7)  :
    am_E sL sx cs 112 0 [(0, .ref 0), (1, .int x0), (2, .int x1)] [] H (some (.int 0)) (fun H1 => (True) ∧ ∀ j : Nat, H1[j]? = H[j]?) := by
  refine ex_s (am_nb (m := 2) (pc1 := 2) (ls1 := [(0, .ref 0), (1, .int x0), (2, .int x1)]) (st1 := [.int x0, .ref 0]) (H1 := H) (k1 := 0) (n1 := 0) (by with_unfolding_all rfl)) ?_
  refine ex_cv1 (as := [.int x0]) (rest := []) rfl rfl rfl rfl h0 rfl (by with_unfolding_all rfl) (by with_unfolding_all rfl) (fx_erase_1_9 h0 h115 h141 h143 h145 h147 h149 h151 h153 h155 c1 c2 c3) ?_
  rintro H146 ⟨-, k146⟩
  refine ex_s (am_nb (m := 4) (pc1 := 23) (ls1 := [(3, .null), (0, .ref 0), (1, .int x0), (2, .int x1)]) (st1 := [.int 0]) (H1 := H146) (k1 := 0) (n1 := 0) (by with_unfolding_all rfl)) ?_
  exact ex_r (st_iret rfl rfl rfl) ⟨trivial, fun j => (k146 j)⟩

set_option maxRecDepth 100000 in
theorem fx_rows_1_0 {sL : Nat} {sx : Nat → Int32} {cs : Nat → Nat → Option Int32} {H : am_H} {v0_13 : Int32} {x0 : Int32} (h0 : am_is H 0 (.inr (11, [.ref 1, .int 0, .ref 2, .int 0, .ref 3, .ref 93, .ref 97, .ref 115, .ref 116, .ref 129, .ref 123, .ref 127, .ref 128, .int v0_13, .null, .int 0]))) (h115 : am_is H 115 (.inl ((.object "TerminalHouse$Window"), (8, .inr (.inr (.inr (.inr am_q115))))))) (h141 : am_is H 141 (.inr (9, [.ref 142, .int 0, .int 0, .int 0, .int 0, .int 0, .int 0, .int 0, .int 0, .int 0]))) (h143 : am_is H 143 (.inr (9, [.ref 144, .int 0, .int 0, .int 0, .int 0, .int 0, .int 0, .int 0, .int 0, .int 0]))) (h145 : am_is H 145 (.inr (9, [.ref 146, .int 0, .int 0, .int 0, .int 0, .int 0, .int 0, .int 0, .int 0, .int 0]))) (h147 : am_is H 147 (.inr (9, [.ref 148, .int 0, .int 0, .int 0, .int 0, .int 0, .int 0, .int 0, .int 0, .int 0]))) (h149 : am_is H 149 (.inr (9, [.ref 150, .int 0, .int 0, .int 0, .int 0, .int 0, .int 0, .int 0, .int 0, .int 0]))) (h151 : am_is H 151 (.inr (9, [.ref 152, .int 0, .int 0, .int 0, .int 0, .int 0, .int 0, .int 0, .int 0, .int 0]))) (h153 : am_is H 153 (.inr (9, [.ref 154, .int 0, .int 0, .int 0, .int 0, .int 0, .int 0, .int 0, .int 0, .int 0]))) (h155 : am_is H 155 (.inr (9, [.ref 156, .int 0, .int 0, .int 0, .int 0, .int 0, .int 0, .int 0, .int 0, .int 0]))) (c1 : x0 < 0)  :
    am_E sL sx cs 98 0 [(0, .ref 0), (1, .int x0)] [] H (some (.null)) (fun H1 => (True) ∧ ∀ j : Nat, H1[j]? = H[j]?) := by
  refine ex_s (am_nb (m := 1) (pc1 := 1) (ls1 := [(0, .ref 0), (1, .int x0)]) (st1 := [.int x0]) (H1 := H) (k1 := 0) (n1 := 0) (by with_unfolding_all rfl)) ?_
  refine ex_s (st_if rfl) ?_
  refine ex_pc (if_pos c1) ?_
  refine ex_s (am_nb (m := 1) (pc1 := 23) (ls1 := [(0, .ref 0), (1, .int x0)]) (st1 := [.null]) (H1 := H) (k1 := 0) (n1 := 0) (by with_unfolding_all rfl)) ?_
  exact ex_r (st_aret rfl rfl rfl rfl) ⟨trivial, fun j => rfl⟩

set_option maxRecDepth 100000 in
theorem fx_rows_1_1 {sL : Nat} {sx : Nat → Int32} {cs : Nat → Nat → Option Int32} {H : am_H} {v0_13 : Int32} {x0 : Int32} (h0 : am_is H 0 (.inr (11, [.ref 1, .int 0, .ref 2, .int 0, .ref 3, .ref 93, .ref 97, .ref 115, .ref 116, .ref 129, .ref 123, .ref 127, .ref 128, .int v0_13, .null, .int 0]))) (h115 : am_is H 115 (.inl ((.object "TerminalHouse$Window"), (8, .inr (.inr (.inr (.inr am_q115))))))) (h141 : am_is H 141 (.inr (9, [.ref 142, .int 0, .int 0, .int 0, .int 0, .int 0, .int 0, .int 0, .int 0, .int 0]))) (h143 : am_is H 143 (.inr (9, [.ref 144, .int 0, .int 0, .int 0, .int 0, .int 0, .int 0, .int 0, .int 0, .int 0]))) (h145 : am_is H 145 (.inr (9, [.ref 146, .int 0, .int 0, .int 0, .int 0, .int 0, .int 0, .int 0, .int 0, .int 0]))) (h147 : am_is H 147 (.inr (9, [.ref 148, .int 0, .int 0, .int 0, .int 0, .int 0, .int 0, .int 0, .int 0, .int 0]))) (h149 : am_is H 149 (.inr (9, [.ref 150, .int 0, .int 0, .int 0, .int 0, .int 0, .int 0, .int 0, .int 0, .int 0]))) (h151 : am_is H 151 (.inr (9, [.ref 152, .int 0, .int 0, .int 0, .int 0, .int 0, .int 0, .int 0, .int 0, .int 0]))) (h153 : am_is H 153 (.inr (9, [.ref 154, .int 0, .int 0, .int 0, .int 0, .int 0, .int 0, .int 0, .int 0, .int 0]))) (h155 : am_is H 155 (.inr (9, [.ref 156, .int 0, .int 0, .int 0, .int 0, .int 0, .int 0, .int 0, .int 0, .int 0]))) (c1 : ¬ x0 < 0) (c2 : 8 ≤ x0)  :
    am_E sL sx cs 98 0 [(0, .ref 0), (1, .int x0)] [] H (some (.null)) (fun H1 => (True) ∧ ∀ j : Nat, H1[j]? = H[j]?) := by
  refine ex_s (am_nb (m := 1) (pc1 := 1) (ls1 := [(0, .ref 0), (1, .int x0)]) (st1 := [.int x0]) (H1 := H) (k1 := 0) (n1 := 0) (by with_unfolding_all rfl)) ?_
  refine ex_s (st_if rfl) ?_
  refine ex_pc (if_neg c1) ?_
  refine ex_s (am_nb (m := 2) (pc1 := 7) (ls1 := [(0, .ref 0), (1, .int x0)]) (st1 := [.int 8, .int x0]) (H1 := H) (k1 := 0) (n1 := 0) (by with_unfolding_all rfl)) ?_
  refine ex_s (st_icmp rfl) ?_
  refine ex_pc (if_pos c2) ?_
  refine ex_s (am_nb (m := 1) (pc1 := 23) (ls1 := [(0, .ref 0), (1, .int x0)]) (st1 := [.null]) (H1 := H) (k1 := 0) (n1 := 0) (by with_unfolding_all rfl)) ?_
  exact ex_r (st_aret rfl rfl rfl rfl) ⟨trivial, fun j => rfl⟩

set_option maxRecDepth 100000 in
theorem fx_rows_1_2 {sL : Nat} {sx : Nat → Int32} {cs : Nat → Nat → Option Int32} {H : am_H} {v0_13 : Int32} {x0 : Int32} (h0 : am_is H 0 (.inr (11, [.ref 1, .int 0, .ref 2, .int 0, .ref 3, .ref 93, .ref 97, .ref 115, .ref 116, .ref 129, .ref 123, .ref 127, .ref 128, .int v0_13, .null, .int 0]))) (h115 : am_is H 115 (.inl ((.object "TerminalHouse$Window"), (8, .inr (.inr (.inr (.inr am_q115))))))) (h141 : am_is H 141 (.inr (9, [.ref 142, .int 0, .int 0, .int 0, .int 0, .int 0, .int 0, .int 0, .int 0, .int 0]))) (h143 : am_is H 143 (.inr (9, [.ref 144, .int 0, .int 0, .int 0, .int 0, .int 0, .int 0, .int 0, .int 0, .int 0]))) (h145 : am_is H 145 (.inr (9, [.ref 146, .int 0, .int 0, .int 0, .int 0, .int 0, .int 0, .int 0, .int 0, .int 0]))) (h147 : am_is H 147 (.inr (9, [.ref 148, .int 0, .int 0, .int 0, .int 0, .int 0, .int 0, .int 0, .int 0, .int 0]))) (h149 : am_is H 149 (.inr (9, [.ref 150, .int 0, .int 0, .int 0, .int 0, .int 0, .int 0, .int 0, .int 0, .int 0]))) (h151 : am_is H 151 (.inr (9, [.ref 152, .int 0, .int 0, .int 0, .int 0, .int 0, .int 0, .int 0, .int 0, .int 0]))) (h153 : am_is H 153 (.inr (9, [.ref 154, .int 0, .int 0, .int 0, .int 0, .int 0, .int 0, .int 0, .int 0, .int 0]))) (h155 : am_is H 155 (.inr (9, [.ref 156, .int 0, .int 0, .int 0, .int 0, .int 0, .int 0, .int 0, .int 0, .int 0]))) (c1 : ¬ x0 < 0) (c2 : ¬ 8 ≤ x0) (c3 : x0 = 0)  :
    am_E sL sx cs 98 0 [(0, .ref 0), (1, .int x0)] [] H (some (.null)) (fun H1 => (True) ∧ ∀ j : Nat, H1[j]? = H[j]?) := by
  refine ex_s (am_nb (m := 1) (pc1 := 1) (ls1 := [(0, .ref 0), (1, .int x0)]) (st1 := [.int x0]) (H1 := H) (k1 := 0) (n1 := 0) (by with_unfolding_all rfl)) ?_
  refine ex_s (st_if rfl) ?_
  refine ex_pc (if_neg c1) ?_
  refine ex_s (am_nb (m := 2) (pc1 := 7) (ls1 := [(0, .ref 0), (1, .int x0)]) (st1 := [.int 8, .int x0]) (H1 := H) (k1 := 0) (n1 := 0) (by with_unfolding_all rfl)) ?_
  refine ex_s (st_icmp rfl) ?_
  refine ex_pc (if_neg c2) ?_
  refine ex_s (am_nb (m := 1) (pc1 := 11) (ls1 := [(0, .ref 0), (1, .int x0)]) (st1 := [.ref 0]) (H1 := H) (k1 := 0) (n1 := 0) (by with_unfolding_all rfl)) ?_
  refine ex_s (st_get rfl h0 rfl) ?_
  refine ex_s (am_nb (m := 1) (pc1 := 15) (ls1 := [(0, .ref 0), (1, .int x0)]) (st1 := [.int x0, .ref 115]) (H1 := H) (k1 := 0) (n1 := 0) (by with_unfolding_all rfl)) ?_
  refine ex_s (st_aald rfl h115 (by rw [c3]; decide) rfl) ?_
  refine ex_s (am_nb (m := 0) (pc1 := 16) (ls1 := [(0, .ref 0), (1, .int x0)]) (st1 := [.ref 141]) (H1 := H) (k1 := 0) (n1 := 0) (by rw [c3]; with_unfolding_all rfl)) ?_
  refine ex_s (st_get rfl h141 rfl) ?_
  refine ex_s (am_nb (m := 2) (pc1 := 23) (ls1 := [(0, .ref 0), (1, .int x0)]) (st1 := [.null]) (H1 := H) (k1 := 0) (n1 := 0) (by with_unfolding_all rfl)) ?_
  exact ex_r (st_aret rfl rfl rfl rfl) ⟨trivial, fun j => rfl⟩

set_option maxRecDepth 100000 in
theorem fx_rows_1_3 {sL : Nat} {sx : Nat → Int32} {cs : Nat → Nat → Option Int32} {H : am_H} {v0_13 : Int32} {x0 : Int32} (h0 : am_is H 0 (.inr (11, [.ref 1, .int 0, .ref 2, .int 0, .ref 3, .ref 93, .ref 97, .ref 115, .ref 116, .ref 129, .ref 123, .ref 127, .ref 128, .int v0_13, .null, .int 0]))) (h115 : am_is H 115 (.inl ((.object "TerminalHouse$Window"), (8, .inr (.inr (.inr (.inr am_q115))))))) (h141 : am_is H 141 (.inr (9, [.ref 142, .int 0, .int 0, .int 0, .int 0, .int 0, .int 0, .int 0, .int 0, .int 0]))) (h143 : am_is H 143 (.inr (9, [.ref 144, .int 0, .int 0, .int 0, .int 0, .int 0, .int 0, .int 0, .int 0, .int 0]))) (h145 : am_is H 145 (.inr (9, [.ref 146, .int 0, .int 0, .int 0, .int 0, .int 0, .int 0, .int 0, .int 0, .int 0]))) (h147 : am_is H 147 (.inr (9, [.ref 148, .int 0, .int 0, .int 0, .int 0, .int 0, .int 0, .int 0, .int 0, .int 0]))) (h149 : am_is H 149 (.inr (9, [.ref 150, .int 0, .int 0, .int 0, .int 0, .int 0, .int 0, .int 0, .int 0, .int 0]))) (h151 : am_is H 151 (.inr (9, [.ref 152, .int 0, .int 0, .int 0, .int 0, .int 0, .int 0, .int 0, .int 0, .int 0]))) (h153 : am_is H 153 (.inr (9, [.ref 154, .int 0, .int 0, .int 0, .int 0, .int 0, .int 0, .int 0, .int 0, .int 0]))) (h155 : am_is H 155 (.inr (9, [.ref 156, .int 0, .int 0, .int 0, .int 0, .int 0, .int 0, .int 0, .int 0, .int 0]))) (c1 : ¬ x0 < 0) (c2 : ¬ 8 ≤ x0) (c3 : x0 = 1)  :
    am_E sL sx cs 98 0 [(0, .ref 0), (1, .int x0)] [] H (some (.null)) (fun H1 => (True) ∧ ∀ j : Nat, H1[j]? = H[j]?) := by
  refine ex_s (am_nb (m := 1) (pc1 := 1) (ls1 := [(0, .ref 0), (1, .int x0)]) (st1 := [.int x0]) (H1 := H) (k1 := 0) (n1 := 0) (by with_unfolding_all rfl)) ?_
  refine ex_s (st_if rfl) ?_
  refine ex_pc (if_neg c1) ?_
  refine ex_s (am_nb (m := 2) (pc1 := 7) (ls1 := [(0, .ref 0), (1, .int x0)]) (st1 := [.int 8, .int x0]) (H1 := H) (k1 := 0) (n1 := 0) (by with_unfolding_all rfl)) ?_
  refine ex_s (st_icmp rfl) ?_
  refine ex_pc (if_neg c2) ?_
  refine ex_s (am_nb (m := 1) (pc1 := 11) (ls1 := [(0, .ref 0), (1, .int x0)]) (st1 := [.ref 0]) (H1 := H) (k1 := 0) (n1 := 0) (by with_unfolding_all rfl)) ?_
  refine ex_s (st_get rfl h0 rfl) ?_
  refine ex_s (am_nb (m := 1) (pc1 := 15) (ls1 := [(0, .ref 0), (1, .int x0)]) (st1 := [.int x0, .ref 115]) (H1 := H) (k1 := 0) (n1 := 0) (by with_unfolding_all rfl)) ?_
  refine ex_s (st_aald rfl h115 (by rw [c3]; decide) rfl) ?_
  refine ex_s (am_nb (m := 0) (pc1 := 16) (ls1 := [(0, .ref 0), (1, .int x0)]) (st1 := [.ref 143]) (H1 := H) (k1 := 0) (n1 := 0) (by rw [c3]; with_unfolding_all rfl)) ?_
  refine ex_s (st_get rfl h143 rfl) ?_
  refine ex_s (am_nb (m := 2) (pc1 := 23) (ls1 := [(0, .ref 0), (1, .int x0)]) (st1 := [.null]) (H1 := H) (k1 := 0) (n1 := 0) (by with_unfolding_all rfl)) ?_
  exact ex_r (st_aret rfl rfl rfl rfl) ⟨trivial, fun j => rfl⟩

set_option maxRecDepth 100000 in
theorem fx_rows_1_4 {sL : Nat} {sx : Nat → Int32} {cs : Nat → Nat → Option Int32} {H : am_H} {v0_13 : Int32} {x0 : Int32} (h0 : am_is H 0 (.inr (11, [.ref 1, .int 0, .ref 2, .int 0, .ref 3, .ref 93, .ref 97, .ref 115, .ref 116, .ref 129, .ref 123, .ref 127, .ref 128, .int v0_13, .null, .int 0]))) (h115 : am_is H 115 (.inl ((.object "TerminalHouse$Window"), (8, .inr (.inr (.inr (.inr am_q115))))))) (h141 : am_is H 141 (.inr (9, [.ref 142, .int 0, .int 0, .int 0, .int 0, .int 0, .int 0, .int 0, .int 0, .int 0]))) (h143 : am_is H 143 (.inr (9, [.ref 144, .int 0, .int 0, .int 0, .int 0, .int 0, .int 0, .int 0, .int 0, .int 0]))) (h145 : am_is H 145 (.inr (9, [.ref 146, .int 0, .int 0, .int 0, .int 0, .int 0, .int 0, .int 0, .int 0, .int 0]))) (h147 : am_is H 147 (.inr (9, [.ref 148, .int 0, .int 0, .int 0, .int 0, .int 0, .int 0, .int 0, .int 0, .int 0]))) (h149 : am_is H 149 (.inr (9, [.ref 150, .int 0, .int 0, .int 0, .int 0, .int 0, .int 0, .int 0, .int 0, .int 0]))) (h151 : am_is H 151 (.inr (9, [.ref 152, .int 0, .int 0, .int 0, .int 0, .int 0, .int 0, .int 0, .int 0, .int 0]))) (h153 : am_is H 153 (.inr (9, [.ref 154, .int 0, .int 0, .int 0, .int 0, .int 0, .int 0, .int 0, .int 0, .int 0]))) (h155 : am_is H 155 (.inr (9, [.ref 156, .int 0, .int 0, .int 0, .int 0, .int 0, .int 0, .int 0, .int 0, .int 0]))) (c1 : ¬ x0 < 0) (c2 : ¬ 8 ≤ x0) (c3 : x0 = 2)  :
    am_E sL sx cs 98 0 [(0, .ref 0), (1, .int x0)] [] H (some (.null)) (fun H1 => (True) ∧ ∀ j : Nat, H1[j]? = H[j]?) := by
  refine ex_s (am_nb (m := 1) (pc1 := 1) (ls1 := [(0, .ref 0), (1, .int x0)]) (st1 := [.int x0]) (H1 := H) (k1 := 0) (n1 := 0) (by with_unfolding_all rfl)) ?_
  refine ex_s (st_if rfl) ?_
  refine ex_pc (if_neg c1) ?_
  refine ex_s (am_nb (m := 2) (pc1 := 7) (ls1 := [(0, .ref 0), (1, .int x0)]) (st1 := [.int 8, .int x0]) (H1 := H) (k1 := 0) (n1 := 0) (by with_unfolding_all rfl)) ?_
  refine ex_s (st_icmp rfl) ?_
  refine ex_pc (if_neg c2) ?_
  refine ex_s (am_nb (m := 1) (pc1 := 11) (ls1 := [(0, .ref 0), (1, .int x0)]) (st1 := [.ref 0]) (H1 := H) (k1 := 0) (n1 := 0) (by with_unfolding_all rfl)) ?_
  refine ex_s (st_get rfl h0 rfl) ?_
  refine ex_s (am_nb (m := 1) (pc1 := 15) (ls1 := [(0, .ref 0), (1, .int x0)]) (st1 := [.int x0, .ref 115]) (H1 := H) (k1 := 0) (n1 := 0) (by with_unfolding_all rfl)) ?_
  refine ex_s (st_aald rfl h115 (by rw [c3]; decide) rfl) ?_
  refine ex_s (am_nb (m := 0) (pc1 := 16) (ls1 := [(0, .ref 0), (1, .int x0)]) (st1 := [.ref 145]) (H1 := H) (k1 := 0) (n1 := 0) (by rw [c3]; with_unfolding_all rfl)) ?_
  refine ex_s (st_get rfl h145 rfl) ?_
  refine ex_s (am_nb (m := 2) (pc1 := 23) (ls1 := [(0, .ref 0), (1, .int x0)]) (st1 := [.null]) (H1 := H) (k1 := 0) (n1 := 0) (by with_unfolding_all rfl)) ?_
  exact ex_r (st_aret rfl rfl rfl rfl) ⟨trivial, fun j => rfl⟩

set_option maxRecDepth 100000 in
theorem fx_rows_1_5 {sL : Nat} {sx : Nat → Int32} {cs : Nat → Nat → Option Int32} {H : am_H} {v0_13 : Int32} {x0 : Int32} (h0 : am_is H 0 (.inr (11, [.ref 1, .int 0, .ref 2, .int 0, .ref 3, .ref 93, .ref 97, .ref 115, .ref 116, .ref 129, .ref 123, .ref 127, .ref 128, .int v0_13, .null, .int 0]))) (h115 : am_is H 115 (.inl ((.object "TerminalHouse$Window"), (8, .inr (.inr (.inr (.inr am_q115))))))) (h141 : am_is H 141 (.inr (9, [.ref 142, .int 0, .int 0, .int 0, .int 0, .int 0, .int 0, .int 0, .int 0, .int 0]))) (h143 : am_is H 143 (.inr (9, [.ref 144, .int 0, .int 0, .int 0, .int 0, .int 0, .int 0, .int 0, .int 0, .int 0]))) (h145 : am_is H 145 (.inr (9, [.ref 146, .int 0, .int 0, .int 0, .int 0, .int 0, .int 0, .int 0, .int 0, .int 0]))) (h147 : am_is H 147 (.inr (9, [.ref 148, .int 0, .int 0, .int 0, .int 0, .int 0, .int 0, .int 0, .int 0, .int 0]))) (h149 : am_is H 149 (.inr (9, [.ref 150, .int 0, .int 0, .int 0, .int 0, .int 0, .int 0, .int 0, .int 0, .int 0]))) (h151 : am_is H 151 (.inr (9, [.ref 152, .int 0, .int 0, .int 0, .int 0, .int 0, .int 0, .int 0, .int 0, .int 0]))) (h153 : am_is H 153 (.inr (9, [.ref 154, .int 0, .int 0, .int 0, .int 0, .int 0, .int 0, .int 0, .int 0, .int 0]))) (h155 : am_is H 155 (.inr (9, [.ref 156, .int 0, .int 0, .int 0, .int 0, .int 0, .int 0, .int 0, .int 0, .int 0]))) (c1 : ¬ x0 < 0) (c2 : ¬ 8 ≤ x0) (c3 : x0 = 3)  :
    am_E sL sx cs 98 0 [(0, .ref 0), (1, .int x0)] [] H (some (.null)) (fun H1 => (True) ∧ ∀ j : Nat, H1[j]? = H[j]?) := by
  refine ex_s (am_nb (m := 1) (pc1 := 1) (ls1 := [(0, .ref 0), (1, .int x0)]) (st1 := [.int x0]) (H1 := H) (k1 := 0) (n1 := 0) (by with_unfolding_all rfl)) ?_
  refine ex_s (st_if rfl) ?_
  refine ex_pc (if_neg c1) ?_
  refine ex_s (am_nb (m := 2) (pc1 := 7) (ls1 := [(0, .ref 0), (1, .int x0)]) (st1 := [.int 8, .int x0]) (H1 := H) (k1 := 0) (n1 := 0) (by with_unfolding_all rfl)) ?_
  refine ex_s (st_icmp rfl) ?_
  refine ex_pc (if_neg c2) ?_
  refine ex_s (am_nb (m := 1) (pc1 := 11) (ls1 := [(0, .ref 0), (1, .int x0)]) (st1 := [.ref 0]) (H1 := H) (k1 := 0) (n1 := 0) (by with_unfolding_all rfl)) ?_
  refine ex_s (st_get rfl h0 rfl) ?_
  refine ex_s (am_nb (m := 1) (pc1 := 15) (ls1 := [(0, .ref 0), (1, .int x0)]) (st1 := [.int x0, .ref 115]) (H1 := H) (k1 := 0) (n1 := 0) (by with_unfolding_all rfl)) ?_
  refine ex_s (st_aald rfl h115 (by rw [c3]; decide) rfl) ?_
  refine ex_s (am_nb (m := 0) (pc1 := 16) (ls1 := [(0, .ref 0), (1, .int x0)]) (st1 := [.ref 147]) (H1 := H) (k1 := 0) (n1 := 0) (by rw [c3]; with_unfolding_all rfl)) ?_
  refine ex_s (st_get rfl h147 rfl) ?_
  refine ex_s (am_nb (m := 2) (pc1 := 23) (ls1 := [(0, .ref 0), (1, .int x0)]) (st1 := [.null]) (H1 := H) (k1 := 0) (n1 := 0) (by with_unfolding_all rfl)) ?_
  exact ex_r (st_aret rfl rfl rfl rfl) ⟨trivial, fun j => rfl⟩

set_option maxRecDepth 100000 in
theorem fx_rows_1_6 {sL : Nat} {sx : Nat → Int32} {cs : Nat → Nat → Option Int32} {H : am_H} {v0_13 : Int32} {x0 : Int32} (h0 : am_is H 0 (.inr (11, [.ref 1, .int 0, .ref 2, .int 0, .ref 3, .ref 93, .ref 97, .ref 115, .ref 116, .ref 129, .ref 123, .ref 127, .ref 128, .int v0_13, .null, .int 0]))) (h115 : am_is H 115 (.inl ((.object "TerminalHouse$Window"), (8, .inr (.inr (.inr (.inr am_q115))))))) (h141 : am_is H 141 (.inr (9, [.ref 142, .int 0, .int 0, .int 0, .int 0, .int 0, .int 0, .int 0, .int 0, .int 0]))) (h143 : am_is H 143 (.inr (9, [.ref 144, .int 0, .int 0, .int 0, .int 0, .int 0, .int 0, .int 0, .int 0, .int 0]))) (h145 : am_is H 145 (.inr (9, [.ref 146, .int 0, .int 0, .int 0, .int 0, .int 0, .int 0, .int 0, .int 0, .int 0]))) (h147 : am_is H 147 (.inr (9, [.ref 148, .int 0, .int 0, .int 0, .int 0, .int 0, .int 0, .int 0, .int 0, .int 0]))) (h149 : am_is H 149 (.inr (9, [.ref 150, .int 0, .int 0, .int 0, .int 0, .int 0, .int 0, .int 0, .int 0, .int 0]))) (h151 : am_is H 151 (.inr (9, [.ref 152, .int 0, .int 0, .int 0, .int 0, .int 0, .int 0, .int 0, .int 0, .int 0]))) (h153 : am_is H 153 (.inr (9, [.ref 154, .int 0, .int 0, .int 0, .int 0, .int 0, .int 0, .int 0, .int 0, .int 0]))) (h155 : am_is H 155 (.inr (9, [.ref 156, .int 0, .int 0, .int 0, .int 0, .int 0, .int 0, .int 0, .int 0, .int 0]))) (c1 : ¬ x0 < 0) (c2 : ¬ 8 ≤ x0) (c3 : x0 = 4)  :
    am_E sL sx cs 98 0 [(0, .ref 0), (1, .int x0)] [] H (some (.null)) (fun H1 => (True) ∧ ∀ j : Nat, H1[j]? = H[j]?) := by
  refine ex_s (am_nb (m := 1) (pc1 := 1) (ls1 := [(0, .ref 0), (1, .int x0)]) (st1 := [.int x0]) (H1 := H) (k1 := 0) (n1 := 0) (by with_unfolding_all rfl)) ?_
  refine ex_s (st_if rfl) ?_
  refine ex_pc (if_neg c1) ?_
  refine ex_s (am_nb (m := 2) (pc1 := 7) (ls1 := [(0, .ref 0), (1, .int x0)]) (st1 := [.int 8, .int x0]) (H1 := H) (k1 := 0) (n1 := 0) (by with_unfolding_all rfl)) ?_
  refine ex_s (st_icmp rfl) ?_
  refine ex_pc (if_neg c2) ?_
  refine ex_s (am_nb (m := 1) (pc1 := 11) (ls1 := [(0, .ref 0), (1, .int x0)]) (st1 := [.ref 0]) (H1 := H) (k1 := 0) (n1 := 0) (by with_unfolding_all rfl)) ?_
  refine ex_s (st_get rfl h0 rfl) ?_
  refine ex_s (am_nb (m := 1) (pc1 := 15) (ls1 := [(0, .ref 0), (1, .int x0)]) (st1 := [.int x0, .ref 115]) (H1 := H) (k1 := 0) (n1 := 0) (by with_unfolding_all rfl)) ?_
  refine ex_s (st_aald rfl h115 (by rw [c3]; decide) rfl) ?_
  refine ex_s (am_nb (m := 0) (pc1 := 16) (ls1 := [(0, .ref 0), (1, .int x0)]) (st1 := [.ref 149]) (H1 := H) (k1 := 0) (n1 := 0) (by rw [c3]; with_unfolding_all rfl)) ?_
  refine ex_s (st_get rfl h149 rfl) ?_
  refine ex_s (am_nb (m := 2) (pc1 := 23) (ls1 := [(0, .ref 0), (1, .int x0)]) (st1 := [.null]) (H1 := H) (k1 := 0) (n1 := 0) (by with_unfolding_all rfl)) ?_
  exact ex_r (st_aret rfl rfl rfl rfl) ⟨trivial, fun j => rfl⟩

set_option maxRecDepth 100000 in
theorem fx_rows_1_7 {sL : Nat} {sx : Nat → Int32} {cs : Nat → Nat → Option Int32} {H : am_H} {v0_13 : Int32} {x0 : Int32} (h0 : am_is H 0 (.inr (11, [.ref 1, .int 0, .ref 2, .int 0, .ref 3, .ref 93, .ref 97, .ref 115, .ref 116, .ref 129, .ref 123, .ref 127, .ref 128, .int v0_13, .null, .int 0]))) (h115 : am_is H 115 (.inl ((.object "TerminalHouse$Window"), (8, .inr (.inr (.inr (.inr am_q115))))))) (h141 : am_is H 141 (.inr (9, [.ref 142, .int 0, .int 0, .int 0, .int 0, .int 0, .int 0, .int 0, .int 0, .int 0]))) (h143 : am_is H 143 (.inr (9, [.ref 144, .int 0, .int 0, .int 0, .int 0, .int 0, .int 0, .int 0, .int 0, .int 0]))) (h145 : am_is H 145 (.inr (9, [.ref 146, .int 0, .int 0, .int 0, .int 0, .int 0, .int 0, .int 0, .int 0, .int 0]))) (h147 : am_is H 147 (.inr (9, [.ref 148, .int 0, .int 0, .int 0, .int 0, .int 0, .int 0, .int 0, .int 0, .int 0]))) (h149 : am_is H 149 (.inr (9, [.ref 150, .int 0, .int 0, .int 0, .int 0, .int 0, .int 0, .int 0, .int 0, .int 0]))) (h151 : am_is H 151 (.inr (9, [.ref 152, .int 0, .int 0, .int 0, .int 0, .int 0, .int 0, .int 0, .int 0, .int 0]))) (h153 : am_is H 153 (.inr (9, [.ref 154, .int 0, .int 0, .int 0, .int 0, .int 0, .int 0, .int 0, .int 0, .int 0]))) (h155 : am_is H 155 (.inr (9, [.ref 156, .int 0, .int 0, .int 0, .int 0, .int 0, .int 0, .int 0, .int 0, .int 0]))) (c1 : ¬ x0 < 0) (c2 : ¬ 8 ≤ x0) (c3 : x0 = 5)  :
    am_E sL sx cs 98 0 [(0, .ref 0), (1, .int x0)] [] H (some (.null)) (fun H1 => (True) ∧ ∀ j : Nat, H1[j]? = H[j]?) := by
  refine ex_s (am_nb (m := 1) (pc1 := 1) (ls1 := [(0, .ref 0), (1, .int x0)]) (st1 := [.int x0]) (H1 := H) (k1 := 0) (n1 := 0) (by with_unfolding_all rfl)) ?_
  refine ex_s (st_if rfl) ?_
  refine ex_pc (if_neg c1) ?_
  refine ex_s (am_nb (m := 2) (pc1 := 7) (ls1 := [(0, .ref 0), (1, .int x0)]) (st1 := [.int 8, .int x0]) (H1 := H) (k1 := 0) (n1 := 0) (by with_unfolding_all rfl)) ?_
  refine ex_s (st_icmp rfl) ?_
  refine ex_pc (if_neg c2) ?_
  refine ex_s (am_nb (m := 1) (pc1 := 11) (ls1 := [(0, .ref 0), (1, .int x0)]) (st1 := [.ref 0]) (H1 := H) (k1 := 0) (n1 := 0) (by with_unfolding_all rfl)) ?_
  refine ex_s (st_get rfl h0 rfl) ?_
  refine ex_s (am_nb (m := 1) (pc1 := 15) (ls1 := [(0, .ref 0), (1, .int x0)]) (st1 := [.int x0, .ref 115]) (H1 := H) (k1 := 0) (n1 := 0) (by with_unfolding_all rfl)) ?_
  refine ex_s (st_aald rfl h115 (by rw [c3]; decide) rfl) ?_
  refine ex_s (am_nb (m := 0) (pc1 := 16) (ls1 := [(0, .ref 0), (1, .int x0)]) (st1 := [.ref 151]) (H1 := H) (k1 := 0) (n1 := 0) (by rw [c3]; with_unfolding_all rfl)) ?_
  refine ex_s (st_get rfl h151 rfl) ?_
  refine ex_s (am_nb (m := 2) (pc1 := 23) (ls1 := [(0, .ref 0), (1, .int x0)]) (st1 := [.null]) (H1 := H) (k1 := 0) (n1 := 0) (by with_unfolding_all rfl)) ?_
  exact ex_r (st_aret rfl rfl rfl rfl) ⟨trivial, fun j => rfl⟩

set_option maxRecDepth 100000 in
theorem fx_rows_1_8 {sL : Nat} {sx : Nat → Int32} {cs : Nat → Nat → Option Int32} {H : am_H} {v0_13 : Int32} {x0 : Int32} (h0 : am_is H 0 (.inr (11, [.ref 1, .int 0, .ref 2, .int 0, .ref 3, .ref 93, .ref 97, .ref 115, .ref 116, .ref 129, .ref 123, .ref 127, .ref 128, .int v0_13, .null, .int 0]))) (h115 : am_is H 115 (.inl ((.object "TerminalHouse$Window"), (8, .inr (.inr (.inr (.inr am_q115))))))) (h141 : am_is H 141 (.inr (9, [.ref 142, .int 0, .int 0, .int 0, .int 0, .int 0, .int 0, .int 0, .int 0, .int 0]))) (h143 : am_is H 143 (.inr (9, [.ref 144, .int 0, .int 0, .int 0, .int 0, .int 0, .int 0, .int 0, .int 0, .int 0]))) (h145 : am_is H 145 (.inr (9, [.ref 146, .int 0, .int 0, .int 0, .int 0, .int 0, .int 0, .int 0, .int 0, .int 0]))) (h147 : am_is H 147 (.inr (9, [.ref 148, .int 0, .int 0, .int 0, .int 0, .int 0, .int 0, .int 0, .int 0, .int 0]))) (h149 : am_is H 149 (.inr (9, [.ref 150, .int 0, .int 0, .int 0, .int 0, .int 0, .int 0, .int 0, .int 0, .int 0]))) (h151 : am_is H 151 (.inr (9, [.ref 152, .int 0, .int 0, .int 0, .int 0, .int 0, .int 0, .int 0, .int 0, .int 0]))) (h153 : am_is H 153 (.inr (9, [.ref 154, .int 0, .int 0, .int 0, .int 0, .int 0, .int 0, .int 0, .int 0, .int 0]))) (h155 : am_is H 155 (.inr (9, [.ref 156, .int 0, .int 0, .int 0, .int 0, .int 0, .int 0, .int 0, .int 0, .int 0]))) (c1 : ¬ x0 < 0) (c2 : ¬ 8 ≤ x0) (c3 : x0 = 6)  :
    am_E sL sx cs 98 0 [(0, .ref 0), (1, .int x0)] [] H (some (.null)) (fun H1 => (True) ∧ ∀ j : Nat, H1[j]? = H[j]?) := by
  refine ex_s (am_nb (m := 1) (pc1 := 1) (ls1 := [(0, .ref 0), (1, .int x0)]) (st1 := [.int x0]) (H1 := H) (k1 := 0) (n1 := 0) (by with_unfolding_all rfl)) ?_
  refine ex_s (st_if rfl) ?_
  refine ex_pc (if_neg c1) ?_
  refine ex_s (am_nb (m := 2) (pc1 := 7) (ls1 := [(0, .ref 0), (1, .int x0)]) (st1 := [.int 8, .int x0]) (H1 := H) (k1 := 0) (n1 := 0) (by with_unfolding_all rfl)) ?_
  refine ex_s (st_icmp rfl) ?_
  refine ex_pc (if_neg c2) ?_
  refine ex_s (am_nb (m := 1) (pc1 := 11) (ls1 := [(0, .ref 0), (1, .int x0)]) (st1 := [.ref 0]) (H1 := H) (k1 := 0) (n1 := 0) (by with_unfolding_all rfl)) ?_
  refine ex_s (st_get rfl h0 rfl) ?_
  refine ex_s (am_nb (m := 1) (pc1 := 15) (ls1 := [(0, .ref 0), (1, .int x0)]) (st1 := [.int x0, .ref 115]) (H1 := H) (k1 := 0) (n1 := 0) (by with_unfolding_all rfl)) ?_
  refine ex_s (st_aald rfl h115 (by rw [c3]; decide) rfl) ?_
  refine ex_s (am_nb (m := 0) (pc1 := 16) (ls1 := [(0, .ref 0), (1, .int x0)]) (st1 := [.ref 153]) (H1 := H) (k1 := 0) (n1 := 0) (by rw [c3]; with_unfolding_all rfl)) ?_
  refine ex_s (st_get rfl h153 rfl) ?_
  refine ex_s (am_nb (m := 2) (pc1 := 23) (ls1 := [(0, .ref 0), (1, .int x0)]) (st1 := [.null]) (H1 := H) (k1 := 0) (n1 := 0) (by with_unfolding_all rfl)) ?_
  exact ex_r (st_aret rfl rfl rfl rfl) ⟨trivial, fun j => rfl⟩

set_option maxRecDepth 100000 in
theorem fx_rows_1_9 {sL : Nat} {sx : Nat → Int32} {cs : Nat → Nat → Option Int32} {H : am_H} {v0_13 : Int32} {x0 : Int32} (h0 : am_is H 0 (.inr (11, [.ref 1, .int 0, .ref 2, .int 0, .ref 3, .ref 93, .ref 97, .ref 115, .ref 116, .ref 129, .ref 123, .ref 127, .ref 128, .int v0_13, .null, .int 0]))) (h115 : am_is H 115 (.inl ((.object "TerminalHouse$Window"), (8, .inr (.inr (.inr (.inr am_q115))))))) (h141 : am_is H 141 (.inr (9, [.ref 142, .int 0, .int 0, .int 0, .int 0, .int 0, .int 0, .int 0, .int 0, .int 0]))) (h143 : am_is H 143 (.inr (9, [.ref 144, .int 0, .int 0, .int 0, .int 0, .int 0, .int 0, .int 0, .int 0, .int 0]))) (h145 : am_is H 145 (.inr (9, [.ref 146, .int 0, .int 0, .int 0, .int 0, .int 0, .int 0, .int 0, .int 0, .int 0]))) (h147 : am_is H 147 (.inr (9, [.ref 148, .int 0, .int 0, .int 0, .int 0, .int 0, .int 0, .int 0, .int 0, .int 0]))) (h149 : am_is H 149 (.inr (9, [.ref 150, .int 0, .int 0, .int 0, .int 0, .int 0, .int 0, .int 0, .int 0, .int 0]))) (h151 : am_is H 151 (.inr (9, [.ref 152, .int 0, .int 0, .int 0, .int 0, .int 0, .int 0, .int 0, .int 0, .int 0]))) (h153 : am_is H 153 (.inr (9, [.ref 154, .int 0, .int 0, .int 0, .int 0, .int 0, .int 0, .int 0, .int 0, .int 0]))) (h155 : am_is H 155 (.inr (9, [.ref 156, .int 0, .int 0, .int 0, .int 0, .int 0, .int 0, .int 0, .int 0, .int 0]))) (c1 : ¬ x0 < 0) (c2 : ¬ 8 ≤ x0) (c3 : x0 = 7)  :
    am_E sL sx cs 98 0 [(0, .ref 0), (1, .int x0)] [] H (some (.null)) (fun H1 => (True) ∧ ∀ j : Nat, H1[j]? = H[j]?) := by
  refine ex_s (am_nb (m := 1) (pc1 := 1) (ls1 := [(0, .ref 0), (1, .int x0)]) (st1 := [.int x0]) (H1 := H) (k1 := 0) (n1 := 0) (by with_unfolding_all rfl)) ?_
  refine ex_s (st_if rfl) ?_
  refine ex_pc (if_neg c1) ?_
  refine ex_s (am_nb (m := 2) (pc1 := 7) (ls1 := [(0, .ref 0), (1, .int x0)]) (st1 := [.int 8, .int x0]) (H1 := H) (k1 := 0) (n1 := 0) (by with_unfolding_all rfl)) ?_
  refine ex_s (st_icmp rfl) ?_
  refine ex_pc (if_neg c2) ?_
  refine ex_s (am_nb (m := 1) (pc1 := 11) (ls1 := [(0, .ref 0), (1, .int x0)]) (st1 := [.ref 0]) (H1 := H) (k1 := 0) (n1 := 0) (by with_unfolding_all rfl)) ?_
  refine ex_s (st_get rfl h0 rfl) ?_
  refine ex_s (am_nb (m := 1) (pc1 := 15) (ls1 := [(0, .ref 0), (1, .int x0)]) (st1 := [.int x0, .ref 115]) (H1 := H) (k1 := 0) (n1 := 0) (by with_unfolding_all rfl)) ?_
  refine ex_s (st_aald rfl h115 (by rw [c3]; decide) rfl) ?_
  refine ex_s (am_nb (m := 0) (pc1 := 16) (ls1 := [(0, .ref 0), (1, .int x0)]) (st1 := [.ref 155]) (H1 := H) (k1 := 0) (n1 := 0) (by rw [c3]; with_unfolding_all rfl)) ?_
  refine ex_s (st_get rfl h155 rfl) ?_
  refine ex_s (am_nb (m := 2) (pc1 := 23) (ls1 := [(0, .ref 0), (1, .int x0)]) (st1 := [.null]) (H1 := H) (k1 := 0) (n1 := 0) (by with_unfolding_all rfl)) ?_
  exact ex_r (st_aret rfl rfl rfl rfl) ⟨trivial, fun j => rfl⟩

set_option maxRecDepth 100000 in
theorem fx_rows_0 {sL : Nat} {sx : Nat → Int32} {cs : Nat → Nat → Option Int32} {H : am_H} {v0_13 : Int32} {x0 : Int32} {x1 : Int32} (h0 : am_is H 0 (.inr (11, [.ref 1, .int 0, .ref 2, .int 0, .ref 3, .ref 93, .ref 97, .ref 115, .ref 116, .ref 129, .ref 123, .ref 127, .ref 128, .int v0_13, .null, .int 0]))) (h115 : am_is H 115 (.inl ((.object "TerminalHouse$Window"), (8, .inr (.inr (.inr (.inr am_q115))))))) (h141 : am_is H 141 (.inr (9, [.ref 142, .int 0, .int 0, .int 0, .int 0, .int 0, .int 0, .int 0, .int 0, .int 0]))) (h143 : am_is H 143 (.inr (9, [.ref 144, .int 0, .int 0, .int 0, .int 0, .int 0, .int 0, .int 0, .int 0, .int 0]))) (h145 : am_is H 145 (.inr (9, [.ref 146, .int 0, .int 0, .int 0, .int 0, .int 0, .int 0, .int 0, .int 0, .int 0]))) (h147 : am_is H 147 (.inr (9, [.ref 148, .int 0, .int 0, .int 0, .int 0, .int 0, .int 0, .int 0, .int 0, .int 0]))) (h149 : am_is H 149 (.inr (9, [.ref 150, .int 0, .int 0, .int 0, .int 0, .int 0, .int 0, .int 0, .int 0, .int 0]))) (h151 : am_is H 151 (.inr (9, [.ref 152, .int 0, .int 0, .int 0, .int 0, .int 0, .int 0, .int 0, .int 0, .int 0]))) (h153 : am_is H 153 (.inr (9, [.ref 154, .int 0, .int 0, .int 0, .int 0, .int 0, .int 0, .int 0, .int 0, .int 0]))) (h155 : am_is H 155 (.inr (9, [.ref 156, .int 0, .int 0, .int 0, .int 0, .int 0, .int 0, .int 0, .int 0, .int 0]))) (c1 : x0 < 0)  :
    am_E sL sx cs 114 0 [(0, .ref 0), (1, .int x0), (2, .int x1)] [] H (some (.int 0)) (fun H1 => (True) ∧ ∀ j : Nat, H1[j]? = H[j]?) := by
  refine ex_s (am_nb (m := 2) (pc1 := 2) (ls1 := [(0, .ref 0), (1, .int x0), (2, .int x1)]) (st1 := [.int x0, .ref 0]) (H1 := H) (k1 := 0) (n1 := 0) (by with_unfolding_all rfl)) ?_
  refine ex_cv1 (as := [.int x0]) (rest := []) rfl rfl rfl rfl h0 rfl (by with_unfolding_all rfl) (by with_unfolding_all rfl) (fx_rows_1_0 h0 h115 h141 h143 h145 h147 h149 h151 h153 h155 c1) ?_
  rintro H147 ⟨-, k147⟩
  refine ex_s (am_nb (m := 4) (pc1 := 11) (ls1 := [(3, .null), (0, .ref 0), (1, .int x0), (2, .int x1)]) (st1 := [.int 0]) (H1 := H147) (k1 := 0) (n1 := 0) (by with_unfolding_all rfl)) ?_
  exact ex_r (st_iret rfl rfl rfl) ⟨trivial, fun j => (k147 j)⟩

set_option maxRecDepth 100000 in
theorem fx_rows_1 {sL : Nat} {sx : Nat → Int32} {cs : Nat → Nat → Option Int32} {H : am_H} {v0_13 : Int32} {x0 : Int32} {x1 : Int32} (h0 : am_is H 0 (.inr (11, [.ref 1, .int 0, .ref 2, .int 0, .ref 3, .ref 93, .ref 97, .ref 115, .ref 116, .ref 129, .ref 123, .ref 127, .ref 128, .int v0_13, .null, .int 0]))) (h115 : am_is H 115 (.inl ((.object "TerminalHouse$Window"), (8, .inr (.inr (.inr (.inr am_q115))))))) (h141 : am_is H 141 (.inr (9, [.ref 142, .int 0, .int 0, .int 0, .int 0, .int 0, .int 0, .int 0, .int 0, .int 0]))) (h143 : am_is H 143 (.inr (9, [.ref 144, .int 0, .int 0, .int 0, .int 0, .int 0, .int 0, .int 0, .int 0, .int 0]))) (h145 : am_is H 145 (.inr (9, [.ref 146, .int 0, .int 0, .int 0, .int 0, .int 0, .int 0, .int 0, .int 0, .int 0]))) (h147 : am_is H 147 (.inr (9, [.ref 148, .int 0, .int 0, .int 0, .int 0, .int 0, .int 0, .int 0, .int 0, .int 0]))) (h149 : am_is H 149 (.inr (9, [.ref 150, .int 0, .int 0, .int 0, .int 0, .int 0, .int 0, .int 0, .int 0, .int 0]))) (h151 : am_is H 151 (.inr (9, [.ref 152, .int 0, .int 0, .int 0, .int 0, .int 0, .int 0, .int 0, .int 0, .int 0]))) (h153 : am_is H 153 (.inr (9, [.ref 154, .int 0, .int 0, .int 0, .int 0, .int 0, .int 0, .int 0, .int 0, .int 0]))) (h155 : am_is H 155 (.inr (9, [.ref 156, .int 0, .int 0, .int 0, .int 0, .int 0, .int 0, .int 0, .int 0, .int 0]))) (c1 : ¬ x0 < 0) (c2 : 8 ≤ x0)  :
    am_E sL sx cs 114 0 [(0, .ref 0), (1, .int x0), (2, .int x1)] [] H (some (.int 0)) (fun H1 => (True) ∧ ∀ j : Nat, H1[j]? = H[j]?) := by
  refine ex_s (am_nb (m := 2) (pc1 := 2) (ls1 := [(0, .ref 0), (1, .int x0), (2, .int x1)]) (st1 := [.int x0, .ref 0]) (H1 := H) (k1 := 0) (n1 := 0) (by with_unfolding_all rfl)) ?_
  refine ex_cv1 (as := [.int x0]) (rest := []) rfl rfl rfl rfl h0 rfl (by with_unfolding_all rfl) (by with_unfolding_all rfl) (fx_rows_1_1 h0 h115 h141 h143 h145 h147 h149 h151 h153 h155 c1 c2) ?_
  rintro H148 ⟨-, k148⟩
  refine ex_s (am_nb (m := 4) (pc1 := 11) (ls1 := [(3, .null), (0, .ref 0), (1, .int x0), (2, .int x1)]) (st1 := [.int 0]) (H1 := H148) (k1 := 0) (n1 := 0) (by with_unfolding_all rfl)) ?_
  exact ex_r (st_iret rfl rfl rfl) ⟨trivial, fun j => (k148 j)⟩

set_option maxRecDepth 100000 in
theorem fx_rows_2 {sL : Nat} {sx : Nat → Int32} {cs : Nat → Nat → Option Int32} {H : am_H} {v0_13 : Int32} {x0 : Int32} {x1 : Int32} (h0 : am_is H 0 (.inr (11, [.ref 1, .int 0, .ref 2, .int 0, .ref 3, .ref 93, .ref 97, .ref 115, .ref 116, .ref 129, .ref 123, .ref 127, .ref 128, .int v0_13, .null, .int 0]))) (h115 : am_is H 115 (.inl ((.object "TerminalHouse$Window"), (8, .inr (.inr (.inr (.inr am_q115))))))) (h141 : am_is H 141 (.inr (9, [.ref 142, .int 0, .int 0, .int 0, .int 0, .int 0, .int 0, .int 0, .int 0, .int 0]))) (h143 : am_is H 143 (.inr (9, [.ref 144, .int 0, .int 0, .int 0, .int 0, .int 0, .int 0, .int 0, .int 0, .int 0]))) (h145 : am_is H 145 (.inr (9, [.ref 146, .int 0, .int 0, .int 0, .int 0, .int 0, .int 0, .int 0, .int 0, .int 0]))) (h147 : am_is H 147 (.inr (9, [.ref 148, .int 0, .int 0, .int 0, .int 0, .int 0, .int 0, .int 0, .int 0, .int 0]))) (h149 : am_is H 149 (.inr (9, [.ref 150, .int 0, .int 0, .int 0, .int 0, .int 0, .int 0, .int 0, .int 0, .int 0]))) (h151 : am_is H 151 (.inr (9, [.ref 152, .int 0, .int 0, .int 0, .int 0, .int 0, .int 0, .int 0, .int 0, .int 0]))) (h153 : am_is H 153 (.inr (9, [.ref 154, .int 0, .int 0, .int 0, .int 0, .int 0, .int 0, .int 0, .int 0, .int 0]))) (h155 : am_is H 155 (.inr (9, [.ref 156, .int 0, .int 0, .int 0, .int 0, .int 0, .int 0, .int 0, .int 0, .int 0]))) (c1 : ¬ x0 < 0) (c2 : ¬ 8 ≤ x0) (c3 : x0 = 0)  :
    am_E sL sx cs 114 0 [(0, .ref 0), (1, .int x0), (2, .int x1)] [] H (some (.int 0)) (fun H1 => (True) ∧ ∀ j : Nat, H1[j]? = H[j]?) := by
  refine ex_s (am_nb (m := 2) (pc1 := 2) (ls1 := [(0, .ref 0), (1, .int x0), (2, .int x1)]) (st1 := [.int x0, .ref 0]) (H1 := H) (k1 := 0) (n1 := 0) (by with_unfolding_all rfl)) ?_
  refine ex_cv1 (as := [.int x0]) (rest := []) rfl rfl rfl rfl h0 rfl (by with_unfolding_all rfl) (by with_unfolding_all rfl) (fx_rows_1_2 h0 h115 h141 h143 h145 h147 h149 h151 h153 h155 c1 c2 c3) ?_
  rintro H149 ⟨-, k149⟩
  refine ex_s (am_nb (m := 4) (pc1 := 11) (ls1 := [(3, .null), (0, .ref 0), (1, .int x0), (2, .int x1)]) (st1 := [.int 0]) (H1 := H149) (k1 := 0) (n1 := 0) (by with_unfolding_all rfl)) ?_
  exact ex_r (st_iret rfl rfl rfl) ⟨trivial, fun j => (k149 j)⟩

set_option maxRecDepth 100000 in
theorem fx_rows_3 {sL : Nat} {sx : Nat → Int32} {cs : Nat → Nat → Option Int32} {H : am_H} {v0_13 : Int32} {x0 : Int32} {x1 : Int32} (h0 : am_is H 0 (.inr (11, [.ref 1, .int 0, .ref 2, .int 0, .ref 3, .ref 93, .ref 97, .ref 115, .ref 116, .ref 129, .ref 123, .ref 127, .ref 128, .int v0_13, .null, .int 0]))) (h115 : am_is H 115 (.inl ((.object "TerminalHouse$Window"), (8, .inr (.inr (.inr (.inr am_q115))))))) (h141 : am_is H 141 (.inr (9, [.ref 142, .int 0, .int 0, .int 0, .int 0, .int 0, .int 0, .int 0, .int 0, .int 0]))) (h143 : am_is H 143 (.inr (9, [.ref 144, .int 0, .int 0, .int 0, .int 0, .int 0, .int 0, .int 0, .int 0, .int 0]))) (h145 : am_is H 145 (.inr (9, [.ref 146, .int 0, .int 0, .int 0, .int 0, .int 0, .int 0, .int 0, .int 0, .int 0]))) (h147 : am_is H 147 (.inr (9, [.ref 148, .int 0, .int 0, .int 0, .int 0, .int 0, .int 0, .int 0, .int 0, .int 0]))) (h149 : am_is H 149 (.inr (9, [.ref 150, .int 0, .int 0, .int 0, .int 0, .int 0, .int 0, .int 0, .int 0, .int 0]))) (h151 : am_is H 151 (.inr (9, [.ref 152, .int 0, .int 0, .int 0, .int 0, .int 0, .int 0, .int 0, .int 0, .int 0]))) (h153 : am_is H 153 (.inr (9, [.ref 154, .int 0, .int 0, .int 0, .int 0, .int 0, .int 0, .int 0, .int 0, .int 0]))) (h155 : am_is H 155 (.inr (9, [.ref 156, .int 0, .int 0, .int 0, .int 0, .int 0, .int 0, .int 0, .int 0, .int 0]))) (c1 : ¬ x0 < 0) (c2 : ¬ 8 ≤ x0) (c3 : x0 = 1)  :
    am_E sL sx cs 114 0 [(0, .ref 0), (1, .int x0), (2, .int x1)] [] H (some (.int 0)) (fun H1 => (True) ∧ ∀ j : Nat, H1[j]? = H[j]?) := by
  refine ex_s (am_nb (m := 2) (pc1 := 2) (ls1 := [(0, .ref 0), (1, .int x0), (2, .int x1)]) (st1 := [.int x0, .ref 0]) (H1 := H) (k1 := 0) (n1 := 0) (by with_unfolding_all rfl)) ?_
  refine ex_cv1 (as := [.int x0]) (rest := []) rfl rfl rfl rfl h0 rfl (by with_unfolding_all rfl) (by with_unfolding_all rfl) (fx_rows_1_3 h0 h115 h141 h143 h145 h147 h149 h151 h153 h155 c1 c2 c3) ?_
  rintro H150 ⟨-, k150⟩
  refine ex_s (am_nb (m := 4) (pc1 := 11) (ls1 := [(3, .null), (0, .ref 0), (1, .int x0), (2, .int x1)]) (st1 := [.int 0]) (H1 := H150) (k1 := 0) (n1 := 0) (by with_unfolding_all rfl)) ?_
  exact ex_r (st_iret rfl rfl rfl) ⟨trivial, fun j => (k150 j)⟩

set_option maxRecDepth 100000 in
theorem fx_rows_4 {sL : Nat} {sx : Nat → Int32} {cs : Nat → Nat → Option Int32} {H : am_H} {v0_13 : Int32} {x0 : Int32} {x1 : Int32} (h0 : am_is H 0 (.inr (11, [.ref 1, .int 0, .ref 2, .int 0, .ref 3, .ref 93, .ref 97, .ref 115, .ref 116, .ref 129, .ref 123, .ref 127, .ref 128, .int v0_13, .null, .int 0]))) (h115 : am_is H 115 (.inl ((.object "TerminalHouse$Window"), (8, .inr (.inr (.inr (.inr am_q115))))))) (h141 : am_is H 141 (.inr (9, [.ref 142, .int 0, .int 0, .int 0, .int 0, .int 0, .int 0, .int 0, .int 0, .int 0]))) (h143 : am_is H 143 (.inr (9, [.ref 144, .int 0, .int 0, .int 0, .int 0, .int 0, .int 0, .int 0, .int 0, .int 0]))) (h145 : am_is H 145 (.inr (9, [.ref 146, .int 0, .int 0, .int 0, .int 0, .int 0, .int 0, .int 0, .int 0, .int 0]))) (h147 : am_is H 147 (.inr (9, [.ref 148, .int 0, .int 0, .int 0, .int 0, .int 0, .int 0, .int 0, .int 0, .int 0]))) (h149 : am_is H 149 (.inr (9, [.ref 150, .int 0, .int 0, .int 0, .int 0, .int 0, .int 0, .int 0, .int 0, .int 0]))) (h151 : am_is H 151 (.inr (9, [.ref 152, .int 0, .int 0, .int 0, .int 0, .int 0, .int 0, .int 0, .int 0, .int 0]))) (h153 : am_is H 153 (.inr (9, [.ref 154, .int 0, .int 0, .int 0, .int 0, .int 0, .int 0, .int 0, .int 0, .int 0]))) (h155 : am_is H 155 (.inr (9, [.ref 156, .int 0, .int 0, .int 0, .int 0, .int 0, .int 0, .int 0, .int 0, .int 0]))) (c1 : ¬ x0 < 0) (c2 : ¬ 8 ≤ x0) (c3 : x0 = 2)  :
    am_E sL sx cs 114 0 [(0, .ref 0), (1, .int x0), (2, .int x1)] [] H (some (.int 0)) (fun H1 => (True) ∧ ∀ j : Nat, H1[j]? = H[j]?) := by
  refine ex_s (am_nb (m := 2) (pc1 := 2) (ls1 := [(0, .ref 0), (1, .int x0), (2, .int x1)]) (st1 := [.int x0, .ref 0]) (H1 := H) (k1 := 0) (n1 := 0) (by with_unfolding_all rfl)) ?_
  refine ex_cv1 (as := [.int x0]) (rest := []) rfl rfl rfl rfl h0 rfl (by with_unfolding_all rfl) (by with_unfolding_all rfl) (fx_rows_1_4 h0 h115 h141 h143 h145 h147 h149 h151 h153 h155 c1 c2 c3) ?_
  rintro H151 ⟨-, k151⟩
  refine ex_s (am_nb (m := 4) (pc1 := 11) (ls1 := [(3, .null), (0, .ref 0), (1, .int x0), (2, .int x1)]) (st1 := [.int 0]) (H1 := H151) (k1 := 0) (n1 := 0) (by with_unfolding_all rfl)) ?_
  exact ex_r (st_iret rfl rfl rfl) ⟨trivial, fun j => (k151 j)⟩

set_option maxRecDepth 100000 in
theorem fx_rows_5 {sL : Nat} {sx : Nat → Int32} {cs : Nat → Nat → Option Int32} {H : am_H} {v0_13 : Int32} {x0 : Int32} {x1 : Int32} (h0 : am_is H 0 (.inr (11, [.ref 1, .int 0, .ref 2, .int 0, .ref 3, .ref 93, .ref 97, .ref 115, .ref 116, .ref 129, .ref 123, .ref 127, .ref 128, .int v0_13, .null, .int 0]))) (h115 : am_is H 115 (.inl ((.object "TerminalHouse$Window"), (8, .inr (.inr (.inr (.inr am_q115))))))) (h141 : am_is H 141 (.inr (9, [.ref 142, .int 0, .int 0, .int 0, .int 0, .int 0, .int 0, .int 0, .int 0, .int 0]))) (h143 : am_is H 143 (.inr (9, [.ref 144, .int 0, .int 0, .int 0, .int 0, .int 0, .int 0, .int 0, .int 0, .int 0]))) (h145 : am_is H 145 (.inr (9, [.ref 146, .int 0, .int 0, .int 0, .int 0, .int 0, .int 0, .int 0, .int 0, .int 0]))) (h147 : am_is H 147 (.inr (9, [.ref 148, .int 0, .int 0, .int 0, .int 0, .int 0, .int 0, .int 0, .int 0, .int 0]))) (h149 : am_is H 149 (.inr (9, [.ref 150, .int 0, .int 0, .int 0, .int 0, .int 0, .int 0, .int 0, .int 0, .int 0]))) (h151 : am_is H 151 (.inr (9, [.ref 152, .int 0, .int 0, .int 0, .int 0, .int 0, .int 0, .int 0, .int 0, .int 0]))) (h153 : am_is H 153 (.inr (9, [.ref 154, .int 0, .int 0, .int 0, .int 0, .int 0, .int 0, .int 0, .int 0, .int 0]))) (h155 : am_is H 155 (.inr (9, [.ref 156, .int 0, .int 0, .int 0, .int 0, .int 0, .int 0, .int 0, .int 0, .int 0]))) (c1 : ¬ x0 < 0) (c2 : ¬ 8 ≤ x0) (c3 : x0 = 3)  :
    am_E sL sx cs 114 0 [(0, .ref 0), (1, .int x0), (2, .int x1)] [] H (some (.int 0)) (fun H1 => (True) ∧ ∀ j : Nat, H1[j]? = H[j]?) := by
  refine ex_s (am_nb (m := 2) (pc1 := 2) (ls1 := [(0, .ref 0), (1, .int x0), (2, .int x1)]) (st1 := [.int x0, .ref 0]) (H1 := H) (k1 := 0) (n1 := 0) (by with_unfolding_all rfl)) ?_
  refine ex_cv1 (as := [.int x0]) (rest := []) rfl rfl rfl rfl h0 rfl (by with_unfolding_all rfl) (by with_unfolding_all rfl) (fx_rows_1_5 h0 h115 h141 h143 h145 h147 h149 h151 h153 h155 c1 c2 c3) ?_
  rintro H152 ⟨-, k152⟩
  refine ex_s (am_nb (m := 4) (pc1 := 11) (ls1 := [(3, .null), (0, .ref 0), (1, .int x0), (2, .int x1)]) (st1 := [.int 0]) (H1 := H152) (k1 := 0) (n1 := 0) (by with_unfolding_all rfl)) ?_
  exact ex_r (st_iret rfl rfl rfl) ⟨trivial, fun j => (k152 j)⟩

set_option maxRecDepth 100000 in
theorem fx_rows_6 {sL : Nat} {sx : Nat → Int32} {cs : Nat → Nat → Option Int32} {H : am_H} {v0_13 : Int32} {x0 : Int32} {x1 : Int32} (h0 : am_is H 0 (.inr (11, [.ref 1, .int 0, .ref 2, .int 0, .ref 3, .ref 93, .ref 97, .ref 115, .ref 116, .ref 129, .ref 123, .ref 127, .ref 128, .int v0_13, .null, .int 0]))) (h115 : am_is H 115 (.inl ((.object "TerminalHouse$Window"), (8, .inr (.inr (.inr (.inr am_q115))))))) (h141 : am_is H 141 (.inr (9, [.ref 142, .int 0, .int 0, .int 0, .int 0, .int 0, .int 0, .int 0, .int 0, .int 0]))) (h143 : am_is H 143 (.inr (9, [.ref 144, .int 0, .int 0, .int 0, .int 0, .int 0, .int 0, .int 0, .int 0, .int 0]))) (h145 : am_is H 145 (.inr (9, [.ref 146, .int 0, .int 0, .int 0, .int 0, .int 0, .int 0, .int 0, .int 0, .int 0]))) (h147 : am_is H 147 (.inr (9, [.ref 148, .int 0, .int 0, .int 0, .int 0, .int 0, .int 0, .int 0, .int 0, .int 0]))) (h149 : am_is H 149 (.inr (9, [.ref 150, .int 0, .int 0, .int 0, .int 0, .int 0, .int 0, .int 0, .int 0, .int 0]))) (h151 : am_is H 151 (.inr (9, [.ref 152, .int 0, .int 0, .int 0, .int 0, .int 0, .int 0, .int 0, .int 0, .int 0]))) (h153 : am_is H 153 (.inr (9, [.ref 154, .int 0, .int 0, .int 0, .int 0, .int 0, .int 0, .int 0, .int 0, .int 0]))) (h155 : am_is H 155 (.inr (9, [.ref 156, .int 0, .int 0, .int 0, .int 0, .int 0, .int 0, .int 0, .int 0, .int 0]))) (c1 : ¬ x0 < 0) (c2 : ¬ 8 ≤ x0) (c3 : x0 = 4)  :
    am_E sL sx cs 114 0 [(0, .ref 0), (1, .int x0), (2, .int x1)] [] H (some (.int 0)) (fun H1 => (True) ∧ ∀ j : Nat, H1[j]? = H[j]?) := by
  refine ex_s (am_nb (m := 2) (pc1 := 2) (ls1 := [(0, .ref 0), (1, .int x0), (2, .int x1)]) (st1 := [.int x0, .ref 0]) (H1 := H) (k1 := 0) (n1 := 0) (by with_unfolding_all rfl)) ?_
  refine ex_cv1 (as := [.int x0]) (rest := []) rfl rfl rfl rfl h0 rfl (by with_unfolding_all rfl) (by with_unfolding_all rfl) (fx_rows_1_6 h0 h115 h141 h143 h145 h147 h149 h151 h153 h155 c1 c2 c3) ?_
  rintro H153 ⟨-, k153⟩
  refine ex_s (am_nb (m := 4) (pc1 := 11) (ls1 := [(3, .null), (0, .ref 0), (1, .int x0), (2, .int x1)]) (st1 := [.int 0]) (H1 := H153) (k1 := 0) (n1 := 0) (by with_unfolding_all rfl)) ?_
  exact ex_r (st_iret rfl rfl rfl) ⟨trivial, fun j => (k153 j)⟩

set_option maxRecDepth 100000 in
theorem fx_rows_7 {sL : Nat} {sx : Nat → Int32} {cs : Nat → Nat → Option Int32} {H : am_H} {v0_13 : Int32} {x0 : Int32} {x1 : Int32} (h0 : am_is H 0 (.inr (11, [.ref 1, .int 0, .ref 2, .int 0, .ref 3, .ref 93, .ref 97, .ref 115, .ref 116, .ref 129, .ref 123, .ref 127, .ref 128, .int v0_13, .null, .int 0]))) (h115 : am_is H 115 (.inl ((.object "TerminalHouse$Window"), (8, .inr (.inr (.inr (.inr am_q115))))))) (h141 : am_is H 141 (.inr (9, [.ref 142, .int 0, .int 0, .int 0, .int 0, .int 0, .int 0, .int 0, .int 0, .int 0]))) (h143 : am_is H 143 (.inr (9, [.ref 144, .int 0, .int 0, .int 0, .int 0, .int 0, .int 0, .int 0, .int 0, .int 0]))) (h145 : am_is H 145 (.inr (9, [.ref 146, .int 0, .int 0, .int 0, .int 0, .int 0, .int 0, .int 0, .int 0, .int 0]))) (h147 : am_is H 147 (.inr (9, [.ref 148, .int 0, .int 0, .int 0, .int 0, .int 0, .int 0, .int 0, .int 0, .int 0]))) (h149 : am_is H 149 (.inr (9, [.ref 150, .int 0, .int 0, .int 0, .int 0, .int 0, .int 0, .int 0, .int 0, .int 0]))) (h151 : am_is H 151 (.inr (9, [.ref 152, .int 0, .int 0, .int 0, .int 0, .int 0, .int 0, .int 0, .int 0, .int 0]))) (h153 : am_is H 153 (.inr (9, [.ref 154, .int 0, .int 0, .int 0, .int 0, .int 0, .int 0, .int 0, .int 0, .int 0]))) (h155 : am_is H 155 (.inr (9, [.ref 156, .int 0, .int 0, .int 0, .int 0, .int 0, .int 0, .int 0, .int 0, .int 0]))) (c1 : ¬ x0 < 0) (c2 : ¬ 8 ≤ x0) (c3 : x0 = 5)  :
    am_E sL sx cs 114 0 [(0, .ref 0), (1, .int x0), (2, .int x1)] [] H (some (.int 0)) (fun H1 => (True) ∧ ∀ j : Nat, H1[j]? = H[j]?) := by
  refine ex_s (am_nb (m := 2) (pc1 := 2) (ls1 := [(0, .ref 0), (1, .int x0), (2, .int x1)]) (st1 := [.int x0, .ref 0]) (H1 := H) (k1 := 0) (n1 := 0) (by with_unfolding_all rfl)) ?_
  refine ex_cv1 (as := [.int x0]) (rest := []) rfl rfl rfl rfl h0 rfl (by with_unfolding_all rfl) (by with_unfolding_all rfl) (fx_rows_1_7 h0 h115 h141 h143 h145 h147 h149 h151 h153 h155 c1 c2 c3) ?_
  rintro H154 ⟨-, k154⟩
  refine ex_s (am_nb (m := 4) (pc1 := 11) (ls1 := [(3, .null), (0, .ref 0), (1, .int x0), (2, .int x1)]) (st1 := [.int 0]) (H1 := H154) (k1 := 0) (n1 := 0) (by with_unfolding_all rfl)) ?_
  exact ex_r (st_iret rfl rfl rfl) ⟨trivial, fun j => (k154 j)⟩
