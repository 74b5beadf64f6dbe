/-! The law's cases. -/
section CASE
variable {sL : Nat} {sx : Nat → Int32} {cs : Nat → Nat → Option Int32}
set_option maxRecDepth 100000 in
theorem lc_d {H : am_H} {k n j : Nat} (hc : ∀ q : Nat, q < 38 → ¬ sx j &&& 63 = Int32.ofNat q) :
    aX sL sx cs 417 70 ((4, .int (Int32.ofNat j)) :: [(3, .ref 196), (2, .ref 157), (1, .ref 0), (0, .retAddr 0)]) [.int (sx j &&& 63)] H k n = aX sL sx cs 417 53 ((4, .int (Int32.ofNat j + 6)) :: [(3, .ref 196), (2, .ref 157), (1, .ref 0), (0, .retAddr 0)]) [] H k n := by
  refine (st_tsw rfl).trans ?_
  refine (st_pc (pc2 := 1475) (am_sw_d _ _ 38 rfl hc)).trans ?_
  exact am_nb (m := 2) (by with_unfolding_all rfl)

set_option maxRecDepth 100000 in
theorem lc_26 {H H1 H2 : am_H} {k n j a0 b0 a1 b1 : Nat} {u w : List Value} {v : Int32} (hL : sL < 2 ^ 31) (hj : j + 5 < sL) (h0 : am_is H 0 (.inr (11, u))) (h157 : am_is H1 157 (.inr (12, w))) (rA : aX sL sx cs 159 0 [(0, .ref 0), (1, .int (sx (j + 1))), (2, .int (sx (j + 2)))] [] H 0 0 = some (some (.int v), H1, a0, b0)) (rB : aX sL sx cs 330 0 [(0, .ref 157), (1, .int (sx (j + 1))), (2, .int (sx (j + 2)))] [] H1 0 0 = some (some (.int v), H2, a1, b1)) (hc : sx j &&& 63 = 26) :
    aX sL sx cs 417 70 ((4, .int (Int32.ofNat j)) :: [(3, .ref 196), (2, .ref 157), (1, .ref 0), (0, .retAddr 0)]) [.int (sx j &&& 63)] H k n = aX sL sx cs 417 53 ((4, .int (Int32.ofNat j + 6)) :: [(3, .ref 196), (2, .ref 157), (1, .ref 0), (0, .retAddr 0)]) [] H2 (k + a0 + a1) (n + b0 + b1) := by
  rw [hc]
  refine (st_tsw rfl).trans ?_
  refine (st_pc (pc2 := 1123) (by decide +kernel)).trans ?_
  refine (am_nb (m := 5) (pc1 := 1129) (ls1 := ((4, .int (Int32.ofNat j)) :: [(3, .ref 196), (2, .ref 157), (1, .ref 0), (0, .retAddr 0)])) (st1 := [.int (Int32.ofNat j + 1), .retAddr 0, .ref 0]) (H1 := H) (k1 := k) (n1 := n) (by with_unfolding_all rfl)).trans ?_
  refine (st_sc (d := 1) rfl hL (by omega)).trans ?_
  refine (am_nb (m := 4) (pc1 := 1135) (ls1 := ((4, .int (Int32.ofNat j)) :: [(3, .ref 196), (2, .ref 157), (1, .ref 0), (0, .retAddr 0)])) (st1 := [.int (Int32.ofNat j + 2), .retAddr 0, .int (sx (j + 1)), .ref 0]) (H1 := H) (k1 := k) (n1 := n) (by with_unfolding_all rfl)).trans ?_
  refine (st_sc (d := 2) rfl hL (by omega)).trans ?_
  refine (st_cv1 (as := [.int (sx (j + 1)), .int (sx (j + 2))]) (rest := []) rfl rfl rfl rfl h0 rfl (by with_unfolding_all rfl) (by with_unfolding_all rfl) rA).trans ?_
  refine (am_nb (m := 5) (pc1 := 1145) (ls1 := ((4, .int (Int32.ofNat j)) :: [(3, .ref 196), (2, .ref 157), (1, .ref 0), (0, .retAddr 0)])) (st1 := [.int (Int32.ofNat j + 1), .retAddr 0, .ref 157, .int v]) (H1 := H1) (k1 := (k + a0)) (n1 := (n + b0)) (by with_unfolding_all rfl)).trans ?_
  refine (st_sc (d := 1) rfl hL (by omega)).trans ?_
  refine (am_nb (m := 4) (pc1 := 1151) (ls1 := ((4, .int (Int32.ofNat j)) :: [(3, .ref 196), (2, .ref 157), (1, .ref 0), (0, .retAddr 0)])) (st1 := [.int (Int32.ofNat j + 2), .retAddr 0, .int (sx (j + 1)), .ref 157, .int v]) (H1 := H1) (k1 := (k + a0)) (n1 := (n + b0)) (by with_unfolding_all rfl)).trans ?_
  refine (st_sc (d := 2) rfl hL (by omega)).trans ?_
  refine (st_cv1 (as := [.int (sx (j + 1)), .int (sx (j + 2))]) (rest := [.int v]) rfl rfl rfl rfl h157 rfl (by with_unfolding_all rfl) (by with_unfolding_all rfl) rB).trans ?_
  refine (st_icmp rfl).trans ?_
  refine (st_pc (pc2 := 1475) (if_pos rfl)).trans ?_
  exact am_nb (m := 2) (by with_unfolding_all rfl)

set_option maxRecDepth 100000 in
theorem lc_27 {H H1 H2 : am_H} {k n j a0 b0 a1 b1 : Nat} {u w : List Value} {v : Int32} (hL : sL < 2 ^ 31) (hj : j + 5 < sL) (h0 : am_is H 0 (.inr (11, u))) (h157 : am_is H1 157 (.inr (12, w))) (rA : aX sL sx cs 160 0 [(0, .ref 0), (1, .int (sx (j + 1)))] [] H 0 0 = some (some (.int v), H1, a0, b0)) (rB : aX sL sx cs 353 0 [(0, .ref 157), (1, .int (sx (j + 1)))] [] H1 0 0 = some (some (.int v), H2, a1, b1)) (hc : sx j &&& 63 = 27) :
    aX sL sx cs 417 70 ((4, .int (Int32.ofNat j)) :: [(3, .ref 196), (2, .ref 157), (1, .ref 0), (0, .retAddr 0)]) [.int (sx j &&& 63)] H k n = aX sL sx cs 417 53 ((4, .int (Int32.ofNat j + 6)) :: [(3, .ref 196), (2, .ref 157), (1, .ref 0), (0, .retAddr 0)]) [] H2 (k + a0 + a1) (n + b0 + b1) := by
  rw [hc]
  refine (st_tsw rfl).trans ?_
  refine (st_pc (pc2 := 1160) (by decide +kernel)).trans ?_
  refine (am_nb (m := 5) (pc1 := 1166) (ls1 := ((4, .int (Int32.ofNat j)) :: [(3, .ref 196), (2, .ref 157), (1, .ref 0), (0, .retAddr 0)])) (st1 := [.int (Int32.ofNat j + 1), .retAddr 0, .ref 0]) (H1 := H) (k1 := k) (n1 := n) (by with_unfolding_all rfl)).trans ?_
  refine (st_sc (d := 1) rfl hL (by omega)).trans ?_
  refine (st_cv1 (as := [.int (sx (j + 1))]) (rest := []) rfl rfl rfl rfl h0 rfl (by with_unfolding_all rfl) (by with_unfolding_all rfl) rA).trans ?_
  refine (am_nb (m := 5) (pc1 := 1176) (ls1 := ((4, .int (Int32.ofNat j)) :: [(3, .ref 196), (2, .ref 157), (1, .ref 0), (0, .retAddr 0)])) (st1 := [.int (Int32.ofNat j + 1), .retAddr 0, .ref 157, .int v]) (H1 := H1) (k1 := (k + a0)) (n1 := (n + b0)) (by with_unfolding_all rfl)).trans ?_
  refine (st_sc (d := 1) rfl hL (by omega)).trans ?_
  refine (st_cv1 (as := [.int (sx (j + 1))]) (rest := [.int v]) rfl rfl rfl rfl h157 rfl (by with_unfolding_all rfl) (by with_unfolding_all rfl) rB).trans ?_
  refine (st_icmp rfl).trans ?_
  refine (st_pc (pc2 := 1475) (if_pos rfl)).trans ?_
  exact am_nb (m := 2) (by with_unfolding_all rfl)


end CASE
