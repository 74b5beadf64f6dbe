/-! The law's cases. -/
section CASE
variable {sL : Nat} {sx : Nat → Int32} {cs : Nat → Nat → Option Int32}
set_option maxRecDepth 100000 in
theorem lc_14 {H H1 H2 : am_H} {k n j a0 b0 a1 b1 : Nat} {u w : List Value} {v : Int32} (hL : sL < 2 ^ 31) (hj : j + 5 < sL) (h0 : am_is H 0 (.inr (11, u))) (h157 : am_is H1 157 (.inr (12, w))) (rA : aX sL sx cs 103 0 [(0, .ref 0), (1, .int (sx (j + 1)))] [] H 0 0 = some (some (.int v), H1, a0, b0)) (rB : aX sL sx cs 312 0 [(0, .ref 157), (1, .int (sx (j + 1)))] [] H1 0 0 = some (some (.int v), H2, a1, b1)) (hc : sx j &&& 63 = 14) :
    aX sL sx cs 417 70 ((4, .int (Int32.ofNat j)) :: [(3, .ref 196), (2, .ref 157), (1, .ref 0), (0, .retAddr 0)]) [.int (sx j &&& 63)] H k n = aX sL sx cs 417 53 ((4, .int (Int32.ofNat j + 6)) :: [(3, .ref 196), (2, .ref 157), (1, .ref 0), (0, .retAddr 0)]) [] H2 (k + a0 + a1) (n + b0 + b1) := by
  rw [hc]
  refine (st_tsw rfl).trans ?_
  refine (st_pc (pc2 := 751) (by decide +kernel)).trans ?_
  refine (am_nb (m := 5) (pc1 := 757) (ls1 := ((4, .int (Int32.ofNat j)) :: [(3, .ref 196), (2, .ref 157), (1, .ref 0), (0, .retAddr 0)])) (st1 := [.int (Int32.ofNat j + 1), .retAddr 0, .ref 0]) (H1 := H) (k1 := k) (n1 := n) (by with_unfolding_all rfl)).trans ?_
  refine (st_sc (d := 1) rfl hL (by omega)).trans ?_
  refine (st_cv1 (as := [.int (sx (j + 1))]) (rest := []) rfl rfl rfl rfl h0 rfl (by with_unfolding_all rfl) (by with_unfolding_all rfl) rA).trans ?_
  refine (am_nb (m := 5) (pc1 := 767) (ls1 := ((4, .int (Int32.ofNat j)) :: [(3, .ref 196), (2, .ref 157), (1, .ref 0), (0, .retAddr 0)])) (st1 := [.int (Int32.ofNat j + 1), .retAddr 0, .ref 157, .int v]) (H1 := H1) (k1 := (k + a0)) (n1 := (n + b0)) (by with_unfolding_all rfl)).trans ?_
  refine (st_sc (d := 1) rfl hL (by omega)).trans ?_
  refine (st_cv1 (as := [.int (sx (j + 1))]) (rest := [.int v]) rfl rfl rfl rfl h157 rfl (by with_unfolding_all rfl) (by with_unfolding_all rfl) rB).trans ?_
  refine (st_icmp rfl).trans ?_
  refine (st_pc (pc2 := 1475) (if_pos rfl)).trans ?_
  exact am_nb (m := 2) (by with_unfolding_all rfl)

set_option maxRecDepth 100000 in
theorem lc_15 {H H1 H2 : am_H} {k n j a0 b0 a1 b1 : Nat} {u w : List Value} {v : Int32} (hL : sL < 2 ^ 31) (hj : j + 5 < sL) (h0 : am_is H 0 (.inr (11, u))) (h157 : am_is H1 157 (.inr (12, w))) (rA : aX sL sx cs 112 0 [(0, .ref 0), (1, .int (sx (j + 1))), (2, .int (sx (j + 2)))] [] H 0 0 = some (some (.int v), H1, a0, b0)) (rB : aX sL sx cs 318 0 [(0, .ref 157), (1, .int (sx (j + 1))), (2, .int (sx (j + 2)))] [] H1 0 0 = some (some (.int v), H2, a1, b1)) (hc : sx j &&& 63 = 15) :
    aX sL sx cs 417 70 ((4, .int (Int32.ofNat j)) :: [(3, .ref 196), (2, .ref 157), (1, .ref 0), (0, .retAddr 0)]) [.int (sx j &&& 63)] H k n = aX sL sx cs 417 53 ((4, .int (Int32.ofNat j + 6)) :: [(3, .ref 196), (2, .ref 157), (1, .ref 0), (0, .retAddr 0)]) [] H2 (k + a0 + a1) (n + b0 + b1) := by
  rw [hc]
  refine (st_tsw rfl).trans ?_
  refine (st_pc (pc2 := 776) (by decide +kernel)).trans ?_
  refine (am_nb (m := 5) (pc1 := 782) (ls1 := ((4, .int (Int32.ofNat j)) :: [(3, .ref 196), (2, .ref 157), (1, .ref 0), (0, .retAddr 0)])) (st1 := [.int (Int32.ofNat j + 1), .retAddr 0, .ref 0]) (H1 := H) (k1 := k) (n1 := n) (by with_unfolding_all rfl)).trans ?_
  refine (st_sc (d := 1) rfl hL (by omega)).trans ?_
  refine (am_nb (m := 4) (pc1 := 788) (ls1 := ((4, .int (Int32.ofNat j)) :: [(3, .ref 196), (2, .ref 157), (1, .ref 0), (0, .retAddr 0)])) (st1 := [.int (Int32.ofNat j + 2), .retAddr 0, .int (sx (j + 1)), .ref 0]) (H1 := H) (k1 := k) (n1 := n) (by with_unfolding_all rfl)).trans ?_
  refine (st_sc (d := 2) rfl hL (by omega)).trans ?_
  refine (st_cv1 (as := [.int (sx (j + 1)), .int (sx (j + 2))]) (rest := []) rfl rfl rfl rfl h0 rfl (by with_unfolding_all rfl) (by with_unfolding_all rfl) rA).trans ?_
  refine (am_nb (m := 5) (pc1 := 798) (ls1 := ((4, .int (Int32.ofNat j)) :: [(3, .ref 196), (2, .ref 157), (1, .ref 0), (0, .retAddr 0)])) (st1 := [.int (Int32.ofNat j + 1), .retAddr 0, .ref 157, .int v]) (H1 := H1) (k1 := (k + a0)) (n1 := (n + b0)) (by with_unfolding_all rfl)).trans ?_
  refine (st_sc (d := 1) rfl hL (by omega)).trans ?_
  refine (am_nb (m := 4) (pc1 := 804) (ls1 := ((4, .int (Int32.ofNat j)) :: [(3, .ref 196), (2, .ref 157), (1, .ref 0), (0, .retAddr 0)])) (st1 := [.int (Int32.ofNat j + 2), .retAddr 0, .int (sx (j + 1)), .ref 157, .int v]) (H1 := H1) (k1 := (k + a0)) (n1 := (n + b0)) (by with_unfolding_all rfl)).trans ?_
  refine (st_sc (d := 2) rfl hL (by omega)).trans ?_
  refine (st_cv1 (as := [.int (sx (j + 1)), .int (sx (j + 2))]) (rest := [.int v]) rfl rfl rfl rfl h157 rfl (by with_unfolding_all rfl) (by with_unfolding_all rfl) rB).trans ?_
  refine (st_icmp rfl).trans ?_
  refine (st_pc (pc2 := 1475) (if_pos rfl)).trans ?_
  exact am_nb (m := 2) (by with_unfolding_all rfl)

set_option maxRecDepth 100000 in
theorem lc_16 {H H1 H2 : am_H} {k n j a0 b0 a1 b1 : Nat} {u w : List Value} {v : Int32} (hL : sL < 2 ^ 31) (hj : j + 5 < sL) (h0 : am_is H 0 (.inr (11, u))) (h157 : am_is H1 157 (.inr (12, w))) (rA : aX sL sx cs 114 0 [(0, .ref 0), (1, .int (sx (j + 1))), (2, .int (sx (j + 2)))] [] H 0 0 = some (some (.int v), H1, a0, b0)) (rB : aX sL sx cs 319 0 [(0, .ref 157), (1, .int (sx (j + 1))), (2, .int (sx (j + 2)))] [] H1 0 0 = some (some (.int v), H2, a1, b1)) (hc : sx j &&& 63 = 16) :
    aX sL sx cs 417 70 ((4, .int (Int32.ofNat j)) :: [(3, .ref 196), (2, .ref 157), (1, .ref 0), (0, .retAddr 0)]) [.int (sx j &&& 63)] H k n = aX sL sx cs 417 53 ((4, .int (Int32.ofNat j + 6)) :: [(3, .ref 196), (2, .ref 157), (1, .ref 0), (0, .retAddr 0)]) [] H2 (k + a0 + a1) (n + b0 + b1) := by
  rw [hc]
  refine (st_tsw rfl).trans ?_
  refine (st_pc (pc2 := 813) (by decide +kernel)).trans ?_
  refine (am_nb (m := 5) (pc1 := 819) (ls1 := ((4, .int (Int32.ofNat j)) :: [(3, .ref 196), (2, .ref 157), (1, .ref 0), (0, .retAddr 0)])) (st1 := [.int (Int32.ofNat j + 1), .retAddr 0, .ref 0]) (H1 := H) (k1 := k) (n1 := n) (by with_unfolding_all rfl)).trans ?_
  refine (st_sc (d := 1) rfl hL (by omega)).trans ?_
  refine (am_nb (m := 4) (pc1 := 825) (ls1 := ((4, .int (Int32.ofNat j)) :: [(3, .ref 196), (2, .ref 157), (1, .ref 0), (0, .retAddr 0)])) (st1 := [.int (Int32.ofNat j + 2), .retAddr 0, .int (sx (j + 1)), .ref 0]) (H1 := H) (k1 := k) (n1 := n) (by with_unfolding_all rfl)).trans ?_
  refine (st_sc (d := 2) rfl hL (by omega)).trans ?_
  refine (st_cv1 (as := [.int (sx (j + 1)), .int (sx (j + 2))]) (rest := []) rfl rfl rfl rfl h0 rfl (by with_unfolding_all rfl) (by with_unfolding_all rfl) rA).trans ?_
  refine (am_nb (m := 5) (pc1 := 835) (ls1 := ((4, .int (Int32.ofNat j)) :: [(3, .ref 196), (2, .ref 157), (1, .ref 0), (0, .retAddr 0)])) (st1 := [.int (Int32.ofNat j + 1), .retAddr 0, .ref 157, .int v]) (H1 := H1) (k1 := (k + a0)) (n1 := (n + b0)) (by with_unfolding_all rfl)).trans ?_
  refine (st_sc (d := 1) rfl hL (by omega)).trans ?_
  refine (am_nb (m := 4) (pc1 := 841) (ls1 := ((4, .int (Int32.ofNat j)) :: [(3, .ref 196), (2, .ref 157), (1, .ref 0), (0, .retAddr 0)])) (st1 := [.int (Int32.ofNat j + 2), .retAddr 0, .int (sx (j + 1)), .ref 157, .int v]) (H1 := H1) (k1 := (k + a0)) (n1 := (n + b0)) (by with_unfolding_all rfl)).trans ?_
  refine (st_sc (d := 2) rfl hL (by omega)).trans ?_
  refine (st_cv1 (as := [.int (sx (j + 1)), .int (sx (j + 2))]) (rest := [.int v]) rfl rfl rfl rfl h157 rfl (by with_unfolding_all rfl) (by with_unfolding_all rfl) rB).trans ?_
  refine (st_icmp rfl).trans ?_
  refine (st_pc (pc2 := 1475) (if_pos rfl)).trans ?_
  exact am_nb (m := 2) (by with_unfolding_all rfl)

set_option maxRecDepth 100000 in
theorem lc_17 {H H1 H2 : am_H} {k n j a0 b0 a1 b1 : Nat} {u w : List Value} {v : Int32} (hL : sL < 2 ^ 31) (hj : j + 5 < sL) (h0 : am_is H 0 (.inr (11, u))) (h157 : am_is H1 157 (.inr (12, w))) (rA : aX sL sx cs 115 0 [(0, .ref 0), (1, .int (sx (j + 1))), (2, .int (sx (j + 2)))] [] H 0 0 = some (some (.int v), H1, a0, b0)) (rB : aX sL sx cs 321 0 [(0, .ref 157), (1, .int (sx (j + 1))), (2, .int (sx (j + 2)))] [] H1 0 0 = some (some (.int v), H2, a1, b1)) (hc : sx j &&& 63 = 17) :
    aX sL sx cs 417 70 ((4, .int (Int32.ofNat j)) :: [(3, .ref 196), (2, .ref 157), (1, .ref 0), (0, .retAddr 0)]) [.int (sx j &&& 63)] H k n = aX sL sx cs 417 53 ((4, .int (Int32.ofNat j + 6)) :: [(3, .ref 196), (2, .ref 157), (1, .ref 0), (0, .retAddr 0)]) [] H2 (k + a0 + a1) (n + b0 + b1) := by
  rw [hc]
  refine (st_tsw rfl).trans ?_
  refine (st_pc (pc2 := 850) (by decide +kernel)).trans ?_
  refine (am_nb (m := 5) (pc1 := 856) (ls1 := ((4, .int (Int32.ofNat j)) :: [(3, .ref 196), (2, .ref 157), (1, .ref 0), (0, .retAddr 0)])) (st1 := [.int (Int32.ofNat j + 1), .retAddr 0, .ref 0]) (H1 := H) (k1 := k) (n1 := n) (by with_unfolding_all rfl)).trans ?_
  refine (st_sc (d := 1) rfl hL (by omega)).trans ?_
  refine (am_nb (m := 4) (pc1 := 862) (ls1 := ((4, .int (Int32.ofNat j)) :: [(3, .ref 196), (2, .ref 157), (1, .ref 0), (0, .retAddr 0)])) (st1 := [.int (Int32.ofNat j + 2), .retAddr 0, .int (sx (j + 1)), .ref 0]) (H1 := H) (k1 := k) (n1 := n) (by with_unfolding_all rfl)).trans ?_
  refine (st_sc (d := 2) rfl hL (by omega)).trans ?_
  refine (st_cv1 (as := [.int (sx (j + 1)), .int (sx (j + 2))]) (rest := []) rfl rfl rfl rfl h0 rfl (by with_unfolding_all rfl) (by with_unfolding_all rfl) rA).trans ?_
  refine (am_nb (m := 5) (pc1 := 872) (ls1 := ((4, .int (Int32.ofNat j)) :: [(3, .ref 196), (2, .ref 157), (1, .ref 0), (0, .retAddr 0)])) (st1 := [.int (Int32.ofNat j + 1), .retAddr 0, .ref 157, .int v]) (H1 := H1) (k1 := (k + a0)) (n1 := (n + b0)) (by with_unfolding_all rfl)).trans ?_
  refine (st_sc (d := 1) rfl hL (by omega)).trans ?_
  refine (am_nb (m := 4) (pc1 := 878) (ls1 := ((4, .int (Int32.ofNat j)) :: [(3, .ref 196), (2, .ref 157), (1, .ref 0), (0, .retAddr 0)])) (st1 := [.int (Int32.ofNat j + 2), .retAddr 0, .int (sx (j + 1)), .ref 157, .int v]) (H1 := H1) (k1 := (k + a0)) (n1 := (n + b0)) (by with_unfolding_all rfl)).trans ?_
  refine (st_sc (d := 2) rfl hL (by omega)).trans ?_
  refine (st_cv1 (as := [.int (sx (j + 1)), .int (sx (j + 2))]) (rest := [.int v]) rfl rfl rfl rfl h157 rfl (by with_unfolding_all rfl) (by with_unfolding_all rfl) rB).trans ?_
  refine (st_icmp rfl).trans ?_
  refine (st_pc (pc2 := 1475) (if_pos rfl)).trans ?_
  exact am_nb (m := 2) (by with_unfolding_all rfl)

set_option maxRecDepth 100000 in
theorem lc_18 {H H1 H2 : am_H} {k n j a0 b0 a1 b1 : Nat} {u w : List Value} {v : Int32} (hL : sL < 2 ^ 31) (hj : j + 5 < sL) (h0 : am_is H 0 (.inr (11, u))) (h157 : am_is H1 157 (.inr (12, w))) (rA : aX sL sx cs 116 0 [(0, .ref 0), (1, .int (sx (j + 1))), (2, .int (sx (j + 2)))] [] H 0 0 = some (some (.int v), H1, a0, b0)) (rB : aX sL sx cs 322 0 [(0, .ref 157), (1, .int (sx (j + 1))), (2, .int (sx (j + 2)))] [] H1 0 0 = some (some (.int v), H2, a1, b1)) (hc : sx j &&& 63 = 18) :
    aX sL sx cs 417 70 ((4, .int (Int32.ofNat j)) :: [(3, .ref 196), (2, .ref 157), (1, .ref 0), (0, .retAddr 0)]) [.int (sx j &&& 63)] H k n = aX sL sx cs 417 53 ((4, .int (Int32.ofNat j + 6)) :: [(3, .ref 196), (2, .ref 157), (1, .ref 0), (0, .retAddr 0)]) [] H2 (k + a0 + a1) (n + b0 + b1) := by
  rw [hc]
  refine (st_tsw rfl).trans ?_
  refine (st_pc (pc2 := 887) (by decide +kernel)).trans ?_
  refine (am_nb (m := 5) (pc1 := 893) (ls1 := ((4, .int (Int32.ofNat j)) :: [(3, .ref 196), (2, .ref 157), (1, .ref 0), (0, .retAddr 0)])) (st1 := [.int (Int32.ofNat j + 1), .retAddr 0, .ref 0]) (H1 := H) (k1 := k) (n1 := n) (by with_unfolding_all rfl)).trans ?_
  refine (st_sc (d := 1) rfl hL (by omega)).trans ?_
  refine (am_nb (m := 4) (pc1 := 899) (ls1 := ((4, .int (Int32.ofNat j)) :: [(3, .ref 196), (2, .ref 157), (1, .ref 0), (0, .retAddr 0)])) (st1 := [.int (Int32.ofNat j + 2), .retAddr 0, .int (sx (j + 1)), .ref 0]) (H1 := H) (k1 := k) (n1 := n) (by with_unfolding_all rfl)).trans ?_
  refine (st_sc (d := 2) rfl hL (by omega)).trans ?_
  refine (st_cv1 (as := [.int (sx (j + 1)), .int (sx (j + 2))]) (rest := []) rfl rfl rfl rfl h0 rfl (by with_unfolding_all rfl) (by with_unfolding_all rfl) rA).trans ?_
  refine (am_nb (m := 5) (pc1 := 909) (ls1 := ((4, .int (Int32.ofNat j)) :: [(3, .ref 196), (2, .ref 157), (1, .ref 0), (0, .retAddr 0)])) (st1 := [.int (Int32.ofNat j + 1), .retAddr 0, .ref 157, .int v]) (H1 := H1) (k1 := (k + a0)) (n1 := (n + b0)) (by with_unfolding_all rfl)).trans ?_
  refine (st_sc (d := 1) rfl hL (by omega)).trans ?_
  refine (am_nb (m := 4) (pc1 := 915) (ls1 := ((4, .int (Int32.ofNat j)) :: [(3, .ref 196), (2, .ref 157), (1, .ref 0), (0, .retAddr 0)])) (st1 := [.int (Int32.ofNat j + 2), .retAddr 0, .int (sx (j + 1)), .ref 157, .int v]) (H1 := H1) (k1 := (k + a0)) (n1 := (n + b0)) (by with_unfolding_all rfl)).trans ?_
  refine (st_sc (d := 2) rfl hL (by omega)).trans ?_
  refine (st_cv1 (as := [.int (sx (j + 1)), .int (sx (j + 2))]) (rest := [.int v]) rfl rfl rfl rfl h157 rfl (by with_unfolding_all rfl) (by with_unfolding_all rfl) rB).trans ?_
  refine (st_icmp rfl).trans ?_
  refine (st_pc (pc2 := 1475) (if_pos rfl)).trans ?_
  exact am_nb (m := 2) (by with_unfolding_all rfl)

set_option maxRecDepth 100000 in
theorem lc_19 {H H1 H2 : am_H} {k n j a0 b0 a1 b1 : Nat} {u w : List Value} {v : Int32} (hL : sL < 2 ^ 31) (hj : j + 5 < sL) (h0 : am_is H 0 (.inr (11, u))) (h157 : am_is H1 157 (.inr (12, w))) (rA : aX sL sx cs 117 0 [(0, .ref 0), (1, .int (sx (j + 1)))] [] H 0 0 = some (some (.int v), H1, a0, b0)) (rB : aX sL sx cs 323 0 [(0, .ref 157), (1, .int (sx (j + 1)))] [] H1 0 0 = some (some (.int v), H2, a1, b1)) (hc : sx j &&& 63 = 19) :
    aX sL sx cs 417 70 ((4, .int (Int32.ofNat j)) :: [(3, .ref 196), (2, .ref 157), (1, .ref 0), (0, .retAddr 0)]) [.int (sx j &&& 63)] H k n = aX sL sx cs 417 53 ((4, .int (Int32.ofNat j + 6)) :: [(3, .ref 196), (2, .ref 157), (1, .ref 0), (0, .retAddr 0)]) [] H2 (k + a0 + a1) (n + b0 + b1) := by
  rw [hc]
  refine (st_tsw rfl).trans ?_
  refine (st_pc (pc2 := 924) (by decide +kernel)).trans ?_
  refine (am_nb (m := 5) (pc1 := 930) (ls1 := ((4, .int (Int32.ofNat j)) :: [(3, .ref 196), (2, .ref 157), (1, .ref 0), (0, .retAddr 0)])) (st1 := [.int (Int32.ofNat j + 1), .retAddr 0, .ref 0]) (H1 := H) (k1 := k) (n1 := n) (by with_unfolding_all rfl)).trans ?_
  refine (st_sc (d := 1) rfl hL (by omega)).trans ?_
  refine (st_cv1 (as := [.int (sx (j + 1))]) (rest := []) rfl rfl rfl rfl h0 rfl (by with_unfolding_all rfl) (by with_unfolding_all rfl) rA).trans ?_
  refine (am_nb (m := 5) (pc1 := 940) (ls1 := ((4, .int (Int32.ofNat j)) :: [(3, .ref 196), (2, .ref 157), (1, .ref 0), (0, .retAddr 0)])) (st1 := [.int (Int32.ofNat j + 1), .retAddr 0, .ref 157, .int v]) (H1 := H1) (k1 := (k + a0)) (n1 := (n + b0)) (by with_unfolding_all rfl)).trans ?_
  refine (st_sc (d := 1) rfl hL (by omega)).trans ?_
  refine (st_cv1 (as := [.int (sx (j + 1))]) (rest := [.int v]) rfl rfl rfl rfl h157 rfl (by with_unfolding_all rfl) (by with_unfolding_all rfl) rB).trans ?_
  refine (st_icmp rfl).trans ?_
  refine (st_pc (pc2 := 1475) (if_pos rfl)).trans ?_
  exact am_nb (m := 2) (by with_unfolding_all rfl)

set_option maxRecDepth 100000 in
theorem lc_20 {H H1 H2 : am_H} {k n j a0 b0 a1 b1 : Nat} {u w : List Value} {v : Int32} (hL : sL < 2 ^ 31) (hj : j + 5 < sL) (h0 : am_is H 0 (.inr (11, u))) (h157 : am_is H1 157 (.inr (12, w))) (rA : aX sL sx cs 119 0 [(0, .ref 0), (1, .int (sx (j + 1))), (2, .int (sx (j + 2))), (3, .int (sx (j + 3)))] [] H 0 0 = some (some (.int v), H1, a0, b0)) (rB : aX sL sx cs 324 0 [(0, .ref 157), (1, .int (sx (j + 1))), (2, .int (sx (j + 2))), (3, .int (sx (j + 3)))] [] H1 0 0 = some (some (.int v), H2, a1, b1)) (hc : sx j &&& 63 = 20) :
    aX sL sx cs 417 70 ((4, .int (Int32.ofNat j)) :: [(3, .ref 196), (2, .ref 157), (1, .ref 0), (0, .retAddr 0)]) [.int (sx j &&& 63)] H k n = aX sL sx cs 417 53 ((4, .int (Int32.ofNat j + 6)) :: [(3, .ref 196), (2, .ref 157), (1, .ref 0), (0, .retAddr 0)]) [] H2 (k + a0 + a1) (n + b0 + b1) := by
  rw [hc]
  refine (st_tsw rfl).trans ?_
  refine (st_pc (pc2 := 949) (by decide +kernel)).trans ?_
  refine (am_nb (m := 5) (pc1 := 955) (ls1 := ((4, .int (Int32.ofNat j)) :: [(3, .ref 196), (2, .ref 157), (1, .ref 0), (0, .retAddr 0)])) (st1 := [.int (Int32.ofNat j + 1), .retAddr 0, .ref 0]) (H1 := H) (k1 := k) (n1 := n) (by with_unfolding_all rfl)).trans ?_
  refine (st_sc (d := 1) rfl hL (by omega)).trans ?_
  refine (am_nb (m := 4) (pc1 := 961) (ls1 := ((4, .int (Int32.ofNat j)) :: [(3, .ref 196), (2, .ref 157), (1, .ref 0), (0, .retAddr 0)])) (st1 := [.int (Int32.ofNat j + 2), .retAddr 0, .int (sx (j + 1)), .ref 0]) (H1 := H) (k1 := k) (n1 := n) (by with_unfolding_all rfl)).trans ?_
  refine (st_sc (d := 2) rfl hL (by omega)).trans ?_
  refine (am_nb (m := 4) (pc1 := 967) (ls1 := ((4, .int (Int32.ofNat j)) :: [(3, .ref 196), (2, .ref 157), (1, .ref 0), (0, .retAddr 0)])) (st1 := [.int (Int32.ofNat j + 3), .retAddr 0, .int (sx (j + 2)), .int (sx (j + 1)), .ref 0]) (H1 := H) (k1 := k) (n1 := n) (by with_unfolding_all rfl)).trans ?_
  refine (st_sc (d := 3) rfl hL (by omega)).trans ?_
  refine (st_cv1 (as := [.int (sx (j + 1)), .int (sx (j + 2)), .int (sx (j + 3))]) (rest := []) rfl rfl rfl rfl h0 rfl (by with_unfolding_all rfl) (by with_unfolding_all rfl) rA).trans ?_
  refine (am_nb (m := 5) (pc1 := 977) (ls1 := ((4, .int (Int32.ofNat j)) :: [(3, .ref 196), (2, .ref 157), (1, .ref 0), (0, .retAddr 0)])) (st1 := [.int (Int32.ofNat j + 1), .retAddr 0, .ref 157, .int v]) (H1 := H1) (k1 := (k + a0)) (n1 := (n + b0)) (by with_unfolding_all rfl)).trans ?_
  refine (st_sc (d := 1) rfl hL (by omega)).trans ?_
  refine (am_nb (m := 4) (pc1 := 983) (ls1 := ((4, .int (Int32.ofNat j)) :: [(3, .ref 196), (2, .ref 157), (1, .ref 0), (0, .retAddr 0)])) (st1 := [.int (Int32.ofNat j + 2), .retAddr 0, .int (sx (j + 1)), .ref 157, .int v]) (H1 := H1) (k1 := (k + a0)) (n1 := (n + b0)) (by with_unfolding_all rfl)).trans ?_
  refine (st_sc (d := 2) rfl hL (by omega)).trans ?_
  refine (am_nb (m := 4) (pc1 := 989) (ls1 := ((4, .int (Int32.ofNat j)) :: [(3, .ref 196), (2, .ref 157), (1, .ref 0), (0, .retAddr 0)])) (st1 := [.int (Int32.ofNat j + 3), .retAddr 0, .int (sx (j + 2)), .int (sx (j + 1)), .ref 157, .int v]) (H1 := H1) (k1 := (k + a0)) (n1 := (n + b0)) (by with_unfolding_all rfl)).trans ?_
  refine (st_sc (d := 3) rfl hL (by omega)).trans ?_
  refine (st_cv1 (as := [.int (sx (j + 1)), .int (sx (j + 2)), .int (sx (j + 3))]) (rest := [.int v]) rfl rfl rfl rfl h157 rfl (by with_unfolding_all rfl) (by with_unfolding_all rfl) rB).trans ?_
  refine (st_icmp rfl).trans ?_
  refine (st_pc (pc2 := 1475) (if_pos rfl)).trans ?_
  exact am_nb (m := 2) (by with_unfolding_all rfl)

set_option maxRecDepth 100000 in
theorem lc_21 {H H1 H2 : am_H} {k n j a0 b0 a1 b1 : Nat} {u w : List Value} {v : Int32} (hL : sL < 2 ^ 31) (hj : j + 5 < sL) (h0 : am_is H 0 (.inr (11, u))) (h157 : am_is H1 157 (.inr (12, w))) (rA : aX sL sx cs 121 0 [(0, .ref 0), (1, .int (sx (j + 1))), (2, .int (sx (j + 2)))] [] H 0 0 = some (some (.int v), H1, a0, b0)) (rB : aX sL sx cs 325 0 [(0, .ref 157), (1, .int (sx (j + 1))), (2, .int (sx (j + 2)))] [] H1 0 0 = some (some (.int v), H2, a1, b1)) (hc : sx j &&& 63 = 21) :
    aX sL sx cs 417 70 ((4, .int (Int32.ofNat j)) :: [(3, .ref 196), (2, .ref 157), (1, .ref 0), (0, .retAddr 0)]) [.int (sx j &&& 63)] H k n = aX sL sx cs 417 53 ((4, .int (Int32.ofNat j + 6)) :: [(3, .ref 196), (2, .ref 157), (1, .ref 0), (0, .retAddr 0)]) [] H2 (k + a0 + a1) (n + b0 + b1) := by
  rw [hc]
  refine (st_tsw rfl).trans ?_
  refine (st_pc (pc2 := 998) (by decide +kernel)).trans ?_
  refine (am_nb (m := 5) (pc1 := 1004) (ls1 := ((4, .int (Int32.ofNat j)) :: [(3, .ref 196), (2, .ref 157), (1, .ref 0), (0, .retAddr 0)])) (st1 := [.int (Int32.ofNat j + 1), .retAddr 0, .ref 0]) (H1 := H) (k1 := k) (n1 := n) (by with_unfolding_all rfl)).trans ?_
  refine (st_sc (d := 1) rfl hL (by omega)).trans ?_
  refine (am_nb (m := 4) (pc1 := 1010) (ls1 := ((4, .int (Int32.ofNat j)) :: [(3, .ref 196), (2, .ref 157), (1, .ref 0), (0, .retAddr 0)])) (st1 := [.int (Int32.ofNat j + 2), .retAddr 0, .int (sx (j + 1)), .ref 0]) (H1 := H) (k1 := k) (n1 := n) (by with_unfolding_all rfl)).trans ?_
  refine (st_sc (d := 2) rfl hL (by omega)).trans ?_
  refine (st_cv1 (as := [.int (sx (j + 1)), .int (sx (j + 2))]) (rest := []) rfl rfl rfl rfl h0 rfl (by with_unfolding_all rfl) (by with_unfolding_all rfl) rA).trans ?_
  refine (am_nb (m := 5) (pc1 := 1020) (ls1 := ((4, .int (Int32.ofNat j)) :: [(3, .ref 196), (2, .ref 157), (1, .ref 0), (0, .retAddr 0)])) (st1 := [.int (Int32.ofNat j + 1), .retAddr 0, .ref 157, .int v]) (H1 := H1) (k1 := (k + a0)) (n1 := (n + b0)) (by with_unfolding_all rfl)).trans ?_
  refine (st_sc (d := 1) rfl hL (by omega)).trans ?_
  refine (am_nb (m := 4) (pc1 := 1026) (ls1 := ((4, .int (Int32.ofNat j)) :: [(3, .ref 196), (2, .ref 157), (1, .ref 0), (0, .retAddr 0)])) (st1 := [.int (Int32.ofNat j + 2), .retAddr 0, .int (sx (j + 1)), .ref 157, .int v]) (H1 := H1) (k1 := (k + a0)) (n1 := (n + b0)) (by with_unfolding_all rfl)).trans ?_
  refine (st_sc (d := 2) rfl hL (by omega)).trans ?_
  refine (st_cv1 (as := [.int (sx (j + 1)), .int (sx (j + 2))]) (rest := [.int v]) rfl rfl rfl rfl h157 rfl (by with_unfolding_all rfl) (by with_unfolding_all rfl) rB).trans ?_
  refine (st_icmp rfl).trans ?_
  refine (st_pc (pc2 := 1475) (if_pos rfl)).trans ?_
  exact am_nb (m := 2) (by with_unfolding_all rfl)

set_option maxRecDepth 100000 in
theorem lc_22 {H H1 H2 : am_H} {k n j a0 b0 a1 b1 : Nat} {u w : List Value} {v : Int32} (hL : sL < 2 ^ 31) (hj : j + 5 < sL) (h0 : am_is H 0 (.inr (11, u))) (h157 : am_is H1 157 (.inr (12, w))) (rA : aX sL sx cs 123 0 [(0, .ref 0), (1, .int (sx (j + 1)))] [] H 0 0 = some (some (.int v), H1, a0, b0)) (rB : aX sL sx cs 326 0 [(0, .ref 157), (1, .int (sx (j + 1)))] [] H1 0 0 = some (some (.int v), H2, a1, b1)) (hc : sx j &&& 63 = 22) :
    aX sL sx cs 417 70 ((4, .int (Int32.ofNat j)) :: [(3, .ref 196), (2, .ref 157), (1, .ref 0), (0, .retAddr 0)]) [.int (sx j &&& 63)] H k n = aX sL sx cs 417 53 ((4, .int (Int32.ofNat j + 6)) :: [(3, .ref 196), (2, .ref 157), (1, .ref 0), (0, .retAddr 0)]) [] H2 (k + a0 + a1) (n + b0 + b1) := by
  rw [hc]
  refine (st_tsw rfl).trans ?_
  refine (st_pc (pc2 := 1035) (by decide +kernel)).trans ?_
  refine (am_nb (m := 5) (pc1 := 1041) (ls1 := ((4, .int (Int32.ofNat j)) :: [(3, .ref 196), (2, .ref 157), (1, .ref 0), (0, .retAddr 0)])) (st1 := [.int (Int32.ofNat j + 1), .retAddr 0, .ref 0]) (H1 := H) (k1 := k) (n1 := n) (by with_unfolding_all rfl)).trans ?_
  refine (st_sc (d := 1) rfl hL (by omega)).trans ?_
  refine (st_cv1 (as := [.int (sx (j + 1))]) (rest := []) rfl rfl rfl rfl h0 rfl (by with_unfolding_all rfl) (by with_unfolding_all rfl) rA).trans ?_
  refine (am_nb (m := 5) (pc1 := 1051) (ls1 := ((4, .int (Int32.ofNat j)) :: [(3, .ref 196), (2, .ref 157), (1, .ref 0), (0, .retAddr 0)])) (st1 := [.int (Int32.ofNat j + 1), .retAddr 0, .ref 157, .int v]) (H1 := H1) (k1 := (k + a0)) (n1 := (n + b0)) (by with_unfolding_all rfl)).trans ?_
  refine (st_sc (d := 1) rfl hL (by omega)).trans ?_
  refine (st_cv1 (as := [.int (sx (j + 1))]) (rest := [.int v]) rfl rfl rfl rfl h157 rfl (by with_unfolding_all rfl) (by with_unfolding_all rfl) rB).trans ?_
  refine (st_icmp rfl).trans ?_
  refine (st_pc (pc2 := 1475) (if_pos rfl)).trans ?_
  exact am_nb (m := 2) (by with_unfolding_all rfl)

set_option maxRecDepth 100000 in
theorem lc_23 {H H1 H2 : am_H} {k n j a0 b0 a1 b1 : Nat} {u w : List Value} {v : Int32} (hL : sL < 2 ^ 31) (hj : j + 5 < sL) (h0 : am_is H 0 (.inr (11, u))) (h157 : am_is H1 157 (.inr (12, w))) (rA : aX sL sx cs 125 0 [(0, .ref 0)] [] H 0 0 = some (some (.int v), H1, a0, b0)) (rB : aX sL sx cs 331 0 [(0, .ref 157)] [] H1 0 0 = some (some (.int v), H2, a1, b1)) (hc : sx j &&& 63 = 23) :
    aX sL sx cs 417 70 ((4, .int (Int32.ofNat j)) :: [(3, .ref 196), (2, .ref 157), (1, .ref 0), (0, .retAddr 0)]) [.int (sx j &&& 63)] H k n = aX sL sx cs 417 53 ((4, .int (Int32.ofNat j + 6)) :: [(3, .ref 196), (2, .ref 157), (1, .ref 0), (0, .retAddr 0)]) [] H2 (k + a0 + a1) (n + b0 + b1) := by
  rw [hc]
  refine (st_tsw rfl).trans ?_
  refine (st_pc (pc2 := 1060) (by decide +kernel)).trans ?_
  refine (am_nb (m := 1) (pc1 := 1061) (ls1 := ((4, .int (Int32.ofNat j)) :: [(3, .ref 196), (2, .ref 157), (1, .ref 0), (0, .retAddr 0)])) (st1 := [.ref 0]) (H1 := H) (k1 := k) (n1 := n) (by with_unfolding_all rfl)).trans ?_
  refine (st_cv1 (as := []) (rest := []) rfl rfl rfl rfl h0 rfl (by with_unfolding_all rfl) (by with_unfolding_all rfl) rA).trans ?_
  refine (am_nb (m := 1) (pc1 := 1065) (ls1 := ((4, .int (Int32.ofNat j)) :: [(3, .ref 196), (2, .ref 157), (1, .ref 0), (0, .retAddr 0)])) (st1 := [.ref 157, .int v]) (H1 := H1) (k1 := (k + a0)) (n1 := (n + b0)) (by with_unfolding_all rfl)).trans ?_
  refine (st_cv1 (as := []) (rest := [.int v]) rfl rfl rfl rfl h157 rfl (by with_unfolding_all rfl) (by with_unfolding_all rfl) rB).trans ?_
  refine (st_icmp rfl).trans ?_
  refine (st_pc (pc2 := 1475) (if_pos rfl)).trans ?_
  exact am_nb (m := 2) (by with_unfolding_all rfl)

set_option maxRecDepth 100000 in
theorem lc_24 {H H1 H2 : am_H} {k n j a0 b0 a1 b1 : Nat} {u w : List Value} {v : Int32} (hL : sL < 2 ^ 31) (hj : j + 5 < sL) (h0 : am_is H 0 (.inr (11, u))) (h157 : am_is H1 157 (.inr (12, w))) (rA : aX sL sx cs 157 0 [(0, .ref 0)] [] H 0 0 = some (some (.int v), H1, a0, b0)) (rB : aX sL sx cs 327 0 [(0, .ref 157)] [] H1 0 0 = some (some (.int v), H2, a1, b1)) (hc : sx j &&& 63 = 24) :
    aX sL sx cs 417 70 ((4, .int (Int32.ofNat j)) :: [(3, .ref 196), (2, .ref 157), (1, .ref 0), (0, .retAddr 0)]) [.int (sx j &&& 63)] H k n = aX sL sx cs 417 53 ((4, .int (Int32.ofNat j + 6)) :: [(3, .ref 196), (2, .ref 157), (1, .ref 0), (0, .retAddr 0)]) [] H2 (k + a0 + a1) (n + b0 + b1) := by
  rw [hc]
  refine (st_tsw rfl).trans ?_
  refine (st_pc (pc2 := 1073) (by decide +kernel)).trans ?_
  refine (am_nb (m := 1) (pc1 := 1074) (ls1 := ((4, .int (Int32.ofNat j)) :: [(3, .ref 196), (2, .ref 157), (1, .ref 0), (0, .retAddr 0)])) (st1 := [.ref 0]) (H1 := H) (k1 := k) (n1 := n) (by with_unfolding_all rfl)).trans ?_
  refine (st_cv1 (as := []) (rest := []) rfl rfl rfl rfl h0 rfl (by with_unfolding_all rfl) (by with_unfolding_all rfl) rA).trans ?_
  refine (am_nb (m := 1) (pc1 := 1078) (ls1 := ((4, .int (Int32.ofNat j)) :: [(3, .ref 196), (2, .ref 157), (1, .ref 0), (0, .retAddr 0)])) (st1 := [.ref 157, .int v]) (H1 := H1) (k1 := (k + a0)) (n1 := (n + b0)) (by with_unfolding_all rfl)).trans ?_
  refine (st_cv1 (as := []) (rest := [.int v]) rfl rfl rfl rfl h157 rfl (by with_unfolding_all rfl) (by with_unfolding_all rfl) rB).trans ?_
  refine (st_icmp rfl).trans ?_
  refine (st_pc (pc2 := 1475) (if_pos rfl)).trans ?_
  exact am_nb (m := 2) (by with_unfolding_all rfl)

set_option maxRecDepth 100000 in
theorem lc_25 {H H1 H2 : am_H} {k n j a0 b0 a1 b1 : Nat} {u w : List Value} {v : Int32} (hL : sL < 2 ^ 31) (hj : j + 5 < sL) (h0 : am_is H 0 (.inr (11, u))) (h157 : am_is H1 157 (.inr (12, w))) (rA : aX sL sx cs 158 0 [(0, .ref 0), (1, .int (sx (j + 1))), (2, .int (sx (j + 2)))] [] H 0 0 = some (some (.int v), H1, a0, b0)) (rB : aX sL sx cs 328 0 [(0, .ref 157), (1, .int (sx (j + 1))), (2, .int (sx (j + 2)))] [] H1 0 0 = some (some (.int v), H2, a1, b1)) (hc : sx j &&& 63 = 25) :
    aX sL sx cs 417 70 ((4, .int (Int32.ofNat j)) :: [(3, .ref 196), (2, .ref 157), (1, .ref 0), (0, .retAddr 0)]) [.int (sx j &&& 63)] H k n = aX sL sx cs 417 53 ((4, .int (Int32.ofNat j + 6)) :: [(3, .ref 196), (2, .ref 157), (1, .ref 0), (0, .retAddr 0)]) [] H2 (k + a0 + a1) (n + b0 + b1) := by
  rw [hc]
  refine (st_tsw rfl).trans ?_
  refine (st_pc (pc2 := 1086) (by decide +kernel)).trans ?_
  refine (am_nb (m := 5) (pc1 := 1092) (ls1 := ((4, .int (Int32.ofNat j)) :: [(3, .ref 196), (2, .ref 157), (1, .ref 0), (0, .retAddr 0)])) (st1 := [.int (Int32.ofNat j + 1), .retAddr 0, .ref 0]) (H1 := H) (k1 := k) (n1 := n) (by with_unfolding_all rfl)).trans ?_
  refine (st_sc (d := 1) rfl hL (by omega)).trans ?_
  refine (am_nb (m := 4) (pc1 := 1098) (ls1 := ((4, .int (Int32.ofNat j)) :: [(3, .ref 196), (2, .ref 157), (1, .ref 0), (0, .retAddr 0)])) (st1 := [.int (Int32.ofNat j + 2), .retAddr 0, .int (sx (j + 1)), .ref 0]) (H1 := H) (k1 := k) (n1 := n) (by with_unfolding_all rfl)).trans ?_
  refine (st_sc (d := 2) rfl hL (by omega)).trans ?_
  refine (st_cv1 (as := [.int (sx (j + 1)), .int (sx (j + 2))]) (rest := []) rfl rfl rfl rfl h0 rfl (by with_unfolding_all rfl) (by with_unfolding_all rfl) rA).trans ?_
  refine (am_nb (m := 5) (pc1 := 1108) (ls1 := ((4, .int (Int32.ofNat j)) :: [(3, .ref 196), (2, .ref 157), (1, .ref 0), (0, .retAddr 0)])) (st1 := [.int (Int32.ofNat j + 1), .retAddr 0, .ref 157, .int v]) (H1 := H1) (k1 := (k + a0)) (n1 := (n + b0)) (by with_unfolding_all rfl)).trans ?_
  refine (st_sc (d := 1) rfl hL (by omega)).trans ?_
  refine (am_nb (m := 4) (pc1 := 1114) (ls1 := ((4, .int (Int32.ofNat j)) :: [(3, .ref 196), (2, .ref 157), (1, .ref 0), (0, .retAddr 0)])) (st1 := [.int (Int32.ofNat j + 2), .retAddr 0, .int (sx (j + 1)), .ref 157, .int v]) (H1 := H1) (k1 := (k + a0)) (n1 := (n + b0)) (by with_unfolding_all rfl)).trans ?_
  refine (st_sc (d := 2) rfl hL (by omega)).trans ?_
  refine (st_cv1 (as := [.int (sx (j + 1)), .int (sx (j + 2))]) (rest := [.int v]) rfl rfl rfl rfl h157 rfl (by with_unfolding_all rfl) (by with_unfolding_all rfl) rB).trans ?_
  refine (st_icmp rfl).trans ?_
  refine (st_pc (pc2 := 1475) (if_pos rfl)).trans ?_
  exact am_nb (m := 2) (by with_unfolding_all rfl)

end CASE
