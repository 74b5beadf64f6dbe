/-! The law's cases. -/
section CASE
variable {sL : Nat} {sx : Nat → Int32} {cs : Nat → Nat → Option Int32}
set_option maxRecDepth 100000 in
theorem lc_1 {H H1 H2 : am_H} {k n j a0 b0 a1 b1 : Nat} {u w : List Value} {v : Int32} (hL : sL < 2 ^ 31) (hj : j + 5 < sL) (h0 : am_is H 0 (.inr (11, u))) (h157 : am_is H1 157 (.inr (12, w))) (rA : aX sL sx cs 21 0 [(0, .ref 0), (1, .int (sx (j + 1)))] [] H 0 0 = some (some (.int v), H1, a0, b0)) (rB : aX sL sx cs 262 0 [(0, .ref 157), (1, .int (sx (j + 1)))] [] H1 0 0 = some (some (.int v), H2, a1, b1)) (hc : sx j &&& 63 = 1) :
    aX sL sx cs 417 70 ((4, .int (Int32.ofNat j)) :: [(3, .ref 196), (2, .ref 157), (1, .ref 0), (0, .retAddr 0)]) [.int (sx j &&& 63)] H k n = aX sL sx cs 417 53 ((4, .int (Int32.ofNat j + 6)) :: [(3, .ref 196), (2, .ref 157), (1, .ref 0), (0, .retAddr 0)]) [] H2 (k + a0 + a1) (n + b0 + b1) := by
  rw [hc]
  refine (st_tsw rfl).trans ?_
  refine (st_pc (pc2 := 309) (by decide +kernel)).trans ?_
  refine (am_nb (m := 5) (pc1 := 315) (ls1 := ((4, .int (Int32.ofNat j)) :: [(3, .ref 196), (2, .ref 157), (1, .ref 0), (0, .retAddr 0)])) (st1 := [.int (Int32.ofNat j + 1), .retAddr 0, .ref 0]) (H1 := H) (k1 := k) (n1 := n) (by with_unfolding_all rfl)).trans ?_
  refine (st_sc (d := 1) rfl hL (by omega)).trans ?_
  refine (st_cv1 (as := [.int (sx (j + 1))]) (rest := []) rfl rfl rfl rfl h0 rfl (by with_unfolding_all rfl) (by with_unfolding_all rfl) rA).trans ?_
  refine (am_nb (m := 5) (pc1 := 325) (ls1 := ((4, .int (Int32.ofNat j)) :: [(3, .ref 196), (2, .ref 157), (1, .ref 0), (0, .retAddr 0)])) (st1 := [.int (Int32.ofNat j + 1), .retAddr 0, .ref 157, .int v]) (H1 := H1) (k1 := (k + a0)) (n1 := (n + b0)) (by with_unfolding_all rfl)).trans ?_
  refine (st_sc (d := 1) rfl hL (by omega)).trans ?_
  refine (st_cv1 (as := [.int (sx (j + 1))]) (rest := [.int v]) rfl rfl rfl rfl h157 rfl (by with_unfolding_all rfl) (by with_unfolding_all rfl) rB).trans ?_
  refine (st_icmp rfl).trans ?_
  refine (st_pc (pc2 := 1475) (if_pos rfl)).trans ?_
  exact am_nb (m := 2) (by with_unfolding_all rfl)

set_option maxRecDepth 100000 in
theorem lc_3 {H H1 H2 : am_H} {k n j a0 b0 a1 b1 : Nat} {u w : List Value} {v : Int32} (hL : sL < 2 ^ 31) (hj : j + 5 < sL) (h0 : am_is H 0 (.inr (11, u))) (h157 : am_is H1 157 (.inr (12, w))) (rA : aX sL sx cs 22 0 [(0, .ref 0)] [] H 0 0 = some (some (.int v), H1, a0, b0)) (rB : aX sL sx cs 264 0 [(0, .ref 157)] [] H1 0 0 = some (some (.int v), H2, a1, b1)) (hc : sx j &&& 63 = 3) :
    aX sL sx cs 417 70 ((4, .int (Int32.ofNat j)) :: [(3, .ref 196), (2, .ref 157), (1, .ref 0), (0, .retAddr 0)]) [.int (sx j &&& 63)] H k n = aX sL sx cs 417 53 ((4, .int (Int32.ofNat j + 6)) :: [(3, .ref 196), (2, .ref 157), (1, .ref 0), (0, .retAddr 0)]) [] H2 (k + a0 + a1) (n + b0 + b1) := by
  rw [hc]
  refine (st_tsw rfl).trans ?_
  refine (st_pc (pc2 := 390) (by decide +kernel)).trans ?_
  refine (am_nb (m := 1) (pc1 := 391) (ls1 := ((4, .int (Int32.ofNat j)) :: [(3, .ref 196), (2, .ref 157), (1, .ref 0), (0, .retAddr 0)])) (st1 := [.ref 0]) (H1 := H) (k1 := k) (n1 := n) (by with_unfolding_all rfl)).trans ?_
  refine (st_cv1 (as := []) (rest := []) rfl rfl rfl rfl h0 rfl (by with_unfolding_all rfl) (by with_unfolding_all rfl) rA).trans ?_
  refine (am_nb (m := 1) (pc1 := 395) (ls1 := ((4, .int (Int32.ofNat j)) :: [(3, .ref 196), (2, .ref 157), (1, .ref 0), (0, .retAddr 0)])) (st1 := [.ref 157, .int v]) (H1 := H1) (k1 := (k + a0)) (n1 := (n + b0)) (by with_unfolding_all rfl)).trans ?_
  refine (st_cv1 (as := []) (rest := [.int v]) rfl rfl rfl rfl h157 rfl (by with_unfolding_all rfl) (by with_unfolding_all rfl) rB).trans ?_
  refine (st_icmp rfl).trans ?_
  refine (st_pc (pc2 := 1475) (if_pos rfl)).trans ?_
  exact am_nb (m := 2) (by with_unfolding_all rfl)

set_option maxRecDepth 100000 in
theorem lc_4 {H H1 H2 : am_H} {k n j a0 b0 a1 b1 : Nat} {u w : List Value} {v : Int32} (hL : sL < 2 ^ 31) (hj : j + 5 < sL) (h0 : am_is H 0 (.inr (11, u))) (h157 : am_is H1 157 (.inr (12, w))) (rA : aX sL sx cs 70 0 [(0, .ref 0), (1, .int (sx (j + 1)))] [] H 0 0 = some (some (.int v), H1, a0, b0)) (rB : aX sL sx cs 292 0 [(0, .ref 157), (1, .int (sx (j + 1)))] [] H1 0 0 = some (some (.int v), H2, a1, b1)) (hc : sx j &&& 63 = 4) :
    aX sL sx cs 417 70 ((4, .int (Int32.ofNat j)) :: [(3, .ref 196), (2, .ref 157), (1, .ref 0), (0, .retAddr 0)]) [.int (sx j &&& 63)] H k n = aX sL sx cs 417 53 ((4, .int (Int32.ofNat j + 6)) :: [(3, .ref 196), (2, .ref 157), (1, .ref 0), (0, .retAddr 0)]) [] H2 (k + a0 + a1) (n + b0 + b1) := by
  rw [hc]
  refine (st_tsw rfl).trans ?_
  refine (st_pc (pc2 := 403) (by decide +kernel)).trans ?_
  refine (am_nb (m := 5) (pc1 := 409) (ls1 := ((4, .int (Int32.ofNat j)) :: [(3, .ref 196), (2, .ref 157), (1, .ref 0), (0, .retAddr 0)])) (st1 := [.int (Int32.ofNat j + 1), .retAddr 0, .ref 0]) (H1 := H) (k1 := k) (n1 := n) (by with_unfolding_all rfl)).trans ?_
  refine (st_sc (d := 1) rfl hL (by omega)).trans ?_
  refine (st_cv1 (as := [.int (sx (j + 1))]) (rest := []) rfl rfl rfl rfl h0 rfl (by with_unfolding_all rfl) (by with_unfolding_all rfl) rA).trans ?_
  refine (am_nb (m := 5) (pc1 := 419) (ls1 := ((4, .int (Int32.ofNat j)) :: [(3, .ref 196), (2, .ref 157), (1, .ref 0), (0, .retAddr 0)])) (st1 := [.int (Int32.ofNat j + 1), .retAddr 0, .ref 157, .int v]) (H1 := H1) (k1 := (k + a0)) (n1 := (n + b0)) (by with_unfolding_all rfl)).trans ?_
  refine (st_sc (d := 1) rfl hL (by omega)).trans ?_
  refine (st_cv1 (as := [.int (sx (j + 1))]) (rest := [.int v]) rfl rfl rfl rfl h157 rfl (by with_unfolding_all rfl) (by with_unfolding_all rfl) rB).trans ?_
  refine (st_icmp rfl).trans ?_
  refine (st_pc (pc2 := 1475) (if_pos rfl)).trans ?_
  exact am_nb (m := 2) (by with_unfolding_all rfl)

set_option maxRecDepth 100000 in
theorem lc_5 {H H1 H2 : am_H} {k n j a0 b0 a1 b1 : Nat} {u w : List Value} {v : Int32} (hL : sL < 2 ^ 31) (hj : j + 5 < sL) (h0 : am_is H 0 (.inr (11, u))) (h157 : am_is H1 157 (.inr (12, w))) (rA : aX sL sx cs 71 0 [(0, .ref 0)] [] H 0 0 = some (some (.int v), H1, a0, b0)) (rB : aX sL sx cs 293 0 [(0, .ref 157)] [] H1 0 0 = some (some (.int v), H2, a1, b1)) (hc : sx j &&& 63 = 5) :
    aX sL sx cs 417 70 ((4, .int (Int32.ofNat j)) :: [(3, .ref 196), (2, .ref 157), (1, .ref 0), (0, .retAddr 0)]) [.int (sx j &&& 63)] H k n = aX sL sx cs 417 53 ((4, .int (Int32.ofNat j + 6)) :: [(3, .ref 196), (2, .ref 157), (1, .ref 0), (0, .retAddr 0)]) [] H2 (k + a0 + a1) (n + b0 + b1) := by
  rw [hc]
  refine (st_tsw rfl).trans ?_
  refine (st_pc (pc2 := 428) (by decide +kernel)).trans ?_
  refine (am_nb (m := 1) (pc1 := 429) (ls1 := ((4, .int (Int32.ofNat j)) :: [(3, .ref 196), (2, .ref 157), (1, .ref 0), (0, .retAddr 0)])) (st1 := [.ref 0]) (H1 := H) (k1 := k) (n1 := n) (by with_unfolding_all rfl)).trans ?_
  refine (st_cv1 (as := []) (rest := []) rfl rfl rfl rfl h0 rfl (by with_unfolding_all rfl) (by with_unfolding_all rfl) rA).trans ?_
  refine (am_nb (m := 1) (pc1 := 433) (ls1 := ((4, .int (Int32.ofNat j)) :: [(3, .ref 196), (2, .ref 157), (1, .ref 0), (0, .retAddr 0)])) (st1 := [.ref 157, .int v]) (H1 := H1) (k1 := (k + a0)) (n1 := (n + b0)) (by with_unfolding_all rfl)).trans ?_
  refine (st_cv1 (as := []) (rest := [.int v]) rfl rfl rfl rfl h157 rfl (by with_unfolding_all rfl) (by with_unfolding_all rfl) rB).trans ?_
  refine (st_icmp rfl).trans ?_
  refine (st_pc (pc2 := 1475) (if_pos rfl)).trans ?_
  exact am_nb (m := 2) (by with_unfolding_all rfl)

set_option maxRecDepth 100000 in
theorem lc_6 {H H1 H2 : am_H} {k n j a0 b0 a1 b1 : Nat} {u w : List Value} (hL : sL < 2 ^ 31) (hj : j + 5 < sL) (h0 : am_is H 0 (.inr (11, u))) (h157 : am_is H1 157 (.inr (12, w))) (rA : aX sL sx cs 91 0 [(0, .ref 0)] [] H 0 0 = some (none, H1, a0, b0)) (rB : aX sL sx cs 294 0 [(0, .ref 157)] [] H1 0 0 = some (none, H2, a1, b1)) (hc : sx j &&& 63 = 6) :
    aX sL sx cs 417 70 ((4, .int (Int32.ofNat j)) :: [(3, .ref 196), (2, .ref 157), (1, .ref 0), (0, .retAddr 0)]) [.int (sx j &&& 63)] H k n = aX sL sx cs 417 53 ((4, .int (Int32.ofNat j + 6)) :: [(3, .ref 196), (2, .ref 157), (1, .ref 0), (0, .retAddr 0)]) [] H2 (k + a0 + a1) (n + b0 + b1) := by
  rw [hc]
  refine (st_tsw rfl).trans ?_
  refine (st_pc (pc2 := 441) (by decide +kernel)).trans ?_
  refine (am_nb (m := 1) (pc1 := 442) (ls1 := ((4, .int (Int32.ofNat j)) :: [(3, .ref 196), (2, .ref 157), (1, .ref 0), (0, .retAddr 0)])) (st1 := [.ref 0]) (H1 := H) (k1 := k) (n1 := n) (by with_unfolding_all rfl)).trans ?_
  refine (st_cv0 (as := []) (rest := []) rfl rfl rfl rfl h0 rfl (by with_unfolding_all rfl) (by with_unfolding_all rfl) rA).trans ?_
  refine (am_nb (m := 1) (pc1 := 446) (ls1 := ((4, .int (Int32.ofNat j)) :: [(3, .ref 196), (2, .ref 157), (1, .ref 0), (0, .retAddr 0)])) (st1 := [.ref 157]) (H1 := H1) (k1 := (k + a0)) (n1 := (n + b0)) (by with_unfolding_all rfl)).trans ?_
  refine (st_cv0 (as := []) (rest := []) rfl rfl rfl rfl h157 rfl (by with_unfolding_all rfl) (by with_unfolding_all rfl) rB).trans ?_
  exact am_nb (m := 3) (by with_unfolding_all rfl)

set_option maxRecDepth 100000 in
theorem lc_7 {H H1 H2 : am_H} {k n j a0 b0 a1 b1 : Nat} {u w : List Value} {v : Int32} (hL : sL < 2 ^ 31) (hj : j + 5 < sL) (h0 : am_is H 0 (.inr (11, u))) (h157 : am_is H1 157 (.inr (12, w))) (rA : aX sL sx cs 93 0 [(0, .ref 0)] [] H 0 0 = some (some (.int v), H1, a0, b0)) (rB : aX sL sx cs 295 0 [(0, .ref 157)] [] H1 0 0 = some (some (.int v), H2, a1, b1)) (hc : sx j &&& 63 = 7) :
    aX sL sx cs 417 70 ((4, .int (Int32.ofNat j)) :: [(3, .ref 196), (2, .ref 157), (1, .ref 0), (0, .retAddr 0)]) [.int (sx j &&& 63)] H k n = aX sL sx cs 417 53 ((4, .int (Int32.ofNat j + 6)) :: [(3, .ref 196), (2, .ref 157), (1, .ref 0), (0, .retAddr 0)]) [] H2 (k + a0 + a1) (n + b0 + b1) := by
  rw [hc]
  refine (st_tsw rfl).trans ?_
  refine (st_pc (pc2 := 452) (by decide +kernel)).trans ?_
  refine (am_nb (m := 1) (pc1 := 453) (ls1 := ((4, .int (Int32.ofNat j)) :: [(3, .ref 196), (2, .ref 157), (1, .ref 0), (0, .retAddr 0)])) (st1 := [.ref 0]) (H1 := H) (k1 := k) (n1 := n) (by with_unfolding_all rfl)).trans ?_
  refine (st_cv1 (as := []) (rest := []) rfl rfl rfl rfl h0 rfl (by with_unfolding_all rfl) (by with_unfolding_all rfl) rA).trans ?_
  refine (am_nb (m := 1) (pc1 := 457) (ls1 := ((4, .int (Int32.ofNat j)) :: [(3, .ref 196), (2, .ref 157), (1, .ref 0), (0, .retAddr 0)])) (st1 := [.ref 157, .int v]) (H1 := H1) (k1 := (k + a0)) (n1 := (n + b0)) (by with_unfolding_all rfl)).trans ?_
  refine (st_cv1 (as := []) (rest := [.int v]) rfl rfl rfl rfl h157 rfl (by with_unfolding_all rfl) (by with_unfolding_all rfl) rB).trans ?_
  refine (st_icmp rfl).trans ?_
  refine (st_pc (pc2 := 1475) (if_pos rfl)).trans ?_
  exact am_nb (m := 2) (by with_unfolding_all rfl)

set_option maxRecDepth 100000 in
theorem lc_8 {H H1 H2 : am_H} {k n j a0 b0 a1 b1 : Nat} {u w : List Value} {v : Int32} (hL : sL < 2 ^ 31) (hj : j + 5 < sL) (h0 : am_is H 0 (.inr (11, u))) (h157 : am_is H1 157 (.inr (12, w))) (rA : aX sL sx cs 94 0 [(0, .ref 0), (1, .int (sx (j + 1))), (2, .int (sx (j + 2))), (3, .int (sx (j + 3))), (4, .int (sx (j + 4)))] [] H 0 0 = some (some (.int v), H1, a0, b0)) (rB : aX sL sx cs 298 0 [(0, .ref 157), (1, .int (sx (j + 1))), (2, .int (sx (j + 2))), (3, .int (sx (j + 3))), (4, .int (sx (j + 4)))] [] H1 0 0 = some (some (.int v), H2, a1, b1)) (hc : sx j &&& 63 = 8) :
    aX sL sx cs 417 70 ((4, .int (Int32.ofNat j)) :: [(3, .ref 196), (2, .ref 157), (1, .ref 0), (0, .retAddr 0)]) [.int (sx j &&& 63)] H k n = aX sL sx cs 417 53 ((4, .int (Int32.ofNat j + 6)) :: [(3, .ref 196), (2, .ref 157), (1, .ref 0), (0, .retAddr 0)]) [] H2 (k + a0 + a1) (n + b0 + b1) := by
  rw [hc]
  refine (st_tsw rfl).trans ?_
  refine (st_pc (pc2 := 465) (by decide +kernel)).trans ?_
  refine (am_nb (m := 5) (pc1 := 471) (ls1 := ((4, .int (Int32.ofNat j)) :: [(3, .ref 196), (2, .ref 157), (1, .ref 0), (0, .retAddr 0)])) (st1 := [.int (Int32.ofNat j + 1), .retAddr 0, .ref 0]) (H1 := H) (k1 := k) (n1 := n) (by with_unfolding_all rfl)).trans ?_
  refine (st_sc (d := 1) rfl hL (by omega)).trans ?_
  refine (am_nb (m := 4) (pc1 := 477) (ls1 := ((4, .int (Int32.ofNat j)) :: [(3, .ref 196), (2, .ref 157), (1, .ref 0), (0, .retAddr 0)])) (st1 := [.int (Int32.ofNat j + 2), .retAddr 0, .int (sx (j + 1)), .ref 0]) (H1 := H) (k1 := k) (n1 := n) (by with_unfolding_all rfl)).trans ?_
  refine (st_sc (d := 2) rfl hL (by omega)).trans ?_
  refine (am_nb (m := 4) (pc1 := 483) (ls1 := ((4, .int (Int32.ofNat j)) :: [(3, .ref 196), (2, .ref 157), (1, .ref 0), (0, .retAddr 0)])) (st1 := [.int (Int32.ofNat j + 3), .retAddr 0, .int (sx (j + 2)), .int (sx (j + 1)), .ref 0]) (H1 := H) (k1 := k) (n1 := n) (by with_unfolding_all rfl)).trans ?_
  refine (st_sc (d := 3) rfl hL (by omega)).trans ?_
  refine (am_nb (m := 4) (pc1 := 489) (ls1 := ((4, .int (Int32.ofNat j)) :: [(3, .ref 196), (2, .ref 157), (1, .ref 0), (0, .retAddr 0)])) (st1 := [.int (Int32.ofNat j + 4), .retAddr 0, .int (sx (j + 3)), .int (sx (j + 2)), .int (sx (j + 1)), .ref 0]) (H1 := H) (k1 := k) (n1 := n) (by with_unfolding_all rfl)).trans ?_
  refine (st_sc (d := 4) rfl hL (by omega)).trans ?_
  refine (st_cv1 (as := [.int (sx (j + 1)), .int (sx (j + 2)), .int (sx (j + 3)), .int (sx (j + 4))]) (rest := []) rfl rfl rfl rfl h0 rfl (by with_unfolding_all rfl) (by with_unfolding_all rfl) rA).trans ?_
  refine (am_nb (m := 5) (pc1 := 499) (ls1 := ((4, .int (Int32.ofNat j)) :: [(3, .ref 196), (2, .ref 157), (1, .ref 0), (0, .retAddr 0)])) (st1 := [.int (Int32.ofNat j + 1), .retAddr 0, .ref 157, .int v]) (H1 := H1) (k1 := (k + a0)) (n1 := (n + b0)) (by with_unfolding_all rfl)).trans ?_
  refine (st_sc (d := 1) rfl hL (by omega)).trans ?_
  refine (am_nb (m := 4) (pc1 := 505) (ls1 := ((4, .int (Int32.ofNat j)) :: [(3, .ref 196), (2, .ref 157), (1, .ref 0), (0, .retAddr 0)])) (st1 := [.int (Int32.ofNat j + 2), .retAddr 0, .int (sx (j + 1)), .ref 157, .int v]) (H1 := H1) (k1 := (k + a0)) (n1 := (n + b0)) (by with_unfolding_all rfl)).trans ?_
  refine (st_sc (d := 2) rfl hL (by omega)).trans ?_
  refine (am_nb (m := 4) (pc1 := 511) (ls1 := ((4, .int (Int32.ofNat j)) :: [(3, .ref 196), (2, .ref 157), (1, .ref 0), (0, .retAddr 0)])) (st1 := [.int (Int32.ofNat j + 3), .retAddr 0, .int (sx (j + 2)), .int (sx (j + 1)), .ref 157, .int v]) (H1 := H1) (k1 := (k + a0)) (n1 := (n + b0)) (by with_unfolding_all rfl)).trans ?_
  refine (st_sc (d := 3) rfl hL (by omega)).trans ?_
  refine (am_nb (m := 4) (pc1 := 517) (ls1 := ((4, .int (Int32.ofNat j)) :: [(3, .ref 196), (2, .ref 157), (1, .ref 0), (0, .retAddr 0)])) (st1 := [.int (Int32.ofNat j + 4), .retAddr 0, .int (sx (j + 3)), .int (sx (j + 2)), .int (sx (j + 1)), .ref 157, .int v]) (H1 := H1) (k1 := (k + a0)) (n1 := (n + b0)) (by with_unfolding_all rfl)).trans ?_
  refine (st_sc (d := 4) rfl hL (by omega)).trans ?_
  refine (st_cv1 (as := [.int (sx (j + 1)), .int (sx (j + 2)), .int (sx (j + 3)), .int (sx (j + 4))]) (rest := [.int v]) rfl rfl rfl rfl h157 rfl (by with_unfolding_all rfl) (by with_unfolding_all rfl) rB).trans ?_
  refine (st_icmp rfl).trans ?_
  refine (st_pc (pc2 := 1475) (if_pos rfl)).trans ?_
  exact am_nb (m := 2) (by with_unfolding_all rfl)

set_option maxRecDepth 100000 in
theorem lc_9 {H H1 H2 : am_H} {k n j a0 b0 a1 b1 : Nat} {u w : List Value} {v : Int32} (hL : sL < 2 ^ 31) (hj : j + 5 < sL) (h0 : am_is H 0 (.inr (11, u))) (h157 : am_is H1 157 (.inr (12, w))) (rA : aX sL sx cs 95 0 [(0, .ref 0), (1, .int (sx (j + 1))), (2, .int (sx (j + 2))), (3, .int (sx (j + 3))), (4, .int (sx (j + 4)))] [] H 0 0 = some (some (.int v), H1, a0, b0)) (rB : aX sL sx cs 306 0 [(0, .ref 157), (1, .int (sx (j + 1))), (2, .int (sx (j + 2))), (3, .int (sx (j + 3))), (4, .int (sx (j + 4)))] [] H1 0 0 = some (some (.int v), H2, a1, b1)) (hc : sx j &&& 63 = 9) :
    aX sL sx cs 417 70 ((4, .int (Int32.ofNat j)) :: [(3, .ref 196), (2, .ref 157), (1, .ref 0), (0, .retAddr 0)]) [.int (sx j &&& 63)] H k n = aX sL sx cs 417 53 ((4, .int (Int32.ofNat j + 6)) :: [(3, .ref 196), (2, .ref 157), (1, .ref 0), (0, .retAddr 0)]) [] H2 (k + a0 + a1) (n + b0 + b1) := by
  rw [hc]
  refine (st_tsw rfl).trans ?_
  refine (st_pc (pc2 := 526) (by decide +kernel)).trans ?_
  refine (am_nb (m := 5) (pc1 := 532) (ls1 := ((4, .int (Int32.ofNat j)) :: [(3, .ref 196), (2, .ref 157), (1, .ref 0), (0, .retAddr 0)])) (st1 := [.int (Int32.ofNat j + 1), .retAddr 0, .ref 0]) (H1 := H) (k1 := k) (n1 := n) (by with_unfolding_all rfl)).trans ?_
  refine (st_sc (d := 1) rfl hL (by omega)).trans ?_
  refine (am_nb (m := 4) (pc1 := 538) (ls1 := ((4, .int (Int32.ofNat j)) :: [(3, .ref 196), (2, .ref 157), (1, .ref 0), (0, .retAddr 0)])) (st1 := [.int (Int32.ofNat j + 2), .retAddr 0, .int (sx (j + 1)), .ref 0]) (H1 := H) (k1 := k) (n1 := n) (by with_unfolding_all rfl)).trans ?_
  refine (st_sc (d := 2) rfl hL (by omega)).trans ?_
  refine (am_nb (m := 4) (pc1 := 544) (ls1 := ((4, .int (Int32.ofNat j)) :: [(3, .ref 196), (2, .ref 157), (1, .ref 0), (0, .retAddr 0)])) (st1 := [.int (Int32.ofNat j + 3), .retAddr 0, .int (sx (j + 2)), .int (sx (j + 1)), .ref 0]) (H1 := H) (k1 := k) (n1 := n) (by with_unfolding_all rfl)).trans ?_
  refine (st_sc (d := 3) rfl hL (by omega)).trans ?_
  refine (am_nb (m := 4) (pc1 := 550) (ls1 := ((4, .int (Int32.ofNat j)) :: [(3, .ref 196), (2, .ref 157), (1, .ref 0), (0, .retAddr 0)])) (st1 := [.int (Int32.ofNat j + 4), .retAddr 0, .int (sx (j + 3)), .int (sx (j + 2)), .int (sx (j + 1)), .ref 0]) (H1 := H) (k1 := k) (n1 := n) (by with_unfolding_all rfl)).trans ?_
  refine (st_sc (d := 4) rfl hL (by omega)).trans ?_
  refine (st_cv1 (as := [.int (sx (j + 1)), .int (sx (j + 2)), .int (sx (j + 3)), .int (sx (j + 4))]) (rest := []) rfl rfl rfl rfl h0 rfl (by with_unfolding_all rfl) (by with_unfolding_all rfl) rA).trans ?_
  refine (am_nb (m := 5) (pc1 := 560) (ls1 := ((4, .int (Int32.ofNat j)) :: [(3, .ref 196), (2, .ref 157), (1, .ref 0), (0, .retAddr 0)])) (st1 := [.int (Int32.ofNat j + 1), .retAddr 0, .ref 157, .int v]) (H1 := H1) (k1 := (k + a0)) (n1 := (n + b0)) (by with_unfolding_all rfl)).trans ?_
  refine (st_sc (d := 1) rfl hL (by omega)).trans ?_
  refine (am_nb (m := 4) (pc1 := 566) (ls1 := ((4, .int (Int32.ofNat j)) :: [(3, .ref 196), (2, .ref 157), (1, .ref 0), (0, .retAddr 0)])) (st1 := [.int (Int32.ofNat j + 2), .retAddr 0, .int (sx (j + 1)), .ref 157, .int v]) (H1 := H1) (k1 := (k + a0)) (n1 := (n + b0)) (by with_unfolding_all rfl)).trans ?_
  refine (st_sc (d := 2) rfl hL (by omega)).trans ?_
  refine (am_nb (m := 4) (pc1 := 572) (ls1 := ((4, .int (Int32.ofNat j)) :: [(3, .ref 196), (2, .ref 157), (1, .ref 0), (0, .retAddr 0)])) (st1 := [.int (Int32.ofNat j + 3), .retAddr 0, .int (sx (j + 2)), .int (sx (j + 1)), .ref 157, .int v]) (H1 := H1) (k1 := (k + a0)) (n1 := (n + b0)) (by with_unfolding_all rfl)).trans ?_
  refine (st_sc (d := 3) rfl hL (by omega)).trans ?_
  refine (am_nb (m := 4) (pc1 := 578) (ls1 := ((4, .int (Int32.ofNat j)) :: [(3, .ref 196), (2, .ref 157), (1, .ref 0), (0, .retAddr 0)])) (st1 := [.int (Int32.ofNat j + 4), .retAddr 0, .int (sx (j + 3)), .int (sx (j + 2)), .int (sx (j + 1)), .ref 157, .int v]) (H1 := H1) (k1 := (k + a0)) (n1 := (n + b0)) (by with_unfolding_all rfl)).trans ?_
  refine (st_sc (d := 4) rfl hL (by omega)).trans ?_
  refine (st_cv1 (as := [.int (sx (j + 1)), .int (sx (j + 2)), .int (sx (j + 3)), .int (sx (j + 4))]) (rest := [.int v]) rfl rfl rfl rfl h157 rfl (by with_unfolding_all rfl) (by with_unfolding_all rfl) rB).trans ?_
  refine (st_icmp rfl).trans ?_
  refine (st_pc (pc2 := 1475) (if_pos rfl)).trans ?_
  exact am_nb (m := 2) (by with_unfolding_all rfl)

set_option maxRecDepth 100000 in
theorem lc_10 {H H1 H2 : am_H} {k n j a0 b0 a1 b1 : Nat} {u w : List Value} {v : Int32} (hL : sL < 2 ^ 31) (hj : j + 5 < sL) (h0 : am_is H 0 (.inr (11, u))) (h157 : am_is H1 157 (.inr (12, w))) (rA : aX sL sx cs 97 0 [(0, .ref 0), (1, .int (sx (j + 1)))] [] H 0 0 = some (some (.int v), H1, a0, b0)) (rB : aX sL sx cs 307 0 [(0, .ref 157), (1, .int (sx (j + 1)))] [] H1 0 0 = some (some (.int v), H2, a1, b1)) (hc : sx j &&& 63 = 10) :
    aX sL sx cs 417 70 ((4, .int (Int32.ofNat j)) :: [(3, .ref 196), (2, .ref 157), (1, .ref 0), (0, .retAddr 0)]) [.int (sx j &&& 63)] H k n = aX sL sx cs 417 53 ((4, .int (Int32.ofNat j + 6)) :: [(3, .ref 196), (2, .ref 157), (1, .ref 0), (0, .retAddr 0)]) [] H2 (k + a0 + a1) (n + b0 + b1) := by
  rw [hc]
  refine (st_tsw rfl).trans ?_
  refine (st_pc (pc2 := 587) (by decide +kernel)).trans ?_
  refine (am_nb (m := 5) (pc1 := 593) (ls1 := ((4, .int (Int32.ofNat j)) :: [(3, .ref 196), (2, .ref 157), (1, .ref 0), (0, .retAddr 0)])) (st1 := [.int (Int32.ofNat j + 1), .retAddr 0, .ref 0]) (H1 := H) (k1 := k) (n1 := n) (by with_unfolding_all rfl)).trans ?_
  refine (st_sc (d := 1) rfl hL (by omega)).trans ?_
  refine (st_cv1 (as := [.int (sx (j + 1))]) (rest := []) rfl rfl rfl rfl h0 rfl (by with_unfolding_all rfl) (by with_unfolding_all rfl) rA).trans ?_
  refine (am_nb (m := 5) (pc1 := 603) (ls1 := ((4, .int (Int32.ofNat j)) :: [(3, .ref 196), (2, .ref 157), (1, .ref 0), (0, .retAddr 0)])) (st1 := [.int (Int32.ofNat j + 1), .retAddr 0, .ref 157, .int v]) (H1 := H1) (k1 := (k + a0)) (n1 := (n + b0)) (by with_unfolding_all rfl)).trans ?_
  refine (st_sc (d := 1) rfl hL (by omega)).trans ?_
  refine (st_cv1 (as := [.int (sx (j + 1))]) (rest := [.int v]) rfl rfl rfl rfl h157 rfl (by with_unfolding_all rfl) (by with_unfolding_all rfl) rB).trans ?_
  refine (st_icmp rfl).trans ?_
  refine (st_pc (pc2 := 1475) (if_pos rfl)).trans ?_
  exact am_nb (m := 2) (by with_unfolding_all rfl)

set_option maxRecDepth 100000 in
theorem lc_11 {H H1 H2 : am_H} {k n j a0 b0 a1 b1 : Nat} {u w : List Value} {v : Int32} (hL : sL < 2 ^ 31) (hj : j + 5 < sL) (h0 : am_is H 0 (.inr (11, u))) (h157 : am_is H1 157 (.inr (12, w))) (rA : aX sL sx cs 99 0 [(0, .ref 0), (1, .int (sx (j + 1))), (2, .int (sx (j + 2))), (3, .int (sx (j + 3)))] [] H 0 0 = some (some (.int v), H1, a0, b0)) (rB : aX sL sx cs 309 0 [(0, .ref 157), (1, .int (sx (j + 1))), (2, .int (sx (j + 2))), (3, .int (sx (j + 3)))] [] H1 0 0 = some (some (.int v), H2, a1, b1)) (hc : sx j &&& 63 = 11) :
    aX sL sx cs 417 70 ((4, .int (Int32.ofNat j)) :: [(3, .ref 196), (2, .ref 157), (1, .ref 0), (0, .retAddr 0)]) [.int (sx j &&& 63)] H k n = aX sL sx cs 417 53 ((4, .int (Int32.ofNat j + 6)) :: [(3, .ref 196), (2, .ref 157), (1, .ref 0), (0, .retAddr 0)]) [] H2 (k + a0 + a1) (n + b0 + b1) := by
  rw [hc]
  refine (st_tsw rfl).trans ?_
  refine (st_pc (pc2 := 612) (by decide +kernel)).trans ?_
  refine (am_nb (m := 5) (pc1 := 618) (ls1 := ((4, .int (Int32.ofNat j)) :: [(3, .ref 196), (2, .ref 157), (1, .ref 0), (0, .retAddr 0)])) (st1 := [.int (Int32.ofNat j + 1), .retAddr 0, .ref 0]) (H1 := H) (k1 := k) (n1 := n) (by with_unfolding_all rfl)).trans ?_
  refine (st_sc (d := 1) rfl hL (by omega)).trans ?_
  refine (am_nb (m := 4) (pc1 := 624) (ls1 := ((4, .int (Int32.ofNat j)) :: [(3, .ref 196), (2, .ref 157), (1, .ref 0), (0, .retAddr 0)])) (st1 := [.int (Int32.ofNat j + 2), .retAddr 0, .int (sx (j + 1)), .ref 0]) (H1 := H) (k1 := k) (n1 := n) (by with_unfolding_all rfl)).trans ?_
  refine (st_sc (d := 2) rfl hL (by omega)).trans ?_
  refine (am_nb (m := 4) (pc1 := 630) (ls1 := ((4, .int (Int32.ofNat j)) :: [(3, .ref 196), (2, .ref 157), (1, .ref 0), (0, .retAddr 0)])) (st1 := [.int (Int32.ofNat j + 3), .retAddr 0, .int (sx (j + 2)), .int (sx (j + 1)), .ref 0]) (H1 := H) (k1 := k) (n1 := n) (by with_unfolding_all rfl)).trans ?_
  refine (st_sc (d := 3) rfl hL (by omega)).trans ?_
  refine (st_cv1 (as := [.int (sx (j + 1)), .int (sx (j + 2)), .int (sx (j + 3))]) (rest := []) rfl rfl rfl rfl h0 rfl (by with_unfolding_all rfl) (by with_unfolding_all rfl) rA).trans ?_
  refine (am_nb (m := 5) (pc1 := 640) (ls1 := ((4, .int (Int32.ofNat j)) :: [(3, .ref 196), (2, .ref 157), (1, .ref 0), (0, .retAddr 0)])) (st1 := [.int (Int32.ofNat j + 1), .retAddr 0, .ref 157, .int v]) (H1 := H1) (k1 := (k + a0)) (n1 := (n + b0)) (by with_unfolding_all rfl)).trans ?_
  refine (st_sc (d := 1) rfl hL (by omega)).trans ?_
  refine (am_nb (m := 4) (pc1 := 646) (ls1 := ((4, .int (Int32.ofNat j)) :: [(3, .ref 196), (2, .ref 157), (1, .ref 0), (0, .retAddr 0)])) (st1 := [.int (Int32.ofNat j + 2), .retAddr 0, .int (sx (j + 1)), .ref 157, .int v]) (H1 := H1) (k1 := (k + a0)) (n1 := (n + b0)) (by with_unfolding_all rfl)).trans ?_
  refine (st_sc (d := 2) rfl hL (by omega)).trans ?_
  refine (am_nb (m := 4) (pc1 := 652) (ls1 := ((4, .int (Int32.ofNat j)) :: [(3, .ref 196), (2, .ref 157), (1, .ref 0), (0, .retAddr 0)])) (st1 := [.int (Int32.ofNat j + 3), .retAddr 0, .int (sx (j + 2)), .int (sx (j + 1)), .ref 157, .int v]) (H1 := H1) (k1 := (k + a0)) (n1 := (n + b0)) (by with_unfolding_all rfl)).trans ?_
  refine (st_sc (d := 3) rfl hL (by omega)).trans ?_
  refine (st_cv1 (as := [.int (sx (j + 1)), .int (sx (j + 2)), .int (sx (j + 3))]) (rest := [.int v]) rfl rfl rfl rfl h157 rfl (by with_unfolding_all rfl) (by with_unfolding_all rfl) rB).trans ?_
  refine (st_icmp rfl).trans ?_
  refine (st_pc (pc2 := 1475) (if_pos rfl)).trans ?_
  exact am_nb (m := 2) (by with_unfolding_all rfl)

set_option maxRecDepth 100000 in
theorem lc_12 {H H1 H2 : am_H} {k n j a0 b0 a1 b1 : Nat} {u w : List Value} {v : Int32} (hL : sL < 2 ^ 31) (hj : j + 5 < sL) (h0 : am_is H 0 (.inr (11, u))) (h157 : am_is H1 157 (.inr (12, w))) (rA : aX sL sx cs 101 0 [(0, .ref 0), (1, .int (sx (j + 1))), (2, .int (sx (j + 2)))] [] H 0 0 = some (some (.int v), H1, a0, b0)) (rB : aX sL sx cs 310 0 [(0, .ref 157), (1, .int (sx (j + 1))), (2, .int (sx (j + 2)))] [] H1 0 0 = some (some (.int v), H2, a1, b1)) (hc : sx j &&& 63 = 12) :
    aX sL sx cs 417 70 ((4, .int (Int32.ofNat j)) :: [(3, .ref 196), (2, .ref 157), (1, .ref 0), (0, .retAddr 0)]) [.int (sx j &&& 63)] H k n = aX sL sx cs 417 53 ((4, .int (Int32.ofNat j + 6)) :: [(3, .ref 196), (2, .ref 157), (1, .ref 0), (0, .retAddr 0)]) [] H2 (k + a0 + a1) (n + b0 + b1) := by
  rw [hc]
  refine (st_tsw rfl).trans ?_
  refine (st_pc (pc2 := 661) (by decide +kernel)).trans ?_
  refine (am_nb (m := 5) (pc1 := 667) (ls1 := ((4, .int (Int32.ofNat j)) :: [(3, .ref 196), (2, .ref 157), (1, .ref 0), (0, .retAddr 0)])) (st1 := [.int (Int32.ofNat j + 1), .retAddr 0, .ref 0]) (H1 := H) (k1 := k) (n1 := n) (by with_unfolding_all rfl)).trans ?_
  refine (st_sc (d := 1) rfl hL (by omega)).trans ?_
  refine (am_nb (m := 4) (pc1 := 673) (ls1 := ((4, .int (Int32.ofNat j)) :: [(3, .ref 196), (2, .ref 157), (1, .ref 0), (0, .retAddr 0)])) (st1 := [.int (Int32.ofNat j + 2), .retAddr 0, .int (sx (j + 1)), .ref 0]) (H1 := H) (k1 := k) (n1 := n) (by with_unfolding_all rfl)).trans ?_
  refine (st_sc (d := 2) rfl hL (by omega)).trans ?_
  refine (st_cv1 (as := [.int (sx (j + 1)), .int (sx (j + 2))]) (rest := []) rfl rfl rfl rfl h0 rfl (by with_unfolding_all rfl) (by with_unfolding_all rfl) rA).trans ?_
  refine (am_nb (m := 5) (pc1 := 683) (ls1 := ((4, .int (Int32.ofNat j)) :: [(3, .ref 196), (2, .ref 157), (1, .ref 0), (0, .retAddr 0)])) (st1 := [.int (Int32.ofNat j + 1), .retAddr 0, .ref 157, .int v]) (H1 := H1) (k1 := (k + a0)) (n1 := (n + b0)) (by with_unfolding_all rfl)).trans ?_
  refine (st_sc (d := 1) rfl hL (by omega)).trans ?_
  refine (am_nb (m := 4) (pc1 := 689) (ls1 := ((4, .int (Int32.ofNat j)) :: [(3, .ref 196), (2, .ref 157), (1, .ref 0), (0, .retAddr 0)])) (st1 := [.int (Int32.ofNat j + 2), .retAddr 0, .int (sx (j + 1)), .ref 157, .int v]) (H1 := H1) (k1 := (k + a0)) (n1 := (n + b0)) (by with_unfolding_all rfl)).trans ?_
  refine (st_sc (d := 2) rfl hL (by omega)).trans ?_
  refine (st_cv1 (as := [.int (sx (j + 1)), .int (sx (j + 2))]) (rest := [.int v]) rfl rfl rfl rfl h157 rfl (by with_unfolding_all rfl) (by with_unfolding_all rfl) rB).trans ?_
  refine (st_icmp rfl).trans ?_
  refine (st_pc (pc2 := 1475) (if_pos rfl)).trans ?_
  exact am_nb (m := 2) (by with_unfolding_all rfl)

set_option maxRecDepth 100000 in
theorem lc_13 {H H1 H2 : am_H} {k n j a0 b0 a1 b1 : Nat} {u w : List Value} {v : Int32} (hL : sL < 2 ^ 31) (hj : j + 5 < sL) (h0 : am_is H 0 (.inr (11, u))) (h157 : am_is H1 157 (.inr (12, w))) (rA : aX sL sx cs 102 0 [(0, .ref 0), (1, .int (sx (j + 1))), (2, .int (am_nz (sx (j + 2))))] [] H 0 0 = some (some (.int v), H1, a0, b0)) (rB : aX sL sx cs 311 0 [(0, .ref 157), (1, .int (sx (j + 1))), (2, .int (am_nz (sx (j + 2))))] [] H1 0 0 = some (some (.int v), H2, a1, b1)) (hc : sx j &&& 63 = 13) :
    aX sL sx cs 417 70 ((4, .int (Int32.ofNat j)) :: [(3, .ref 196), (2, .ref 157), (1, .ref 0), (0, .retAddr 0)]) [.int (sx j &&& 63)] H k n = aX sL sx cs 417 53 ((4, .int (Int32.ofNat j + 6)) :: [(3, .ref 196), (2, .ref 157), (1, .ref 0), (0, .retAddr 0)]) [] H2 (k + a0 + a1) (n + b0 + b1) := by
  rw [hc]
  refine (st_tsw rfl).trans ?_
  refine (st_pc (pc2 := 698) (by decide +kernel)).trans ?_
  refine (am_nb (m := 5) (pc1 := 704) (ls1 := ((4, .int (Int32.ofNat j)) :: [(3, .ref 196), (2, .ref 157), (1, .ref 0), (0, .retAddr 0)])) (st1 := [.int (Int32.ofNat j + 1), .retAddr 0, .ref 0]) (H1 := H) (k1 := k) (n1 := n) (by with_unfolding_all rfl)).trans ?_
  refine (st_sc (d := 1) rfl hL (by omega)).trans ?_
  refine (am_nb (m := 4) (pc1 := 710) (ls1 := ((4, .int (Int32.ofNat j)) :: [(3, .ref 196), (2, .ref 157), (1, .ref 0), (0, .retAddr 0)])) (st1 := [.int (Int32.ofNat j + 2), .retAddr 0, .int (sx (j + 1)), .ref 0]) (H1 := H) (k1 := k) (n1 := n) (by with_unfolding_all rfl)).trans ?_
  refine (st_sc (d := 2) rfl hL (by omega)).trans ?_
  refine (st_if rfl).trans ?_
  have q5 : aX sL sx cs 417 (am_br .eq (sx (j + 2)) 0 718 714) ((4, .int (Int32.ofNat j)) :: [(3, .ref 196), (2, .ref 157), (1, .ref 0), (0, .retAddr 0)]) [.int (sx (j + 1)), .ref 0] H k n = aX sL sx cs 417 719 ((4, .int (Int32.ofNat j)) :: [(3, .ref 196), (2, .ref 157), (1, .ref 0), (0, .retAddr 0)]) [.int (am_nz (sx (j + 2))), .int (sx (j + 1)), .ref 0] H k n := by
    unfold am_nz
    by_cases c : (sx (j + 2)) = 0
    · rw [if_pos c, show am_br .eq (sx (j + 2)) 0 718 714 = 718 from if_pos c]
      exact am_nb (m := 1) (by with_unfolding_all rfl)
    · rw [if_neg c, show am_br .eq (sx (j + 2)) 0 718 714 = 714 from if_neg c]
      exact am_nb (m := 2) (by with_unfolding_all rfl)
  refine q5.trans ?_
  refine (st_cv1 (as := [.int (sx (j + 1)), .int (am_nz (sx (j + 2)))]) (rest := []) rfl rfl rfl rfl h0 rfl (by with_unfolding_all rfl) (by with_unfolding_all rfl) rA).trans ?_
  refine (am_nb (m := 5) (pc1 := 728) (ls1 := ((4, .int (Int32.ofNat j)) :: [(3, .ref 196), (2, .ref 157), (1, .ref 0), (0, .retAddr 0)])) (st1 := [.int (Int32.ofNat j + 1), .retAddr 0, .ref 157, .int v]) (H1 := H1) (k1 := (k + a0)) (n1 := (n + b0)) (by with_unfolding_all rfl)).trans ?_
  refine (st_sc (d := 1) rfl hL (by omega)).trans ?_
  refine (am_nb (m := 4) (pc1 := 734) (ls1 := ((4, .int (Int32.ofNat j)) :: [(3, .ref 196), (2, .ref 157), (1, .ref 0), (0, .retAddr 0)])) (st1 := [.int (Int32.ofNat j + 2), .retAddr 0, .int (sx (j + 1)), .ref 157, .int v]) (H1 := H1) (k1 := (k + a0)) (n1 := (n + b0)) (by with_unfolding_all rfl)).trans ?_
  refine (st_sc (d := 2) rfl hL (by omega)).trans ?_
  refine (st_if rfl).trans ?_
  have q19 : aX sL sx cs 417 (am_br .eq (sx (j + 2)) 0 742 738) ((4, .int (Int32.ofNat j)) :: [(3, .ref 196), (2, .ref 157), (1, .ref 0), (0, .retAddr 0)]) [.int (sx (j + 1)), .ref 157, .int v] H1 (k + a0) (n + b0) = aX sL sx cs 417 743 ((4, .int (Int32.ofNat j)) :: [(3, .ref 196), (2, .ref 157), (1, .ref 0), (0, .retAddr 0)]) [.int (am_nz (sx (j + 2))), .int (sx (j + 1)), .ref 157, .int v] H1 (k + a0) (n + b0) := by
    unfold am_nz
    by_cases c : (sx (j + 2)) = 0
    · rw [if_pos c, show am_br .eq (sx (j + 2)) 0 742 738 = 742 from if_pos c]
      exact am_nb (m := 1) (by with_unfolding_all rfl)
    · rw [if_neg c, show am_br .eq (sx (j + 2)) 0 742 738 = 738 from if_neg c]
      exact am_nb (m := 2) (by with_unfolding_all rfl)
  refine q19.trans ?_
  refine (st_cv1 (as := [.int (sx (j + 1)), .int (am_nz (sx (j + 2)))]) (rest := [.int v]) rfl rfl rfl rfl h157 rfl (by with_unfolding_all rfl) (by with_unfolding_all rfl) rB).trans ?_
  refine (st_icmp rfl).trans ?_
  refine (st_pc (pc2 := 1475) (if_pos rfl)).trans ?_
  exact am_nb (m := 2) (by with_unfolding_all rfl)

end CASE
