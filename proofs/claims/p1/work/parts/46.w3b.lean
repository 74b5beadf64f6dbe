/-! The law's cases. -/
section CASE
variable {sL : Nat} {sx : Nat → Int32} {cs : Nat → Nat → Option Int32}
set_option maxRecDepth 100000 in
theorem lc_28 {H H1 H2 : am_H} {k n j a0 b0 a1 b1 : Nat} {u w : List Value} {v : Int32} (hL : sL < 2 ^ 31) (hj : j + 5 < sL) (h0 : am_is H 0 (.inr (11, u))) (h157 : am_is H1 157 (.inr (12, w))) (rA : aX sL sx cs 166 0 [(0, .ref 0)] [] H 0 0 = some (some (.int v), H1, a0, b0)) (rB : aX sL sx cs 355 0 [(0, .ref 157)] [] H1 0 0 = some (some (.int v), H2, a1, b1)) (hc : sx j &&& 63 = 28) :
    aX sL sx cs 417 70 ((4, .int (Int32.ofNat j)) :: [(3, .ref 196), (2, .ref 157), (1, .ref 0), (0, .retAddr 0)]) [.int (sx j &&& 63)] H k n = aX sL sx cs 417 53 ((4, .int (Int32.ofNat j + 6)) :: [(3, .ref 196), (2, .ref 157), (1, .ref 0), (0, .retAddr 0)]) [] H2 (k + a0 + a1) (n + b0 + b1) := by
  rw [hc]
  refine (st_tsw rfl).trans ?_
  refine (st_pc (pc2 := 1185) (by decide +kernel)).trans ?_
  refine (am_nb (m := 1) (pc1 := 1186) (ls1 := ((4, .int (Int32.ofNat j)) :: [(3, .ref 196), (2, .ref 157), (1, .ref 0), (0, .retAddr 0)])) (st1 := [.ref 0]) (H1 := H) (k1 := k) (n1 := n) (by with_unfolding_all rfl)).trans ?_
  refine (st_cv1 (as := []) (rest := []) rfl rfl rfl rfl h0 rfl (by with_unfolding_all rfl) (by with_unfolding_all rfl) rA).trans ?_
  refine (am_nb (m := 1) (pc1 := 1190) (ls1 := ((4, .int (Int32.ofNat j)) :: [(3, .ref 196), (2, .ref 157), (1, .ref 0), (0, .retAddr 0)])) (st1 := [.ref 157, .int v]) (H1 := H1) (k1 := (k + a0)) (n1 := (n + b0)) (by with_unfolding_all rfl)).trans ?_
  refine (st_cv1 (as := []) (rest := [.int v]) rfl rfl rfl rfl h157 rfl (by with_unfolding_all rfl) (by with_unfolding_all rfl) rB).trans ?_
  refine (st_icmp rfl).trans ?_
  refine (st_pc (pc2 := 1475) (if_pos rfl)).trans ?_
  exact am_nb (m := 2) (by with_unfolding_all rfl)

set_option maxRecDepth 100000 in
theorem lc_29 {H H1 H2 : am_H} {k n j a0 b0 a1 b1 : Nat} {u w : List Value} {v : Int32} (hL : sL < 2 ^ 31) (hj : j + 5 < sL) (h0 : am_is H 0 (.inr (11, u))) (h157 : am_is H1 157 (.inr (12, w))) (rA : aX sL sx cs 170 0 [(0, .ref 0), (1, .int (sx (j + 1)))] [] H 0 0 = some (some (.int v), H1, a0, b0)) (rB : aX sL sx cs 359 0 [(0, .ref 157), (1, .int (sx (j + 1)))] [] H1 0 0 = some (some (.int v), H2, a1, b1)) (hc : sx j &&& 63 = 29) :
    aX sL sx cs 417 70 ((4, .int (Int32.ofNat j)) :: [(3, .ref 196), (2, .ref 157), (1, .ref 0), (0, .retAddr 0)]) [.int (sx j &&& 63)] H k n = aX sL sx cs 417 53 ((4, .int (Int32.ofNat j + 6)) :: [(3, .ref 196), (2, .ref 157), (1, .ref 0), (0, .retAddr 0)]) [] H2 (k + a0 + a1) (n + b0 + b1) := by
  rw [hc]
  refine (st_tsw rfl).trans ?_
  refine (st_pc (pc2 := 1198) (by decide +kernel)).trans ?_
  refine (am_nb (m := 5) (pc1 := 1204) (ls1 := ((4, .int (Int32.ofNat j)) :: [(3, .ref 196), (2, .ref 157), (1, .ref 0), (0, .retAddr 0)])) (st1 := [.int (Int32.ofNat j + 1), .retAddr 0, .ref 0]) (H1 := H) (k1 := k) (n1 := n) (by with_unfolding_all rfl)).trans ?_
  refine (st_sc (d := 1) rfl hL (by omega)).trans ?_
  refine (st_cv1 (as := [.int (sx (j + 1))]) (rest := []) rfl rfl rfl rfl h0 rfl (by with_unfolding_all rfl) (by with_unfolding_all rfl) rA).trans ?_
  refine (am_nb (m := 5) (pc1 := 1214) (ls1 := ((4, .int (Int32.ofNat j)) :: [(3, .ref 196), (2, .ref 157), (1, .ref 0), (0, .retAddr 0)])) (st1 := [.int (Int32.ofNat j + 1), .retAddr 0, .ref 157, .int v]) (H1 := H1) (k1 := (k + a0)) (n1 := (n + b0)) (by with_unfolding_all rfl)).trans ?_
  refine (st_sc (d := 1) rfl hL (by omega)).trans ?_
  refine (st_cv1 (as := [.int (sx (j + 1))]) (rest := [.int v]) rfl rfl rfl rfl h157 rfl (by with_unfolding_all rfl) (by with_unfolding_all rfl) rB).trans ?_
  refine (st_icmp rfl).trans ?_
  refine (st_pc (pc2 := 1475) (if_pos rfl)).trans ?_
  exact am_nb (m := 2) (by with_unfolding_all rfl)

set_option maxRecDepth 100000 in
theorem lc_30 {H H1 H2 : am_H} {k n j a0 b0 a1 b1 : Nat} {u w : List Value} {v : Int32} (hL : sL < 2 ^ 31) (hj : j + 5 < sL) (h0 : am_is H 0 (.inr (11, u))) (h157 : am_is H1 157 (.inr (12, w))) (rA : aX sL sx cs 173 0 [(0, .ref 0), (1, .int (sx (j + 1))), (2, .int (am_nz (sx (j + 2))))] [] H 0 0 = some (some (.int v), H1, a0, b0)) (rB : aX sL sx cs 411 0 [(0, .ref 157), (1, .int (sx (j + 1))), (2, .int (am_nz (sx (j + 2))))] [] H1 0 0 = some (some (.int v), H2, a1, b1)) (hc : sx j &&& 63 = 30) :
    aX sL sx cs 417 70 ((4, .int (Int32.ofNat j)) :: [(3, .ref 196), (2, .ref 157), (1, .ref 0), (0, .retAddr 0)]) [.int (sx j &&& 63)] H k n = aX sL sx cs 417 53 ((4, .int (Int32.ofNat j + 6)) :: [(3, .ref 196), (2, .ref 157), (1, .ref 0), (0, .retAddr 0)]) [] H2 (k + a0 + a1) (n + b0 + b1) := by
  rw [hc]
  refine (st_tsw rfl).trans ?_
  refine (st_pc (pc2 := 1223) (by decide +kernel)).trans ?_
  refine (am_nb (m := 5) (pc1 := 1229) (ls1 := ((4, .int (Int32.ofNat j)) :: [(3, .ref 196), (2, .ref 157), (1, .ref 0), (0, .retAddr 0)])) (st1 := [.int (Int32.ofNat j + 1), .retAddr 0, .ref 0]) (H1 := H) (k1 := k) (n1 := n) (by with_unfolding_all rfl)).trans ?_
  refine (st_sc (d := 1) rfl hL (by omega)).trans ?_
  refine (am_nb (m := 4) (pc1 := 1235) (ls1 := ((4, .int (Int32.ofNat j)) :: [(3, .ref 196), (2, .ref 157), (1, .ref 0), (0, .retAddr 0)])) (st1 := [.int (Int32.ofNat j + 2), .retAddr 0, .int (sx (j + 1)), .ref 0]) (H1 := H) (k1 := k) (n1 := n) (by with_unfolding_all rfl)).trans ?_
  refine (st_sc (d := 2) rfl hL (by omega)).trans ?_
  refine (st_if rfl).trans ?_
  have q5 : aX sL sx cs 417 (am_br .eq (sx (j + 2)) 0 1243 1239) ((4, .int (Int32.ofNat j)) :: [(3, .ref 196), (2, .ref 157), (1, .ref 0), (0, .retAddr 0)]) [.int (sx (j + 1)), .ref 0] H k n = aX sL sx cs 417 1244 ((4, .int (Int32.ofNat j)) :: [(3, .ref 196), (2, .ref 157), (1, .ref 0), (0, .retAddr 0)]) [.int (am_nz (sx (j + 2))), .int (sx (j + 1)), .ref 0] H k n := by
    unfold am_nz
    by_cases c : (sx (j + 2)) = 0
    · rw [if_pos c, show am_br .eq (sx (j + 2)) 0 1243 1239 = 1243 from if_pos c]
      exact am_nb (m := 1) (by with_unfolding_all rfl)
    · rw [if_neg c, show am_br .eq (sx (j + 2)) 0 1243 1239 = 1239 from if_neg c]
      exact am_nb (m := 2) (by with_unfolding_all rfl)
  refine q5.trans ?_
  refine (st_cv1 (as := [.int (sx (j + 1)), .int (am_nz (sx (j + 2)))]) (rest := []) rfl rfl rfl rfl h0 rfl (by with_unfolding_all rfl) (by with_unfolding_all rfl) rA).trans ?_
  refine (am_nb (m := 5) (pc1 := 1253) (ls1 := ((4, .int (Int32.ofNat j)) :: [(3, .ref 196), (2, .ref 157), (1, .ref 0), (0, .retAddr 0)])) (st1 := [.int (Int32.ofNat j + 1), .retAddr 0, .ref 157, .int v]) (H1 := H1) (k1 := (k + a0)) (n1 := (n + b0)) (by with_unfolding_all rfl)).trans ?_
  refine (st_sc (d := 1) rfl hL (by omega)).trans ?_
  refine (am_nb (m := 4) (pc1 := 1259) (ls1 := ((4, .int (Int32.ofNat j)) :: [(3, .ref 196), (2, .ref 157), (1, .ref 0), (0, .retAddr 0)])) (st1 := [.int (Int32.ofNat j + 2), .retAddr 0, .int (sx (j + 1)), .ref 157, .int v]) (H1 := H1) (k1 := (k + a0)) (n1 := (n + b0)) (by with_unfolding_all rfl)).trans ?_
  refine (st_sc (d := 2) rfl hL (by omega)).trans ?_
  refine (st_if rfl).trans ?_
  have q19 : aX sL sx cs 417 (am_br .eq (sx (j + 2)) 0 1267 1263) ((4, .int (Int32.ofNat j)) :: [(3, .ref 196), (2, .ref 157), (1, .ref 0), (0, .retAddr 0)]) [.int (sx (j + 1)), .ref 157, .int v] H1 (k + a0) (n + b0) = aX sL sx cs 417 1268 ((4, .int (Int32.ofNat j)) :: [(3, .ref 196), (2, .ref 157), (1, .ref 0), (0, .retAddr 0)]) [.int (am_nz (sx (j + 2))), .int (sx (j + 1)), .ref 157, .int v] H1 (k + a0) (n + b0) := by
    unfold am_nz
    by_cases c : (sx (j + 2)) = 0
    · rw [if_pos c, show am_br .eq (sx (j + 2)) 0 1267 1263 = 1267 from if_pos c]
      exact am_nb (m := 1) (by with_unfolding_all rfl)
    · rw [if_neg c, show am_br .eq (sx (j + 2)) 0 1267 1263 = 1263 from if_neg c]
      exact am_nb (m := 2) (by with_unfolding_all rfl)
  refine q19.trans ?_
  refine (st_cv1 (as := [.int (sx (j + 1)), .int (am_nz (sx (j + 2)))]) (rest := [.int v]) rfl rfl rfl rfl h157 rfl (by with_unfolding_all rfl) (by with_unfolding_all rfl) rB).trans ?_
  refine (st_icmp rfl).trans ?_
  refine (st_pc (pc2 := 1475) (if_pos rfl)).trans ?_
  exact am_nb (m := 2) (by with_unfolding_all rfl)

set_option maxRecDepth 100000 in
theorem lc_31 {H H1 H2 : am_H} {k n j a0 b0 a1 b1 : Nat} {u w : List Value} {v : Int32} (hL : sL < 2 ^ 31) (hj : j + 5 < sL) (h0 : am_is H 0 (.inr (11, u))) (h157 : am_is H1 157 (.inr (12, w))) (rA : aX sL sx cs 175 0 [(0, .ref 0), (1, .int (sx (j + 1)))] [] H 0 0 = some (some (.int v), H1, a0, b0)) (rB : aX sL sx cs 364 0 [(0, .ref 157), (1, .int (sx (j + 1)))] [] H1 0 0 = some (some (.int v), H2, a1, b1)) (hc : sx j &&& 63 = 31) :
    aX sL sx cs 417 70 ((4, .int (Int32.ofNat j)) :: [(3, .ref 196), (2, .ref 157), (1, .ref 0), (0, .retAddr 0)]) [.int (sx j &&& 63)] H k n = aX sL sx cs 417 53 ((4, .int (Int32.ofNat j + 6)) :: [(3, .ref 196), (2, .ref 157), (1, .ref 0), (0, .retAddr 0)]) [] H2 (k + a0 + a1) (n + b0 + b1) := by
  rw [hc]
  refine (st_tsw rfl).trans ?_
  refine (st_pc (pc2 := 1276) (by decide +kernel)).trans ?_
  refine (am_nb (m := 5) (pc1 := 1282) (ls1 := ((4, .int (Int32.ofNat j)) :: [(3, .ref 196), (2, .ref 157), (1, .ref 0), (0, .retAddr 0)])) (st1 := [.int (Int32.ofNat j + 1), .retAddr 0, .ref 0]) (H1 := H) (k1 := k) (n1 := n) (by with_unfolding_all rfl)).trans ?_
  refine (st_sc (d := 1) rfl hL (by omega)).trans ?_
  refine (st_cv1 (as := [.int (sx (j + 1))]) (rest := []) rfl rfl rfl rfl h0 rfl (by with_unfolding_all rfl) (by with_unfolding_all rfl) rA).trans ?_
  refine (am_nb (m := 5) (pc1 := 1292) (ls1 := ((4, .int (Int32.ofNat j)) :: [(3, .ref 196), (2, .ref 157), (1, .ref 0), (0, .retAddr 0)])) (st1 := [.int (Int32.ofNat j + 1), .retAddr 0, .ref 157, .int v]) (H1 := H1) (k1 := (k + a0)) (n1 := (n + b0)) (by with_unfolding_all rfl)).trans ?_
  refine (st_sc (d := 1) rfl hL (by omega)).trans ?_
  refine (st_cv1 (as := [.int (sx (j + 1))]) (rest := [.int v]) rfl rfl rfl rfl h157 rfl (by with_unfolding_all rfl) (by with_unfolding_all rfl) rB).trans ?_
  refine (st_icmp rfl).trans ?_
  refine (st_pc (pc2 := 1475) (if_pos rfl)).trans ?_
  exact am_nb (m := 2) (by with_unfolding_all rfl)


end CASE
