/-! The law's cases. -/
section CASE
variable {sL : Nat} {sx : Nat → Int32} {cs : Nat → Nat → Option Int32}
set_option maxRecDepth 100000 in
theorem lc_26 {H H1 H2 : am_H} {k n j a0 b0 a1 b1 : Nat} {u w : List Value} {v : Int32} (hL : sL < 2 ^ 31) (hj : j + 5 < sL) (h0 : am_is H 0 (.inr (11, u))) (h157 : am_is H1 157 (.inr (12, w))) (rA : aX sL sx cs 159 0 [(0, .ref 0), (1, .int (sx (j + 1))), (2, .int (sx (j + 2)))] [] H 0 0 = some (some (.int v), H1, a0, b0)) (rB : aX sL sx cs 330 0 [(0, .ref 157), (1, .int (sx (j + 1))), (2, .int (sx (j + 2)))] [] H1 0 0 = some (some (.int v), H2, a1, b1)) (hc : sx j &&& 63 = 26) :
    aX sL sx cs 417 70 ((4, .int (Int32.ofNat j)) :: [(3, .ref 196), (2, .ref 157), (1, .ref 0), (0, .retAddr 0)]) [.int (sx j &&& 63)] H k n = aX sL sx cs 417 53 ((4, .int (Int32.ofNat j + 6)) :: [(3, .ref 196), (2, .ref 157), (1, .ref 0), (0, .retAddr 0)]) [] H2 (k + a0 + a1) (n + b0 + b1) := by
  rw [hc]
  refine (st_tsw ((lw_co 70).trans rfl)).trans ?_
  refine (st_pc (pc2 := 1123) (by decide +kernel)).trans ?_
  refine (am_nbl (m := 5) (pc1 := 1129) (ls1 := ((4, .int (Int32.ofNat j)) :: [(3, .ref 196), (2, .ref 157), (1, .ref 0), (0, .retAddr 0)])) (st1 := [.int (Int32.ofNat j + 1), .retAddr 0, .ref 0]) (H1 := H) (k1 := k) (n1 := n) (by with_unfolding_all rfl)).trans ?_
  refine (st_sc (d := 1) ((lw_co 1129).trans rfl) hL (by omega)).trans ?_
  refine (am_nbl (m := 4) (pc1 := 1135) (ls1 := ((4, .int (Int32.ofNat j)) :: [(3, .ref 196), (2, .ref 157), (1, .ref 0), (0, .retAddr 0)])) (st1 := [.int (Int32.ofNat j + 2), .retAddr 0, .int (sx (j + 1)), .ref 0]) (H1 := H) (k1 := k) (n1 := n) (by with_unfolding_all rfl)).trans ?_
  refine (st_sc (d := 2) ((lw_co 1135).trans rfl) hL (by omega)).trans ?_
  refine (st_cv1 (as := [.int (sx (j + 1)), .int (sx (j + 2))]) (rest := []) ((lw_co 1136).trans rfl) rfl rfl rfl h0 rfl (by with_unfolding_all rfl) (by with_unfolding_all rfl) rA).trans ?_
  refine (am_nbl (m := 5) (pc1 := 1145) (ls1 := ((4, .int (Int32.ofNat j)) :: [(3, .ref 196), (2, .ref 157), (1, .ref 0), (0, .retAddr 0)])) (st1 := [.int (Int32.ofNat j + 1), .retAddr 0, .ref 157, .int v]) (H1 := H1) (k1 := (k + a0)) (n1 := (n + b0)) (by with_unfolding_all rfl)).trans ?_
  refine (st_sc (d := 1) ((lw_co 1145).trans rfl) hL (by omega)).trans ?_
  refine (am_nbl (m := 4) (pc1 := 1151) (ls1 := ((4, .int (Int32.ofNat j)) :: [(3, .ref 196), (2, .ref 157), (1, .ref 0), (0, .retAddr 0)])) (st1 := [.int (Int32.ofNat j + 2), .retAddr 0, .int (sx (j + 1)), .ref 157, .int v]) (H1 := H1) (k1 := (k + a0)) (n1 := (n + b0)) (by with_unfolding_all rfl)).trans ?_
  refine (st_sc (d := 2) ((lw_co 1151).trans rfl) hL (by omega)).trans ?_
  refine (st_cv1 (as := [.int (sx (j + 1)), .int (sx (j + 2))]) (rest := [.int v]) ((lw_co 1152).trans rfl) rfl rfl rfl h157 rfl (by with_unfolding_all rfl) (by with_unfolding_all rfl) rB).trans ?_
  refine (st_icmp ((lw_co 1155).trans rfl)).trans ?_
  refine (st_pc (pc2 := 1475) (if_pos rfl)).trans ?_
  exact am_nbl (m := 2) (by with_unfolding_all rfl)

set_option maxRecDepth 100000 in
theorem lc_27 {H H1 H2 : am_H} {k n j a0 b0 a1 b1 : Nat} {u w : List Value} {v : Int32} (hL : sL < 2 ^ 31) (hj : j + 5 < sL) (h0 : am_is H 0 (.inr (11, u))) (h157 : am_is H1 157 (.inr (12, w))) (rA : aX sL sx cs 160 0 [(0, .ref 0), (1, .int (sx (j + 1)))] [] H 0 0 = some (some (.int v), H1, a0, b0)) (rB : aX sL sx cs 353 0 [(0, .ref 157), (1, .int (sx (j + 1)))] [] H1 0 0 = some (some (.int v), H2, a1, b1)) (hc : sx j &&& 63 = 27) :
    aX sL sx cs 417 70 ((4, .int (Int32.ofNat j)) :: [(3, .ref 196), (2, .ref 157), (1, .ref 0), (0, .retAddr 0)]) [.int (sx j &&& 63)] H k n = aX sL sx cs 417 53 ((4, .int (Int32.ofNat j + 6)) :: [(3, .ref 196), (2, .ref 157), (1, .ref 0), (0, .retAddr 0)]) [] H2 (k + a0 + a1) (n + b0 + b1) := by
  rw [hc]
  refine (st_tsw ((lw_co 70).trans rfl)).trans ?_
  refine (st_pc (pc2 := 1160) (by decide +kernel)).trans ?_
  refine (am_nbl (m := 5) (pc1 := 1166) (ls1 := ((4, .int (Int32.ofNat j)) :: [(3, .ref 196), (2, .ref 157), (1, .ref 0), (0, .retAddr 0)])) (st1 := [.int (Int32.ofNat j + 1), .retAddr 0, .ref 0]) (H1 := H) (k1 := k) (n1 := n) (by with_unfolding_all rfl)).trans ?_
  refine (st_sc (d := 1) ((lw_co 1166).trans rfl) hL (by omega)).trans ?_
  refine (st_cv1 (as := [.int (sx (j + 1))]) (rest := []) ((lw_co 1167).trans rfl) rfl rfl rfl h0 rfl (by with_unfolding_all rfl) (by with_unfolding_all rfl) rA).trans ?_
  refine (am_nbl (m := 5) (pc1 := 1176) (ls1 := ((4, .int (Int32.ofNat j)) :: [(3, .ref 196), (2, .ref 157), (1, .ref 0), (0, .retAddr 0)])) (st1 := [.int (Int32.ofNat j + 1), .retAddr 0, .ref 157, .int v]) (H1 := H1) (k1 := (k + a0)) (n1 := (n + b0)) (by with_unfolding_all rfl)).trans ?_
  refine (st_sc (d := 1) ((lw_co 1176).trans rfl) hL (by omega)).trans ?_
  refine (st_cv1 (as := [.int (sx (j + 1))]) (rest := [.int v]) ((lw_co 1177).trans rfl) rfl rfl rfl h157 rfl (by with_unfolding_all rfl) (by with_unfolding_all rfl) rB).trans ?_
  refine (st_icmp ((lw_co 1180).trans rfl)).trans ?_
  refine (st_pc (pc2 := 1475) (if_pos rfl)).trans ?_
  exact am_nbl (m := 2) (by with_unfolding_all rfl)

set_option maxRecDepth 100000 in
theorem lc_28 {H H1 H2 : am_H} {k n j a0 b0 a1 b1 : Nat} {u w : List Value} {v : Int32} (hL : sL < 2 ^ 31) (hj : j + 5 < sL) (h0 : am_is H 0 (.inr (11, u))) (h157 : am_is H1 157 (.inr (12, w))) (rA : aX sL sx cs 166 0 [(0, .ref 0)] [] H 0 0 = some (some (.int v), H1, a0, b0)) (rB : aX sL sx cs 355 0 [(0, .ref 157)] [] H1 0 0 = some (some (.int v), H2, a1, b1)) (hc : sx j &&& 63 = 28) :
    aX sL sx cs 417 70 ((4, .int (Int32.ofNat j)) :: [(3, .ref 196), (2, .ref 157), (1, .ref 0), (0, .retAddr 0)]) [.int (sx j &&& 63)] H k n = aX sL sx cs 417 53 ((4, .int (Int32.ofNat j + 6)) :: [(3, .ref 196), (2, .ref 157), (1, .ref 0), (0, .retAddr 0)]) [] H2 (k + a0 + a1) (n + b0 + b1) := by
  rw [hc]
  refine (st_tsw ((lw_co 70).trans rfl)).trans ?_
  refine (st_pc (pc2 := 1185) (by decide +kernel)).trans ?_
  refine (am_nbl (m := 1) (pc1 := 1186) (ls1 := ((4, .int (Int32.ofNat j)) :: [(3, .ref 196), (2, .ref 157), (1, .ref 0), (0, .retAddr 0)])) (st1 := [.ref 0]) (H1 := H) (k1 := k) (n1 := n) (by with_unfolding_all rfl)).trans ?_
  refine (st_cv1 (as := []) (rest := []) ((lw_co 1186).trans rfl) rfl rfl rfl h0 rfl (by with_unfolding_all rfl) (by with_unfolding_all rfl) rA).trans ?_
  refine (am_nbl (m := 1) (pc1 := 1190) (ls1 := ((4, .int (Int32.ofNat j)) :: [(3, .ref 196), (2, .ref 157), (1, .ref 0), (0, .retAddr 0)])) (st1 := [.ref 157, .int v]) (H1 := H1) (k1 := (k + a0)) (n1 := (n + b0)) (by with_unfolding_all rfl)).trans ?_
  refine (st_cv1 (as := []) (rest := [.int v]) ((lw_co 1190).trans rfl) rfl rfl rfl h157 rfl (by with_unfolding_all rfl) (by with_unfolding_all rfl) rB).trans ?_
  refine (st_icmp ((lw_co 1193).trans rfl)).trans ?_
  refine (st_pc (pc2 := 1475) (if_pos rfl)).trans ?_
  exact am_nbl (m := 2) (by with_unfolding_all rfl)

set_option maxRecDepth 100000 in
theorem lc_29 {H H1 H2 : am_H} {k n j a0 b0 a1 b1 : Nat} {u w : List Value} {v : Int32} (hL : sL < 2 ^ 31) (hj : j + 5 < sL) (h0 : am_is H 0 (.inr (11, u))) (h157 : am_is H1 157 (.inr (12, w))) (rA : aX sL sx cs 170 0 [(0, .ref 0), (1, .int (sx (j + 1)))] [] H 0 0 = some (some (.int v), H1, a0, b0)) (rB : aX sL sx cs 359 0 [(0, .ref 157), (1, .int (sx (j + 1)))] [] H1 0 0 = some (some (.int v), H2, a1, b1)) (hc : sx j &&& 63 = 29) :
    aX sL sx cs 417 70 ((4, .int (Int32.ofNat j)) :: [(3, .ref 196), (2, .ref 157), (1, .ref 0), (0, .retAddr 0)]) [.int (sx j &&& 63)] H k n = aX sL sx cs 417 53 ((4, .int (Int32.ofNat j + 6)) :: [(3, .ref 196), (2, .ref 157), (1, .ref 0), (0, .retAddr 0)]) [] H2 (k + a0 + a1) (n + b0 + b1) := by
  rw [hc]
  refine (st_tsw ((lw_co 70).trans rfl)).trans ?_
  refine (st_pc (pc2 := 1198) (by decide +kernel)).trans ?_
  refine (am_nbl (m := 5) (pc1 := 1204) (ls1 := ((4, .int (Int32.ofNat j)) :: [(3, .ref 196), (2, .ref 157), (1, .ref 0), (0, .retAddr 0)])) (st1 := [.int (Int32.ofNat j + 1), .retAddr 0, .ref 0]) (H1 := H) (k1 := k) (n1 := n) (by with_unfolding_all rfl)).trans ?_
  refine (st_sc (d := 1) ((lw_co 1204).trans rfl) hL (by omega)).trans ?_
  refine (st_cv1 (as := [.int (sx (j + 1))]) (rest := []) ((lw_co 1205).trans rfl) rfl rfl rfl h0 rfl (by with_unfolding_all rfl) (by with_unfolding_all rfl) rA).trans ?_
  refine (am_nbl (m := 5) (pc1 := 1214) (ls1 := ((4, .int (Int32.ofNat j)) :: [(3, .ref 196), (2, .ref 157), (1, .ref 0), (0, .retAddr 0)])) (st1 := [.int (Int32.ofNat j + 1), .retAddr 0, .ref 157, .int v]) (H1 := H1) (k1 := (k + a0)) (n1 := (n + b0)) (by with_unfolding_all rfl)).trans ?_
  refine (st_sc (d := 1) ((lw_co 1214).trans rfl) hL (by omega)).trans ?_
  refine (st_cv1 (as := [.int (sx (j + 1))]) (rest := [.int v]) ((lw_co 1215).trans rfl) rfl rfl rfl h157 rfl (by with_unfolding_all rfl) (by with_unfolding_all rfl) rB).trans ?_
  refine (st_icmp ((lw_co 1218).trans rfl)).trans ?_
  refine (st_pc (pc2 := 1475) (if_pos rfl)).trans ?_
  exact am_nbl (m := 2) (by with_unfolding_all rfl)

set_option maxRecDepth 100000 in
theorem lc_30 {H H1 H2 : am_H} {k n j a0 b0 a1 b1 : Nat} {u w : List Value} {v : Int32} (hL : sL < 2 ^ 31) (hj : j + 5 < sL) (h0 : am_is H 0 (.inr (11, u))) (h157 : am_is H1 157 (.inr (12, w))) (rA : aX sL sx cs 173 0 [(0, .ref 0), (1, .int (sx (j + 1))), (2, .int (am_nz (sx (j + 2))))] [] H 0 0 = some (some (.int v), H1, a0, b0)) (rB : aX sL sx cs 411 0 [(0, .ref 157), (1, .int (sx (j + 1))), (2, .int (am_nz (sx (j + 2))))] [] H1 0 0 = some (some (.int v), H2, a1, b1)) (hc : sx j &&& 63 = 30) :
    aX sL sx cs 417 70 ((4, .int (Int32.ofNat j)) :: [(3, .ref 196), (2, .ref 157), (1, .ref 0), (0, .retAddr 0)]) [.int (sx j &&& 63)] H k n = aX sL sx cs 417 53 ((4, .int (Int32.ofNat j + 6)) :: [(3, .ref 196), (2, .ref 157), (1, .ref 0), (0, .retAddr 0)]) [] H2 (k + a0 + a1) (n + b0 + b1) := by
  rw [hc]
  refine (st_tsw ((lw_co 70).trans rfl)).trans ?_
  refine (st_pc (pc2 := 1223) (by decide +kernel)).trans ?_
  refine (am_nbl (m := 5) (pc1 := 1229) (ls1 := ((4, .int (Int32.ofNat j)) :: [(3, .ref 196), (2, .ref 157), (1, .ref 0), (0, .retAddr 0)])) (st1 := [.int (Int32.ofNat j + 1), .retAddr 0, .ref 0]) (H1 := H) (k1 := k) (n1 := n) (by with_unfolding_all rfl)).trans ?_
  refine (st_sc (d := 1) ((lw_co 1229).trans rfl) hL (by omega)).trans ?_
  refine (am_nbl (m := 4) (pc1 := 1235) (ls1 := ((4, .int (Int32.ofNat j)) :: [(3, .ref 196), (2, .ref 157), (1, .ref 0), (0, .retAddr 0)])) (st1 := [.int (Int32.ofNat j + 2), .retAddr 0, .int (sx (j + 1)), .ref 0]) (H1 := H) (k1 := k) (n1 := n) (by with_unfolding_all rfl)).trans ?_
  refine (st_sc (d := 2) ((lw_co 1235).trans rfl) hL (by omega)).trans ?_
  refine (st_if ((lw_co 1236).trans rfl)).trans ?_
  have q5 : aX sL sx cs 417 (am_br .eq (sx (j + 2)) 0 1243 1239) ((4, .int (Int32.ofNat j)) :: [(3, .ref 196), (2, .ref 157), (1, .ref 0), (0, .retAddr 0)]) [.int (sx (j + 1)), .ref 0] H k n = aX sL sx cs 417 1244 ((4, .int (Int32.ofNat j)) :: [(3, .ref 196), (2, .ref 157), (1, .ref 0), (0, .retAddr 0)]) [.int (am_nz (sx (j + 2))), .int (sx (j + 1)), .ref 0] H k n := by
    unfold am_nz
    by_cases c : (sx (j + 2)) = 0
    · rw [if_pos c, show am_br .eq (sx (j + 2)) 0 1243 1239 = 1243 from if_pos c]
      exact am_nbl (m := 1) (by with_unfolding_all rfl)
    · rw [if_neg c, show am_br .eq (sx (j + 2)) 0 1243 1239 = 1239 from if_neg c]
      exact am_nbl (m := 2) (by with_unfolding_all rfl)
  refine q5.trans ?_
  refine (st_cv1 (as := [.int (sx (j + 1)), .int (am_nz (sx (j + 2)))]) (rest := []) ((lw_co 1244).trans rfl) rfl rfl rfl h0 rfl (by with_unfolding_all rfl) (by with_unfolding_all rfl) rA).trans ?_
  refine (am_nbl (m := 5) (pc1 := 1253) (ls1 := ((4, .int (Int32.ofNat j)) :: [(3, .ref 196), (2, .ref 157), (1, .ref 0), (0, .retAddr 0)])) (st1 := [.int (Int32.ofNat j + 1), .retAddr 0, .ref 157, .int v]) (H1 := H1) (k1 := (k + a0)) (n1 := (n + b0)) (by with_unfolding_all rfl)).trans ?_
  refine (st_sc (d := 1) ((lw_co 1253).trans rfl) hL (by omega)).trans ?_
  refine (am_nbl (m := 4) (pc1 := 1259) (ls1 := ((4, .int (Int32.ofNat j)) :: [(3, .ref 196), (2, .ref 157), (1, .ref 0), (0, .retAddr 0)])) (st1 := [.int (Int32.ofNat j + 2), .retAddr 0, .int (sx (j + 1)), .ref 157, .int v]) (H1 := H1) (k1 := (k + a0)) (n1 := (n + b0)) (by with_unfolding_all rfl)).trans ?_
  refine (st_sc (d := 2) ((lw_co 1259).trans rfl) hL (by omega)).trans ?_
  refine (st_if ((lw_co 1260).trans rfl)).trans ?_
  have q19 : aX sL sx cs 417 (am_br .eq (sx (j + 2)) 0 1267 1263) ((4, .int (Int32.ofNat j)) :: [(3, .ref 196), (2, .ref 157), (1, .ref 0), (0, .retAddr 0)]) [.int (sx (j + 1)), .ref 157, .int v] H1 (k + a0) (n + b0) = aX sL sx cs 417 1268 ((4, .int (Int32.ofNat j)) :: [(3, .ref 196), (2, .ref 157), (1, .ref 0), (0, .retAddr 0)]) [.int (am_nz (sx (j + 2))), .int (sx (j + 1)), .ref 157, .int v] H1 (k + a0) (n + b0) := by
    unfold am_nz
    by_cases c : (sx (j + 2)) = 0
    · rw [if_pos c, show am_br .eq (sx (j + 2)) 0 1267 1263 = 1267 from if_pos c]
      exact am_nbl (m := 1) (by with_unfolding_all rfl)
    · rw [if_neg c, show am_br .eq (sx (j + 2)) 0 1267 1263 = 1263 from if_neg c]
      exact am_nbl (m := 2) (by with_unfolding_all rfl)
  refine q19.trans ?_
  refine (st_cv1 (as := [.int (sx (j + 1)), .int (am_nz (sx (j + 2)))]) (rest := [.int v]) ((lw_co 1268).trans rfl) rfl rfl rfl h157 rfl (by with_unfolding_all rfl) (by with_unfolding_all rfl) rB).trans ?_
  refine (st_icmp ((lw_co 1271).trans rfl)).trans ?_
  refine (st_pc (pc2 := 1475) (if_pos rfl)).trans ?_
  exact am_nbl (m := 2) (by with_unfolding_all rfl)

set_option maxRecDepth 100000 in
theorem lc_31 {H H1 H2 : am_H} {k n j a0 b0 a1 b1 : Nat} {u w : List Value} {v : Int32} (hL : sL < 2 ^ 31) (hj : j + 5 < sL) (h0 : am_is H 0 (.inr (11, u))) (h157 : am_is H1 157 (.inr (12, w))) (rA : aX sL sx cs 175 0 [(0, .ref 0), (1, .int (sx (j + 1)))] [] H 0 0 = some (some (.int v), H1, a0, b0)) (rB : aX sL sx cs 364 0 [(0, .ref 157), (1, .int (sx (j + 1)))] [] H1 0 0 = some (some (.int v), H2, a1, b1)) (hc : sx j &&& 63 = 31) :
    aX sL sx cs 417 70 ((4, .int (Int32.ofNat j)) :: [(3, .ref 196), (2, .ref 157), (1, .ref 0), (0, .retAddr 0)]) [.int (sx j &&& 63)] H k n = aX sL sx cs 417 53 ((4, .int (Int32.ofNat j + 6)) :: [(3, .ref 196), (2, .ref 157), (1, .ref 0), (0, .retAddr 0)]) [] H2 (k + a0 + a1) (n + b0 + b1) := by
  rw [hc]
  refine (st_tsw ((lw_co 70).trans rfl)).trans ?_
  refine (st_pc (pc2 := 1276) (by decide +kernel)).trans ?_
  refine (am_nbl (m := 5) (pc1 := 1282) (ls1 := ((4, .int (Int32.ofNat j)) :: [(3, .ref 196), (2, .ref 157), (1, .ref 0), (0, .retAddr 0)])) (st1 := [.int (Int32.ofNat j + 1), .retAddr 0, .ref 0]) (H1 := H) (k1 := k) (n1 := n) (by with_unfolding_all rfl)).trans ?_
  refine (st_sc (d := 1) ((lw_co 1282).trans rfl) hL (by omega)).trans ?_
  refine (st_cv1 (as := [.int (sx (j + 1))]) (rest := []) ((lw_co 1283).trans rfl) rfl rfl rfl h0 rfl (by with_unfolding_all rfl) (by with_unfolding_all rfl) rA).trans ?_
  refine (am_nbl (m := 5) (pc1 := 1292) (ls1 := ((4, .int (Int32.ofNat j)) :: [(3, .ref 196), (2, .ref 157), (1, .ref 0), (0, .retAddr 0)])) (st1 := [.int (Int32.ofNat j + 1), .retAddr 0, .ref 157, .int v]) (H1 := H1) (k1 := (k + a0)) (n1 := (n + b0)) (by with_unfolding_all rfl)).trans ?_
  refine (st_sc (d := 1) ((lw_co 1292).trans rfl) hL (by omega)).trans ?_
  refine (st_cv1 (as := [.int (sx (j + 1))]) (rest := [.int v]) ((lw_co 1293).trans rfl) rfl rfl rfl h157 rfl (by with_unfolding_all rfl) (by with_unfolding_all rfl) rB).trans ?_
  refine (st_icmp ((lw_co 1296).trans rfl)).trans ?_
  refine (st_pc (pc2 := 1475) (if_pos rfl)).trans ?_
  exact am_nbl (m := 2) (by with_unfolding_all rfl)

set_option maxRecDepth 100000 in
theorem lc_32 {H H1 H2 : am_H} {k n j a0 b0 a1 b1 : Nat} {u w : List Value} {v : Int32} (hL : sL < 2 ^ 31) (hj : j + 5 < sL) (h0 : am_is H 0 (.inr (11, u))) (h157 : am_is H1 157 (.inr (12, w))) (rA : aX sL sx cs 177 0 [(0, .ref 0), (1, .int (sx (j + 1)))] [] H 0 0 = some (some (.int v), H1, a0, b0)) (rB : aX sL sx cs 365 0 [(0, .ref 157), (1, .int (sx (j + 1)))] [] H1 0 0 = some (some (.int v), H2, a1, b1)) (hc : sx j &&& 63 = 32) :
    aX sL sx cs 417 70 ((4, .int (Int32.ofNat j)) :: [(3, .ref 196), (2, .ref 157), (1, .ref 0), (0, .retAddr 0)]) [.int (sx j &&& 63)] H k n = aX sL sx cs 417 53 ((4, .int (Int32.ofNat j + 6)) :: [(3, .ref 196), (2, .ref 157), (1, .ref 0), (0, .retAddr 0)]) [] H2 (k + a0 + a1) (n + b0 + b1) := by
  rw [hc]
  refine (st_tsw ((lw_co 70).trans rfl)).trans ?_
  refine (st_pc (pc2 := 1301) (by decide +kernel)).trans ?_
  refine (am_nbl (m := 5) (pc1 := 1307) (ls1 := ((4, .int (Int32.ofNat j)) :: [(3, .ref 196), (2, .ref 157), (1, .ref 0), (0, .retAddr 0)])) (st1 := [.int (Int32.ofNat j + 1), .retAddr 0, .ref 0]) (H1 := H) (k1 := k) (n1 := n) (by with_unfolding_all rfl)).trans ?_
  refine (st_sc (d := 1) ((lw_co 1307).trans rfl) hL (by omega)).trans ?_
  refine (st_cv1 (as := [.int (sx (j + 1))]) (rest := []) ((lw_co 1308).trans rfl) rfl rfl rfl h0 rfl (by with_unfolding_all rfl) (by with_unfolding_all rfl) rA).trans ?_
  refine (am_nbl (m := 5) (pc1 := 1317) (ls1 := ((4, .int (Int32.ofNat j)) :: [(3, .ref 196), (2, .ref 157), (1, .ref 0), (0, .retAddr 0)])) (st1 := [.int (Int32.ofNat j + 1), .retAddr 0, .ref 157, .int v]) (H1 := H1) (k1 := (k + a0)) (n1 := (n + b0)) (by with_unfolding_all rfl)).trans ?_
  refine (st_sc (d := 1) ((lw_co 1317).trans rfl) hL (by omega)).trans ?_
  refine (st_cv1 (as := [.int (sx (j + 1))]) (rest := [.int v]) ((lw_co 1318).trans rfl) rfl rfl rfl h157 rfl (by with_unfolding_all rfl) (by with_unfolding_all rfl) rB).trans ?_
  refine (st_icmp ((lw_co 1321).trans rfl)).trans ?_
  refine (st_pc (pc2 := 1475) (if_pos rfl)).trans ?_
  exact am_nbl (m := 2) (by with_unfolding_all rfl)

set_option maxRecDepth 100000 in
theorem lc_33 {H H1 H2 : am_H} {k n j a0 b0 a1 b1 : Nat} {u w : List Value} {v : Int32} (hL : sL < 2 ^ 31) (hj : j + 5 < sL) (h0 : am_is H 0 (.inr (11, u))) (h157 : am_is H1 157 (.inr (12, w))) (rA : aX sL sx cs 248 0 [(0, .ref 0), (1, .int (sx (j + 1))), (2, .int (sx (j + 2)))] [] H 0 0 = some (some (.int v), H1, a0, b0)) (rB : aX sL sx cs 412 0 [(0, .ref 157), (1, .int (sx (j + 1))), (2, .int (sx (j + 2)))] [] H1 0 0 = some (some (.int v), H2, a1, b1)) (hc : sx j &&& 63 = 33) :
    aX sL sx cs 417 70 ((4, .int (Int32.ofNat j)) :: [(3, .ref 196), (2, .ref 157), (1, .ref 0), (0, .retAddr 0)]) [.int (sx j &&& 63)] H k n = aX sL sx cs 417 53 ((4, .int (Int32.ofNat j + 6)) :: [(3, .ref 196), (2, .ref 157), (1, .ref 0), (0, .retAddr 0)]) [] H2 (k + a0 + a1) (n + b0 + b1) := by
  rw [hc]
  refine (st_tsw ((lw_co 70).trans rfl)).trans ?_
  refine (st_pc (pc2 := 1326) (by decide +kernel)).trans ?_
  refine (am_nbl (m := 5) (pc1 := 1332) (ls1 := ((4, .int (Int32.ofNat j)) :: [(3, .ref 196), (2, .ref 157), (1, .ref 0), (0, .retAddr 0)])) (st1 := [.int (Int32.ofNat j + 1), .retAddr 0, .ref 0]) (H1 := H) (k1 := k) (n1 := n) (by with_unfolding_all rfl)).trans ?_
  refine (st_sc (d := 1) ((lw_co 1332).trans rfl) hL (by omega)).trans ?_
  refine (am_nbl (m := 4) (pc1 := 1338) (ls1 := ((4, .int (Int32.ofNat j)) :: [(3, .ref 196), (2, .ref 157), (1, .ref 0), (0, .retAddr 0)])) (st1 := [.int (Int32.ofNat j + 2), .retAddr 0, .int (sx (j + 1)), .ref 0]) (H1 := H) (k1 := k) (n1 := n) (by with_unfolding_all rfl)).trans ?_
  refine (st_sc (d := 2) ((lw_co 1338).trans rfl) hL (by omega)).trans ?_
  refine (st_cv1 (as := [.int (sx (j + 1)), .int (sx (j + 2))]) (rest := []) ((lw_co 1339).trans rfl) rfl rfl rfl h0 rfl (by with_unfolding_all rfl) (by with_unfolding_all rfl) rA).trans ?_
  refine (am_nbl (m := 5) (pc1 := 1348) (ls1 := ((4, .int (Int32.ofNat j)) :: [(3, .ref 196), (2, .ref 157), (1, .ref 0), (0, .retAddr 0)])) (st1 := [.int (Int32.ofNat j + 1), .retAddr 0, .ref 157, .int v]) (H1 := H1) (k1 := (k + a0)) (n1 := (n + b0)) (by with_unfolding_all rfl)).trans ?_
  refine (st_sc (d := 1) ((lw_co 1348).trans rfl) hL (by omega)).trans ?_
  refine (am_nbl (m := 4) (pc1 := 1354) (ls1 := ((4, .int (Int32.ofNat j)) :: [(3, .ref 196), (2, .ref 157), (1, .ref 0), (0, .retAddr 0)])) (st1 := [.int (Int32.ofNat j + 2), .retAddr 0, .int (sx (j + 1)), .ref 157, .int v]) (H1 := H1) (k1 := (k + a0)) (n1 := (n + b0)) (by with_unfolding_all rfl)).trans ?_
  refine (st_sc (d := 2) ((lw_co 1354).trans rfl) hL (by omega)).trans ?_
  refine (st_cv1 (as := [.int (sx (j + 1)), .int (sx (j + 2))]) (rest := [.int v]) ((lw_co 1355).trans rfl) rfl rfl rfl h157 rfl (by with_unfolding_all rfl) (by with_unfolding_all rfl) rB).trans ?_
  refine (st_icmp ((lw_co 1358).trans rfl)).trans ?_
  refine (st_pc (pc2 := 1475) (if_pos rfl)).trans ?_
  exact am_nbl (m := 2) (by with_unfolding_all rfl)

set_option maxRecDepth 100000 in
theorem lc_34 {H H1 H2 : am_H} {k n j a0 b0 a1 b1 : Nat} {u w : List Value} {v : Int32} (hL : sL < 2 ^ 31) (hj : j + 5 < sL) (h0 : am_is H 0 (.inr (11, u))) (h157 : am_is H1 157 (.inr (12, w))) (rA : aX sL sx cs 250 0 [(0, .ref 0), (1, .int (sx (j + 1)))] [] H 0 0 = some (some (.int v), H1, a0, b0)) (rB : aX sL sx cs 413 0 [(0, .ref 157), (1, .int (sx (j + 1)))] [] H1 0 0 = some (some (.int v), H2, a1, b1)) (hc : sx j &&& 63 = 34) :
    aX sL sx cs 417 70 ((4, .int (Int32.ofNat j)) :: [(3, .ref 196), (2, .ref 157), (1, .ref 0), (0, .retAddr 0)]) [.int (sx j &&& 63)] H k n = aX sL sx cs 417 53 ((4, .int (Int32.ofNat j + 6)) :: [(3, .ref 196), (2, .ref 157), (1, .ref 0), (0, .retAddr 0)]) [] H2 (k + a0 + a1) (n + b0 + b1) := by
  rw [hc]
  refine (st_tsw ((lw_co 70).trans rfl)).trans ?_
  refine (st_pc (pc2 := 1363) (by decide +kernel)).trans ?_
  refine (am_nbl (m := 5) (pc1 := 1369) (ls1 := ((4, .int (Int32.ofNat j)) :: [(3, .ref 196), (2, .ref 157), (1, .ref 0), (0, .retAddr 0)])) (st1 := [.int (Int32.ofNat j + 1), .retAddr 0, .ref 0]) (H1 := H) (k1 := k) (n1 := n) (by with_unfolding_all rfl)).trans ?_
  refine (st_sc (d := 1) ((lw_co 1369).trans rfl) hL (by omega)).trans ?_
  refine (st_cv1 (as := [.int (sx (j + 1))]) (rest := []) ((lw_co 1370).trans rfl) rfl rfl rfl h0 rfl (by with_unfolding_all rfl) (by with_unfolding_all rfl) rA).trans ?_
  refine (am_nbl (m := 5) (pc1 := 1379) (ls1 := ((4, .int (Int32.ofNat j)) :: [(3, .ref 196), (2, .ref 157), (1, .ref 0), (0, .retAddr 0)])) (st1 := [.int (Int32.ofNat j + 1), .retAddr 0, .ref 157, .int v]) (H1 := H1) (k1 := (k + a0)) (n1 := (n + b0)) (by with_unfolding_all rfl)).trans ?_
  refine (st_sc (d := 1) ((lw_co 1379).trans rfl) hL (by omega)).trans ?_
  refine (st_cv1 (as := [.int (sx (j + 1))]) (rest := [.int v]) ((lw_co 1380).trans rfl) rfl rfl rfl h157 rfl (by with_unfolding_all rfl) (by with_unfolding_all rfl) rB).trans ?_
  refine (st_icmp ((lw_co 1383).trans rfl)).trans ?_
  refine (st_pc (pc2 := 1475) (if_pos rfl)).trans ?_
  exact am_nbl (m := 2) (by with_unfolding_all rfl)

set_option maxRecDepth 100000 in
theorem lc_35 {H H1 H2 : am_H} {k n j a0 b0 a1 b1 : Nat} {u w : List Value} {v : Int32} (hL : sL < 2 ^ 31) (hj : j + 5 < sL) (h0 : am_is H 0 (.inr (11, u))) (h157 : am_is H1 157 (.inr (12, w))) (rA : aX sL sx cs 251 0 [(0, .ref 0), (1, .int (sx (j + 1)))] [] H 0 0 = some (some (.int v), H1, a0, b0)) (rB : aX sL sx cs 414 0 [(0, .ref 157), (1, .int (sx (j + 1)))] [] H1 0 0 = some (some (.int v), H2, a1, b1)) (hc : sx j &&& 63 = 35) :
    aX sL sx cs 417 70 ((4, .int (Int32.ofNat j)) :: [(3, .ref 196), (2, .ref 157), (1, .ref 0), (0, .retAddr 0)]) [.int (sx j &&& 63)] H k n = aX sL sx cs 417 53 ((4, .int (Int32.ofNat j + 6)) :: [(3, .ref 196), (2, .ref 157), (1, .ref 0), (0, .retAddr 0)]) [] H2 (k + a0 + a1) (n + b0 + b1) := by
  rw [hc]
  refine (st_tsw ((lw_co 70).trans rfl)).trans ?_
  refine (st_pc (pc2 := 1388) (by decide +kernel)).trans ?_
  refine (am_nbl (m := 5) (pc1 := 1394) (ls1 := ((4, .int (Int32.ofNat j)) :: [(3, .ref 196), (2, .ref 157), (1, .ref 0), (0, .retAddr 0)])) (st1 := [.int (Int32.ofNat j + 1), .retAddr 0, .ref 0]) (H1 := H) (k1 := k) (n1 := n) (by with_unfolding_all rfl)).trans ?_
  refine (st_sc (d := 1) ((lw_co 1394).trans rfl) hL (by omega)).trans ?_
  refine (st_cv1 (as := [.int (sx (j + 1))]) (rest := []) ((lw_co 1395).trans rfl) rfl rfl rfl h0 rfl (by with_unfolding_all rfl) (by with_unfolding_all rfl) rA).trans ?_
  refine (am_nbl (m := 5) (pc1 := 1404) (ls1 := ((4, .int (Int32.ofNat j)) :: [(3, .ref 196), (2, .ref 157), (1, .ref 0), (0, .retAddr 0)])) (st1 := [.int (Int32.ofNat j + 1), .retAddr 0, .ref 157, .int v]) (H1 := H1) (k1 := (k + a0)) (n1 := (n + b0)) (by with_unfolding_all rfl)).trans ?_
  refine (st_sc (d := 1) ((lw_co 1404).trans rfl) hL (by omega)).trans ?_
  refine (st_cv1 (as := [.int (sx (j + 1))]) (rest := [.int v]) ((lw_co 1405).trans rfl) rfl rfl rfl h157 rfl (by with_unfolding_all rfl) (by with_unfolding_all rfl) rB).trans ?_
  refine (st_icmp ((lw_co 1408).trans rfl)).trans ?_
  refine (st_pc (pc2 := 1475) (if_pos rfl)).trans ?_
  exact am_nbl (m := 2) (by with_unfolding_all rfl)

set_option maxRecDepth 100000 in
theorem lc_36 {H H1 H2 : am_H} {k n j a0 b0 a1 b1 : Nat} {u w : List Value} {v : Int32} (hL : sL < 2 ^ 31) (hj : j + 5 < sL) (h0 : am_is H 0 (.inr (11, u))) (h157 : am_is H1 157 (.inr (12, w))) (rA : aX sL sx cs 254 0 [(0, .ref 0), (1, .int (sx (j + 1)))] [] H 0 0 = some (some (.int v), H1, a0, b0)) (rB : aX sL sx cs 415 0 [(0, .ref 157), (1, .int (sx (j + 1)))] [] H1 0 0 = some (some (.int v), H2, a1, b1)) (hc : sx j &&& 63 = 36) :
    aX sL sx cs 417 70 ((4, .int (Int32.ofNat j)) :: [(3, .ref 196), (2, .ref 157), (1, .ref 0), (0, .retAddr 0)]) [.int (sx j &&& 63)] H k n = aX sL sx cs 417 53 ((4, .int (Int32.ofNat j + 6)) :: [(3, .ref 196), (2, .ref 157), (1, .ref 0), (0, .retAddr 0)]) [] H2 (k + a0 + a1) (n + b0 + b1) := by
  rw [hc]
  refine (st_tsw ((lw_co 70).trans rfl)).trans ?_
  refine (st_pc (pc2 := 1413) (by decide +kernel)).trans ?_
  refine (am_nbl (m := 5) (pc1 := 1419) (ls1 := ((4, .int (Int32.ofNat j)) :: [(3, .ref 196), (2, .ref 157), (1, .ref 0), (0, .retAddr 0)])) (st1 := [.int (Int32.ofNat j + 1), .retAddr 0, .ref 0]) (H1 := H) (k1 := k) (n1 := n) (by with_unfolding_all rfl)).trans ?_
  refine (st_sc (d := 1) ((lw_co 1419).trans rfl) hL (by omega)).trans ?_
  refine (st_cv1 (as := [.int (sx (j + 1))]) (rest := []) ((lw_co 1420).trans rfl) rfl rfl rfl h0 rfl (by with_unfolding_all rfl) (by with_unfolding_all rfl) rA).trans ?_
  refine (am_nbl (m := 5) (pc1 := 1429) (ls1 := ((4, .int (Int32.ofNat j)) :: [(3, .ref 196), (2, .ref 157), (1, .ref 0), (0, .retAddr 0)])) (st1 := [.int (Int32.ofNat j + 1), .retAddr 0, .ref 157, .int v]) (H1 := H1) (k1 := (k + a0)) (n1 := (n + b0)) (by with_unfolding_all rfl)).trans ?_
  refine (st_sc (d := 1) ((lw_co 1429).trans rfl) hL (by omega)).trans ?_
  refine (st_cv1 (as := [.int (sx (j + 1))]) (rest := [.int v]) ((lw_co 1430).trans rfl) rfl rfl rfl h157 rfl (by with_unfolding_all rfl) (by with_unfolding_all rfl) rB).trans ?_
  refine (st_icmp ((lw_co 1433).trans rfl)).trans ?_
  refine (st_pc (pc2 := 1475) (if_pos rfl)).trans ?_
  exact am_nbl (m := 2) (by with_unfolding_all rfl)

set_option maxRecDepth 100000 in
theorem lc_37 {H H1 H2 : am_H} {k n j a0 b0 a1 b1 : Nat} {u w : List Value} {v : Int32} (hL : sL < 2 ^ 31) (hj : j + 5 < sL) (h0 : am_is H 0 (.inr (11, u))) (h157 : am_is H1 157 (.inr (12, w))) (rA : aX sL sx cs 257 0 [(0, .ref 0), (1, .int (sx (j + 1))), (2, .int (sx (j + 2)))] [] H 0 0 = some (some (.int v), H1, a0, b0)) (rB : aX sL sx cs 416 0 [(0, .ref 157), (1, .int (sx (j + 1))), (2, .int (sx (j + 2)))] [] H1 0 0 = some (some (.int v), H2, a1, b1)) (hc : sx j &&& 63 = 37) :
    aX sL sx cs 417 70 ((4, .int (Int32.ofNat j)) :: [(3, .ref 196), (2, .ref 157), (1, .ref 0), (0, .retAddr 0)]) [.int (sx j &&& 63)] H k n = aX sL sx cs 417 53 ((4, .int (Int32.ofNat j + 6)) :: [(3, .ref 196), (2, .ref 157), (1, .ref 0), (0, .retAddr 0)]) [] H2 (k + a0 + a1) (n + b0 + b1) := by
  rw [hc]
  refine (st_tsw ((lw_co 70).trans rfl)).trans ?_
  refine (st_pc (pc2 := 1438) (by decide +kernel)).trans ?_
  refine (am_nbl (m := 5) (pc1 := 1444) (ls1 := ((4, .int (Int32.ofNat j)) :: [(3, .ref 196), (2, .ref 157), (1, .ref 0), (0, .retAddr 0)])) (st1 := [.int (Int32.ofNat j + 1), .retAddr 0, .ref 0]) (H1 := H) (k1 := k) (n1 := n) (by with_unfolding_all rfl)).trans ?_
  refine (st_sc (d := 1) ((lw_co 1444).trans rfl) hL (by omega)).trans ?_
  refine (am_nbl (m := 4) (pc1 := 1450) (ls1 := ((4, .int (Int32.ofNat j)) :: [(3, .ref 196), (2, .ref 157), (1, .ref 0), (0, .retAddr 0)])) (st1 := [.int (Int32.ofNat j + 2), .retAddr 0, .int (sx (j + 1)), .ref 0]) (H1 := H) (k1 := k) (n1 := n) (by with_unfolding_all rfl)).trans ?_
  refine (st_sc (d := 2) ((lw_co 1450).trans rfl) hL (by omega)).trans ?_
  refine (st_cv1 (as := [.int (sx (j + 1)), .int (sx (j + 2))]) (rest := []) ((lw_co 1451).trans rfl) rfl rfl rfl h0 rfl (by with_unfolding_all rfl) (by with_unfolding_all rfl) rA).trans ?_
  refine (am_nbl (m := 5) (pc1 := 1460) (ls1 := ((4, .int (Int32.ofNat j)) :: [(3, .ref 196), (2, .ref 157), (1, .ref 0), (0, .retAddr 0)])) (st1 := [.int (Int32.ofNat j + 1), .retAddr 0, .ref 157, .int v]) (H1 := H1) (k1 := (k + a0)) (n1 := (n + b0)) (by with_unfolding_all rfl)).trans ?_
  refine (st_sc (d := 1) ((lw_co 1460).trans rfl) hL (by omega)).trans ?_
  refine (am_nbl (m := 4) (pc1 := 1466) (ls1 := ((4, .int (Int32.ofNat j)) :: [(3, .ref 196), (2, .ref 157), (1, .ref 0), (0, .retAddr 0)])) (st1 := [.int (Int32.ofNat j + 2), .retAddr 0, .int (sx (j + 1)), .ref 157, .int v]) (H1 := H1) (k1 := (k + a0)) (n1 := (n + b0)) (by with_unfolding_all rfl)).trans ?_
  refine (st_sc (d := 2) ((lw_co 1466).trans rfl) hL (by omega)).trans ?_
  refine (st_cv1 (as := [.int (sx (j + 1)), .int (sx (j + 2))]) (rest := [.int v]) ((lw_co 1467).trans rfl) rfl rfl rfl h157 rfl (by with_unfolding_all rfl) (by with_unfolding_all rfl) rB).trans ?_
  refine (st_icmp ((lw_co 1470).trans rfl)).trans ?_
  refine (st_pc (pc2 := 1475) (if_pos rfl)).trans ?_
  exact am_nbl (m := 2) (by with_unfolding_all rfl)

set_option maxRecDepth 100000 in
theorem lc_d {H : am_H} {k n j : Nat} (hc : ∀ q : Nat, q < 38 → ¬ sx j &&& 63 = Int32.ofNat q) :
    aX sL sx cs 417 70 ((4, .int (Int32.ofNat j)) :: [(3, .ref 196), (2, .ref 157), (1, .ref 0), (0, .retAddr 0)]) [.int (sx j &&& 63)] H k n = aX sL sx cs 417 53 ((4, .int (Int32.ofNat j + 6)) :: [(3, .ref 196), (2, .ref 157), (1, .ref 0), (0, .retAddr 0)]) [] H k n := by
  refine (st_tsw ((lw_co 70).trans rfl)).trans ?_
  refine (st_pc (pc2 := 1475) (am_sw_d _ _ 38 rfl hc)).trans ?_
  exact am_nbl (m := 2) (by with_unfolding_all rfl)

end CASE
