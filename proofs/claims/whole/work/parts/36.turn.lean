/-! The law's loop: its end, and the choice of a call. -/
section TURN
variable {sL : Nat} {sx : Nat → Int32} {cs : Nat → Nat → Option Int32} {H : am_H} {k n : Nat}
theorem lw_exit {i : Int32} (c : Int32.ofNat sL - 6 < i) : aX sL sx cs 417 53 [(4, .int i), (3, .ref 196), (2, .ref 157), (1, .ref 0), (0, .retAddr 0)] [] H k n = some (some (.int 1), H, k, n) := by
  refine (am_nb (m := 5) (pc1 := 60) (ls1 := [(4, .int i), (3, .ref 196), (2, .ref 157), (1, .ref 0), (0, .retAddr 0)]) (st1 := [.int (Int32.ofNat sL - 6), .int i]) (H1 := H) (k1 := k) (n1 := n) (by with_unfolding_all rfl)).trans ?_
  refine (st_icmp rfl).trans ?_
  refine (st_pc (pc2 := 1481) (if_pos c)).trans ?_
  refine (am_nb (m := 1) (pc1 := 1482) (ls1 := [(4, .int i), (3, .ref 196), (2, .ref 157), (1, .ref 0), (0, .retAddr 0)]) (st1 := [.int 1]) (H1 := H) (k1 := k) (n1 := n) (by with_unfolding_all rfl)).trans ?_
  exact st_iret rfl rfl rfl
theorem lw_call {j : Nat} (hL : sL < 2 ^ 31) (c : ¬ Int32.ofNat sL - 6 < Int32.ofNat j) (hj : j < sL) : aX sL sx cs 417 53 [(4, .int (Int32.ofNat j)), (3, .ref 196), (2, .ref 157), (1, .ref 0), (0, .retAddr 0)] [] H k n = aX sL sx cs 417 70 [(4, .int (Int32.ofNat j)), (3, .ref 196), (2, .ref 157), (1, .ref 0), (0, .retAddr 0)] [.int (sx j &&& 63)] H k n := by
  refine (am_nb (m := 5) (pc1 := 60) (ls1 := [(4, .int (Int32.ofNat j)), (3, .ref 196), (2, .ref 157), (1, .ref 0), (0, .retAddr 0)]) (st1 := [.int (Int32.ofNat sL - 6), .int (Int32.ofNat j)]) (H1 := H) (k1 := k) (n1 := n) (by with_unfolding_all rfl)).trans ?_
  refine (st_icmp rfl).trans ?_
  refine (st_pc (pc2 := 63) (if_neg c)).trans ?_
  refine (am_nb (m := 2) (pc1 := 66) (ls1 := [(4, .int (Int32.ofNat j)), (3, .ref 196), (2, .ref 157), (1, .ref 0), (0, .retAddr 0)]) (st1 := [.int (Int32.ofNat j), .retAddr 0]) (H1 := H) (k1 := k) (n1 := n) (by with_unfolding_all rfl)).trans ?_
  refine (st_ial0 rfl (within rfl hj hL)).trans ?_
  rw [clamp_of rfl (by omega : j < 2 ^ 31)]
  exact am_nb (m := 2) (by with_unfolding_all rfl)
end TURN
