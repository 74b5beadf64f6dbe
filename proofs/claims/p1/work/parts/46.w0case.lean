/-! The law's cases: what a turn of its loop does, out of both calls' runs. -/
section CASE
variable {sL : Nat} {sx : Nat → Int32} {cs : Nat → Nat → Option Int32}
def am_nz (x : Int32) : Int32 := if x = 0 then 0 else 1
theorem st_sc {y pc : Nat} {ls : am_L} {st : List Value} {H : am_H} {k n j d : Nat} (hI : am_co y pc = some (.iaload, .null, 0, 0, false, [])) (hL : sL < 2 ^ 31) (hj : j + d < sL) : aX sL sx cs y pc ls (.int (Int32.ofNat j + Int32.ofNat d) :: .retAddr 0 :: st) H k n = aX sL sx cs y (pc + 1) ls (.int (sx (j + d)) :: st) H k n := by
  rw [← Int32.ofNat_add]
  refine (st_ial0 hI (within rfl hj hL)).trans ?_
  rw [clamp_of rfl (by omega : j + d < 2 ^ 31)]
theorem am_sw_d {x : Int32} (tb : List (Int32 × Nat)) (d N : Nat) (he : tb.map (fun z => z.1) = (List.range N).map Int32.ofNat) (hc : ∀ q : Nat, q < N → ¬ x = Int32.ofNat q) : am_sw tb d x = d := by
  have key : ∀ tb : List (Int32 × Nat), (∀ z ∈ tb, ¬ x = z.1) → am_sw tb d x = d := by
    intro tb
    induction tb with
    | nil => intro _; rfl
    | cons a t ih =>
      intro h
      show (if x = a.1 then a.2 else am_sw t d x) = d
      rw [if_neg (h a List.mem_cons_self)]
      exact ih (fun z hz => h z (List.mem_cons_of_mem _ hz))
  refine key tb (fun z hz => ?_)
  have hm : z.1 ∈ (List.range N).map Int32.ofNat := by
    rw [← he]
    exact List.mem_map.mpr ⟨z, hz, rfl⟩
  obtain ⟨q, hq, e⟩ := List.mem_map.mp hm
  rw [← e]
  exact hc q (List.mem_range.mp hq)
set_option maxRecDepth 100000 in
theorem lc_0 {H H1 H2 : am_H} {k n j a0 b0 a1 b1 : Nat} {u w : List Value} {v : Int32} (hL : sL < 2 ^ 31) (hj : j + 5 < sL) (h0 : am_is H 0 (.inr (11, u))) (h157 : am_is H1 157 (.inr (12, w))) (rA : aX sL sx cs 19 0 [(0, .ref 0), (1, .int (sx (j + 1))), (2, .int (sx (j + 2))), (3, .int (sx (j + 3))), (4, .int (sx (j + 4))), (5, .int (sx (j + 5)))] [] H 0 0 = some (some (.int v), H1, a0, b0)) (rB : aX sL sx cs 261 0 [(0, .ref 157), (1, .int (sx (j + 1))), (2, .int (sx (j + 2))), (3, .int (sx (j + 3))), (4, .int (sx (j + 4))), (5, .int (sx (j + 5)))] [] H1 0 0 = some (some (.int v), H2, a1, b1)) (hc : sx j &&& 63 = 0) :
    aX sL sx cs 417 70 ((4, .int (Int32.ofNat j)) :: [(3, .ref 196), (2, .ref 157), (1, .ref 0), (0, .retAddr 0)]) [.int (sx j &&& 63)] H k n = aX sL sx cs 417 53 ((4, .int (Int32.ofNat j + 6)) :: [(3, .ref 196), (2, .ref 157), (1, .ref 0), (0, .retAddr 0)]) [] H2 (k + a0 + a1) (n + b0 + b1) := by
  rw [hc]
  refine (st_tsw rfl).trans ?_
  refine (st_pc (pc2 := 236) (by decide +kernel)).trans ?_
  refine (am_nb (m := 5) (pc1 := 242) (ls1 := ((4, .int (Int32.ofNat j)) :: [(3, .ref 196), (2, .ref 157), (1, .ref 0), (0, .retAddr 0)])) (st1 := [.int (Int32.ofNat j + 1), .retAddr 0, .ref 0]) (H1 := H) (k1 := k) (n1 := n) (by with_unfolding_all rfl)).trans ?_
  refine (st_sc (d := 1) rfl hL (by omega)).trans ?_
  refine (am_nb (m := 4) (pc1 := 248) (ls1 := ((4, .int (Int32.ofNat j)) :: [(3, .ref 196), (2, .ref 157), (1, .ref 0), (0, .retAddr 0)])) (st1 := [.int (Int32.ofNat j + 2), .retAddr 0, .int (sx (j + 1)), .ref 0]) (H1 := H) (k1 := k) (n1 := n) (by with_unfolding_all rfl)).trans ?_
  refine (st_sc (d := 2) rfl hL (by omega)).trans ?_
  refine (am_nb (m := 4) (pc1 := 254) (ls1 := ((4, .int (Int32.ofNat j)) :: [(3, .ref 196), (2, .ref 157), (1, .ref 0), (0, .retAddr 0)])) (st1 := [.int (Int32.ofNat j + 3), .retAddr 0, .int (sx (j + 2)), .int (sx (j + 1)), .ref 0]) (H1 := H) (k1 := k) (n1 := n) (by with_unfolding_all rfl)).trans ?_
  refine (st_sc (d := 3) rfl hL (by omega)).trans ?_
  refine (am_nb (m := 4) (pc1 := 260) (ls1 := ((4, .int (Int32.ofNat j)) :: [(3, .ref 196), (2, .ref 157), (1, .ref 0), (0, .retAddr 0)])) (st1 := [.int (Int32.ofNat j + 4), .retAddr 0, .int (sx (j + 3)), .int (sx (j + 2)), .int (sx (j + 1)), .ref 0]) (H1 := H) (k1 := k) (n1 := n) (by with_unfolding_all rfl)).trans ?_
  refine (st_sc (d := 4) rfl hL (by omega)).trans ?_
  refine (am_nb (m := 4) (pc1 := 266) (ls1 := ((4, .int (Int32.ofNat j)) :: [(3, .ref 196), (2, .ref 157), (1, .ref 0), (0, .retAddr 0)])) (st1 := [.int (Int32.ofNat j + 5), .retAddr 0, .int (sx (j + 4)), .int (sx (j + 3)), .int (sx (j + 2)), .int (sx (j + 1)), .ref 0]) (H1 := H) (k1 := k) (n1 := n) (by with_unfolding_all rfl)).trans ?_
  refine (st_sc (d := 5) rfl hL (by omega)).trans ?_
  refine (st_cv1 (as := [.int (sx (j + 1)), .int (sx (j + 2)), .int (sx (j + 3)), .int (sx (j + 4)), .int (sx (j + 5))]) (rest := []) rfl rfl rfl rfl h0 rfl (by with_unfolding_all rfl) (by with_unfolding_all rfl) rA).trans ?_
  refine (am_nb (m := 5) (pc1 := 276) (ls1 := ((4, .int (Int32.ofNat j)) :: [(3, .ref 196), (2, .ref 157), (1, .ref 0), (0, .retAddr 0)])) (st1 := [.int (Int32.ofNat j + 1), .retAddr 0, .ref 157, .int v]) (H1 := H1) (k1 := (k + a0)) (n1 := (n + b0)) (by with_unfolding_all rfl)).trans ?_
  refine (st_sc (d := 1) rfl hL (by omega)).trans ?_
  refine (am_nb (m := 4) (pc1 := 282) (ls1 := ((4, .int (Int32.ofNat j)) :: [(3, .ref 196), (2, .ref 157), (1, .ref 0), (0, .retAddr 0)])) (st1 := [.int (Int32.ofNat j + 2), .retAddr 0, .int (sx (j + 1)), .ref 157, .int v]) (H1 := H1) (k1 := (k + a0)) (n1 := (n + b0)) (by with_unfolding_all rfl)).trans ?_
  refine (st_sc (d := 2) rfl hL (by omega)).trans ?_
  refine (am_nb (m := 4) (pc1 := 288) (ls1 := ((4, .int (Int32.ofNat j)) :: [(3, .ref 196), (2, .ref 157), (1, .ref 0), (0, .retAddr 0)])) (st1 := [.int (Int32.ofNat j + 3), .retAddr 0, .int (sx (j + 2)), .int (sx (j + 1)), .ref 157, .int v]) (H1 := H1) (k1 := (k + a0)) (n1 := (n + b0)) (by with_unfolding_all rfl)).trans ?_
  refine (st_sc (d := 3) rfl hL (by omega)).trans ?_
  refine (am_nb (m := 4) (pc1 := 294) (ls1 := ((4, .int (Int32.ofNat j)) :: [(3, .ref 196), (2, .ref 157), (1, .ref 0), (0, .retAddr 0)])) (st1 := [.int (Int32.ofNat j + 4), .retAddr 0, .int (sx (j + 3)), .int (sx (j + 2)), .int (sx (j + 1)), .ref 157, .int v]) (H1 := H1) (k1 := (k + a0)) (n1 := (n + b0)) (by with_unfolding_all rfl)).trans ?_
  refine (st_sc (d := 4) rfl hL (by omega)).trans ?_
  refine (am_nb (m := 4) (pc1 := 300) (ls1 := ((4, .int (Int32.ofNat j)) :: [(3, .ref 196), (2, .ref 157), (1, .ref 0), (0, .retAddr 0)])) (st1 := [.int (Int32.ofNat j + 5), .retAddr 0, .int (sx (j + 4)), .int (sx (j + 3)), .int (sx (j + 2)), .int (sx (j + 1)), .ref 157, .int v]) (H1 := H1) (k1 := (k + a0)) (n1 := (n + b0)) (by with_unfolding_all rfl)).trans ?_
  refine (st_sc (d := 5) rfl hL (by omega)).trans ?_
  refine (st_cv1 (as := [.int (sx (j + 1)), .int (sx (j + 2)), .int (sx (j + 3)), .int (sx (j + 4)), .int (sx (j + 5))]) (rest := [.int v]) rfl rfl rfl rfl h157 rfl (by with_unfolding_all rfl) (by with_unfolding_all rfl) rB).trans ?_
  refine (st_icmp rfl).trans ?_
  refine (st_pc (pc2 := 1475) (if_pos rfl)).trans ?_
  exact am_nb (m := 2) (by with_unfolding_all rfl)

end CASE
