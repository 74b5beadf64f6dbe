/-! The law's cases: what a turn of its loop does, out of both calls' runs. -/
section CASE
variable {sL : Nat} {sx : Nat → Int32} {cs : Nat → Nat → Option Int32}
def am_nz (x : Int32) : Int32 := if x = 0 then 0 else 1
theorem st_sc {y pc : Nat} {ls : am_L} {st : List Value} {H : am_H} {k n j d : Nat} (hI : am_co y pc = some (.iaload, .null, 0, 0, false, [])) (hL : sL < 2 ^ 31) (hj : j + d < sL) : aX sL sx cs y pc ls (.int (Int32.ofNat j + Int32.ofNat d) :: .retAddr 0 :: st) H k n = aX sL sx cs y (pc + 1) ls (.int (sx (j + d)) :: st) H k n := by
  rw [← Int32.ofNat_add]
  refine (st_ial0 hI (within rfl hj hL)).trans ?_
  rw [clamp_of rfl (by omega : j + d < 2 ^ 31)]
theorem am_sw_d {x : Int32} (tb : List (Int32 × Nat)) (d N : Nat) (he : tb.map (fun z => z.1) = (List.range N).map Int32.ofNat) (hc : ∀ q : Nat, q < N → ¬ x = Int32.ofNat q) : am_sw tb d x = d := by
  have key : ∀ tb : List (Int32 × Nat), (∀ z ∈ tb, ¬ x = z.1) → am_sw tb d x = d := by
    intro tb
    induction tb with
    | nil => intro _; rfl
    | cons a t ih =>
      intro h
      show (if x = a.1 then a.2 else am_sw t d x) = d
      rw [if_neg (h a List.mem_cons_self)]
      exact ih (fun z hz => h z (List.mem_cons_of_mem _ hz))
  refine key tb (fun z hz => ?_)
  have hm : z.1 ∈ (List.range N).map Int32.ofNat := by
    rw [← he]
    exact List.mem_map.mpr ⟨z, hz, rfl⟩
  obtain ⟨q, hq, e⟩ := List.mem_map.mp hm
  rw [← e]
  exact hc q (List.mem_range.mp hq)
set_option maxRecDepth 100000 in
theorem lc_0 {H H1 H2 : am_H} {k n j a0 b0 a1 b1 : Nat} {u w : List Value} {v : Int32} (hL : sL < 2 ^ 31) (hj : j + 5 < sL) (h0 : am_is H 0 (.inr (11, u))) (h157 : am_is H1 157 (.inr (12, w))) (rA : aX sL sx cs 19 0 [(0, .ref 0), (1, .int (sx (j + 1))), (2, .int (sx (j + 2))), (3, .int (sx (j + 3))), (4, .int (sx (j + 4))), (5, .int (sx (j + 5)))] [] H 0 0 = some (some (.int v), H1, a0, b0)) (rB : aX sL sx cs 261 0 [(0, .ref 157), (1, .int (sx (j + 1))), (2, .int (sx (j + 2))), (3, .int (sx (j + 3))), (4, .int (sx (j + 4))), (5, .int (sx (j + 5)))] [] H1 0 0 = some (some (.int v), H2, a1, b1)) (hc : sx j &&& 63 = 0) :
    aX sL sx cs 417 70 ((4, .int (Int32.ofNat j)) :: [(3, .ref 196), (2, .ref 157), (1, .ref 0), (0, .retAddr 0)]) [.int (sx j &&& 63)] H k n = aX sL sx cs 417 53 ((4, .int (Int32.ofNat j + 6)) :: [(3, .ref 196), (2, .ref 157), (1, .ref 0), (0, .retAddr 0)]) [] H2 (k + a0 + a1) (n + b0 + b1) := by
  rw [hc]
  refine (st_tsw rfl).trans ?_
  refine (st_pc (pc2 := 236) (by decide +kernel)).trans ?_
  show aX sL sx cs 417 236 (lb_l (Int32.ofNat j)) _ _ _ _ = aX sL sx cs 417 53 (lb_l (Int32.ofNat j + 6)) _ _ _ _
  refine (lb_a1 (pc := 236) rfl).trans ?_
  refine (lb_B (pc := 237) (d := 1) rfl rfl rfl (by decide) rfl).trans ?_
  refine (st_sc (d := 1) rfl hL (by omega)).trans ?_
  refine (lb_B (pc := 243) (d := 2) rfl rfl rfl (by decide) rfl).trans ?_
  refine (st_sc (d := 2) rfl hL (by omega)).trans ?_
  refine (lb_B (pc := 249) (d := 3) rfl rfl rfl (by decide) rfl).trans ?_
  refine (st_sc (d := 3) rfl hL (by omega)).trans ?_
  refine (lb_B (pc := 255) (d := 4) rfl rfl rfl (by decide) rfl).trans ?_
  refine (st_sc (d := 4) rfl hL (by omega)).trans ?_
  refine (lb_B (pc := 261) (d := 5) rfl rfl rfl (by decide) rfl).trans ?_
  refine (st_sc (d := 5) rfl hL (by omega)).trans ?_
  refine (st_cv1 (as := [.int (sx (j + 1)), .int (sx (j + 2)), .int (sx (j + 3)), .int (sx (j + 4)), .int (sx (j + 5))]) (rest := []) rfl rfl rfl rfl h0 rfl (by with_unfolding_all rfl) (by with_unfolding_all rfl) rA).trans ?_
  refine (lb_a2 (pc := 270) rfl).trans ?_
  refine (lb_B (pc := 271) (d := 1) rfl rfl rfl (by decide) rfl).trans ?_
  refine (st_sc (d := 1) rfl hL (by omega)).trans ?_
  refine (lb_B (pc := 277) (d := 2) rfl rfl rfl (by decide) rfl).trans ?_
  refine (st_sc (d := 2) rfl hL (by omega)).trans ?_
  refine (lb_B (pc := 283) (d := 3) rfl rfl rfl (by decide) rfl).trans ?_
  refine (st_sc (d := 3) rfl hL (by omega)).trans ?_
  refine (lb_B (pc := 289) (d := 4) rfl rfl rfl (by decide) rfl).trans ?_
  refine (st_sc (d := 4) rfl hL (by omega)).trans ?_
  refine (lb_B (pc := 295) (d := 5) rfl rfl rfl (by decide) rfl).trans ?_
  refine (st_sc (d := 5) rfl hL (by omega)).trans ?_
  refine (st_cv1 (as := [.int (sx (j + 1)), .int (sx (j + 2)), .int (sx (j + 3)), .int (sx (j + 4)), .int (sx (j + 5))]) (rest := [.int v]) rfl rfl rfl rfl h157 rfl (by with_unfolding_all rfl) (by with_unfolding_all rfl) rB).trans ?_
  refine (st_icmp rfl).trans ?_
  refine (st_pc (pc2 := 1475) (if_pos rfl)).trans ?_
  exact lb_end

set_option maxRecDepth 100000 in
theorem lc_1 {H H1 H2 : am_H} {k n j a0 b0 a1 b1 : Nat} {u w : List Value} {v : Int32} (hL : sL < 2 ^ 31) (hj : j + 5 < sL) (h0 : am_is H 0 (.inr (11, u))) (h157 : am_is H1 157 (.inr (12, w))) (rA : aX sL sx cs 21 0 [(0, .ref 0), (1, .int (sx (j + 1)))] [] H 0 0 = some (some (.int v), H1, a0, b0)) (rB : aX sL sx cs 262 0 [(0, .ref 157), (1, .int (sx (j + 1)))] [] H1 0 0 = some (some (.int v), H2, a1, b1)) (hc : sx j &&& 63 = 1) :
    aX sL sx cs 417 70 ((4, .int (Int32.ofNat j)) :: [(3, .ref 196), (2, .ref 157), (1, .ref 0), (0, .retAddr 0)]) [.int (sx j &&& 63)] H k n = aX sL sx cs 417 53 ((4, .int (Int32.ofNat j + 6)) :: [(3, .ref 196), (2, .ref 157), (1, .ref 0), (0, .retAddr 0)]) [] H2 (k + a0 + a1) (n + b0 + b1) := by
  rw [hc]
  refine (st_tsw rfl).trans ?_
  refine (st_pc (pc2 := 309) (by decide +kernel)).trans ?_
  show aX sL sx cs 417 309 (lb_l (Int32.ofNat j)) _ _ _ _ = aX sL sx cs 417 53 (lb_l (Int32.ofNat j + 6)) _ _ _ _
  refine (lb_a1 (pc := 309) rfl).trans ?_
  refine (lb_B (pc := 310) (d := 1) rfl rfl rfl (by decide) rfl).trans ?_
  refine (st_sc (d := 1) rfl hL (by omega)).trans ?_
  refine (st_cv1 (as := [.int (sx (j + 1))]) (rest := []) rfl rfl rfl rfl h0 rfl (by with_unfolding_all rfl) (by with_unfolding_all rfl) rA).trans ?_
  refine (lb_a2 (pc := 319) rfl).trans ?_
  refine (lb_B (pc := 320) (d := 1) rfl rfl rfl (by decide) rfl).trans ?_
  refine (st_sc (d := 1) rfl hL (by omega)).trans ?_
  refine (st_cv1 (as := [.int (sx (j + 1))]) (rest := [.int v]) rfl rfl rfl rfl h157 rfl (by with_unfolding_all rfl) (by with_unfolding_all rfl) rB).trans ?_
  refine (st_icmp rfl).trans ?_
  refine (st_pc (pc2 := 1475) (if_pos rfl)).trans ?_
  exact lb_end

set_option maxRecDepth 100000 in
theorem lc_3 {H H1 H2 : am_H} {k n j a0 b0 a1 b1 : Nat} {u w : List Value} {v : Int32} (hL : sL < 2 ^ 31) (hj : j + 5 < sL) (h0 : am_is H 0 (.inr (11, u))) (h157 : am_is H1 157 (.inr (12, w))) (rA : aX sL sx cs 22 0 [(0, .ref 0)] [] H 0 0 = some (some (.int v), H1, a0, b0)) (rB : aX sL sx cs 264 0 [(0, .ref 157)] [] H1 0 0 = some (some (.int v), H2, a1, b1)) (hc : sx j &&& 63 = 3) :
    aX sL sx cs 417 70 ((4, .int (Int32.ofNat j)) :: [(3, .ref 196), (2, .ref 157), (1, .ref 0), (0, .retAddr 0)]) [.int (sx j &&& 63)] H k n = aX sL sx cs 417 53 ((4, .int (Int32.ofNat j + 6)) :: [(3, .ref 196), (2, .ref 157), (1, .ref 0), (0, .retAddr 0)]) [] H2 (k + a0 + a1) (n + b0 + b1) := by
  rw [hc]
  refine (st_tsw rfl).trans ?_
  refine (st_pc (pc2 := 390) (by decide +kernel)).trans ?_
  show aX sL sx cs 417 390 (lb_l (Int32.ofNat j)) _ _ _ _ = aX sL sx cs 417 53 (lb_l (Int32.ofNat j + 6)) _ _ _ _
  refine (lb_a1 (pc := 390) rfl).trans ?_
  refine (st_cv1 (as := []) (rest := []) rfl rfl rfl rfl h0 rfl (by with_unfolding_all rfl) (by with_unfolding_all rfl) rA).trans ?_
  refine (lb_a2 (pc := 394) rfl).trans ?_
  refine (st_cv1 (as := []) (rest := [.int v]) rfl rfl rfl rfl h157 rfl (by with_unfolding_all rfl) (by with_unfolding_all rfl) rB).trans ?_
  refine (st_icmp rfl).trans ?_
  refine (st_pc (pc2 := 1475) (if_pos rfl)).trans ?_
  exact lb_end

set_option maxRecDepth 100000 in
theorem lc_4 {H H1 H2 : am_H} {k n j a0 b0 a1 b1 : Nat} {u w : List Value} {v : Int32} (hL : sL < 2 ^ 31) (hj : j + 5 < sL) (h0 : am_is H 0 (.inr (11, u))) (h157 : am_is H1 157 (.inr (12, w))) (rA : aX sL sx cs 70 0 [(0, .ref 0), (1, .int (sx (j + 1)))] [] H 0 0 = some (some (.int v), H1, a0, b0)) (rB : aX sL sx cs 292 0 [(0, .ref 157), (1, .int (sx (j + 1)))] [] H1 0 0 = some (some (.int v), H2, a1, b1)) (hc : sx j &&& 63 = 4) :
    aX sL sx cs 417 70 ((4, .int (Int32.ofNat j)) :: [(3, .ref 196), (2, .ref 157), (1, .ref 0), (0, .retAddr 0)]) [.int (sx j &&& 63)] H k n = aX sL sx cs 417 53 ((4, .int (Int32.ofNat j + 6)) :: [(3, .ref 196), (2, .ref 157), (1, .ref 0), (0, .retAddr 0)]) [] H2 (k + a0 + a1) (n + b0 + b1) := by
  rw [hc]
  refine (st_tsw rfl).trans ?_
  refine (st_pc (pc2 := 403) (by decide +kernel)).trans ?_
  show aX sL sx cs 417 403 (lb_l (Int32.ofNat j)) _ _ _ _ = aX sL sx cs 417 53 (lb_l (Int32.ofNat j + 6)) _ _ _ _
  refine (lb_a1 (pc := 403) rfl).trans ?_
  refine (lb_B (pc := 404) (d := 1) rfl rfl rfl (by decide) rfl).trans ?_
  refine (st_sc (d := 1) rfl hL (by omega)).trans ?_
  refine (st_cv1 (as := [.int (sx (j + 1))]) (rest := []) rfl rfl rfl rfl h0 rfl (by with_unfolding_all rfl) (by with_unfolding_all rfl) rA).trans ?_
  refine (lb_a2 (pc := 413) rfl).trans ?_
  refine (lb_B (pc := 414) (d := 1) rfl rfl rfl (by decide) rfl).trans ?_
  refine (st_sc (d := 1) rfl hL (by omega)).trans ?_
  refine (st_cv1 (as := [.int (sx (j + 1))]) (rest := [.int v]) rfl rfl rfl rfl h157 rfl (by with_unfolding_all rfl) (by with_unfolding_all rfl) rB).trans ?_
  refine (st_icmp rfl).trans ?_
  refine (st_pc (pc2 := 1475) (if_pos rfl)).trans ?_
  exact lb_end

set_option maxRecDepth 100000 in
theorem lc_5 {H H1 H2 : am_H} {k n j a0 b0 a1 b1 : Nat} {u w : List Value} {v : Int32} (hL : sL < 2 ^ 31) (hj : j + 5 < sL) (h0 : am_is H 0 (.inr (11, u))) (h157 : am_is H1 157 (.inr (12, w))) (rA : aX sL sx cs 71 0 [(0, .ref 0)] [] H 0 0 = some (some (.int v), H1, a0, b0)) (rB : aX sL sx cs 293 0 [(0, .ref 157)] [] H1 0 0 = some (some (.int v), H2, a1, b1)) (hc : sx j &&& 63 = 5) :
    aX sL sx cs 417 70 ((4, .int (Int32.ofNat j)) :: [(3, .ref 196), (2, .ref 157), (1, .ref 0), (0, .retAddr 0)]) [.int (sx j &&& 63)] H k n = aX sL sx cs 417 53 ((4, .int (Int32.ofNat j + 6)) :: [(3, .ref 196), (2, .ref 157), (1, .ref 0), (0, .retAddr 0)]) [] H2 (k + a0 + a1) (n + b0 + b1) := by
  rw [hc]
  refine (st_tsw rfl).trans ?_
  refine (st_pc (pc2 := 428) (by decide +kernel)).trans ?_
  show aX sL sx cs 417 428 (lb_l (Int32.ofNat j)) _ _ _ _ = aX sL sx cs 417 53 (lb_l (Int32.ofNat j + 6)) _ _ _ _
  refine (lb_a1 (pc := 428) rfl).trans ?_
  refine (st_cv1 (as := []) (rest := []) rfl rfl rfl rfl h0 rfl (by with_unfolding_all rfl) (by with_unfolding_all rfl) rA).trans ?_
  refine (lb_a2 (pc := 432) rfl).trans ?_
  refine (st_cv1 (as := []) (rest := [.int v]) rfl rfl rfl rfl h157 rfl (by with_unfolding_all rfl) (by with_unfolding_all rfl) rB).trans ?_
  refine (st_icmp rfl).trans ?_
  refine (st_pc (pc2 := 1475) (if_pos rfl)).trans ?_
  exact lb_end

set_option maxRecDepth 100000 in
theorem lc_6 {H H1 H2 : am_H} {k n j a0 b0 a1 b1 : Nat} {u w : List Value} (hL : sL < 2 ^ 31) (hj : j + 5 < sL) (h0 : am_is H 0 (.inr (11, u))) (h157 : am_is H1 157 (.inr (12, w))) (rA : aX sL sx cs 91 0 [(0, .ref 0)] [] H 0 0 = some (none, H1, a0, b0)) (rB : aX sL sx cs 294 0 [(0, .ref 157)] [] H1 0 0 = some (none, H2, a1, b1)) (hc : sx j &&& 63 = 6) :
    aX sL sx cs 417 70 ((4, .int (Int32.ofNat j)) :: [(3, .ref 196), (2, .ref 157), (1, .ref 0), (0, .retAddr 0)]) [.int (sx j &&& 63)] H k n = aX sL sx cs 417 53 ((4, .int (Int32.ofNat j + 6)) :: [(3, .ref 196), (2, .ref 157), (1, .ref 0), (0, .retAddr 0)]) [] H2 (k + a0 + a1) (n + b0 + b1) := by
  rw [hc]
  refine (st_tsw rfl).trans ?_
  refine (st_pc (pc2 := 441) (by decide +kernel)).trans ?_
  show aX sL sx cs 417 441 (lb_l (Int32.ofNat j)) _ _ _ _ = aX sL sx cs 417 53 (lb_l (Int32.ofNat j + 6)) _ _ _ _
  refine (lb_a1 (pc := 441) rfl).trans ?_
  refine (st_cv0 (as := []) (rest := []) rfl rfl rfl rfl h0 rfl (by with_unfolding_all rfl) (by with_unfolding_all rfl) rA).trans ?_
  refine (lb_a2 (pc := 445) rfl).trans ?_
  refine (st_cv0 (as := []) (rest := []) rfl rfl rfl rfl h157 rfl (by with_unfolding_all rfl) (by with_unfolding_all rfl) rB).trans ?_
  refine (lb_go (pc := 449) (tgt := 1475) rfl).trans ?_
  exact lb_end

set_option maxRecDepth 100000 in
theorem lc_7 {H H1 H2 : am_H} {k n j a0 b0 a1 b1 : Nat} {u w : List Value} {v : Int32} (hL : sL < 2 ^ 31) (hj : j + 5 < sL) (h0 : am_is H 0 (.inr (11, u))) (h157 : am_is H1 157 (.inr (12, w))) (rA : aX sL sx cs 93 0 [(0, .ref 0)] [] H 0 0 = some (some (.int v), H1, a0, b0)) (rB : aX sL sx cs 295 0 [(0, .ref 157)] [] H1 0 0 = some (some (.int v), H2, a1, b1)) (hc : sx j &&& 63 = 7) :
    aX sL sx cs 417 70 ((4, .int (Int32.ofNat j)) :: [(3, .ref 196), (2, .ref 157), (1, .ref 0), (0, .retAddr 0)]) [.int (sx j &&& 63)] H k n = aX sL sx cs 417 53 ((4, .int (Int32.ofNat j + 6)) :: [(3, .ref 196), (2, .ref 157), (1, .ref 0), (0, .retAddr 0)]) [] H2 (k + a0 + a1) (n + b0 + b1) := by
  rw [hc]
  refine (st_tsw rfl).trans ?_
  refine (st_pc (pc2 := 452) (by decide +kernel)).trans ?_
  show aX sL sx cs 417 452 (lb_l (Int32.ofNat j)) _ _ _ _ = aX sL sx cs 417 53 (lb_l (Int32.ofNat j + 6)) _ _ _ _
  refine (lb_a1 (pc := 452) rfl).trans ?_
  refine (st_cv1 (as := []) (rest := []) rfl rfl rfl rfl h0 rfl (by with_unfolding_all rfl) (by with_unfolding_all rfl) rA).trans ?_
  refine (lb_a2 (pc := 456) rfl).trans ?_
  refine (st_cv1 (as := []) (rest := [.int v]) rfl rfl rfl rfl h157 rfl (by with_unfolding_all rfl) (by with_unfolding_all rfl) rB).trans ?_
  refine (st_icmp rfl).trans ?_
  refine (st_pc (pc2 := 1475) (if_pos rfl)).trans ?_
  exact lb_end

set_option maxRecDepth 100000 in
theorem lc_8 {H H1 H2 : am_H} {k n j a0 b0 a1 b1 : Nat} {u w : List Value} {v : Int32} (hL : sL < 2 ^ 31) (hj : j + 5 < sL) (h0 : am_is H 0 (.inr (11, u))) (h157 : am_is H1 157 (.inr (12, w))) (rA : aX sL sx cs 94 0 [(0, .ref 0), (1, .int (sx (j + 1))), (2, .int (sx (j + 2))), (3, .int (sx (j + 3))), (4, .int (sx (j + 4)))] [] H 0 0 = some (some (.int v), H1, a0, b0)) (rB : aX sL sx cs 298 0 [(0, .ref 157), (1, .int (sx (j + 1))), (2, .int (sx (j + 2))), (3, .int (sx (j + 3))), (4, .int (sx (j + 4)))] [] H1 0 0 = some (some (.int v), H2, a1, b1)) (hc : sx j &&& 63 = 8) :
    aX sL sx cs 417 70 ((4, .int (Int32.ofNat j)) :: [(3, .ref 196), (2, .ref 157), (1, .ref 0), (0, .retAddr 0)]) [.int (sx j &&& 63)] H k n = aX sL sx cs 417 53 ((4, .int (Int32.ofNat j + 6)) :: [(3, .ref 196), (2, .ref 157), (1, .ref 0), (0, .retAddr 0)]) [] H2 (k + a0 + a1) (n + b0 + b1) := by
  rw [hc]
  refine (st_tsw rfl).trans ?_
  refine (st_pc (pc2 := 465) (by decide +kernel)).trans ?_
  show aX sL sx cs 417 465 (lb_l (Int32.ofNat j)) _ _ _ _ = aX sL sx cs 417 53 (lb_l (Int32.ofNat j + 6)) _ _ _ _
  refine (lb_a1 (pc := 465) rfl).trans ?_
  refine (lb_B (pc := 466) (d := 1) rfl rfl rfl (by decide) rfl).trans ?_
  refine (st_sc (d := 1) rfl hL (by omega)).trans ?_
  refine (lb_B (pc := 472) (d := 2) rfl rfl rfl (by decide) rfl).trans ?_
  refine (st_sc (d := 2) rfl hL (by omega)).trans ?_
  refine (lb_B (pc := 478) (d := 3) rfl rfl rfl (by decide) rfl).trans ?_
  refine (st_sc (d := 3) rfl hL (by omega)).trans ?_
  refine (lb_B (pc := 484) (d := 4) rfl rfl rfl (by decide) rfl).trans ?_
  refine (st_sc (d := 4) rfl hL (by omega)).trans ?_
  refine (st_cv1 (as := [.int (sx (j + 1)), .int (sx (j + 2)), .int (sx (j + 3)), .int (sx (j + 4))]) (rest := []) rfl rfl rfl rfl h0 rfl (by with_unfolding_all rfl) (by with_unfolding_all rfl) rA).trans ?_
  refine (lb_a2 (pc := 493) rfl).trans ?_
  refine (lb_B (pc := 494) (d := 1) rfl rfl rfl (by decide) rfl).trans ?_
  refine (st_sc (d := 1) rfl hL (by omega)).trans ?_
  refine (lb_B (pc := 500) (d := 2) rfl rfl rfl (by decide) rfl).trans ?_
  refine (st_sc (d := 2) rfl hL (by omega)).trans ?_
  refine (lb_B (pc := 506) (d := 3) rfl rfl rfl (by decide) rfl).trans ?_
  refine (st_sc (d := 3) rfl hL (by omega)).trans ?_
  refine (lb_B (pc := 512) (d := 4) rfl rfl rfl (by decide) rfl).trans ?_
  refine (st_sc (d := 4) rfl hL (by omega)).trans ?_
  refine (st_cv1 (as := [.int (sx (j + 1)), .int (sx (j + 2)), .int (sx (j + 3)), .int (sx (j + 4))]) (rest := [.int v]) rfl rfl rfl rfl h157 rfl (by with_unfolding_all rfl) (by with_unfolding_all rfl) rB).trans ?_
  refine (st_icmp rfl).trans ?_
  refine (st_pc (pc2 := 1475) (if_pos rfl)).trans ?_
  exact lb_end

set_option maxRecDepth 100000 in
theorem lc_9 {H H1 H2 : am_H} {k n j a0 b0 a1 b1 : Nat} {u w : List Value} {v : Int32} (hL : sL < 2 ^ 31) (hj : j + 5 < sL) (h0 : am_is H 0 (.inr (11, u))) (h157 : am_is H1 157 (.inr (12, w))) (rA : aX sL sx cs 95 0 [(0, .ref 0), (1, .int (sx (j + 1))), (2, .int (sx (j + 2))), (3, .int (sx (j + 3))), (4, .int (sx (j + 4)))] [] H 0 0 = some (some (.int v), H1, a0, b0)) (rB : aX sL sx cs 306 0 [(0, .ref 157), (1, .int (sx (j + 1))), (2, .int (sx (j + 2))), (3, .int (sx (j + 3))), (4, .int (sx (j + 4)))] [] H1 0 0 = some (some (.int v), H2, a1, b1)) (hc : sx j &&& 63 = 9) :
    aX sL sx cs 417 70 ((4, .int (Int32.ofNat j)) :: [(3, .ref 196), (2, .ref 157), (1, .ref 0), (0, .retAddr 0)]) [.int (sx j &&& 63)] H k n = aX sL sx cs 417 53 ((4, .int (Int32.ofNat j + 6)) :: [(3, .ref 196), (2, .ref 157), (1, .ref 0), (0, .retAddr 0)]) [] H2 (k + a0 + a1) (n + b0 + b1) := by
  rw [hc]
  refine (st_tsw rfl).trans ?_
  refine (st_pc (pc2 := 526) (by decide +kernel)).trans ?_
  show aX sL sx cs 417 526 (lb_l (Int32.ofNat j)) _ _ _ _ = aX sL sx cs 417 53 (lb_l (Int32.ofNat j + 6)) _ _ _ _
  refine (lb_a1 (pc := 526) rfl).trans ?_
  refine (lb_B (pc := 527) (d := 1) rfl rfl rfl (by decide) rfl).trans ?_
  refine (st_sc (d := 1) rfl hL (by omega)).trans ?_
  refine (lb_B (pc := 533) (d := 2) rfl rfl rfl (by decide) rfl).trans ?_
  refine (st_sc (d := 2) rfl hL (by omega)).trans ?_
  refine (lb_B (pc := 539) (d := 3) rfl rfl rfl (by decide) rfl).trans ?_
  refine (st_sc (d := 3) rfl hL (by omega)).trans ?_
  refine (lb_B (pc := 545) (d := 4) rfl rfl rfl (by decide) rfl).trans ?_
  refine (st_sc (d := 4) rfl hL (by omega)).trans ?_
  refine (st_cv1 (as := [.int (sx (j + 1)), .int (sx (j + 2)), .int (sx (j + 3)), .int (sx (j + 4))]) (rest := []) rfl rfl rfl rfl h0 rfl (by with_unfolding_all rfl) (by with_unfolding_all rfl) rA).trans ?_
  refine (lb_a2 (pc := 554) rfl).trans ?_
  refine (lb_B (pc := 555) (d := 1) rfl rfl rfl (by decide) rfl).trans ?_
  refine (st_sc (d := 1) rfl hL (by omega)).trans ?_
  refine (lb_B (pc := 561) (d := 2) rfl rfl rfl (by decide) rfl).trans ?_
  refine (st_sc (d := 2) rfl hL (by omega)).trans ?_
  refine (lb_B (pc := 567) (d := 3) rfl rfl rfl (by decide) rfl).trans ?_
  refine (st_sc (d := 3) rfl hL (by omega)).trans ?_
  refine (lb_B (pc := 573) (d := 4) rfl rfl rfl (by decide) rfl).trans ?_
  refine (st_sc (d := 4) rfl hL (by omega)).trans ?_
  refine (st_cv1 (as := [.int (sx (j + 1)), .int (sx (j + 2)), .int (sx (j + 3)), .int (sx (j + 4))]) (rest := [.int v]) rfl rfl rfl rfl h157 rfl (by with_unfolding_all rfl) (by with_unfolding_all rfl) rB).trans ?_
  refine (st_icmp rfl).trans ?_
  refine (st_pc (pc2 := 1475) (if_pos rfl)).trans ?_
  exact lb_end

set_option maxRecDepth 100000 in
theorem lc_10 {H H1 H2 : am_H} {k n j a0 b0 a1 b1 : Nat} {u w : List Value} {v : Int32} (hL : sL < 2 ^ 31) (hj : j + 5 < sL) (h0 : am_is H 0 (.inr (11, u))) (h157 : am_is H1 157 (.inr (12, w))) (rA : aX sL sx cs 97 0 [(0, .ref 0), (1, .int (sx (j + 1)))] [] H 0 0 = some (some (.int v), H1, a0, b0)) (rB : aX sL sx cs 307 0 [(0, .ref 157), (1, .int (sx (j + 1)))] [] H1 0 0 = some (some (.int v), H2, a1, b1)) (hc : sx j &&& 63 = 10) :
    aX sL sx cs 417 70 ((4, .int (Int32.ofNat j)) :: [(3, .ref 196), (2, .ref 157), (1, .ref 0), (0, .retAddr 0)]) [.int (sx j &&& 63)] H k n = aX sL sx cs 417 53 ((4, .int (Int32.ofNat j + 6)) :: [(3, .ref 196), (2, .ref 157), (1, .ref 0), (0, .retAddr 0)]) [] H2 (k + a0 + a1) (n + b0 + b1) := by
  rw [hc]
  refine (st_tsw rfl).trans ?_
  refine (st_pc (pc2 := 587) (by decide +kernel)).trans ?_
  show aX sL sx cs 417 587 (lb_l (Int32.ofNat j)) _ _ _ _ = aX sL sx cs 417 53 (lb_l (Int32.ofNat j + 6)) _ _ _ _
  refine (lb_a1 (pc := 587) rfl).trans ?_
  refine (lb_B (pc := 588) (d := 1) rfl rfl rfl (by decide) rfl).trans ?_
  refine (st_sc (d := 1) rfl hL (by omega)).trans ?_
  refine (st_cv1 (as := [.int (sx (j + 1))]) (rest := []) rfl rfl rfl rfl h0 rfl (by with_unfolding_all rfl) (by with_unfolding_all rfl) rA).trans ?_
  refine (lb_a2 (pc := 597) rfl).trans ?_
  refine (lb_B (pc := 598) (d := 1) rfl rfl rfl (by decide) rfl).trans ?_
  refine (st_sc (d := 1) rfl hL (by omega)).trans ?_
  refine (st_cv1 (as := [.int (sx (j + 1))]) (rest := [.int v]) rfl rfl rfl rfl h157 rfl (by with_unfolding_all rfl) (by with_unfolding_all rfl) rB).trans ?_
  refine (st_icmp rfl).trans ?_
  refine (st_pc (pc2 := 1475) (if_pos rfl)).trans ?_
  exact lb_end

set_option maxRecDepth 100000 in
theorem lc_11 {H H1 H2 : am_H} {k n j a0 b0 a1 b1 : Nat} {u w : List Value} {v : Int32} (hL : sL < 2 ^ 31) (hj : j + 5 < sL) (h0 : am_is H 0 (.inr (11, u))) (h157 : am_is H1 157 (.inr (12, w))) (rA : aX sL sx cs 99 0 [(0, .ref 0), (1, .int (sx (j + 1))), (2, .int (sx (j + 2))), (3, .int (sx (j + 3)))] [] H 0 0 = some (some (.int v), H1, a0, b0)) (rB : aX sL sx cs 309 0 [(0, .ref 157), (1, .int (sx (j + 1))), (2, .int (sx (j + 2))), (3, .int (sx (j + 3)))] [] H1 0 0 = some (some (.int v), H2, a1, b1)) (hc : sx j &&& 63 = 11) :
    aX sL sx cs 417 70 ((4, .int (Int32.ofNat j)) :: [(3, .ref 196), (2, .ref 157), (1, .ref 0), (0, .retAddr 0)]) [.int (sx j &&& 63)] H k n = aX sL sx cs 417 53 ((4, .int (Int32.ofNat j + 6)) :: [(3, .ref 196), (2, .ref 157), (1, .ref 0), (0, .retAddr 0)]) [] H2 (k + a0 + a1) (n + b0 + b1) := by
  rw [hc]
  refine (st_tsw rfl).trans ?_
  refine (st_pc (pc2 := 612) (by decide +kernel)).trans ?_
  show aX sL sx cs 417 612 (lb_l (Int32.ofNat j)) _ _ _ _ = aX sL sx cs 417 53 (lb_l (Int32.ofNat j + 6)) _ _ _ _
  refine (lb_a1 (pc := 612) rfl).trans ?_
  refine (lb_B (pc := 613) (d := 1) rfl rfl rfl (by decide) rfl).trans ?_
  refine (st_sc (d := 1) rfl hL (by omega)).trans ?_
  refine (lb_B (pc := 619) (d := 2) rfl rfl rfl (by decide) rfl).trans ?_
  refine (st_sc (d := 2) rfl hL (by omega)).trans ?_
  refine (lb_B (pc := 625) (d := 3) rfl rfl rfl (by decide) rfl).trans ?_
  refine (st_sc (d := 3) rfl hL (by omega)).trans ?_
  refine (st_cv1 (as := [.int (sx (j + 1)), .int (sx (j + 2)), .int (sx (j + 3))]) (rest := []) rfl rfl rfl rfl h0 rfl (by with_unfolding_all rfl) (by with_unfolding_all rfl) rA).trans ?_
  refine (lb_a2 (pc := 634) rfl).trans ?_
  refine (lb_B (pc := 635) (d := 1) rfl rfl rfl (by decide) rfl).trans ?_
  refine (st_sc (d := 1) rfl hL (by omega)).trans ?_
  refine (lb_B (pc := 641) (d := 2) rfl rfl rfl (by decide) rfl).trans ?_
  refine (st_sc (d := 2) rfl hL (by omega)).trans ?_
  refine (lb_B (pc := 647) (d := 3) rfl rfl rfl (by decide) rfl).trans ?_
  refine (st_sc (d := 3) rfl hL (by omega)).trans ?_
  refine (st_cv1 (as := [.int (sx (j + 1)), .int (sx (j + 2)), .int (sx (j + 3))]) (rest := [.int v]) rfl rfl rfl rfl h157 rfl (by with_unfolding_all rfl) (by with_unfolding_all rfl) rB).trans ?_
  refine (st_icmp rfl).trans ?_
  refine (st_pc (pc2 := 1475) (if_pos rfl)).trans ?_
  exact lb_end

set_option maxRecDepth 100000 in
theorem lc_12 {H H1 H2 : am_H} {k n j a0 b0 a1 b1 : Nat} {u w : List Value} {v : Int32} (hL : sL < 2 ^ 31) (hj : j + 5 < sL) (h0 : am_is H 0 (.inr (11, u))) (h157 : am_is H1 157 (.inr (12, w))) (rA : aX sL sx cs 101 0 [(0, .ref 0), (1, .int (sx (j + 1))), (2, .int (sx (j + 2)))] [] H 0 0 = some (some (.int v), H1, a0, b0)) (rB : aX sL sx cs 310 0 [(0, .ref 157), (1, .int (sx (j + 1))), (2, .int (sx (j + 2)))] [] H1 0 0 = some (some (.int v), H2, a1, b1)) (hc : sx j &&& 63 = 12) :
    aX sL sx cs 417 70 ((4, .int (Int32.ofNat j)) :: [(3, .ref 196), (2, .ref 157), (1, .ref 0), (0, .retAddr 0)]) [.int (sx j &&& 63)] H k n = aX sL sx cs 417 53 ((4, .int (Int32.ofNat j + 6)) :: [(3, .ref 196), (2, .ref 157), (1, .ref 0), (0, .retAddr 0)]) [] H2 (k + a0 + a1) (n + b0 + b1) := by
  rw [hc]
  refine (st_tsw rfl).trans ?_
  refine (st_pc (pc2 := 661) (by decide +kernel)).trans ?_
  show aX sL sx cs 417 661 (lb_l (Int32.ofNat j)) _ _ _ _ = aX sL sx cs 417 53 (lb_l (Int32.ofNat j + 6)) _ _ _ _
  refine (lb_a1 (pc := 661) rfl).trans ?_
  refine (lb_B (pc := 662) (d := 1) rfl rfl rfl (by decide) rfl).trans ?_
  refine (st_sc (d := 1) rfl hL (by omega)).trans ?_
  refine (lb_B (pc := 668) (d := 2) rfl rfl rfl (by decide) rfl).trans ?_
  refine (st_sc (d := 2) rfl hL (by omega)).trans ?_
  refine (st_cv1 (as := [.int (sx (j + 1)), .int (sx (j + 2))]) (rest := []) rfl rfl rfl rfl h0 rfl (by with_unfolding_all rfl) (by with_unfolding_all rfl) rA).trans ?_
  refine (lb_a2 (pc := 677) rfl).trans ?_
  refine (lb_B (pc := 678) (d := 1) rfl rfl rfl (by decide) rfl).trans ?_
  refine (st_sc (d := 1) rfl hL (by omega)).trans ?_
  refine (lb_B (pc := 684) (d := 2) rfl rfl rfl (by decide) rfl).trans ?_
  refine (st_sc (d := 2) rfl hL (by omega)).trans ?_
  refine (st_cv1 (as := [.int (sx (j + 1)), .int (sx (j + 2))]) (rest := [.int v]) rfl rfl rfl rfl h157 rfl (by with_unfolding_all rfl) (by with_unfolding_all rfl) rB).trans ?_
  refine (st_icmp rfl).trans ?_
  refine (st_pc (pc2 := 1475) (if_pos rfl)).trans ?_
  exact lb_end

set_option maxRecDepth 100000 in
theorem lc_13 {H H1 H2 : am_H} {k n j a0 b0 a1 b1 : Nat} {u w : List Value} {v : Int32} (hL : sL < 2 ^ 31) (hj : j + 5 < sL) (h0 : am_is H 0 (.inr (11, u))) (h157 : am_is H1 157 (.inr (12, w))) (rA : aX sL sx cs 102 0 [(0, .ref 0), (1, .int (sx (j + 1))), (2, .int (am_nz (sx (j + 2))))] [] H 0 0 = some (some (.int v), H1, a0, b0)) (rB : aX sL sx cs 311 0 [(0, .ref 157), (1, .int (sx (j + 1))), (2, .int (am_nz (sx (j + 2))))] [] H1 0 0 = some (some (.int v), H2, a1, b1)) (hc : sx j &&& 63 = 13) :
    aX sL sx cs 417 70 ((4, .int (Int32.ofNat j)) :: [(3, .ref 196), (2, .ref 157), (1, .ref 0), (0, .retAddr 0)]) [.int (sx j &&& 63)] H k n = aX sL sx cs 417 53 ((4, .int (Int32.ofNat j + 6)) :: [(3, .ref 196), (2, .ref 157), (1, .ref 0), (0, .retAddr 0)]) [] H2 (k + a0 + a1) (n + b0 + b1) := by
  rw [hc]
  refine (st_tsw rfl).trans ?_
  refine (st_pc (pc2 := 698) (by decide +kernel)).trans ?_
  show aX sL sx cs 417 698 (lb_l (Int32.ofNat j)) _ _ _ _ = aX sL sx cs 417 53 (lb_l (Int32.ofNat j + 6)) _ _ _ _
  refine (lb_a1 (pc := 698) rfl).trans ?_
  refine (lb_B (pc := 699) (d := 1) rfl rfl rfl (by decide) rfl).trans ?_
  refine (st_sc (d := 1) rfl hL (by omega)).trans ?_
  refine (lb_B (pc := 705) (d := 2) rfl rfl rfl (by decide) rfl).trans ?_
  refine (st_sc (d := 2) rfl hL (by omega)).trans ?_
  refine (st_if rfl).trans ?_
  have q5 : aX sL sx cs 417 (am_br .eq (sx (j + 2)) 0 718 714) ((4, .int (Int32.ofNat j)) :: [(3, .ref 196), (2, .ref 157), (1, .ref 0), (0, .retAddr 0)]) [.int (sx (j + 1)), .ref 0] H k n = aX sL sx cs 417 719 ((4, .int (Int32.ofNat j)) :: [(3, .ref 196), (2, .ref 157), (1, .ref 0), (0, .retAddr 0)]) [.int (am_nz (sx (j + 2))), .int (sx (j + 1)), .ref 0] H k n := by
    unfold am_nz
    by_cases c : (sx (j + 2)) = 0
    · rw [if_pos c, show am_br .eq (sx (j + 2)) 0 718 714 = 718 from if_pos c]
      exact lb_ic (pc := 718) (d := 0) rfl (by decide)
    · rw [if_neg c, show am_br .eq (sx (j + 2)) 0 718 714 = 714 from if_neg c]
      exact (lb_ic (pc := 714) (d := 1) rfl (by decide)).trans (lb_go (pc := 715) rfl)
  refine q5.trans ?_
  refine (st_cv1 (as := [.int (sx (j + 1)), .int (am_nz (sx (j + 2)))]) (rest := []) rfl rfl rfl rfl h0 rfl (by with_unfolding_all rfl) (by with_unfolding_all rfl) rA).trans ?_
  refine (lb_a2 (pc := 722) rfl).trans ?_
  refine (lb_B (pc := 723) (d := 1) rfl rfl rfl (by decide) rfl).trans ?_
  refine (st_sc (d := 1) rfl hL (by omega)).trans ?_
  refine (lb_B (pc := 729) (d := 2) rfl rfl rfl (by decide) rfl).trans ?_
  refine (st_sc (d := 2) rfl hL (by omega)).trans ?_
  refine (st_if rfl).trans ?_
  have q19 : aX sL sx cs 417 (am_br .eq (sx (j + 2)) 0 742 738) ((4, .int (Int32.ofNat j)) :: [(3, .ref 196), (2, .ref 157), (1, .ref 0), (0, .retAddr 0)]) [.int (sx (j + 1)), .ref 157, .int v] H1 (k + a0) (n + b0) = aX sL sx cs 417 743 ((4, .int (Int32.ofNat j)) :: [(3, .ref 196), (2, .ref 157), (1, .ref 0), (0, .retAddr 0)]) [.int (am_nz (sx (j + 2))), .int (sx (j + 1)), .ref 157, .int v] H1 (k + a0) (n + b0) := by
    unfold am_nz
    by_cases c : (sx (j + 2)) = 0
    · rw [if_pos c, show am_br .eq (sx (j + 2)) 0 742 738 = 742 from if_pos c]
      exact lb_ic (pc := 742) (d := 0) rfl (by decide)
    · rw [if_neg c, show am_br .eq (sx (j + 2)) 0 742 738 = 738 from if_neg c]
      exact (lb_ic (pc := 738) (d := 1) rfl (by decide)).trans (lb_go (pc := 739) rfl)
  refine q19.trans ?_
  refine (st_cv1 (as := [.int (sx (j + 1)), .int (am_nz (sx (j + 2)))]) (rest := [.int v]) rfl rfl rfl rfl h157 rfl (by with_unfolding_all rfl) (by with_unfolding_all rfl) rB).trans ?_
  refine (st_icmp rfl).trans ?_
  refine (st_pc (pc2 := 1475) (if_pos rfl)).trans ?_
  exact lb_end

set_option maxRecDepth 100000 in
theorem lc_14 {H H1 H2 : am_H} {k n j a0 b0 a1 b1 : Nat} {u w : List Value} {v : Int32} (hL : sL < 2 ^ 31) (hj : j + 5 < sL) (h0 : am_is H 0 (.inr (11, u))) (h157 : am_is H1 157 (.inr (12, w))) (rA : aX sL sx cs 103 0 [(0, .ref 0), (1, .int (sx (j + 1)))] [] H 0 0 = some (some (.int v), H1, a0, b0)) (rB : aX sL sx cs 312 0 [(0, .ref 157), (1, .int (sx (j + 1)))] [] H1 0 0 = some (some (.int v), H2, a1, b1)) (hc : sx j &&& 63 = 14) :
    aX sL sx cs 417 70 ((4, .int (Int32.ofNat j)) :: [(3, .ref 196), (2, .ref 157), (1, .ref 0), (0, .retAddr 0)]) [.int (sx j &&& 63)] H k n = aX sL sx cs 417 53 ((4, .int (Int32.ofNat j + 6)) :: [(3, .ref 196), (2, .ref 157), (1, .ref 0), (0, .retAddr 0)]) [] H2 (k + a0 + a1) (n + b0 + b1) := by
  rw [hc]
  refine (st_tsw rfl).trans ?_
  refine (st_pc (pc2 := 751) (by decide +kernel)).trans ?_
  show aX sL sx cs 417 751 (lb_l (Int32.ofNat j)) _ _ _ _ = aX sL sx cs 417 53 (lb_l (Int32.ofNat j + 6)) _ _ _ _
  refine (lb_a1 (pc := 751) rfl).trans ?_
  refine (lb_B (pc := 752) (d := 1) rfl rfl rfl (by decide) rfl).trans ?_
  refine (st_sc (d := 1) rfl hL (by omega)).trans ?_
  refine (st_cv1 (as := [.int (sx (j + 1))]) (rest := []) rfl rfl rfl rfl h0 rfl (by with_unfolding_all rfl) (by with_unfolding_all rfl) rA).trans ?_
  refine (lb_a2 (pc := 761) rfl).trans ?_
  refine (lb_B (pc := 762) (d := 1) rfl rfl rfl (by decide) rfl).trans ?_
  refine (st_sc (d := 1) rfl hL (by omega)).trans ?_
  refine (st_cv1 (as := [.int (sx (j + 1))]) (rest := [.int v]) rfl rfl rfl rfl h157 rfl (by with_unfolding_all rfl) (by with_unfolding_all rfl) rB).trans ?_
  refine (st_icmp rfl).trans ?_
  refine (st_pc (pc2 := 1475) (if_pos rfl)).trans ?_
  exact lb_end

set_option maxRecDepth 100000 in
theorem lc_15 {H H1 H2 : am_H} {k n j a0 b0 a1 b1 : Nat} {u w : List Value} {v : Int32} (hL : sL < 2 ^ 31) (hj : j + 5 < sL) (h0 : am_is H 0 (.inr (11, u))) (h157 : am_is H1 157 (.inr (12, w))) (rA : aX sL sx cs 112 0 [(0, .ref 0), (1, .int (sx (j + 1))), (2, .int (sx (j + 2)))] [] H 0 0 = some (some (.int v), H1, a0, b0)) (rB : aX sL sx cs 318 0 [(0, .ref 157), (1, .int (sx (j + 1))), (2, .int (sx (j + 2)))] [] H1 0 0 = some (some (.int v), H2, a1, b1)) (hc : sx j &&& 63 = 15) :
    aX sL sx cs 417 70 ((4, .int (Int32.ofNat j)) :: [(3, .ref 196), (2, .ref 157), (1, .ref 0), (0, .retAddr 0)]) [.int (sx j &&& 63)] H k n = aX sL sx cs 417 53 ((4, .int (Int32.ofNat j + 6)) :: [(3, .ref 196), (2, .ref 157), (1, .ref 0), (0, .retAddr 0)]) [] H2 (k + a0 + a1) (n + b0 + b1) := by
  rw [hc]
  refine (st_tsw rfl).trans ?_
  refine (st_pc (pc2 := 776) (by decide +kernel)).trans ?_
  show aX sL sx cs 417 776 (lb_l (Int32.ofNat j)) _ _ _ _ = aX sL sx cs 417 53 (lb_l (Int32.ofNat j + 6)) _ _ _ _
  refine (lb_a1 (pc := 776) rfl).trans ?_
  refine (lb_B (pc := 777) (d := 1) rfl rfl rfl (by decide) rfl).trans ?_
  refine (st_sc (d := 1) rfl hL (by omega)).trans ?_
  refine (lb_B (pc := 783) (d := 2) rfl rfl rfl (by decide) rfl).trans ?_
  refine (st_sc (d := 2) rfl hL (by omega)).trans ?_
  refine (st_cv1 (as := [.int (sx (j + 1)), .int (sx (j + 2))]) (rest := []) rfl rfl rfl rfl h0 rfl (by with_unfolding_all rfl) (by with_unfolding_all rfl) rA).trans ?_
  refine (lb_a2 (pc := 792) rfl).trans ?_
  refine (lb_B (pc := 793) (d := 1) rfl rfl rfl (by decide) rfl).trans ?_
  refine (st_sc (d := 1) rfl hL (by omega)).trans ?_
  refine (lb_B (pc := 799) (d := 2) rfl rfl rfl (by decide) rfl).trans ?_
  refine (st_sc (d := 2) rfl hL (by omega)).trans ?_
  refine (st_cv1 (as := [.int (sx (j + 1)), .int (sx (j + 2))]) (rest := [.int v]) rfl rfl rfl rfl h157 rfl (by with_unfolding_all rfl) (by with_unfolding_all rfl) rB).trans ?_
  refine (st_icmp rfl).trans ?_
  refine (st_pc (pc2 := 1475) (if_pos rfl)).trans ?_
  exact lb_end

set_option maxRecDepth 100000 in
theorem lc_16 {H H1 H2 : am_H} {k n j a0 b0 a1 b1 : Nat} {u w : List Value} {v : Int32} (hL : sL < 2 ^ 31) (hj : j + 5 < sL) (h0 : am_is H 0 (.inr (11, u))) (h157 : am_is H1 157 (.inr (12, w))) (rA : aX sL sx cs 114 0 [(0, .ref 0), (1, .int (sx (j + 1))), (2, .int (sx (j + 2)))] [] H 0 0 = some (some (.int v), H1, a0, b0)) (rB : aX sL sx cs 319 0 [(0, .ref 157), (1, .int (sx (j + 1))), (2, .int (sx (j + 2)))] [] H1 0 0 = some (some (.int v), H2, a1, b1)) (hc : sx j &&& 63 = 16) :
    aX sL sx cs 417 70 ((4, .int (Int32.ofNat j)) :: [(3, .ref 196), (2, .ref 157), (1, .ref 0), (0, .retAddr 0)]) [.int (sx j &&& 63)] H k n = aX sL sx cs 417 53 ((4, .int (Int32.ofNat j + 6)) :: [(3, .ref 196), (2, .ref 157), (1, .ref 0), (0, .retAddr 0)]) [] H2 (k + a0 + a1) (n + b0 + b1) := by
  rw [hc]
  refine (st_tsw rfl).trans ?_
  refine (st_pc (pc2 := 813) (by decide +kernel)).trans ?_
  show aX sL sx cs 417 813 (lb_l (Int32.ofNat j)) _ _ _ _ = aX sL sx cs 417 53 (lb_l (Int32.ofNat j + 6)) _ _ _ _
  refine (lb_a1 (pc := 813) rfl).trans ?_
  refine (lb_B (pc := 814) (d := 1) rfl rfl rfl (by decide) rfl).trans ?_
  refine (st_sc (d := 1) rfl hL (by omega)).trans ?_
  refine (lb_B (pc := 820) (d := 2) rfl rfl rfl (by decide) rfl).trans ?_
  refine (st_sc (d := 2) rfl hL (by omega)).trans ?_
  refine (st_cv1 (as := [.int (sx (j + 1)), .int (sx (j + 2))]) (rest := []) rfl rfl rfl rfl h0 rfl (by with_unfolding_all rfl) (by with_unfolding_all rfl) rA).trans ?_
  refine (lb_a2 (pc := 829) rfl).trans ?_
  refine (lb_B (pc := 830) (d := 1) rfl rfl rfl (by decide) rfl).trans ?_
  refine (st_sc (d := 1) rfl hL (by omega)).trans ?_
  refine (lb_B (pc := 836) (d := 2) rfl rfl rfl (by decide) rfl).trans ?_
  refine (st_sc (d := 2) rfl hL (by omega)).trans ?_
  refine (st_cv1 (as := [.int (sx (j + 1)), .int (sx (j + 2))]) (rest := [.int v]) rfl rfl rfl rfl h157 rfl (by with_unfolding_all rfl) (by with_unfolding_all rfl) rB).trans ?_
  refine (st_icmp rfl).trans ?_
  refine (st_pc (pc2 := 1475) (if_pos rfl)).trans ?_
  exact lb_end

set_option maxRecDepth 100000 in
theorem lc_17 {H H1 H2 : am_H} {k n j a0 b0 a1 b1 : Nat} {u w : List Value} {v : Int32} (hL : sL < 2 ^ 31) (hj : j + 5 < sL) (h0 : am_is H 0 (.inr (11, u))) (h157 : am_is H1 157 (.inr (12, w))) (rA : aX sL sx cs 115 0 [(0, .ref 0), (1, .int (sx (j + 1))), (2, .int (sx (j + 2)))] [] H 0 0 = some (some (.int v), H1, a0, b0)) (rB : aX sL sx cs 321 0 [(0, .ref 157), (1, .int (sx (j + 1))), (2, .int (sx (j + 2)))] [] H1 0 0 = some (some (.int v), H2, a1, b1)) (hc : sx j &&& 63 = 17) :
    aX sL sx cs 417 70 ((4, .int (Int32.ofNat j)) :: [(3, .ref 196), (2, .ref 157), (1, .ref 0), (0, .retAddr 0)]) [.int (sx j &&& 63)] H k n = aX sL sx cs 417 53 ((4, .int (Int32.ofNat j + 6)) :: [(3, .ref 196), (2, .ref 157), (1, .ref 0), (0, .retAddr 0)]) [] H2 (k + a0 + a1) (n + b0 + b1) := by
  rw [hc]
  refine (st_tsw rfl).trans ?_
  refine (st_pc (pc2 := 850) (by decide +kernel)).trans ?_
  show aX sL sx cs 417 850 (lb_l (Int32.ofNat j)) _ _ _ _ = aX sL sx cs 417 53 (lb_l (Int32.ofNat j + 6)) _ _ _ _
  refine (lb_a1 (pc := 850) rfl).trans ?_
  refine (lb_B (pc := 851) (d := 1) rfl rfl rfl (by decide) rfl).trans ?_
  refine (st_sc (d := 1) rfl hL (by omega)).trans ?_
  refine (lb_B (pc := 857) (d := 2) rfl rfl rfl (by decide) rfl).trans ?_
  refine (st_sc (d := 2) rfl hL (by omega)).trans ?_
  refine (st_cv1 (as := [.int (sx (j + 1)), .int (sx (j + 2))]) (rest := []) rfl rfl rfl rfl h0 rfl (by with_unfolding_all rfl) (by with_unfolding_all rfl) rA).trans ?_
  refine (lb_a2 (pc := 866) rfl).trans ?_
  refine (lb_B (pc := 867) (d := 1) rfl rfl rfl (by decide) rfl).trans ?_
  refine (st_sc (d := 1) rfl hL (by omega)).trans ?_
  refine (lb_B (pc := 873) (d := 2) rfl rfl rfl (by decide) rfl).trans ?_
  refine (st_sc (d := 2) rfl hL (by omega)).trans ?_
  refine (st_cv1 (as := [.int (sx (j + 1)), .int (sx (j + 2))]) (rest := [.int v]) rfl rfl rfl rfl h157 rfl (by with_unfolding_all rfl) (by with_unfolding_all rfl) rB).trans ?_
  refine (st_icmp rfl).trans ?_
  refine (st_pc (pc2 := 1475) (if_pos rfl)).trans ?_
  exact lb_end

set_option maxRecDepth 100000 in
theorem lc_18 {H H1 H2 : am_H} {k n j a0 b0 a1 b1 : Nat} {u w : List Value} {v : Int32} (hL : sL < 2 ^ 31) (hj : j + 5 < sL) (h0 : am_is H 0 (.inr (11, u))) (h157 : am_is H1 157 (.inr (12, w))) (rA : aX sL sx cs 116 0 [(0, .ref 0), (1, .int (sx (j + 1))), (2, .int (sx (j + 2)))] [] H 0 0 = some (some (.int v), H1, a0, b0)) (rB : aX sL sx cs 322 0 [(0, .ref 157), (1, .int (sx (j + 1))), (2, .int (sx (j + 2)))] [] H1 0 0 = some (some (.int v), H2, a1, b1)) (hc : sx j &&& 63 = 18) :
    aX sL sx cs 417 70 ((4, .int (Int32.ofNat j)) :: [(3, .ref 196), (2, .ref 157), (1, .ref 0), (0, .retAddr 0)]) [.int (sx j &&& 63)] H k n = aX sL sx cs 417 53 ((4, .int (Int32.ofNat j + 6)) :: [(3, .ref 196), (2, .ref 157), (1, .ref 0), (0, .retAddr 0)]) [] H2 (k + a0 + a1) (n + b0 + b1) := by
  rw [hc]
  refine (st_tsw rfl).trans ?_
  refine (st_pc (pc2 := 887) (by decide +kernel)).trans ?_
  show aX sL sx cs 417 887 (lb_l (Int32.ofNat j)) _ _ _ _ = aX sL sx cs 417 53 (lb_l (Int32.ofNat j + 6)) _ _ _ _
  refine (lb_a1 (pc := 887) rfl).trans ?_
  refine (lb_B (pc := 888) (d := 1) rfl rfl rfl (by decide) rfl).trans ?_
  refine (st_sc (d := 1) rfl hL (by omega)).trans ?_
  refine (lb_B (pc := 894) (d := 2) rfl rfl rfl (by decide) rfl).trans ?_
  refine (st_sc (d := 2) rfl hL (by omega)).trans ?_
  refine (st_cv1 (as := [.int (sx (j + 1)), .int (sx (j + 2))]) (rest := []) rfl rfl rfl rfl h0 rfl (by with_unfolding_all rfl) (by with_unfolding_all rfl) rA).trans ?_
  refine (lb_a2 (pc := 903) rfl).trans ?_
  refine (lb_B (pc := 904) (d := 1) rfl rfl rfl (by decide) rfl).trans ?_
  refine (st_sc (d := 1) rfl hL (by omega)).trans ?_
  refine (lb_B (pc := 910) (d := 2) rfl rfl rfl (by decide) rfl).trans ?_
  refine (st_sc (d := 2) rfl hL (by omega)).trans ?_
  refine (st_cv1 (as := [.int (sx (j + 1)), .int (sx (j + 2))]) (rest := [.int v]) rfl rfl rfl rfl h157 rfl (by with_unfolding_all rfl) (by with_unfolding_all rfl) rB).trans ?_
  refine (st_icmp rfl).trans ?_
  refine (st_pc (pc2 := 1475) (if_pos rfl)).trans ?_
  exact lb_end

set_option maxRecDepth 100000 in
theorem lc_19 {H H1 H2 : am_H} {k n j a0 b0 a1 b1 : Nat} {u w : List Value} {v : Int32} (hL : sL < 2 ^ 31) (hj : j + 5 < sL) (h0 : am_is H 0 (.inr (11, u))) (h157 : am_is H1 157 (.inr (12, w))) (rA : aX sL sx cs 117 0 [(0, .ref 0), (1, .int (sx (j + 1)))] [] H 0 0 = some (some (.int v), H1, a0, b0)) (rB : aX sL sx cs 323 0 [(0, .ref 157), (1, .int (sx (j + 1)))] [] H1 0 0 = some (some (.int v), H2, a1, b1)) (hc : sx j &&& 63 = 19) :
    aX sL sx cs 417 70 ((4, .int (Int32.ofNat j)) :: [(3, .ref 196), (2, .ref 157), (1, .ref 0), (0, .retAddr 0)]) [.int (sx j &&& 63)] H k n = aX sL sx cs 417 53 ((4, .int (Int32.ofNat j + 6)) :: [(3, .ref 196), (2, .ref 157), (1, .ref 0), (0, .retAddr 0)]) [] H2 (k + a0 + a1) (n + b0 + b1) := by
  rw [hc]
  refine (st_tsw rfl).trans ?_
  refine (st_pc (pc2 := 924) (by decide +kernel)).trans ?_
  show aX sL sx cs 417 924 (lb_l (Int32.ofNat j)) _ _ _ _ = aX sL sx cs 417 53 (lb_l (Int32.ofNat j + 6)) _ _ _ _
  refine (lb_a1 (pc := 924) rfl).trans ?_
  refine (lb_B (pc := 925) (d := 1) rfl rfl rfl (by decide) rfl).trans ?_
  refine (st_sc (d := 1) rfl hL (by omega)).trans ?_
  refine (st_cv1 (as := [.int (sx (j + 1))]) (rest := []) rfl rfl rfl rfl h0 rfl (by with_unfolding_all rfl) (by with_unfolding_all rfl) rA).trans ?_
  refine (lb_a2 (pc := 934) rfl).trans ?_
  refine (lb_B (pc := 935) (d := 1) rfl rfl rfl (by decide) rfl).trans ?_
  refine (st_sc (d := 1) rfl hL (by omega)).trans ?_
  refine (st_cv1 (as := [.int (sx (j + 1))]) (rest := [.int v]) rfl rfl rfl rfl h157 rfl (by with_unfolding_all rfl) (by with_unfolding_all rfl) rB).trans ?_
  refine (st_icmp rfl).trans ?_
  refine (st_pc (pc2 := 1475) (if_pos rfl)).trans ?_
  exact lb_end

set_option maxRecDepth 100000 in
theorem lc_20 {H H1 H2 : am_H} {k n j a0 b0 a1 b1 : Nat} {u w : List Value} {v : Int32} (hL : sL < 2 ^ 31) (hj : j + 5 < sL) (h0 : am_is H 0 (.inr (11, u))) (h157 : am_is H1 157 (.inr (12, w))) (rA : aX sL sx cs 119 0 [(0, .ref 0), (1, .int (sx (j + 1))), (2, .int (sx (j + 2))), (3, .int (sx (j + 3)))] [] H 0 0 = some (some (.int v), H1, a0, b0)) (rB : aX sL sx cs 324 0 [(0, .ref 157), (1, .int (sx (j + 1))), (2, .int (sx (j + 2))), (3, .int (sx (j + 3)))] [] H1 0 0 = some (some (.int v), H2, a1, b1)) (hc : sx j &&& 63 = 20) :
    aX sL sx cs 417 70 ((4, .int (Int32.ofNat j)) :: [(3, .ref 196), (2, .ref 157), (1, .ref 0), (0, .retAddr 0)]) [.int (sx j &&& 63)] H k n = aX sL sx cs 417 53 ((4, .int (Int32.ofNat j + 6)) :: [(3, .ref 196), (2, .ref 157), (1, .ref 0), (0, .retAddr 0)]) [] H2 (k + a0 + a1) (n + b0 + b1) := by
  rw [hc]
  refine (st_tsw rfl).trans ?_
  refine (st_pc (pc2 := 949) (by decide +kernel)).trans ?_
  show aX sL sx cs 417 949 (lb_l (Int32.ofNat j)) _ _ _ _ = aX sL sx cs 417 53 (lb_l (Int32.ofNat j + 6)) _ _ _ _
  refine (lb_a1 (pc := 949) rfl).trans ?_
  refine (lb_B (pc := 950) (d := 1) rfl rfl rfl (by decide) rfl).trans ?_
  refine (st_sc (d := 1) rfl hL (by omega)).trans ?_
  refine (lb_B (pc := 956) (d := 2) rfl rfl rfl (by decide) rfl).trans ?_
  refine (st_sc (d := 2) rfl hL (by omega)).trans ?_
  refine (lb_B (pc := 962) (d := 3) rfl rfl rfl (by decide) rfl).trans ?_
  refine (st_sc (d := 3) rfl hL (by omega)).trans ?_
  refine (st_cv1 (as := [.int (sx (j + 1)), .int (sx (j + 2)), .int (sx (j + 3))]) (rest := []) rfl rfl rfl rfl h0 rfl (by with_unfolding_all rfl) (by with_unfolding_all rfl) rA).trans ?_
  refine (lb_a2 (pc := 971) rfl).trans ?_
  refine (lb_B (pc := 972) (d := 1) rfl rfl rfl (by decide) rfl).trans ?_
  refine (st_sc (d := 1) rfl hL (by omega)).trans ?_
  refine (lb_B (pc := 978) (d := 2) rfl rfl rfl (by decide) rfl).trans ?_
  refine (st_sc (d := 2) rfl hL (by omega)).trans ?_
  refine (lb_B (pc := 984) (d := 3) rfl rfl rfl (by decide) rfl).trans ?_
  refine (st_sc (d := 3) rfl hL (by omega)).trans ?_
  refine (st_cv1 (as := [.int (sx (j + 1)), .int (sx (j + 2)), .int (sx (j + 3))]) (rest := [.int v]) rfl rfl rfl rfl h157 rfl (by with_unfolding_all rfl) (by with_unfolding_all rfl) rB).trans ?_
  refine (st_icmp rfl).trans ?_
  refine (st_pc (pc2 := 1475) (if_pos rfl)).trans ?_
  exact lb_end

set_option maxRecDepth 100000 in
theorem lc_21 {H H1 H2 : am_H} {k n j a0 b0 a1 b1 : Nat} {u w : List Value} {v : Int32} (hL : sL < 2 ^ 31) (hj : j + 5 < sL) (h0 : am_is H 0 (.inr (11, u))) (h157 : am_is H1 157 (.inr (12, w))) (rA : aX sL sx cs 121 0 [(0, .ref 0), (1, .int (sx (j + 1))), (2, .int (sx (j + 2)))] [] H 0 0 = some (some (.int v), H1, a0, b0)) (rB : aX sL sx cs 325 0 [(0, .ref 157), (1, .int (sx (j + 1))), (2, .int (sx (j + 2)))] [] H1 0 0 = some (some (.int v), H2, a1, b1)) (hc : sx j &&& 63 = 21) :
    aX sL sx cs 417 70 ((4, .int (Int32.ofNat j)) :: [(3, .ref 196), (2, .ref 157), (1, .ref 0), (0, .retAddr 0)]) [.int (sx j &&& 63)] H k n = aX sL sx cs 417 53 ((4, .int (Int32.ofNat j + 6)) :: [(3, .ref 196), (2, .ref 157), (1, .ref 0), (0, .retAddr 0)]) [] H2 (k + a0 + a1) (n + b0 + b1) := by
  rw [hc]
  refine (st_tsw rfl).trans ?_
  refine (st_pc (pc2 := 998) (by decide +kernel)).trans ?_
  show aX sL sx cs 417 998 (lb_l (Int32.ofNat j)) _ _ _ _ = aX sL sx cs 417 53 (lb_l (Int32.ofNat j + 6)) _ _ _ _
  refine (lb_a1 (pc := 998) rfl).trans ?_
  refine (lb_B (pc := 999) (d := 1) rfl rfl rfl (by decide) rfl).trans ?_
  refine (st_sc (d := 1) rfl hL (by omega)).trans ?_
  refine (lb_B (pc := 1005) (d := 2) rfl rfl rfl (by decide) rfl).trans ?_
  refine (st_sc (d := 2) rfl hL (by omega)).trans ?_
  refine (st_cv1 (as := [.int (sx (j + 1)), .int (sx (j + 2))]) (rest := []) rfl rfl rfl rfl h0 rfl (by with_unfolding_all rfl) (by with_unfolding_all rfl) rA).trans ?_
  refine (lb_a2 (pc := 1014) rfl).trans ?_
  refine (lb_B (pc := 1015) (d := 1) rfl rfl rfl (by decide) rfl).trans ?_
  refine (st_sc (d := 1) rfl hL (by omega)).trans ?_
  refine (lb_B (pc := 1021) (d := 2) rfl rfl rfl (by decide) rfl).trans ?_
  refine (st_sc (d := 2) rfl hL (by omega)).trans ?_
  refine (st_cv1 (as := [.int (sx (j + 1)), .int (sx (j + 2))]) (rest := [.int v]) rfl rfl rfl rfl h157 rfl (by with_unfolding_all rfl) (by with_unfolding_all rfl) rB).trans ?_
  refine (st_icmp rfl).trans ?_
  refine (st_pc (pc2 := 1475) (if_pos rfl)).trans ?_
  exact lb_end

set_option maxRecDepth 100000 in
theorem lc_22 {H H1 H2 : am_H} {k n j a0 b0 a1 b1 : Nat} {u w : List Value} {v : Int32} (hL : sL < 2 ^ 31) (hj : j + 5 < sL) (h0 : am_is H 0 (.inr (11, u))) (h157 : am_is H1 157 (.inr (12, w))) (rA : aX sL sx cs 123 0 [(0, .ref 0), (1, .int (sx (j + 1)))] [] H 0 0 = some (some (.int v), H1, a0, b0)) (rB : aX sL sx cs 326 0 [(0, .ref 157), (1, .int (sx (j + 1)))] [] H1 0 0 = some (some (.int v), H2, a1, b1)) (hc : sx j &&& 63 = 22) :
    aX sL sx cs 417 70 ((4, .int (Int32.ofNat j)) :: [(3, .ref 196), (2, .ref 157), (1, .ref 0), (0, .retAddr 0)]) [.int (sx j &&& 63)] H k n = aX sL sx cs 417 53 ((4, .int (Int32.ofNat j + 6)) :: [(3, .ref 196), (2, .ref 157), (1, .ref 0), (0, .retAddr 0)]) [] H2 (k + a0 + a1) (n + b0 + b1) := by
  rw [hc]
  refine (st_tsw rfl).trans ?_
  refine (st_pc (pc2 := 1035) (by decide +kernel)).trans ?_
  show aX sL sx cs 417 1035 (lb_l (Int32.ofNat j)) _ _ _ _ = aX sL sx cs 417 53 (lb_l (Int32.ofNat j + 6)) _ _ _ _
  refine (lb_a1 (pc := 1035) rfl).trans ?_
  refine (lb_B (pc := 1036) (d := 1) rfl rfl rfl (by decide) rfl).trans ?_
  refine (st_sc (d := 1) rfl hL (by omega)).trans ?_
  refine (st_cv1 (as := [.int (sx (j + 1))]) (rest := []) rfl rfl rfl rfl h0 rfl (by with_unfolding_all rfl) (by with_unfolding_all rfl) rA).trans ?_
  refine (lb_a2 (pc := 1045) rfl).trans ?_
  refine (lb_B (pc := 1046) (d := 1) rfl rfl rfl (by decide) rfl).trans ?_
  refine (st_sc (d := 1) rfl hL (by omega)).trans ?_
  refine (st_cv1 (as := [.int (sx (j + 1))]) (rest := [.int v]) rfl rfl rfl rfl h157 rfl (by with_unfolding_all rfl) (by with_unfolding_all rfl) rB).trans ?_
  refine (st_icmp rfl).trans ?_
  refine (st_pc (pc2 := 1475) (if_pos rfl)).trans ?_
  exact lb_end

set_option maxRecDepth 100000 in
theorem lc_23 {H H1 H2 : am_H} {k n j a0 b0 a1 b1 : Nat} {u w : List Value} {v : Int32} (hL : sL < 2 ^ 31) (hj : j + 5 < sL) (h0 : am_is H 0 (.inr (11, u))) (h157 : am_is H1 157 (.inr (12, w))) (rA : aX sL sx cs 125 0 [(0, .ref 0)] [] H 0 0 = some (some (.int v), H1, a0, b0)) (rB : aX sL sx cs 331 0 [(0, .ref 157)] [] H1 0 0 = some (some (.int v), H2, a1, b1)) (hc : sx j &&& 63 = 23) :
    aX sL sx cs 417 70 ((4, .int (Int32.ofNat j)) :: [(3, .ref 196), (2, .ref 157), (1, .ref 0), (0, .retAddr 0)]) [.int (sx j &&& 63)] H k n = aX sL sx cs 417 53 ((4, .int (Int32.ofNat j + 6)) :: [(3, .ref 196), (2, .ref 157), (1, .ref 0), (0, .retAddr 0)]) [] H2 (k + a0 + a1) (n + b0 + b1) := by
  rw [hc]
  refine (st_tsw rfl).trans ?_
  refine (st_pc (pc2 := 1060) (by decide +kernel)).trans ?_
  show aX sL sx cs 417 1060 (lb_l (Int32.ofNat j)) _ _ _ _ = aX sL sx cs 417 53 (lb_l (Int32.ofNat j + 6)) _ _ _ _
  refine (lb_a1 (pc := 1060) rfl).trans ?_
  refine (st_cv1 (as := []) (rest := []) rfl rfl rfl rfl h0 rfl (by with_unfolding_all rfl) (by with_unfolding_all rfl) rA).trans ?_
  refine (lb_a2 (pc := 1064) rfl).trans ?_
  refine (st_cv1 (as := []) (rest := [.int v]) rfl rfl rfl rfl h157 rfl (by with_unfolding_all rfl) (by with_unfolding_all rfl) rB).trans ?_
  refine (st_icmp rfl).trans ?_
  refine (st_pc (pc2 := 1475) (if_pos rfl)).trans ?_
  exact lb_end

set_option maxRecDepth 100000 in
theorem lc_24 {H H1 H2 : am_H} {k n j a0 b0 a1 b1 : Nat} {u w : List Value} {v : Int32} (hL : sL < 2 ^ 31) (hj : j + 5 < sL) (h0 : am_is H 0 (.inr (11, u))) (h157 : am_is H1 157 (.inr (12, w))) (rA : aX sL sx cs 157 0 [(0, .ref 0)] [] H 0 0 = some (some (.int v), H1, a0, b0)) (rB : aX sL sx cs 327 0 [(0, .ref 157)] [] H1 0 0 = some (some (.int v), H2, a1, b1)) (hc : sx j &&& 63 = 24) :
    aX sL sx cs 417 70 ((4, .int (Int32.ofNat j)) :: [(3, .ref 196), (2, .ref 157), (1, .ref 0), (0, .retAddr 0)]) [.int (sx j &&& 63)] H k n = aX sL sx cs 417 53 ((4, .int (Int32.ofNat j + 6)) :: [(3, .ref 196), (2, .ref 157), (1, .ref 0), (0, .retAddr 0)]) [] H2 (k + a0 + a1) (n + b0 + b1) := by
  rw [hc]
  refine (st_tsw rfl).trans ?_
  refine (st_pc (pc2 := 1073) (by decide +kernel)).trans ?_
  show aX sL sx cs 417 1073 (lb_l (Int32.ofNat j)) _ _ _ _ = aX sL sx cs 417 53 (lb_l (Int32.ofNat j + 6)) _ _ _ _
  refine (lb_a1 (pc := 1073) rfl).trans ?_
  refine (st_cv1 (as := []) (rest := []) rfl rfl rfl rfl h0 rfl (by with_unfolding_all rfl) (by with_unfolding_all rfl) rA).trans ?_
  refine (lb_a2 (pc := 1077) rfl).trans ?_
  refine (st_cv1 (as := []) (rest := [.int v]) rfl rfl rfl rfl h157 rfl (by with_unfolding_all rfl) (by with_unfolding_all rfl) rB).trans ?_
  refine (st_icmp rfl).trans ?_
  refine (st_pc (pc2 := 1475) (if_pos rfl)).trans ?_
  exact lb_end

set_option maxRecDepth 100000 in
theorem lc_25 {H H1 H2 : am_H} {k n j a0 b0 a1 b1 : Nat} {u w : List Value} {v : Int32} (hL : sL < 2 ^ 31) (hj : j + 5 < sL) (h0 : am_is H 0 (.inr (11, u))) (h157 : am_is H1 157 (.inr (12, w))) (rA : aX sL sx cs 158 0 [(0, .ref 0), (1, .int (sx (j + 1))), (2, .int (sx (j + 2)))] [] H 0 0 = some (some (.int v), H1, a0, b0)) (rB : aX sL sx cs 328 0 [(0, .ref 157), (1, .int (sx (j + 1))), (2, .int (sx (j + 2)))] [] H1 0 0 = some (some (.int v), H2, a1, b1)) (hc : sx j &&& 63 = 25) :
    aX sL sx cs 417 70 ((4, .int (Int32.ofNat j)) :: [(3, .ref 196), (2, .ref 157), (1, .ref 0), (0, .retAddr 0)]) [.int (sx j &&& 63)] H k n = aX sL sx cs 417 53 ((4, .int (Int32.ofNat j + 6)) :: [(3, .ref 196), (2, .ref 157), (1, .ref 0), (0, .retAddr 0)]) [] H2 (k + a0 + a1) (n + b0 + b1) := by
  rw [hc]
  refine (st_tsw rfl).trans ?_
  refine (st_pc (pc2 := 1086) (by decide +kernel)).trans ?_
  show aX sL sx cs 417 1086 (lb_l (Int32.ofNat j)) _ _ _ _ = aX sL sx cs 417 53 (lb_l (Int32.ofNat j + 6)) _ _ _ _
  refine (lb_a1 (pc := 1086) rfl).trans ?_
  refine (lb_B (pc := 1087) (d := 1) rfl rfl rfl (by decide) rfl).trans ?_
  refine (st_sc (d := 1) rfl hL (by omega)).trans ?_
  refine (lb_B (pc := 1093) (d := 2) rfl rfl rfl (by decide) rfl).trans ?_
  refine (st_sc (d := 2) rfl hL (by omega)).trans ?_
  refine (st_cv1 (as := [.int (sx (j + 1)), .int (sx (j + 2))]) (rest := []) rfl rfl rfl rfl h0 rfl (by with_unfolding_all rfl) (by with_unfolding_all rfl) rA).trans ?_
  refine (lb_a2 (pc := 1102) rfl).trans ?_
  refine (lb_B (pc := 1103) (d := 1) rfl rfl rfl (by decide) rfl).trans ?_
  refine (st_sc (d := 1) rfl hL (by omega)).trans ?_
  refine (lb_B (pc := 1109) (d := 2) rfl rfl rfl (by decide) rfl).trans ?_
  refine (st_sc (d := 2) rfl hL (by omega)).trans ?_
  refine (st_cv1 (as := [.int (sx (j + 1)), .int (sx (j + 2))]) (rest := [.int v]) rfl rfl rfl rfl h157 rfl (by with_unfolding_all rfl) (by with_unfolding_all rfl) rB).trans ?_
  refine (st_icmp rfl).trans ?_
  refine (st_pc (pc2 := 1475) (if_pos rfl)).trans ?_
  exact lb_end

set_option maxRecDepth 100000 in
theorem lc_26 {H H1 H2 : am_H} {k n j a0 b0 a1 b1 : Nat} {u w : List Value} {v : Int32} (hL : sL < 2 ^ 31) (hj : j + 5 < sL) (h0 : am_is H 0 (.inr (11, u))) (h157 : am_is H1 157 (.inr (12, w))) (rA : aX sL sx cs 159 0 [(0, .ref 0), (1, .int (sx (j + 1))), (2, .int (sx (j + 2)))] [] H 0 0 = some (some (.int v), H1, a0, b0)) (rB : aX sL sx cs 330 0 [(0, .ref 157), (1, .int (sx (j + 1))), (2, .int (sx (j + 2)))] [] H1 0 0 = some (some (.int v), H2, a1, b1)) (hc : sx j &&& 63 = 26) :
    aX sL sx cs 417 70 ((4, .int (Int32.ofNat j)) :: [(3, .ref 196), (2, .ref 157), (1, .ref 0), (0, .retAddr 0)]) [.int (sx j &&& 63)] H k n = aX sL sx cs 417 53 ((4, .int (Int32.ofNat j + 6)) :: [(3, .ref 196), (2, .ref 157), (1, .ref 0), (0, .retAddr 0)]) [] H2 (k + a0 + a1) (n + b0 + b1) := by
  rw [hc]
  refine (st_tsw rfl).trans ?_
  refine (st_pc (pc2 := 1123) (by decide +kernel)).trans ?_
  show aX sL sx cs 417 1123 (lb_l (Int32.ofNat j)) _ _ _ _ = aX sL sx cs 417 53 (lb_l (Int32.ofNat j + 6)) _ _ _ _
  refine (lb_a1 (pc := 1123) rfl).trans ?_
  refine (lb_B (pc := 1124) (d := 1) rfl rfl rfl (by decide) rfl).trans ?_
  refine (st_sc (d := 1) rfl hL (by omega)).trans ?_
  refine (lb_B (pc := 1130) (d := 2) rfl rfl rfl (by decide) rfl).trans ?_
  refine (st_sc (d := 2) rfl hL (by omega)).trans ?_
  refine (st_cv1 (as := [.int (sx (j + 1)), .int (sx (j + 2))]) (rest := []) rfl rfl rfl rfl h0 rfl (by with_unfolding_all rfl) (by with_unfolding_all rfl) rA).trans ?_
  refine (lb_a2 (pc := 1139) rfl).trans ?_
  refine (lb_B (pc := 1140) (d := 1) rfl rfl rfl (by decide) rfl).trans ?_
  refine (st_sc (d := 1) rfl hL (by omega)).trans ?_
  refine (lb_B (pc := 1146) (d := 2) rfl rfl rfl (by decide) rfl).trans ?_
  refine (st_sc (d := 2) rfl hL (by omega)).trans ?_
  refine (st_cv1 (as := [.int (sx (j + 1)), .int (sx (j + 2))]) (rest := [.int v]) rfl rfl rfl rfl h157 rfl (by with_unfolding_all rfl) (by with_unfolding_all rfl) rB).trans ?_
  refine (st_icmp rfl).trans ?_
  refine (st_pc (pc2 := 1475) (if_pos rfl)).trans ?_
  exact lb_end

set_option maxRecDepth 100000 in
theorem lc_27 {H H1 H2 : am_H} {k n j a0 b0 a1 b1 : Nat} {u w : List Value} {v : Int32} (hL : sL < 2 ^ 31) (hj : j + 5 < sL) (h0 : am_is H 0 (.inr (11, u))) (h157 : am_is H1 157 (.inr (12, w))) (rA : aX sL sx cs 160 0 [(0, .ref 0), (1, .int (sx (j + 1)))] [] H 0 0 = some (some (.int v), H1, a0, b0)) (rB : aX sL sx cs 353 0 [(0, .ref 157), (1, .int (sx (j + 1)))] [] H1 0 0 = some (some (.int v), H2, a1, b1)) (hc : sx j &&& 63 = 27) :
    aX sL sx cs 417 70 ((4, .int (Int32.ofNat j)) :: [(3, .ref 196), (2, .ref 157), (1, .ref 0), (0, .retAddr 0)]) [.int (sx j &&& 63)] H k n = aX sL sx cs 417 53 ((4, .int (Int32.ofNat j + 6)) :: [(3, .ref 196), (2, .ref 157), (1, .ref 0), (0, .retAddr 0)]) [] H2 (k + a0 + a1) (n + b0 + b1) := by
  rw [hc]
  refine (st_tsw rfl).trans ?_
  refine (st_pc (pc2 := 1160) (by decide +kernel)).trans ?_
  show aX sL sx cs 417 1160 (lb_l (Int32.ofNat j)) _ _ _ _ = aX sL sx cs 417 53 (lb_l (Int32.ofNat j + 6)) _ _ _ _
  refine (lb_a1 (pc := 1160) rfl).trans ?_
  refine (lb_B (pc := 1161) (d := 1) rfl rfl rfl (by decide) rfl).trans ?_
  refine (st_sc (d := 1) rfl hL (by omega)).trans ?_
  refine (st_cv1 (as := [.int (sx (j + 1))]) (rest := []) rfl rfl rfl rfl h0 rfl (by with_unfolding_all rfl) (by with_unfolding_all rfl) rA).trans ?_
  refine (lb_a2 (pc := 1170) rfl).trans ?_
  refine (lb_B (pc := 1171) (d := 1) rfl rfl rfl (by decide) rfl).trans ?_
  refine (st_sc (d := 1) rfl hL (by omega)).trans ?_
  refine (st_cv1 (as := [.int (sx (j + 1))]) (rest := [.int v]) rfl rfl rfl rfl h157 rfl (by with_unfolding_all rfl) (by with_unfolding_all rfl) rB).trans ?_
  refine (st_icmp rfl).trans ?_
  refine (st_pc (pc2 := 1475) (if_pos rfl)).trans ?_
  exact lb_end

set_option maxRecDepth 100000 in
theorem lc_28 {H H1 H2 : am_H} {k n j a0 b0 a1 b1 : Nat} {u w : List Value} {v : Int32} (hL : sL < 2 ^ 31) (hj : j + 5 < sL) (h0 : am_is H 0 (.inr (11, u))) (h157 : am_is H1 157 (.inr (12, w))) (rA : aX sL sx cs 166 0 [(0, .ref 0)] [] H 0 0 = some (some (.int v), H1, a0, b0)) (rB : aX sL sx cs 355 0 [(0, .ref 157)] [] H1 0 0 = some (some (.int v), H2, a1, b1)) (hc : sx j &&& 63 = 28) :
    aX sL sx cs 417 70 ((4, .int (Int32.ofNat j)) :: [(3, .ref 196), (2, .ref 157), (1, .ref 0), (0, .retAddr 0)]) [.int (sx j &&& 63)] H k n = aX sL sx cs 417 53 ((4, .int (Int32.ofNat j + 6)) :: [(3, .ref 196), (2, .ref 157), (1, .ref 0), (0, .retAddr 0)]) [] H2 (k + a0 + a1) (n + b0 + b1) := by
  rw [hc]
  refine (st_tsw rfl).trans ?_
  refine (st_pc (pc2 := 1185) (by decide +kernel)).trans ?_
  show aX sL sx cs 417 1185 (lb_l (Int32.ofNat j)) _ _ _ _ = aX sL sx cs 417 53 (lb_l (Int32.ofNat j + 6)) _ _ _ _
  refine (lb_a1 (pc := 1185) rfl).trans ?_
  refine (st_cv1 (as := []) (rest := []) rfl rfl rfl rfl h0 rfl (by with_unfolding_all rfl) (by with_unfolding_all rfl) rA).trans ?_
  refine (lb_a2 (pc := 1189) rfl).trans ?_
  refine (st_cv1 (as := []) (rest := [.int v]) rfl rfl rfl rfl h157 rfl (by with_unfolding_all rfl) (by with_unfolding_all rfl) rB).trans ?_
  refine (st_icmp rfl).trans ?_
  refine (st_pc (pc2 := 1475) (if_pos rfl)).trans ?_
  exact lb_end

set_option maxRecDepth 100000 in
theorem lc_29 {H H1 H2 : am_H} {k n j a0 b0 a1 b1 : Nat} {u w : List Value} {v : Int32} (hL : sL < 2 ^ 31) (hj : j + 5 < sL) (h0 : am_is H 0 (.inr (11, u))) (h157 : am_is H1 157 (.inr (12, w))) (rA : aX sL sx cs 170 0 [(0, .ref 0), (1, .int (sx (j + 1)))] [] H 0 0 = some (some (.int v), H1, a0, b0)) (rB : aX sL sx cs 359 0 [(0, .ref 157), (1, .int (sx (j + 1)))] [] H1 0 0 = some (some (.int v), H2, a1, b1)) (hc : sx j &&& 63 = 29) :
    aX sL sx cs 417 70 ((4, .int (Int32.ofNat j)) :: [(3, .ref 196), (2, .ref 157), (1, .ref 0), (0, .retAddr 0)]) [.int (sx j &&& 63)] H k n = aX sL sx cs 417 53 ((4, .int (Int32.ofNat j + 6)) :: [(3, .ref 196), (2, .ref 157), (1, .ref 0), (0, .retAddr 0)]) [] H2 (k + a0 + a1) (n + b0 + b1) := by
  rw [hc]
  refine (st_tsw rfl).trans ?_
  refine (st_pc (pc2 := 1198) (by decide +kernel)).trans ?_
  show aX sL sx cs 417 1198 (lb_l (Int32.ofNat j)) _ _ _ _ = aX sL sx cs 417 53 (lb_l (Int32.ofNat j + 6)) _ _ _ _
  refine (lb_a1 (pc := 1198) rfl).trans ?_
  refine (lb_B (pc := 1199) (d := 1) rfl rfl rfl (by decide) rfl).trans ?_
  refine (st_sc (d := 1) rfl hL (by omega)).trans ?_
  refine (st_cv1 (as := [.int (sx (j + 1))]) (rest := []) rfl rfl rfl rfl h0 rfl (by with_unfolding_all rfl) (by with_unfolding_all rfl) rA).trans ?_
  refine (lb_a2 (pc := 1208) rfl).trans ?_
  refine (lb_B (pc := 1209) (d := 1) rfl rfl rfl (by decide) rfl).trans ?_
  refine (st_sc (d := 1) rfl hL (by omega)).trans ?_
  refine (st_cv1 (as := [.int (sx (j + 1))]) (rest := [.int v]) rfl rfl rfl rfl h157 rfl (by with_unfolding_all rfl) (by with_unfolding_all rfl) rB).trans ?_
  refine (st_icmp rfl).trans ?_
  refine (st_pc (pc2 := 1475) (if_pos rfl)).trans ?_
  exact lb_end

set_option maxRecDepth 100000 in
theorem lc_30 {H H1 H2 : am_H} {k n j a0 b0 a1 b1 : Nat} {u w : List Value} {v : Int32} (hL : sL < 2 ^ 31) (hj : j + 5 < sL) (h0 : am_is H 0 (.inr (11, u))) (h157 : am_is H1 157 (.inr (12, w))) (rA : aX sL sx cs 173 0 [(0, .ref 0), (1, .int (sx (j + 1))), (2, .int (am_nz (sx (j + 2))))] [] H 0 0 = some (some (.int v), H1, a0, b0)) (rB : aX sL sx cs 411 0 [(0, .ref 157), (1, .int (sx (j + 1))), (2, .int (am_nz (sx (j + 2))))] [] H1 0 0 = some (some (.int v), H2, a1, b1)) (hc : sx j &&& 63 = 30) :
    aX sL sx cs 417 70 ((4, .int (Int32.ofNat j)) :: [(3, .ref 196), (2, .ref 157), (1, .ref 0), (0, .retAddr 0)]) [.int (sx j &&& 63)] H k n = aX sL sx cs 417 53 ((4, .int (Int32.ofNat j + 6)) :: [(3, .ref 196), (2, .ref 157), (1, .ref 0), (0, .retAddr 0)]) [] H2 (k + a0 + a1) (n + b0 + b1) := by
  rw [hc]
  refine (st_tsw rfl).trans ?_
  refine (st_pc (pc2 := 1223) (by decide +kernel)).trans ?_
  show aX sL sx cs 417 1223 (lb_l (Int32.ofNat j)) _ _ _ _ = aX sL sx cs 417 53 (lb_l (Int32.ofNat j + 6)) _ _ _ _
  refine (lb_a1 (pc := 1223) rfl).trans ?_
  refine (lb_B (pc := 1224) (d := 1) rfl rfl rfl (by decide) rfl).trans ?_
  refine (st_sc (d := 1) rfl hL (by omega)).trans ?_
  refine (lb_B (pc := 1230) (d := 2) rfl rfl rfl (by decide) rfl).trans ?_
  refine (st_sc (d := 2) rfl hL (by omega)).trans ?_
  refine (st_if rfl).trans ?_
  have q5 : aX sL sx cs 417 (am_br .eq (sx (j + 2)) 0 1243 1239) ((4, .int (Int32.ofNat j)) :: [(3, .ref 196), (2, .ref 157), (1, .ref 0), (0, .retAddr 0)]) [.int (sx (j + 1)), .ref 0] H k n = aX sL sx cs 417 1244 ((4, .int (Int32.ofNat j)) :: [(3, .ref 196), (2, .ref 157), (1, .ref 0), (0, .retAddr 0)]) [.int (am_nz (sx (j + 2))), .int (sx (j + 1)), .ref 0] H k n := by
    unfold am_nz
    by_cases c : (sx (j + 2)) = 0
    · rw [if_pos c, show am_br .eq (sx (j + 2)) 0 1243 1239 = 1243 from if_pos c]
      exact lb_ic (pc := 1243) (d := 0) rfl (by decide)
    · rw [if_neg c, show am_br .eq (sx (j + 2)) 0 1243 1239 = 1239 from if_neg c]
      exact (lb_ic (pc := 1239) (d := 1) rfl (by decide)).trans (lb_go (pc := 1240) rfl)
  refine q5.trans ?_
  refine (st_cv1 (as := [.int (sx (j + 1)), .int (am_nz (sx (j + 2)))]) (rest := []) rfl rfl rfl rfl h0 rfl (by with_unfolding_all rfl) (by with_unfolding_all rfl) rA).trans ?_
  refine (lb_a2 (pc := 1247) rfl).trans ?_
  refine (lb_B (pc := 1248) (d := 1) rfl rfl rfl (by decide) rfl).trans ?_
  refine (st_sc (d := 1) rfl hL (by omega)).trans ?_
  refine (lb_B (pc := 1254) (d := 2) rfl rfl rfl (by decide) rfl).trans ?_
  refine (st_sc (d := 2) rfl hL (by omega)).trans ?_
  refine (st_if rfl).trans ?_
  have q19 : aX sL sx cs 417 (am_br .eq (sx (j + 2)) 0 1267 1263) ((4, .int (Int32.ofNat j)) :: [(3, .ref 196), (2, .ref 157), (1, .ref 0), (0, .retAddr 0)]) [.int (sx (j + 1)), .ref 157, .int v] H1 (k + a0) (n + b0) = aX sL sx cs 417 1268 ((4, .int (Int32.ofNat j)) :: [(3, .ref 196), (2, .ref 157), (1, .ref 0), (0, .retAddr 0)]) [.int (am_nz (sx (j + 2))), .int (sx (j + 1)), .ref 157, .int v] H1 (k + a0) (n + b0) := by
    unfold am_nz
    by_cases c : (sx (j + 2)) = 0
    · rw [if_pos c, show am_br .eq (sx (j + 2)) 0 1267 1263 = 1267 from if_pos c]
      exact lb_ic (pc := 1267) (d := 0) rfl (by decide)
    · rw [if_neg c, show am_br .eq (sx (j + 2)) 0 1267 1263 = 1263 from if_neg c]
      exact (lb_ic (pc := 1263) (d := 1) rfl (by decide)).trans (lb_go (pc := 1264) rfl)
  refine q19.trans ?_
  refine (st_cv1 (as := [.int (sx (j + 1)), .int (am_nz (sx (j + 2)))]) (rest := [.int v]) rfl rfl rfl rfl h157 rfl (by with_unfolding_all rfl) (by with_unfolding_all rfl) rB).trans ?_
  refine (st_icmp rfl).trans ?_
  refine (st_pc (pc2 := 1475) (if_pos rfl)).trans ?_
  exact lb_end

set_option maxRecDepth 100000 in
theorem lc_31 {H H1 H2 : am_H} {k n j a0 b0 a1 b1 : Nat} {u w : List Value} {v : Int32} (hL : sL < 2 ^ 31) (hj : j + 5 < sL) (h0 : am_is H 0 (.inr (11, u))) (h157 : am_is H1 157 (.inr (12, w))) (rA : aX sL sx cs 175 0 [(0, .ref 0), (1, .int (sx (j + 1)))] [] H 0 0 = some (some (.int v), H1, a0, b0)) (rB : aX sL sx cs 364 0 [(0, .ref 157), (1, .int (sx (j + 1)))] [] H1 0 0 = some (some (.int v), H2, a1, b1)) (hc : sx j &&& 63 = 31) :
    aX sL sx cs 417 70 ((4, .int (Int32.ofNat j)) :: [(3, .ref 196), (2, .ref 157), (1, .ref 0), (0, .retAddr 0)]) [.int (sx j &&& 63)] H k n = aX sL sx cs 417 53 ((4, .int (Int32.ofNat j + 6)) :: [(3, .ref 196), (2, .ref 157), (1, .ref 0), (0, .retAddr 0)]) [] H2 (k + a0 + a1) (n + b0 + b1) := by
  rw [hc]
  refine (st_tsw rfl).trans ?_
  refine (st_pc (pc2 := 1276) (by decide +kernel)).trans ?_
  show aX sL sx cs 417 1276 (lb_l (Int32.ofNat j)) _ _ _ _ = aX sL sx cs 417 53 (lb_l (Int32.ofNat j + 6)) _ _ _ _
  refine (lb_a1 (pc := 1276) rfl).trans ?_
  refine (lb_B (pc := 1277) (d := 1) rfl rfl rfl (by decide) rfl).trans ?_
  refine (st_sc (d := 1) rfl hL (by omega)).trans ?_
  refine (st_cv1 (as := [.int (sx (j + 1))]) (rest := []) rfl rfl rfl rfl h0 rfl (by with_unfolding_all rfl) (by with_unfolding_all rfl) rA).trans ?_
  refine (lb_a2 (pc := 1286) rfl).trans ?_
  refine (lb_B (pc := 1287) (d := 1) rfl rfl rfl (by decide) rfl).trans ?_
  refine (st_sc (d := 1) rfl hL (by omega)).trans ?_
  refine (st_cv1 (as := [.int (sx (j + 1))]) (rest := [.int v]) rfl rfl rfl rfl h157 rfl (by with_unfolding_all rfl) (by with_unfolding_all rfl) rB).trans ?_
  refine (st_icmp rfl).trans ?_
  refine (st_pc (pc2 := 1475) (if_pos rfl)).trans ?_
  exact lb_end

set_option maxRecDepth 100000 in
theorem lc_32 {H H1 H2 : am_H} {k n j a0 b0 a1 b1 : Nat} {u w : List Value} {v : Int32} (hL : sL < 2 ^ 31) (hj : j + 5 < sL) (h0 : am_is H 0 (.inr (11, u))) (h157 : am_is H1 157 (.inr (12, w))) (rA : aX sL sx cs 177 0 [(0, .ref 0), (1, .int (sx (j + 1)))] [] H 0 0 = some (some (.int v), H1, a0, b0)) (rB : aX sL sx cs 365 0 [(0, .ref 157), (1, .int (sx (j + 1)))] [] H1 0 0 = some (some (.int v), H2, a1, b1)) (hc : sx j &&& 63 = 32) :
    aX sL sx cs 417 70 ((4, .int (Int32.ofNat j)) :: [(3, .ref 196), (2, .ref 157), (1, .ref 0), (0, .retAddr 0)]) [.int (sx j &&& 63)] H k n = aX sL sx cs 417 53 ((4, .int (Int32.ofNat j + 6)) :: [(3, .ref 196), (2, .ref 157), (1, .ref 0), (0, .retAddr 0)]) [] H2 (k + a0 + a1) (n + b0 + b1) := by
  rw [hc]
  refine (st_tsw rfl).trans ?_
  refine (st_pc (pc2 := 1301) (by decide +kernel)).trans ?_
  show aX sL sx cs 417 1301 (lb_l (Int32.ofNat j)) _ _ _ _ = aX sL sx cs 417 53 (lb_l (Int32.ofNat j + 6)) _ _ _ _
  refine (lb_a1 (pc := 1301) rfl).trans ?_
  refine (lb_B (pc := 1302) (d := 1) rfl rfl rfl (by decide) rfl).trans ?_
  refine (st_sc (d := 1) rfl hL (by omega)).trans ?_
  refine (st_cv1 (as := [.int (sx (j + 1))]) (rest := []) rfl rfl rfl rfl h0 rfl (by with_unfolding_all rfl) (by with_unfolding_all rfl) rA).trans ?_
  refine (lb_a2 (pc := 1311) rfl).trans ?_
  refine (lb_B (pc := 1312) (d := 1) rfl rfl rfl (by decide) rfl).trans ?_
  refine (st_sc (d := 1) rfl hL (by omega)).trans ?_
  refine (st_cv1 (as := [.int (sx (j + 1))]) (rest := [.int v]) rfl rfl rfl rfl h157 rfl (by with_unfolding_all rfl) (by with_unfolding_all rfl) rB).trans ?_
  refine (st_icmp rfl).trans ?_
  refine (st_pc (pc2 := 1475) (if_pos rfl)).trans ?_
  exact lb_end

set_option maxRecDepth 100000 in
theorem lc_33 {H H1 H2 : am_H} {k n j a0 b0 a1 b1 : Nat} {u w : List Value} {v : Int32} (hL : sL < 2 ^ 31) (hj : j + 5 < sL) (h0 : am_is H 0 (.inr (11, u))) (h157 : am_is H1 157 (.inr (12, w))) (rA : aX sL sx cs 248 0 [(0, .ref 0), (1, .int (sx (j + 1))), (2, .int (sx (j + 2)))] [] H 0 0 = some (some (.int v), H1, a0, b0)) (rB : aX sL sx cs 412 0 [(0, .ref 157), (1, .int (sx (j + 1))), (2, .int (sx (j + 2)))] [] H1 0 0 = some (some (.int v), H2, a1, b1)) (hc : sx j &&& 63 = 33) :
    aX sL sx cs 417 70 ((4, .int (Int32.ofNat j)) :: [(3, .ref 196), (2, .ref 157), (1, .ref 0), (0, .retAddr 0)]) [.int (sx j &&& 63)] H k n = aX sL sx cs 417 53 ((4, .int (Int32.ofNat j + 6)) :: [(3, .ref 196), (2, .ref 157), (1, .ref 0), (0, .retAddr 0)]) [] H2 (k + a0 + a1) (n + b0 + b1) := by
  rw [hc]
  refine (st_tsw rfl).trans ?_
  refine (st_pc (pc2 := 1326) (by decide +kernel)).trans ?_
  show aX sL sx cs 417 1326 (lb_l (Int32.ofNat j)) _ _ _ _ = aX sL sx cs 417 53 (lb_l (Int32.ofNat j + 6)) _ _ _ _
  refine (lb_a1 (pc := 1326) rfl).trans ?_
  refine (lb_B (pc := 1327) (d := 1) rfl rfl rfl (by decide) rfl).trans ?_
  refine (st_sc (d := 1) rfl hL (by omega)).trans ?_
  refine (lb_B (pc := 1333) (d := 2) rfl rfl rfl (by decide) rfl).trans ?_
  refine (st_sc (d := 2) rfl hL (by omega)).trans ?_
  refine (st_cv1 (as := [.int (sx (j + 1)), .int (sx (j + 2))]) (rest := []) rfl rfl rfl rfl h0 rfl (by with_unfolding_all rfl) (by with_unfolding_all rfl) rA).trans ?_
  refine (lb_a2 (pc := 1342) rfl).trans ?_
  refine (lb_B (pc := 1343) (d := 1) rfl rfl rfl (by decide) rfl).trans ?_
  refine (st_sc (d := 1) rfl hL (by omega)).trans ?_
  refine (lb_B (pc := 1349) (d := 2) rfl rfl rfl (by decide) rfl).trans ?_
  refine (st_sc (d := 2) rfl hL (by omega)).trans ?_
  refine (st_cv1 (as := [.int (sx (j + 1)), .int (sx (j + 2))]) (rest := [.int v]) rfl rfl rfl rfl h157 rfl (by with_unfolding_all rfl) (by with_unfolding_all rfl) rB).trans ?_
  refine (st_icmp rfl).trans ?_
  refine (st_pc (pc2 := 1475) (if_pos rfl)).trans ?_
  exact lb_end

set_option maxRecDepth 100000 in
theorem lc_34 {H H1 H2 : am_H} {k n j a0 b0 a1 b1 : Nat} {u w : List Value} {v : Int32} (hL : sL < 2 ^ 31) (hj : j + 5 < sL) (h0 : am_is H 0 (.inr (11, u))) (h157 : am_is H1 157 (.inr (12, w))) (rA : aX sL sx cs 250 0 [(0, .ref 0), (1, .int (sx (j + 1)))] [] H 0 0 = some (some (.int v), H1, a0, b0)) (rB : aX sL sx cs 413 0 [(0, .ref 157), (1, .int (sx (j + 1)))] [] H1 0 0 = some (some (.int v), H2, a1, b1)) (hc : sx j &&& 63 = 34) :
    aX sL sx cs 417 70 ((4, .int (Int32.ofNat j)) :: [(3, .ref 196), (2, .ref 157), (1, .ref 0), (0, .retAddr 0)]) [.int (sx j &&& 63)] H k n = aX sL sx cs 417 53 ((4, .int (Int32.ofNat j + 6)) :: [(3, .ref 196), (2, .ref 157), (1, .ref 0), (0, .retAddr 0)]) [] H2 (k + a0 + a1) (n + b0 + b1) := by
  rw [hc]
  refine (st_tsw rfl).trans ?_
  refine (st_pc (pc2 := 1363) (by decide +kernel)).trans ?_
  show aX sL sx cs 417 1363 (lb_l (Int32.ofNat j)) _ _ _ _ = aX sL sx cs 417 53 (lb_l (Int32.ofNat j + 6)) _ _ _ _
  refine (lb_a1 (pc := 1363) rfl).trans ?_
  refine (lb_B (pc := 1364) (d := 1) rfl rfl rfl (by decide) rfl).trans ?_
  refine (st_sc (d := 1) rfl hL (by omega)).trans ?_
  refine (st_cv1 (as := [.int (sx (j + 1))]) (rest := []) rfl rfl rfl rfl h0 rfl (by with_unfolding_all rfl) (by with_unfolding_all rfl) rA).trans ?_
  refine (lb_a2 (pc := 1373) rfl).trans ?_
  refine (lb_B (pc := 1374) (d := 1) rfl rfl rfl (by decide) rfl).trans ?_
  refine (st_sc (d := 1) rfl hL (by omega)).trans ?_
  refine (st_cv1 (as := [.int (sx (j + 1))]) (rest := [.int v]) rfl rfl rfl rfl h157 rfl (by with_unfolding_all rfl) (by with_unfolding_all rfl) rB).trans ?_
  refine (st_icmp rfl).trans ?_
  refine (st_pc (pc2 := 1475) (if_pos rfl)).trans ?_
  exact lb_end

set_option maxRecDepth 100000 in
theorem lc_35 {H H1 H2 : am_H} {k n j a0 b0 a1 b1 : Nat} {u w : List Value} {v : Int32} (hL : sL < 2 ^ 31) (hj : j + 5 < sL) (h0 : am_is H 0 (.inr (11, u))) (h157 : am_is H1 157 (.inr (12, w))) (rA : aX sL sx cs 251 0 [(0, .ref 0), (1, .int (sx (j + 1)))] [] H 0 0 = some (some (.int v), H1, a0, b0)) (rB : aX sL sx cs 414 0 [(0, .ref 157), (1, .int (sx (j + 1)))] [] H1 0 0 = some (some (.int v), H2, a1, b1)) (hc : sx j &&& 63 = 35) :
    aX sL sx cs 417 70 ((4, .int (Int32.ofNat j)) :: [(3, .ref 196), (2, .ref 157), (1, .ref 0), (0, .retAddr 0)]) [.int (sx j &&& 63)] H k n = aX sL sx cs 417 53 ((4, .int (Int32.ofNat j + 6)) :: [(3, .ref 196), (2, .ref 157), (1, .ref 0), (0, .retAddr 0)]) [] H2 (k + a0 + a1) (n + b0 + b1) := by
  rw [hc]
  refine (st_tsw rfl).trans ?_
  refine (st_pc (pc2 := 1388) (by decide +kernel)).trans ?_
  show aX sL sx cs 417 1388 (lb_l (Int32.ofNat j)) _ _ _ _ = aX sL sx cs 417 53 (lb_l (Int32.ofNat j + 6)) _ _ _ _
  refine (lb_a1 (pc := 1388) rfl).trans ?_
  refine (lb_B (pc := 1389) (d := 1) rfl rfl rfl (by decide) rfl).trans ?_
  refine (st_sc (d := 1) rfl hL (by omega)).trans ?_
  refine (st_cv1 (as := [.int (sx (j + 1))]) (rest := []) rfl rfl rfl rfl h0 rfl (by with_unfolding_all rfl) (by with_unfolding_all rfl) rA).trans ?_
  refine (lb_a2 (pc := 1398) rfl).trans ?_
  refine (lb_B (pc := 1399) (d := 1) rfl rfl rfl (by decide) rfl).trans ?_
  refine (st_sc (d := 1) rfl hL (by omega)).trans ?_
  refine (st_cv1 (as := [.int (sx (j + 1))]) (rest := [.int v]) rfl rfl rfl rfl h157 rfl (by with_unfolding_all rfl) (by with_unfolding_all rfl) rB).trans ?_
  refine (st_icmp rfl).trans ?_
  refine (st_pc (pc2 := 1475) (if_pos rfl)).trans ?_
  exact lb_end

set_option maxRecDepth 100000 in
theorem lc_36 {H H1 H2 : am_H} {k n j a0 b0 a1 b1 : Nat} {u w : List Value} {v : Int32} (hL : sL < 2 ^ 31) (hj : j + 5 < sL) (h0 : am_is H 0 (.inr (11, u))) (h157 : am_is H1 157 (.inr (12, w))) (rA : aX sL sx cs 254 0 [(0, .ref 0), (1, .int (sx (j + 1)))] [] H 0 0 = some (some (.int v), H1, a0, b0)) (rB : aX sL sx cs 415 0 [(0, .ref 157), (1, .int (sx (j + 1)))] [] H1 0 0 = some (some (.int v), H2, a1, b1)) (hc : sx j &&& 63 = 36) :
    aX sL sx cs 417 70 ((4, .int (Int32.ofNat j)) :: [(3, .ref 196), (2, .ref 157), (1, .ref 0), (0, .retAddr 0)]) [.int (sx j &&& 63)] H k n = aX sL sx cs 417 53 ((4, .int (Int32.ofNat j + 6)) :: [(3, .ref 196), (2, .ref 157), (1, .ref 0), (0, .retAddr 0)]) [] H2 (k + a0 + a1) (n + b0 + b1) := by
  rw [hc]
  refine (st_tsw rfl).trans ?_
  refine (st_pc (pc2 := 1413) (by decide +kernel)).trans ?_
  show aX sL sx cs 417 1413 (lb_l (Int32.ofNat j)) _ _ _ _ = aX sL sx cs 417 53 (lb_l (Int32.ofNat j + 6)) _ _ _ _
  refine (lb_a1 (pc := 1413) rfl).trans ?_
  refine (lb_B (pc := 1414) (d := 1) rfl rfl rfl (by decide) rfl).trans ?_
  refine (st_sc (d := 1) rfl hL (by omega)).trans ?_
  refine (st_cv1 (as := [.int (sx (j + 1))]) (rest := []) rfl rfl rfl rfl h0 rfl (by with_unfolding_all rfl) (by with_unfolding_all rfl) rA).trans ?_
  refine (lb_a2 (pc := 1423) rfl).trans ?_
  refine (lb_B (pc := 1424) (d := 1) rfl rfl rfl (by decide) rfl).trans ?_
  refine (st_sc (d := 1) rfl hL (by omega)).trans ?_
  refine (st_cv1 (as := [.int (sx (j + 1))]) (rest := [.int v]) rfl rfl rfl rfl h157 rfl (by with_unfolding_all rfl) (by with_unfolding_all rfl) rB).trans ?_
  refine (st_icmp rfl).trans ?_
  refine (st_pc (pc2 := 1475) (if_pos rfl)).trans ?_
  exact lb_end

set_option maxRecDepth 100000 in
theorem lc_37 {H H1 H2 : am_H} {k n j a0 b0 a1 b1 : Nat} {u w : List Value} {v : Int32} (hL : sL < 2 ^ 31) (hj : j + 5 < sL) (h0 : am_is H 0 (.inr (11, u))) (h157 : am_is H1 157 (.inr (12, w))) (rA : aX sL sx cs 257 0 [(0, .ref 0), (1, .int (sx (j + 1))), (2, .int (sx (j + 2)))] [] H 0 0 = some (some (.int v), H1, a0, b0)) (rB : aX sL sx cs 416 0 [(0, .ref 157), (1, .int (sx (j + 1))), (2, .int (sx (j + 2)))] [] H1 0 0 = some (some (.int v), H2, a1, b1)) (hc : sx j &&& 63 = 37) :
    aX sL sx cs 417 70 ((4, .int (Int32.ofNat j)) :: [(3, .ref 196), (2, .ref 157), (1, .ref 0), (0, .retAddr 0)]) [.int (sx j &&& 63)] H k n = aX sL sx cs 417 53 ((4, .int (Int32.ofNat j + 6)) :: [(3, .ref 196), (2, .ref 157), (1, .ref 0), (0, .retAddr 0)]) [] H2 (k + a0 + a1) (n + b0 + b1) := by
  rw [hc]
  refine (st_tsw rfl).trans ?_
  refine (st_pc (pc2 := 1438) (by decide +kernel)).trans ?_
  show aX sL sx cs 417 1438 (lb_l (Int32.ofNat j)) _ _ _ _ = aX sL sx cs 417 53 (lb_l (Int32.ofNat j + 6)) _ _ _ _
  refine (lb_a1 (pc := 1438) rfl).trans ?_
  refine (lb_B (pc := 1439) (d := 1) rfl rfl rfl (by decide) rfl).trans ?_
  refine (st_sc (d := 1) rfl hL (by omega)).trans ?_
  refine (lb_B (pc := 1445) (d := 2) rfl rfl rfl (by decide) rfl).trans ?_
  refine (st_sc (d := 2) rfl hL (by omega)).trans ?_
  refine (st_cv1 (as := [.int (sx (j + 1)), .int (sx (j + 2))]) (rest := []) rfl rfl rfl rfl h0 rfl (by with_unfolding_all rfl) (by with_unfolding_all rfl) rA).trans ?_
  refine (lb_a2 (pc := 1454) rfl).trans ?_
  refine (lb_B (pc := 1455) (d := 1) rfl rfl rfl (by decide) rfl).trans ?_
  refine (st_sc (d := 1) rfl hL (by omega)).trans ?_
  refine (lb_B (pc := 1461) (d := 2) rfl rfl rfl (by decide) rfl).trans ?_
  refine (st_sc (d := 2) rfl hL (by omega)).trans ?_
  refine (st_cv1 (as := [.int (sx (j + 1)), .int (sx (j + 2))]) (rest := [.int v]) rfl rfl rfl rfl h157 rfl (by with_unfolding_all rfl) (by with_unfolding_all rfl) rB).trans ?_
  refine (st_icmp rfl).trans ?_
  refine (st_pc (pc2 := 1475) (if_pos rfl)).trans ?_
  exact lb_end

set_option maxRecDepth 100000 in
theorem lc_d {H : am_H} {k n j : Nat} (hc : ∀ q : Nat, q < 38 → ¬ sx j &&& 63 = Int32.ofNat q) :
    aX sL sx cs 417 70 ((4, .int (Int32.ofNat j)) :: [(3, .ref 196), (2, .ref 157), (1, .ref 0), (0, .retAddr 0)]) [.int (sx j &&& 63)] H k n = aX sL sx cs 417 53 ((4, .int (Int32.ofNat j + 6)) :: [(3, .ref 196), (2, .ref 157), (1, .ref 0), (0, .retAddr 0)]) [] H k n := by
  refine (st_tsw rfl).trans ?_
  refine (st_pc (pc2 := 1475) (am_sw_d _ _ 38 rfl hc)).trans ?_
  exact lb_end

end CASE
