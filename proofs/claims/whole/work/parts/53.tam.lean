/-! The program does what the functions say. -/
set_option maxRecDepth 100000 in
theorem tf292_fault {sL : Nat} {sx : Nat → Int32} {h b N : Nat} {T : List am_C} {r : Int32} {a' : xA} {x0 : Int32} {a : xA} {H : am_H} (hS : xS h b T a H) (e : f292_fault N h b x0 a = some (r, a')) : am_E sL sx am_cs 292 0 [(0, .ref 157), (1, .int x0)] [] H (some (.int r)) (fun H1 => xS h b T a' H1) := by
  unfold f292_fault at e
  refine ex_s (am_nb (m := 2) (pc1 := 2) (ls1 := [(0, .ref 157), (1, .int x0)]) (st1 := [.int 0, .ref 157]) (H1 := H) (k1 := 0) (n1 := 0) (by with_unfolding_all rfl)) ?_
  obtain ⟨a1, ha1, e⟩ := xw_some e
  refine xe_put (w := 0) hS rfl rfl (by decide) rfl rfl rfl rfl (fun H2 s3 => ?_)
  have s3 : xS h b T a1 H2 := by rw [ha1]; exact s3
  refine ex_s (am_nb (m := 1) (pc1 := 6) (ls1 := [(0, .ref 157), (1, .int x0)]) (st1 := [.int x0]) (H1 := H2) (k1 := 0) (n1 := 0) (by with_unfolding_all rfl)) ?_
  have kk : am_E sL sx am_cs 292 29 [(0, .ref 157), (1, .int x0)] [.int (if x0 = 0 then (a1 157 13) else (if x0 = 1 then (a1 157 14) else (-1 : Int32)))] H2 (some (.int r)) (fun H1 => xS h b T a' H1) := by
    cases e
    exact ex_r (st_iret rfl rfl rfl) s3
  refine ex_s (st_if rfl) ?_
  by_cases c4 : x0 = 0
  · refine ex_pc (if_pos c4) ?_
    refine ex_s (am_nb (m := 1) (pc1 := 10) (ls1 := [(0, .ref 157), (1, .int x0)]) (st1 := [.ref 157]) (H1 := H2) (k1 := 0) (n1 := 0) (by with_unfolding_all rfl)) ?_
    refine xe_get (v := .int (a1 157 13)) s3 rfl rfl (by decide) rfl ?_
    refine ex_s (am_nb (m := 1) (pc1 := 29) (ls1 := [(0, .ref 157), (1, .int x0)]) (st1 := [.int (a1 157 13)]) (H1 := H2) (k1 := 0) (n1 := 0) (by with_unfolding_all rfl)) ?_
    rw [if_pos c4] at kk
    exact kk
  · refine ex_pc (if_neg c4) ?_
    refine ex_s (am_nb (m := 2) (pc1 := 18) (ls1 := [(0, .ref 157), (1, .int x0)]) (st1 := [.int 1, .int x0]) (H1 := H2) (k1 := 0) (n1 := 0) (by with_unfolding_all rfl)) ?_
    refine ex_s (st_icmp rfl) ?_
    by_cases c5 : x0 = 1
    · refine ex_pc (if_pos c5) ?_
      refine ex_s (am_nb (m := 1) (pc1 := 22) (ls1 := [(0, .ref 157), (1, .int x0)]) (st1 := [.ref 157]) (H1 := H2) (k1 := 0) (n1 := 0) (by with_unfolding_all rfl)) ?_
      refine xe_get (v := .int (a1 157 14)) s3 rfl rfl (by decide) rfl ?_
      refine ex_s (am_nb (m := 1) (pc1 := 29) (ls1 := [(0, .ref 157), (1, .int x0)]) (st1 := [.int (a1 157 14)]) (H1 := H2) (k1 := 0) (n1 := 0) (by with_unfolding_all rfl)) ?_
      rw [if_neg c4, if_pos c5] at kk
      exact kk
    · refine ex_pc (if_neg c5) ?_
      refine ex_s (am_nb (m := 1) (pc1 := 29) (ls1 := [(0, .ref 157), (1, .int x0)]) (st1 := [.int (-1)]) (H1 := H2) (k1 := 0) (n1 := 0) (by with_unfolding_all rfl)) ?_
      rw [if_neg c4, if_neg c5] at kk
      exact kk

set_option maxRecDepth 100000 in
theorem tl293_189 {sL : Nat} {sx : Nat → Int32} {h b N : Nat} {T : List am_C} {R : Option Value} {F : am_H → Prop} {z : Nat × xA} (k0 : z.1 = 0 → ∀ H2 : am_H, xS h b T z.2 H2 → am_E sL sx am_cs 293 210 [(0, .ref 157)] [] H2 R F) : ∀ (n : Nat) (v5 : Int32) (a : xA) (H : am_H), xS h b T a H → l293_189 N h b n v5 a = some z → am_E sL sx am_cs 293 189 [(0, .ref 157), (5, .int v5)] [] H R F := by
  intro n
  induction n with
  | zero =>
    intro v5 a H hS e
    cases e
  | succ n ih =>
    intro v5 a H hS e
    unfold l293_189 at e
    refine ex_s (am_nb (m := 2) (pc1 := 193) (ls1 := [(0, .ref 157), (5, .int v5)]) (st1 := [.int 8, .int v5]) (H1 := H) (k1 := 0) (n1 := 0) (by with_unfolding_all rfl)) ?_
    refine ex_s (st_icmp rfl) ?_
    by_cases c28 : 8 ≤ v5
    · have e := (if_pos c28).symm.trans e
      refine ex_pc (if_pos c28) ?_
      cases e
      exact le_E (l1 := [(0, .ref 157)]) ⟨rfl, trivial⟩ rfl (k0 rfl H hS)
    · have e := (if_neg c28).symm.trans e
      refine ex_pc (if_neg c28) ?_
      refine ex_s (am_nb (m := 1) (pc1 := 197) (ls1 := [(0, .ref 157), (5, .int v5)]) (st1 := [.ref 157]) (H1 := H) (k1 := 0) (n1 := 0) (by with_unfolding_all rfl)) ?_
      refine xe_get (v := .ref 172) hS rfl rfl (by decide) rfl ?_
      refine ex_s (am_nb (m := 2) (pc1 := 203) (ls1 := [(0, .ref 157), (5, .int v5)]) (st1 := [.int 0, .int v5, .ref 172]) (H1 := H) (k1 := 0) (n1 := 0) (by with_unfolding_all rfl)) ?_
      obtain ⟨g32, e⟩ := xg_some e
      obtain ⟨a29, ha29, e⟩ := xw_some e
      refine xe_zast hS rfl rfl g32 (fun H30 s31 => ?_)
      have s31 : xS h b T a29 H30 := by rw [ha29]; exact s31
      refine ex_s (am_nb (m := 2) (pc1 := 189) (ls1 := [(5, .int (v5 + 1)), (0, .ref 157)]) (st1 := []) (H1 := H30) (k1 := 0) (n1 := 0) (by with_unfolding_all rfl)) ?_
      exact le_E (l1 := [(0, .ref 157), (5, .int (v5 + 1))]) ⟨rfl, rfl, trivial⟩ rfl (ih (v5 + 1) a29 H30 s31 e)

set_option maxRecDepth 100000 in
theorem tl293_213 {sL : Nat} {sx : Nat → Int32} {h b N : Nat} {T : List am_C} {R : Option Value} {F : am_H → Prop} {z : Nat × xA} (k0 : z.1 = 0 → ∀ H2 : am_H, xS h b T z.2 H2 → am_E sL sx am_cs 293 245 [(0, .ref 157)] [] H2 R F) : ∀ (n : Nat) (v5 : Int32) (a : xA) (H : am_H), xS h b T a H → l293_213 N h b n v5 a = some z → am_E sL sx am_cs 293 213 [(0, .ref 157), (5, .int v5)] [] H R F := by
  intro n
  induction n with
  | zero =>
    intro v5 a H hS e
    cases e
  | succ n ih =>
    intro v5 a H hS e
    unfold l293_213 at e
    refine ex_s (am_nb (m := 2) (pc1 := 218) (ls1 := [(0, .ref 157), (5, .int v5)]) (st1 := [.int 1920, .int v5]) (H1 := H) (k1 := 0) (n1 := 0) (by with_unfolding_all rfl)) ?_
    refine ex_s (st_icmp rfl) ?_
    by_cases c35 : 1920 ≤ v5
    · have e := (if_pos c35).symm.trans e
      refine ex_pc (if_pos c35) ?_
      cases e
      exact le_E (l1 := [(0, .ref 157)]) ⟨rfl, trivial⟩ rfl (k0 rfl H hS)
    · have e := (if_neg c35).symm.trans e
      refine ex_pc (if_neg c35) ?_
      refine ex_s (am_nb (m := 1) (pc1 := 222) (ls1 := [(0, .ref 157), (5, .int v5)]) (st1 := [.ref 157]) (H1 := H) (k1 := 0) (n1 := 0) (by with_unfolding_all rfl)) ?_
      refine xe_get (v := .ref 170) hS rfl rfl (by decide) rfl ?_
      refine ex_s (am_nb (m := 2) (pc1 := 229) (ls1 := [(0, .ref 157), (5, .int v5)]) (st1 := [.int 32, .int v5, .ref 170]) (H1 := H) (k1 := 0) (n1 := 0) (by with_unfolding_all rfl)) ?_
      obtain ⟨g39, e⟩ := xg_some e
      obtain ⟨a36, ha36, e⟩ := xw_some e
      refine xe_iast hS rfl rfl g39 (fun H37 s38 => ?_)
      have s38 : xS h b T a36 H37 := by rw [ha36]; exact s38
      refine ex_s (am_nb (m := 1) (pc1 := 231) (ls1 := [(0, .ref 157), (5, .int v5)]) (st1 := [.ref 157]) (H1 := H37) (k1 := 0) (n1 := 0) (by with_unfolding_all rfl)) ?_
      refine xe_get (v := .ref 171) s38 rfl rfl (by decide) rfl ?_
      refine ex_s (am_nb (m := 2) (pc1 := 238) (ls1 := [(0, .ref 157), (5, .int v5)]) (st1 := [.int 32, .int v5, .ref 171]) (H1 := H37) (k1 := 0) (n1 := 0) (by with_unfolding_all rfl)) ?_
      obtain ⟨a40, ha40, e⟩ := xw_some e
      refine xe_iast s38 rfl rfl g39 (fun H41 s42 => ?_)
      have s42 : xS h b T a40 H41 := by rw [ha40]; exact s42
      refine ex_s (am_nb (m := 2) (pc1 := 213) (ls1 := [(5, .int (v5 + 1)), (0, .ref 157)]) (st1 := []) (H1 := H41) (k1 := 0) (n1 := 0) (by with_unfolding_all rfl)) ?_
      exact le_E (l1 := [(0, .ref 157), (5, .int (v5 + 1))]) ⟨rfl, rfl, trivial⟩ rfl (ih (v5 + 1) a40 H41 s42 e)

set_option maxRecDepth 100000 in
theorem tj293_147 {sL : Nat} {sx : Nat → Int32} {h b N : Nat} {T : List am_C} {r : Int32} {a' : xA} {q2 : Int32} {q3 : Int32} {t0 : Int32} {a : xA} {H : am_H} (hS : xS h b T a H) (e : j293_147 N h b q2 q3 t0 a = some (r, a')) : am_E sL sx am_cs 293 147 [(0, .ref 157), (2, .int q2), (3, .int q3)] [.int t0] H (some (.int r)) (fun H1 => xS h b T a' H1) := by
  unfold j293_147 at e
  refine ex_s (am_nb (m := 2) (pc1 := 151) (ls1 := [(4, .int t0), (0, .ref 157), (2, .int q2), (3, .int q3)]) (st1 := [.int t0]) (H1 := H) (k1 := 0) (n1 := 0) (by with_unfolding_all rfl)) ?_
  refine ex_s (st_if rfl) ?_
  by_cases c16 : t0 = 0
  · have e := (if_pos c16).symm.trans e
    refine ex_pc (if_pos c16) ?_
    refine ex_s (am_nb (m := 1) (pc1 := 156) (ls1 := [(4, .int t0), (0, .ref 157), (2, .int q2), (3, .int q3)]) (st1 := [.int (-2)]) (H1 := H) (k1 := 0) (n1 := 0) (by with_unfolding_all rfl)) ?_
    cases e
    exact ex_r (st_iret rfl rfl rfl) hS
  · have e := (if_neg c16).symm.trans e
    refine ex_pc (if_neg c16) ?_
    refine ex_s (am_nb (m := 2) (pc1 := 159) (ls1 := [(4, .int t0), (0, .ref 157), (2, .int q2), (3, .int q3)]) (st1 := [.int q2, .ref 157]) (H1 := H) (k1 := 0) (n1 := 0) (by with_unfolding_all rfl)) ?_
    obtain ⟨a17, ha17, e⟩ := xw_some e
    refine xe_put (w := q2) hS rfl rfl (by decide) rfl rfl rfl rfl (fun H18 s19 => ?_)
    have s19 : xS h b T a17 H18 := by rw [ha17]; exact s19
    refine ex_s (am_nb (m := 2) (pc1 := 164) (ls1 := [(4, .int t0), (0, .ref 157), (2, .int q2), (3, .int q3)]) (st1 := [.ref 157, .ref 157]) (H1 := H18) (k1 := 0) (n1 := 0) (by with_unfolding_all rfl)) ?_
    refine xe_get (v := .ref 164) s19 rfl rfl (by decide) rfl ?_
    refine ex_s (am_nb (m := 3) (pc1 := 170) (ls1 := [(4, .int t0), (0, .ref 157), (2, .int q2), (3, .int q3)]) (st1 := [.int (q3 + 3), .ref 164, .ref 157]) (H1 := H18) (k1 := 0) (n1 := 0) (by with_unfolding_all rfl)) ?_
    obtain ⟨g20, e⟩ := xg_some e
    refine xe_iald s19 rfl rfl g20 ?_
    obtain ⟨a21, ha21, e⟩ := xw_some e
    refine xe_put (w := (a17 164 ((q3 + 3).toNatClampNeg))) s19 rfl rfl (by decide) rfl rfl rfl rfl (fun H22 s23 => ?_)
    have s23 : xS h b T a21 H22 := by rw [ha21]; exact s23
    refine ex_s (am_nb (m := 2) (pc1 := 176) (ls1 := [(4, .int t0), (0, .ref 157), (2, .int q2), (3, .int q3)]) (st1 := [.ref 157, .ref 157]) (H1 := H22) (k1 := 0) (n1 := 0) (by with_unfolding_all rfl)) ?_
    refine xe_get (v := .ref 164) s23 rfl rfl (by decide) rfl ?_
    refine ex_s (am_nb (m := 3) (pc1 := 182) (ls1 := [(4, .int t0), (0, .ref 157), (2, .int q2), (3, .int q3)]) (st1 := [.int (q3 + 4), .ref 164, .ref 157]) (H1 := H22) (k1 := 0) (n1 := 0) (by with_unfolding_all rfl)) ?_
    obtain ⟨g24, e⟩ := xg_some e
    refine xe_iald s23 rfl rfl g24 ?_
    obtain ⟨a25, ha25, e⟩ := xw_some e
    refine xe_put (w := (a21 164 ((q3 + 4).toNatClampNeg))) s23 rfl rfl (by decide) rfl rfl rfl rfl (fun H26 s27 => ?_)
    have s27 : xS h b T a25 H26 := by rw [ha25]; exact s27
    refine ex_s (am_nb (m := 2) (pc1 := 189) (ls1 := [(5, .int 0), (4, .int t0), (0, .ref 157), (2, .int q2), (3, .int q3)]) (st1 := []) (H1 := H26) (k1 := 0) (n1 := 0) (by with_unfolding_all rfl)) ?_
    obtain ⟨z33, e34, e⟩ := Option.bind_eq_some_iff.mp e
    refine le_E (l1 := [(0, .ref 157), (5, .int 0)]) ⟨rfl, rfl, trivial⟩ rfl (tl293_189 (z := z33)  (fun uz33_0 Hz330 sz330 => ?_) N 0 a25 H26 s27 e34)
    refine ex_s (am_nb (m := 2) (pc1 := 213) (ls1 := [(5, .int 0), (0, .ref 157)]) (st1 := []) (H1 := Hz330) (k1 := 0) (n1 := 0) (by with_unfolding_all rfl)) ?_
    obtain ⟨z43, e44, e⟩ := Option.bind_eq_some_iff.mp e
    refine le_E (l1 := [(0, .ref 157), (5, .int 0)]) ⟨rfl, rfl, trivial⟩ rfl (tl293_213 (z := z43)  (fun uz43_0 Hz430 sz430 => ?_) N 0 z33.2 Hz330 sz330 e44)
    refine ex_s (am_nb (m := 2) (pc1 := 247) (ls1 := [(0, .ref 157)]) (st1 := [.int 0, .ref 157]) (H1 := Hz430) (k1 := 0) (n1 := 0) (by with_unfolding_all rfl)) ?_
    obtain ⟨a45, ha45, e⟩ := xw_some e
    refine xe_put (w := 0) sz430 rfl rfl (by decide) rfl rfl rfl rfl (fun H46 s47 => ?_)
    have s47 : xS h b T a45 H46 := by rw [ha45]; exact s47
    refine ex_s (am_nb (m := 2) (pc1 := 252) (ls1 := [(0, .ref 157)]) (st1 := [.int 0, .ref 157]) (H1 := H46) (k1 := 0) (n1 := 0) (by with_unfolding_all rfl)) ?_
    obtain ⟨a48, ha48, e⟩ := xw_some e
    refine xe_put (w := 0) s47 rfl rfl (by decide) rfl rfl rfl rfl (fun H49 s50 => ?_)
    have s50 : xS h b T a48 H49 := by rw [ha48]; exact s50
    refine ex_s (am_nb (m := 2) (pc1 := 257) (ls1 := [(0, .ref 157)]) (st1 := [.int (-1), .ref 157]) (H1 := H49) (k1 := 0) (n1 := 0) (by with_unfolding_all rfl)) ?_
    obtain ⟨a51, ha51, e⟩ := xw_some e
    refine xe_put (w := (-1)) s50 rfl rfl (by decide) rfl rfl rfl rfl (fun H52 s53 => ?_)
    have s53 : xS h b T a51 H52 := by rw [ha51]; exact s53
    refine ex_s (am_nb (m := 2) (pc1 := 262) (ls1 := [(0, .ref 157)]) (st1 := [.int (-1), .ref 157]) (H1 := H52) (k1 := 0) (n1 := 0) (by with_unfolding_all rfl)) ?_
    obtain ⟨a54, ha54, e⟩ := xw_some e
    refine xe_put (w := (-1)) s53 rfl rfl (by decide) rfl rfl rfl rfl (fun H55 s56 => ?_)
    have s56 : xS h b T a54 H55 := by rw [ha54]; exact s56
    refine ex_s (am_nb (m := 2) (pc1 := 267) (ls1 := [(0, .ref 157)]) (st1 := [.int 0, .ref 157]) (H1 := H55) (k1 := 0) (n1 := 0) (by with_unfolding_all rfl)) ?_
    obtain ⟨a57, ha57, e⟩ := xw_some e
    refine xe_put (w := 0) s56 rfl rfl (by decide) rfl rfl rfl rfl (fun H58 s59 => ?_)
    have s59 : xS h b T a57 H58 := by rw [ha57]; exact s59
    refine ex_s (am_nb (m := 2) (pc1 := 272) (ls1 := [(0, .ref 157)]) (st1 := [.int 1, .ref 157]) (H1 := H58) (k1 := 0) (n1 := 0) (by with_unfolding_all rfl)) ?_
    obtain ⟨a60, ha60, e⟩ := xw_some e
    refine xe_put (w := 1) s59 rfl rfl (by decide) rfl rfl rfl rfl (fun H61 s62 => ?_)
    have s62 : xS h b T a60 H61 := by rw [ha60]; exact s62
    refine ex_s (am_nb (m := 2) (pc1 := 277) (ls1 := [(0, .ref 157)]) (st1 := [.int 0, .ref 157]) (H1 := H61) (k1 := 0) (n1 := 0) (by with_unfolding_all rfl)) ?_
    obtain ⟨a63, ha63, e⟩ := xw_some e
    refine xe_put (w := 0) s62 rfl rfl (by decide) rfl rfl rfl rfl (fun H64 s65 => ?_)
    have s65 : xS h b T a63 H64 := by rw [ha63]; exact s65
    refine ex_s (am_nb (m := 1) (pc1 := 281) (ls1 := [(0, .ref 157)]) (st1 := [.int 0]) (H1 := H64) (k1 := 0) (n1 := 0) (by with_unfolding_all rfl)) ?_
    cases e
    exact ex_r (st_iret rfl rfl rfl) s65

set_option maxRecDepth 100000 in
theorem tj293_146 {sL : Nat} {sx : Nat → Int32} {h b N : Nat} {T : List am_C} {r : Int32} {a' : xA} {q2 : Int32} {q3 : Int32} {a : xA} {H : am_H} (hS : xS h b T a H) (e : j293_146 N h b q2 q3 a = some (r, a')) : am_E sL sx am_cs 293 146 [(0, .ref 157), (2, .int q2), (3, .int q3)] [] H (some (.int r)) (fun H1 => xS h b T a' H1) := by
  unfold j293_146 at e
  refine ex_s (am_nb (m := 1) (pc1 := 147) (ls1 := [(0, .ref 157), (2, .int q2), (3, .int q3)]) (st1 := [.int 0]) (H1 := H) (k1 := 0) (n1 := 0) (by with_unfolding_all rfl)) ?_
  exact le_E (l1 := [(0, .ref 157), (2, .int q2), (3, .int q3)]) ⟨rfl, rfl, rfl, trivial⟩ rfl (tj293_147  hS e)

set_option maxRecDepth 100000 in
theorem tf293_use {sL : Nat} {sx : Nat → Int32} {h b N : Nat} {T : List am_C} {r : Int32} {a' : xA} {a : xA} {H : am_H} (hS : xS h b T a H) (e : f293_use N h b a = some (r, a')) : am_E sL sx am_cs 293 0 [(0, .ref 157)] [] H (some (.int r)) (fun H1 => xS h b T a' H1) := by
  unfold f293_use at e
  refine ex_s (am_nb (m := 2) (pc1 := 2) (ls1 := [(0, .ref 157)]) (st1 := [.int 0, .ref 157]) (H1 := H) (k1 := 0) (n1 := 0) (by with_unfolding_all rfl)) ?_
  obtain ⟨a1, ha1, e⟩ := xw_some e
  refine xe_put (w := 0) hS rfl rfl (by decide) rfl rfl rfl rfl (fun H2 s3 => ?_)
  have s3 : xS h b T a1 H2 := by rw [ha1]; exact s3
  refine ex_s (am_nb (m := 1) (pc1 := 6) (ls1 := [(0, .ref 157)]) (st1 := [.ref 157]) (H1 := H2) (k1 := 0) (n1 := 0) (by with_unfolding_all rfl)) ?_
  refine xe_get (v := .int (a1 157 2)) s3 rfl rfl (by decide) rfl ?_
  refine ex_s (am_nb (m := 3) (pc1 := 12) (ls1 := [(1, .int (a1 157 2)), (0, .ref 157)]) (st1 := [.int 0, .ref 157]) (H1 := H2) (k1 := 0) (n1 := 0) (by with_unfolding_all rfl)) ?_
  obtain ⟨a4, ha4, e⟩ := xw_some e
  refine xe_put (w := 0) s3 rfl rfl (by decide) rfl rfl rfl rfl (fun H5 s6 => ?_)
  have s6 : xS h b T a4 H5 := by rw [ha4]; exact s6
  refine ex_s (am_nb (m := 2) (pc1 := 17) (ls1 := [(1, .int (a1 157 2)), (0, .ref 157)]) (st1 := [.ref 157, .ref 157]) (H1 := H5) (k1 := 0) (n1 := 0) (by with_unfolding_all rfl)) ?_
  refine xe_get (v := .ref 158) s6 rfl rfl (by decide) rfl ?_
  refine ex_s (am_nb (m := 3) (pc1 := 23) (ls1 := [(1, .int (a1 157 2)), (0, .ref 157)]) (st1 := [.ref 157, .int (a1 157 2), .int 0, .ref 158, .ref 157]) (H1 := H5) (k1 := 0) (n1 := 0) (by with_unfolding_all rfl)) ?_
  refine xe_get (v := .int (a4 157 5)) s6 rfl rfl (by decide) rfl ?_
  obtain ⟨r10, a11, e9, e⟩ := xb2_some e
  refine ex_cv1 (as := [.ref 158, .int 0, .int (a1 157 2), .int (a4 157 5)]) (rest := []) rfl rfl rfl rfl (s6.obj rfl (by decide)) rfl (by with_unfolding_all rfl) (by with_unfolding_all rfl) (tf279_entryOf s6 e9) (fun H7 s8 => ?_)
  refine ex_s (am_nb (m := 3) (pc1 := 32) (ls1 := [(2, .int r10), (1, .int (a1 157 2)), (0, .ref 157)]) (st1 := [.int (-1), .int r10]) (H1 := H7) (k1 := 0) (n1 := 0) (by with_unfolding_all rfl)) ?_
  refine ex_s (st_icmp rfl) ?_
  by_cases c12 : r10 = (-1)
  · have e := (if_pos c12).symm.trans e
    refine ex_pc (if_pos c12) ?_
    refine ex_s (am_nb (m := 1) (pc1 := 36) (ls1 := [(2, .int r10), (1, .int (a1 157 2)), (0, .ref 157)]) (st1 := [.int (-1)]) (H1 := H7) (k1 := 0) (n1 := 0) (by with_unfolding_all rfl)) ?_
    cases e
    exact ex_r (st_iret rfl rfl rfl) s8
  · have e := (if_neg c12).symm.trans e
    refine ex_pc (if_neg c12) ?_
    refine ex_s (am_nb (m := 5) (pc1 := 43) (ls1 := [(3, .int (39 * r10)), (2, .int r10), (1, .int (a1 157 2)), (0, .ref 157)]) (st1 := [.ref 157]) (H1 := H7) (k1 := 0) (n1 := 0) (by with_unfolding_all rfl)) ?_
    refine xe_get (v := .ref 163) s8 rfl rfl (by decide) rfl ?_
    refine ex_s (am_nb (m := 3) (pc1 := 49) (ls1 := [(3, .int (39 * r10)), (2, .int r10), (1, .int (a1 157 2)), (0, .ref 157)]) (st1 := [.int ((39 * r10) + 3), .ref 163]) (H1 := H7) (k1 := 0) (n1 := 0) (by with_unfolding_all rfl)) ?_
    obtain ⟨g13, e⟩ := xg_some e
    refine xe_bald s8 rfl rfl g13 ?_
    refine ex_s (am_nb (m := 1) (pc1 := 51) (ls1 := [(3, .int (39 * r10)), (2, .int r10), (1, .int (a1 157 2)), (0, .ref 157)]) (st1 := [.int 1, .int (a11 163 (((39 * r10) + 3).toNatClampNeg))]) (H1 := H7) (k1 := 0) (n1 := 0) (by with_unfolding_all rfl)) ?_
    refine ex_s (st_icmp rfl) ?_
    by_cases c14 : (a11 163 (((39 * r10) + 3).toNatClampNeg)) = 1
    · have e := (if_pos c14).symm.trans e
      refine ex_pc (if_pos c14) ?_
      refine ex_s (am_nb (m := 1) (pc1 := 55) (ls1 := [(3, .int (39 * r10)), (2, .int r10), (1, .int (a1 157 2)), (0, .ref 157)]) (st1 := [.ref 157]) (H1 := H7) (k1 := 0) (n1 := 0) (by with_unfolding_all rfl)) ?_
      refine xe_get (v := .ref 164) s8 rfl rfl (by decide) rfl ?_
      refine ex_s (am_nb (m := 3) (pc1 := 61) (ls1 := [(3, .int (39 * r10)), (2, .int r10), (1, .int (a1 157 2)), (0, .ref 157)]) (st1 := [.int ((39 * r10) + 3), .ref 164]) (H1 := H7) (k1 := 0) (n1 := 0) (by with_unfolding_all rfl)) ?_
      refine xe_iald s8 rfl rfl g13 ?_
      refine ex_s (am_nb (m := 1) (pc1 := 63) (ls1 := [(3, .int (39 * r10)), (2, .int r10), (1, .int (a1 157 2)), (0, .ref 157)]) (st1 := [.int 4, .int (a11 164 (((39 * r10) + 3).toNatClampNeg))]) (H1 := H7) (k1 := 0) (n1 := 0) (by with_unfolding_all rfl)) ?_
      refine ex_s (st_icmp rfl) ?_
      by_cases c15 : (a11 164 (((39 * r10) + 3).toNatClampNeg)) < 4
      · have e := (if_pos c15).symm.trans e
        refine ex_pc (if_pos c15) ?_
        exact le_E (l1 := [(0, .ref 157), (2, .int r10), (3, .int (39 * r10))]) ⟨rfl, rfl, rfl, trivial⟩ rfl (tj293_146  s8 e)
      · have e := (if_neg c15).symm.trans e
        refine ex_pc (if_neg c15) ?_
        refine ex_s (am_nb (m := 1) (pc1 := 67) (ls1 := [(3, .int (39 * r10)), (2, .int r10), (1, .int (a1 157 2)), (0, .ref 157)]) (st1 := [.ref 157]) (H1 := H7) (k1 := 0) (n1 := 0) (by with_unfolding_all rfl)) ?_
        refine xe_get (v := .ref 164) s8 rfl rfl (by decide) rfl ?_
        refine ex_s (am_nb (m := 3) (pc1 := 73) (ls1 := [(3, .int (39 * r10)), (2, .int r10), (1, .int (a1 157 2)), (0, .ref 157)]) (st1 := [.int ((39 * r10) + 3), .ref 164]) (H1 := H7) (k1 := 0) (n1 := 0) (by with_unfolding_all rfl)) ?_
        refine xe_iald s8 rfl rfl g13 ?_
        refine ex_s (am_nb (m := 1) (pc1 := 76) (ls1 := [(3, .int (39 * r10)), (2, .int r10), (1, .int (a1 157 2)), (0, .ref 157)]) (st1 := [.int 80, .int (a11 164 (((39 * r10) + 3).toNatClampNeg))]) (H1 := H7) (k1 := 0) (n1 := 0) (by with_unfolding_all rfl)) ?_
        refine ex_s (st_icmp rfl) ?_
        by_cases c66 : 80 < (a11 164 (((39 * r10) + 3).toNatClampNeg))
        · have e := (if_pos c66).symm.trans e
          refine ex_pc (if_pos c66) ?_
          exact le_E (l1 := [(0, .ref 157), (2, .int r10), (3, .int (39 * r10))]) ⟨rfl, rfl, rfl, trivial⟩ rfl (tj293_146  s8 e)
        · have e := (if_neg c66).symm.trans e
          refine ex_pc (if_neg c66) ?_
          refine ex_s (am_nb (m := 1) (pc1 := 80) (ls1 := [(3, .int (39 * r10)), (2, .int r10), (1, .int (a1 157 2)), (0, .ref 157)]) (st1 := [.ref 157]) (H1 := H7) (k1 := 0) (n1 := 0) (by with_unfolding_all rfl)) ?_
          refine xe_get (v := .ref 163) s8 rfl rfl (by decide) rfl ?_
          refine ex_s (am_nb (m := 3) (pc1 := 86) (ls1 := [(3, .int (39 * r10)), (2, .int r10), (1, .int (a1 157 2)), (0, .ref 157)]) (st1 := [.int ((39 * r10) + 4), .ref 163]) (H1 := H7) (k1 := 0) (n1 := 0) (by with_unfolding_all rfl)) ?_
          obtain ⟨g67, e⟩ := xg_some e
          refine xe_bald s8 rfl rfl g67 ?_
          refine ex_s (am_nb (m := 1) (pc1 := 88) (ls1 := [(3, .int (39 * r10)), (2, .int r10), (1, .int (a1 157 2)), (0, .ref 157)]) (st1 := [.int 1, .int (a11 163 (((39 * r10) + 4).toNatClampNeg))]) (H1 := H7) (k1 := 0) (n1 := 0) (by with_unfolding_all rfl)) ?_
          refine ex_s (st_icmp rfl) ?_
          by_cases c69 : (a11 163 (((39 * r10) + 4).toNatClampNeg)) = 1
          · have e := (if_pos c69).symm.trans e
            refine ex_pc (if_pos c69) ?_
            refine ex_s (am_nb (m := 1) (pc1 := 92) (ls1 := [(3, .int (39 * r10)), (2, .int r10), (1, .int (a1 157 2)), (0, .ref 157)]) (st1 := [.ref 157]) (H1 := H7) (k1 := 0) (n1 := 0) (by with_unfolding_all rfl)) ?_
            refine xe_get (v := .ref 164) s8 rfl rfl (by decide) rfl ?_
            refine ex_s (am_nb (m := 3) (pc1 := 98) (ls1 := [(3, .int (39 * r10)), (2, .int r10), (1, .int (a1 157 2)), (0, .ref 157)]) (st1 := [.int ((39 * r10) + 4), .ref 164]) (H1 := H7) (k1 := 0) (n1 := 0) (by with_unfolding_all rfl)) ?_
            refine xe_iald s8 rfl rfl g67 ?_
            refine ex_s (am_nb (m := 1) (pc1 := 100) (ls1 := [(3, .int (39 * r10)), (2, .int r10), (1, .int (a1 157 2)), (0, .ref 157)]) (st1 := [.int 2, .int (a11 164 (((39 * r10) + 4).toNatClampNeg))]) (H1 := H7) (k1 := 0) (n1 := 0) (by with_unfolding_all rfl)) ?_
            refine ex_s (st_icmp rfl) ?_
            by_cases c71 : (a11 164 (((39 * r10) + 4).toNatClampNeg)) < 2
            · have e := (if_pos c71).symm.trans e
              refine ex_pc (if_pos c71) ?_
              exact le_E (l1 := [(0, .ref 157), (2, .int r10), (3, .int (39 * r10))]) ⟨rfl, rfl, rfl, trivial⟩ rfl (tj293_146  s8 e)
            · have e := (if_neg c71).symm.trans e
              refine ex_pc (if_neg c71) ?_
              refine ex_s (am_nb (m := 1) (pc1 := 104) (ls1 := [(3, .int (39 * r10)), (2, .int r10), (1, .int (a1 157 2)), (0, .ref 157)]) (st1 := [.ref 157]) (H1 := H7) (k1 := 0) (n1 := 0) (by with_unfolding_all rfl)) ?_
              refine xe_get (v := .ref 164) s8 rfl rfl (by decide) rfl ?_
              refine ex_s (am_nb (m := 3) (pc1 := 110) (ls1 := [(3, .int (39 * r10)), (2, .int r10), (1, .int (a1 157 2)), (0, .ref 157)]) (st1 := [.int ((39 * r10) + 4), .ref 164]) (H1 := H7) (k1 := 0) (n1 := 0) (by with_unfolding_all rfl)) ?_
              refine xe_iald s8 rfl rfl g67 ?_
              refine ex_s (am_nb (m := 1) (pc1 := 113) (ls1 := [(3, .int (39 * r10)), (2, .int r10), (1, .int (a1 157 2)), (0, .ref 157)]) (st1 := [.int 24, .int (a11 164 (((39 * r10) + 4).toNatClampNeg))]) (H1 := H7) (k1 := 0) (n1 := 0) (by with_unfolding_all rfl)) ?_
              refine ex_s (st_icmp rfl) ?_
              by_cases c73 : 24 < (a11 164 (((39 * r10) + 4).toNatClampNeg))
              · have e := (if_pos c73).symm.trans e
                refine ex_pc (if_pos c73) ?_
                exact le_E (l1 := [(0, .ref 157), (2, .int r10), (3, .int (39 * r10))]) ⟨rfl, rfl, rfl, trivial⟩ rfl (tj293_146  s8 e)
              · have e := (if_neg c73).symm.trans e
                refine ex_pc (if_neg c73) ?_
                refine ex_s (am_nb (m := 1) (pc1 := 117) (ls1 := [(3, .int (39 * r10)), (2, .int r10), (1, .int (a1 157 2)), (0, .ref 157)]) (st1 := [.ref 157]) (H1 := H7) (k1 := 0) (n1 := 0) (by with_unfolding_all rfl)) ?_
                refine xe_get (v := .ref 163) s8 rfl rfl (by decide) rfl ?_
                refine ex_s (am_nb (m := 3) (pc1 := 124) (ls1 := [(3, .int (39 * r10)), (2, .int r10), (1, .int (a1 157 2)), (0, .ref 157)]) (st1 := [.int ((39 * r10) + 7), .ref 163]) (H1 := H7) (k1 := 0) (n1 := 0) (by with_unfolding_all rfl)) ?_
                obtain ⟨g74, e⟩ := xg_some e
                refine xe_bald s8 rfl rfl g74 ?_
                refine ex_s (am_nb (m := 1) (pc1 := 126) (ls1 := [(3, .int (39 * r10)), (2, .int r10), (1, .int (a1 157 2)), (0, .ref 157)]) (st1 := [.int 1, .int (a11 163 (((39 * r10) + 7).toNatClampNeg))]) (H1 := H7) (k1 := 0) (n1 := 0) (by with_unfolding_all rfl)) ?_
                refine ex_s (st_icmp rfl) ?_
                by_cases c76 : (a11 163 (((39 * r10) + 7).toNatClampNeg)) = 1
                · have e := (if_pos c76).symm.trans e
                  refine ex_pc (if_pos c76) ?_
                  refine ex_s (am_nb (m := 1) (pc1 := 130) (ls1 := [(3, .int (39 * r10)), (2, .int r10), (1, .int (a1 157 2)), (0, .ref 157)]) (st1 := [.ref 157]) (H1 := H7) (k1 := 0) (n1 := 0) (by with_unfolding_all rfl)) ?_
                  refine xe_get (v := .ref 163) s8 rfl rfl (by decide) rfl ?_
                  refine ex_s (am_nb (m := 3) (pc1 := 137) (ls1 := [(3, .int (39 * r10)), (2, .int r10), (1, .int (a1 157 2)), (0, .ref 157)]) (st1 := [.int ((39 * r10) + 9), .ref 163]) (H1 := H7) (k1 := 0) (n1 := 0) (by with_unfolding_all rfl)) ?_
                  obtain ⟨g77, e⟩ := xg_some e
                  refine xe_bald s8 rfl rfl g77 ?_
                  refine ex_s (am_nb (m := 1) (pc1 := 139) (ls1 := [(3, .int (39 * r10)), (2, .int r10), (1, .int (a1 157 2)), (0, .ref 157)]) (st1 := [.int 1, .int (a11 163 (((39 * r10) + 9).toNatClampNeg))]) (H1 := H7) (k1 := 0) (n1 := 0) (by with_unfolding_all rfl)) ?_
                  have kk : am_E sL sx am_cs 293 147 [(3, .int (39 * r10)), (2, .int r10), (1, .int (a1 157 2)), (0, .ref 157)] [.int (if (a11 163 (((39 * r10) + 9).toNatClampNeg)) = 1 then (1 : Int32) else (0 : Int32))] H7 (some (.int r)) (fun H1 => xS h b T a' H1) := by
                    refine ex_s (am_nb (m := 2) (pc1 := 151) (ls1 := [(4, .int (if (a11 163 (((39 * r10) + 9).toNatClampNeg)) = 1 then (1 : Int32) else (0 : Int32))), (3, .int (39 * r10)), (2, .int r10), (1, .int (a1 157 2)), (0, .ref 157)]) (st1 := [.int (if (a11 163 (((39 * r10) + 9).toNatClampNeg)) = 1 then (1 : Int32) else (0 : Int32))]) (H1 := H7) (k1 := 0) (n1 := 0) (by with_unfolding_all rfl)) ?_
                    refine ex_s (st_if rfl) ?_
                    by_cases c79 : (if (a11 163 (((39 * r10) + 9).toNatClampNeg)) = 1 then (1 : Int32) else (0 : Int32)) = 0
                    · have e := (if_pos c79).symm.trans e
                      refine ex_pc (if_pos c79) ?_
                      refine ex_s (am_nb (m := 1) (pc1 := 156) (ls1 := [(4, .int (if (a11 163 (((39 * r10) + 9).toNatClampNeg)) = 1 then (1 : Int32) else (0 : Int32))), (3, .int (39 * r10)), (2, .int r10), (1, .int (a1 157 2)), (0, .ref 157)]) (st1 := [.int (-2)]) (H1 := H7) (k1 := 0) (n1 := 0) (by with_unfolding_all rfl)) ?_
                      cases e
                      exact ex_r (st_iret rfl rfl rfl) s8
                    · have e := (if_neg c79).symm.trans e
                      refine ex_pc (if_neg c79) ?_
                      refine ex_s (am_nb (m := 2) (pc1 := 159) (ls1 := [(4, .int (if (a11 163 (((39 * r10) + 9).toNatClampNeg)) = 1 then (1 : Int32) else (0 : Int32))), (3, .int (39 * r10)), (2, .int r10), (1, .int (a1 157 2)), (0, .ref 157)]) (st1 := [.int r10, .ref 157]) (H1 := H7) (k1 := 0) (n1 := 0) (by with_unfolding_all rfl)) ?_
                      obtain ⟨a80, ha80, e⟩ := xw_some e
                      refine xe_put (w := r10) s8 rfl rfl (by decide) rfl rfl rfl rfl (fun H81 s82 => ?_)
                      have s82 : xS h b T a80 H81 := by rw [ha80]; exact s82
                      refine ex_s (am_nb (m := 2) (pc1 := 164) (ls1 := [(4, .int (if (a11 163 (((39 * r10) + 9).toNatClampNeg)) = 1 then (1 : Int32) else (0 : Int32))), (3, .int (39 * r10)), (2, .int r10), (1, .int (a1 157 2)), (0, .ref 157)]) (st1 := [.ref 157, .ref 157]) (H1 := H81) (k1 := 0) (n1 := 0) (by with_unfolding_all rfl)) ?_
                      refine xe_get (v := .ref 164) s82 rfl rfl (by decide) rfl ?_
                      refine ex_s (am_nb (m := 3) (pc1 := 170) (ls1 := [(4, .int (if (a11 163 (((39 * r10) + 9).toNatClampNeg)) = 1 then (1 : Int32) else (0 : Int32))), (3, .int (39 * r10)), (2, .int r10), (1, .int (a1 157 2)), (0, .ref 157)]) (st1 := [.int ((39 * r10) + 3), .ref 164, .ref 157]) (H1 := H81) (k1 := 0) (n1 := 0) (by with_unfolding_all rfl)) ?_
                      refine xe_iald s82 rfl rfl g13 ?_
                      obtain ⟨a83, ha83, e⟩ := xw_some e
                      refine xe_put (w := (a80 164 (((39 * r10) + 3).toNatClampNeg))) s82 rfl rfl (by decide) rfl rfl rfl rfl (fun H84 s85 => ?_)
                      have s85 : xS h b T a83 H84 := by rw [ha83]; exact s85
                      refine ex_s (am_nb (m := 2) (pc1 := 176) (ls1 := [(4, .int (if (a11 163 (((39 * r10) + 9).toNatClampNeg)) = 1 then (1 : Int32) else (0 : Int32))), (3, .int (39 * r10)), (2, .int r10), (1, .int (a1 157 2)), (0, .ref 157)]) (st1 := [.ref 157, .ref 157]) (H1 := H84) (k1 := 0) (n1 := 0) (by with_unfolding_all rfl)) ?_
                      refine xe_get (v := .ref 164) s85 rfl rfl (by decide) rfl ?_
                      refine ex_s (am_nb (m := 3) (pc1 := 182) (ls1 := [(4, .int (if (a11 163 (((39 * r10) + 9).toNatClampNeg)) = 1 then (1 : Int32) else (0 : Int32))), (3, .int (39 * r10)), (2, .int r10), (1, .int (a1 157 2)), (0, .ref 157)]) (st1 := [.int ((39 * r10) + 4), .ref 164, .ref 157]) (H1 := H84) (k1 := 0) (n1 := 0) (by with_unfolding_all rfl)) ?_
                      refine xe_iald s85 rfl rfl g67 ?_
                      obtain ⟨a86, ha86, e⟩ := xw_some e
                      refine xe_put (w := (a83 164 (((39 * r10) + 4).toNatClampNeg))) s85 rfl rfl (by decide) rfl rfl rfl rfl (fun H87 s88 => ?_)
                      have s88 : xS h b T a86 H87 := by rw [ha86]; exact s88
                      refine ex_s (am_nb (m := 2) (pc1 := 189) (ls1 := [(5, .int 0), (4, .int (if (a11 163 (((39 * r10) + 9).toNatClampNeg)) = 1 then (1 : Int32) else (0 : Int32))), (3, .int (39 * r10)), (2, .int r10), (1, .int (a1 157 2)), (0, .ref 157)]) (st1 := []) (H1 := H87) (k1 := 0) (n1 := 0) (by with_unfolding_all rfl)) ?_
                      obtain ⟨z89, e90, e⟩ := Option.bind_eq_some_iff.mp e
                      refine le_E (l1 := [(0, .ref 157), (5, .int 0)]) ⟨rfl, rfl, trivial⟩ rfl (tl293_189 (z := z89)  (fun uz89_0 Hz890 sz890 => ?_) N 0 a86 H87 s88 e90)
                      refine ex_s (am_nb (m := 2) (pc1 := 213) (ls1 := [(5, .int 0), (0, .ref 157)]) (st1 := []) (H1 := Hz890) (k1 := 0) (n1 := 0) (by with_unfolding_all rfl)) ?_
                      obtain ⟨z91, e92, e⟩ := Option.bind_eq_some_iff.mp e
                      refine le_E (l1 := [(0, .ref 157), (5, .int 0)]) ⟨rfl, rfl, trivial⟩ rfl (tl293_213 (z := z91)  (fun uz91_0 Hz910 sz910 => ?_) N 0 z89.2 Hz890 sz890 e92)
                      refine ex_s (am_nb (m := 2) (pc1 := 247) (ls1 := [(0, .ref 157)]) (st1 := [.int 0, .ref 157]) (H1 := Hz910) (k1 := 0) (n1 := 0) (by with_unfolding_all rfl)) ?_
                      obtain ⟨a93, ha93, e⟩ := xw_some e
                      refine xe_put (w := 0) sz910 rfl rfl (by decide) rfl rfl rfl rfl (fun H94 s95 => ?_)
                      have s95 : xS h b T a93 H94 := by rw [ha93]; exact s95
                      refine ex_s (am_nb (m := 2) (pc1 := 252) (ls1 := [(0, .ref 157)]) (st1 := [.int 0, .ref 157]) (H1 := H94) (k1 := 0) (n1 := 0) (by with_unfolding_all rfl)) ?_
                      obtain ⟨a96, ha96, e⟩ := xw_some e
                      refine xe_put (w := 0) s95 rfl rfl (by decide) rfl rfl rfl rfl (fun H97 s98 => ?_)
                      have s98 : xS h b T a96 H97 := by rw [ha96]; exact s98
                      refine ex_s (am_nb (m := 2) (pc1 := 257) (ls1 := [(0, .ref 157)]) (st1 := [.int (-1), .ref 157]) (H1 := H97) (k1 := 0) (n1 := 0) (by with_unfolding_all rfl)) ?_
                      obtain ⟨a99, ha99, e⟩ := xw_some e
                      refine xe_put (w := (-1)) s98 rfl rfl (by decide) rfl rfl rfl rfl (fun H100 s101 => ?_)
                      have s101 : xS h b T a99 H100 := by rw [ha99]; exact s101
                      refine ex_s (am_nb (m := 2) (pc1 := 262) (ls1 := [(0, .ref 157)]) (st1 := [.int (-1), .ref 157]) (H1 := H100) (k1 := 0) (n1 := 0) (by with_unfolding_all rfl)) ?_
                      obtain ⟨a102, ha102, e⟩ := xw_some e
                      refine xe_put (w := (-1)) s101 rfl rfl (by decide) rfl rfl rfl rfl (fun H103 s104 => ?_)
                      have s104 : xS h b T a102 H103 := by rw [ha102]; exact s104
                      refine ex_s (am_nb (m := 2) (pc1 := 267) (ls1 := [(0, .ref 157)]) (st1 := [.int 0, .ref 157]) (H1 := H103) (k1 := 0) (n1 := 0) (by with_unfolding_all rfl)) ?_
                      obtain ⟨a105, ha105, e⟩ := xw_some e
                      refine xe_put (w := 0) s104 rfl rfl (by decide) rfl rfl rfl rfl (fun H106 s107 => ?_)
                      have s107 : xS h b T a105 H106 := by rw [ha105]; exact s107
                      refine ex_s (am_nb (m := 2) (pc1 := 272) (ls1 := [(0, .ref 157)]) (st1 := [.int 1, .ref 157]) (H1 := H106) (k1 := 0) (n1 := 0) (by with_unfolding_all rfl)) ?_
                      obtain ⟨a108, ha108, e⟩ := xw_some e
                      refine xe_put (w := 1) s107 rfl rfl (by decide) rfl rfl rfl rfl (fun H109 s110 => ?_)
                      have s110 : xS h b T a108 H109 := by rw [ha108]; exact s110
                      refine ex_s (am_nb (m := 2) (pc1 := 277) (ls1 := [(0, .ref 157)]) (st1 := [.int 0, .ref 157]) (H1 := H109) (k1 := 0) (n1 := 0) (by with_unfolding_all rfl)) ?_
                      obtain ⟨a111, ha111, e⟩ := xw_some e
                      refine xe_put (w := 0) s110 rfl rfl (by decide) rfl rfl rfl rfl (fun H112 s113 => ?_)
                      have s113 : xS h b T a111 H112 := by rw [ha111]; exact s113
                      refine ex_s (am_nb (m := 1) (pc1 := 281) (ls1 := [(0, .ref 157)]) (st1 := [.int 0]) (H1 := H112) (k1 := 0) (n1 := 0) (by with_unfolding_all rfl)) ?_
                      cases e
                      exact ex_r (st_iret rfl rfl rfl) s113
                  refine ex_s (st_icmp rfl) ?_
                  by_cases c78 : (a11 163 (((39 * r10) + 9).toNatClampNeg)) = 1
                  · refine ex_pc (if_pos c78) ?_
                    refine ex_s (am_nb (m := 2) (pc1 := 147) (ls1 := [(3, .int (39 * r10)), (2, .int r10), (1, .int (a1 157 2)), (0, .ref 157)]) (st1 := [.int 1]) (H1 := H7) (k1 := 0) (n1 := 0) (by with_unfolding_all rfl)) ?_
                    rw [if_pos c78] at kk
                    exact kk
                  · refine ex_pc (if_neg c78) ?_
                    refine ex_s (am_nb (m := 1) (pc1 := 147) (ls1 := [(3, .int (39 * r10)), (2, .int r10), (1, .int (a1 157 2)), (0, .ref 157)]) (st1 := [.int 0]) (H1 := H7) (k1 := 0) (n1 := 0) (by with_unfolding_all rfl)) ?_
                    rw [if_neg c78] at kk
                    exact kk
                · have e := (if_neg c76).symm.trans e
                  refine ex_pc (if_neg c76) ?_
                  exact le_E (l1 := [(0, .ref 157), (2, .int r10), (3, .int (39 * r10))]) ⟨rfl, rfl, rfl, trivial⟩ rfl (tj293_146  s8 e)
          · have e := (if_neg c69).symm.trans e
            refine ex_pc (if_neg c69) ?_
            exact le_E (l1 := [(0, .ref 157), (2, .int r10), (3, .int (39 * r10))]) ⟨rfl, rfl, rfl, trivial⟩ rfl (tj293_146  s8 e)
    · have e := (if_neg c14).symm.trans e
      refine ex_pc (if_neg c14) ?_
      exact le_E (l1 := [(0, .ref 157), (2, .int r10), (3, .int (39 * r10))]) ⟨rfl, rfl, rfl, trivial⟩ rfl (tj293_146  s8 e)

set_option maxRecDepth 100000 in
theorem tl294_37 {sL : Nat} {sx : Nat → Int32} {h b N : Nat} {T : List am_C} {R : Option Value} {F : am_H → Prop} {z : Nat × xA} (k0 : z.1 = 0 → ∀ H2 : am_H, xS h b T z.2 H2 → am_E sL sx am_cs 294 56 [] [] H2 R F) : ∀ (n : Nat) (v1 : Int32) (a : xA) (H : am_H), xS h b T a H → l294_37 N h b n v1 a = some z → am_E sL sx am_cs 294 37 [(0, .ref 157), (1, .int v1)] [] H R F := by
  intro n
  induction n with
  | zero =>
    intro v1 a H hS e
    cases e
  | succ n ih =>
    intro v1 a H hS e
    unfold l294_37 at e
    refine ex_s (am_nb (m := 2) (pc1 := 40) (ls1 := [(0, .ref 157), (1, .int v1)]) (st1 := [.int 8, .int v1]) (H1 := H) (k1 := 0) (n1 := 0) (by with_unfolding_all rfl)) ?_
    refine ex_s (st_icmp rfl) ?_
    by_cases c22 : 8 ≤ v1
    · have e := (if_pos c22).symm.trans e
      refine ex_pc (if_pos c22) ?_
      cases e
      exact le_E (l1 := []) trivial rfl (k0 rfl H hS)
    · have e := (if_neg c22).symm.trans e
      refine ex_pc (if_neg c22) ?_
      refine ex_s (am_nb (m := 1) (pc1 := 44) (ls1 := [(0, .ref 157), (1, .int v1)]) (st1 := [.ref 157]) (H1 := H) (k1 := 0) (n1 := 0) (by with_unfolding_all rfl)) ?_
      refine xe_get (v := .ref 172) hS rfl rfl (by decide) rfl ?_
      refine ex_s (am_nb (m := 2) (pc1 := 49) (ls1 := [(0, .ref 157), (1, .int v1)]) (st1 := [.int 0, .int v1, .ref 172]) (H1 := H) (k1 := 0) (n1 := 0) (by with_unfolding_all rfl)) ?_
      obtain ⟨g26, e⟩ := xg_some e
      obtain ⟨a23, ha23, e⟩ := xw_some e
      refine xe_zast hS rfl rfl g26 (fun H24 s25 => ?_)
      have s25 : xS h b T a23 H24 := by rw [ha23]; exact s25
      refine ex_s (am_nb (m := 2) (pc1 := 37) (ls1 := [(1, .int (v1 + 1)), (0, .ref 157)]) (st1 := []) (H1 := H24) (k1 := 0) (n1 := 0) (by with_unfolding_all rfl)) ?_
      exact le_E (l1 := [(0, .ref 157), (1, .int (v1 + 1))]) ⟨rfl, rfl, trivial⟩ rfl (ih (v1 + 1) a23 H24 s25 e)

set_option maxRecDepth 100000 in
theorem tf294_empty {sL : Nat} {sx : Nat → Int32} {h b N : Nat} {T : List am_C} {a' : xA} {a : xA} {H : am_H} (hS : xS h b T a H) (e : f294_empty N h b a = some a') : am_E sL sx am_cs 294 0 [(0, .ref 157)] [] H none (fun H1 => xS h b T a' H1) := by
  unfold f294_empty at e
  refine ex_s (am_nb (m := 2) (pc1 := 2) (ls1 := [(0, .ref 157)]) (st1 := [.int 0, .ref 157]) (H1 := H) (k1 := 0) (n1 := 0) (by with_unfolding_all rfl)) ?_
  obtain ⟨a1, ha1, e⟩ := xw_some e
  refine xe_put (w := 0) hS rfl rfl (by decide) rfl rfl rfl rfl (fun H2 s3 => ?_)
  have s3 : xS h b T a1 H2 := by rw [ha1]; exact s3
  refine ex_s (am_nb (m := 2) (pc1 := 7) (ls1 := [(0, .ref 157)]) (st1 := [.int 0, .ref 157]) (H1 := H2) (k1 := 0) (n1 := 0) (by with_unfolding_all rfl)) ?_
  obtain ⟨a4, ha4, e⟩ := xw_some e
  refine xe_put (w := 0) s3 rfl rfl (by decide) rfl rfl rfl rfl (fun H5 s6 => ?_)
  have s6 : xS h b T a4 H5 := by rw [ha4]; exact s6
  refine ex_s (am_nb (m := 2) (pc1 := 12) (ls1 := [(0, .ref 157)]) (st1 := [.int (-1), .ref 157]) (H1 := H5) (k1 := 0) (n1 := 0) (by with_unfolding_all rfl)) ?_
  obtain ⟨a7, ha7, e⟩ := xw_some e
  refine xe_put (w := (-1)) s6 rfl rfl (by decide) rfl rfl rfl rfl (fun H8 s9 => ?_)
  have s9 : xS h b T a7 H8 := by rw [ha7]; exact s9
  refine ex_s (am_nb (m := 2) (pc1 := 17) (ls1 := [(0, .ref 157)]) (st1 := [.int 0, .ref 157]) (H1 := H8) (k1 := 0) (n1 := 0) (by with_unfolding_all rfl)) ?_
  obtain ⟨a10, ha10, e⟩ := xw_some e
  refine xe_put (w := 0) s9 rfl rfl (by decide) rfl rfl rfl rfl (fun H11 s12 => ?_)
  have s12 : xS h b T a10 H11 := by rw [ha10]; exact s12
  refine ex_s (am_nb (m := 2) (pc1 := 22) (ls1 := [(0, .ref 157)]) (st1 := [.int (-1), .ref 157]) (H1 := H11) (k1 := 0) (n1 := 0) (by with_unfolding_all rfl)) ?_
  obtain ⟨a13, ha13, e⟩ := xw_some e
  refine xe_put (w := (-1)) s12 rfl rfl (by decide) rfl rfl rfl rfl (fun H14 s15 => ?_)
  have s15 : xS h b T a13 H14 := by rw [ha13]; exact s15
  refine ex_s (am_nb (m := 2) (pc1 := 27) (ls1 := [(0, .ref 157)]) (st1 := [.int (-1), .ref 157]) (H1 := H14) (k1 := 0) (n1 := 0) (by with_unfolding_all rfl)) ?_
  obtain ⟨a16, ha16, e⟩ := xw_some e
  refine xe_put (w := (-1)) s15 rfl rfl (by decide) rfl rfl rfl rfl (fun H17 s18 => ?_)
  have s18 : xS h b T a16 H17 := by rw [ha16]; exact s18
  refine ex_s (am_nb (m := 2) (pc1 := 32) (ls1 := [(0, .ref 157)]) (st1 := [.int 0, .ref 157]) (H1 := H17) (k1 := 0) (n1 := 0) (by with_unfolding_all rfl)) ?_
  obtain ⟨a19, ha19, e⟩ := xw_some e
  refine xe_put (w := 0) s18 rfl rfl (by decide) rfl rfl rfl rfl (fun H20 s21 => ?_)
  have s21 : xS h b T a19 H20 := by rw [ha19]; exact s21
  refine ex_s (am_nb (m := 2) (pc1 := 37) (ls1 := [(1, .int 0), (0, .ref 157)]) (st1 := []) (H1 := H20) (k1 := 0) (n1 := 0) (by with_unfolding_all rfl)) ?_
  obtain ⟨z27, e28, e⟩ := Option.bind_eq_some_iff.mp e
  refine le_E (l1 := [(0, .ref 157), (1, .int 0)]) ⟨rfl, rfl, trivial⟩ rfl (tl294_37 (z := z27)  (fun uz27_0 Hz270 sz270 => ?_) N 0 a19 H20 s21 e28)
  cases e
  exact ex_r (st_vret rfl rfl) sz270

set_option maxRecDepth 100000 in
theorem tj296_38 {sL : Nat} {sx : Nat → Int32} {h b N : Nat} {T : List am_C} {r : Int32} {a' : xA} {a : xA} {H : am_H} (hS : xS h b T a H) (e : j296_38 N h b a = some (r, a')) : am_E sL sx am_cs 296 38 [] [] H (some (.int r)) (fun H1 => xS h b T a' H1) := by
  unfold j296_38 at e
  refine ex_s (am_nb (m := 2) (pc1 := 43) (ls1 := []) (st1 := [.int (-1)]) (H1 := H) (k1 := 0) (n1 := 0) (by with_unfolding_all rfl)) ?_
  cases e
  exact ex_r (st_iret rfl rfl rfl) hS

set_option maxRecDepth 100000 in
theorem tj296_28 {sL : Nat} {sx : Nat → Int32} {h b N : Nat} {T : List am_C} {r : Int32} {a' : xA} {q1 : Int32} {t0 : Int32} {a : xA} {H : am_H} (hS : xS h b T a H) (e : j296_28 N h b q1 t0 a = some (r, a')) : am_E sL sx am_cs 296 28 [(1, .int q1)] [.int t0] H (some (.int r)) (fun H1 => xS h b T a' H1) := by
  unfold j296_28 at e
  refine ex_s (am_nb (m := 3) (pc1 := 31) (ls1 := [(2, .int t0), (1, .int q1)]) (st1 := [.int (-1), .int t0]) (H1 := H) (k1 := 0) (n1 := 0) (by with_unfolding_all rfl)) ?_
  refine ex_s (st_icmp rfl) ?_
  by_cases c8 : t0 = (-1)
  · have e := (if_pos c8).symm.trans e
    refine ex_pc (if_pos c8) ?_
    exact le_E (l1 := []) trivial rfl (tj296_38  hS e)
  · have e := (if_neg c8).symm.trans e
    refine ex_pc (if_neg c8) ?_
    refine ex_s (am_nb (m := 1) (pc1 := 35) (ls1 := [(2, .int t0), (1, .int q1)]) (st1 := [.int q1]) (H1 := H) (k1 := 0) (n1 := 0) (by with_unfolding_all rfl)) ?_
    have kk : am_E sL sx am_cs 296 43 [(2, .int t0), (1, .int q1)] [.int (if q1 = 0 then (-1 : Int32) else (t0))] H (some (.int r)) (fun H1 => xS h b T a' H1) := by
      cases e
      exact ex_r (st_iret rfl rfl rfl) hS
    refine ex_s (st_if rfl) ?_
    by_cases c9 : q1 = 0
    · refine ex_pc (if_pos c9) ?_
      refine ex_s (am_nb (m := 2) (pc1 := 43) (ls1 := [(2, .int t0), (1, .int q1)]) (st1 := [.int (-1)]) (H1 := H) (k1 := 0) (n1 := 0) (by with_unfolding_all rfl)) ?_
      rw [if_pos c9] at kk
      exact kk
    · refine ex_pc (if_neg c9) ?_
      refine ex_s (am_nb (m := 1) (pc1 := 43) (ls1 := [(2, .int t0), (1, .int q1)]) (st1 := [.int t0]) (H1 := H) (k1 := 0) (n1 := 0) (by with_unfolding_all rfl)) ?_
      rw [if_neg c9] at kk
      exact kk

set_option maxRecDepth 100000 in
theorem tf296_asked {sL : Nat} {sx : Nat → Int32} {h b N : Nat} {T : List am_C} {r : Int32} {a' : xA} {a : xA} {H : am_H} (hS : xS h b T a H) (e : f296_asked N h b a = some (r, a')) : am_E sL sx am_cs 296 0 [(0, .ref 157)] [] H (some (.int r)) (fun H1 => xS h b T a' H1) := by
  unfold f296_asked at e
  refine ex_s (am_nb (m := 1) (pc1 := 1) (ls1 := [(0, .ref 157)]) (st1 := [.ref 157]) (H1 := H) (k1 := 0) (n1 := 0) (by with_unfolding_all rfl)) ?_
  refine xe_get (v := .int (a 157 2)) hS rfl rfl (by decide) rfl ?_
  refine ex_s (am_nb (m := 3) (pc1 := 7) (ls1 := [(1, .int (a 157 2)), (0, .ref 157)]) (st1 := [.int 0, .ref 157]) (H1 := H) (k1 := 0) (n1 := 0) (by with_unfolding_all rfl)) ?_
  obtain ⟨a1, ha1, e⟩ := xw_some e
  refine xe_put (w := 0) hS rfl rfl (by decide) rfl rfl rfl rfl (fun H2 s3 => ?_)
  have s3 : xS h b T a1 H2 := by rw [ha1]; exact s3
  refine ex_s (am_nb (m := 1) (pc1 := 11) (ls1 := [(1, .int (a 157 2)), (0, .ref 157)]) (st1 := [.ref 157]) (H1 := H2) (k1 := 0) (n1 := 0) (by with_unfolding_all rfl)) ?_
  refine xe_get (v := .int (a1 157 21)) s3 rfl rfl (by decide) rfl ?_
  refine ex_s (am_nb (m := 1) (pc1 := 15) (ls1 := [(1, .int (a 157 2)), (0, .ref 157)]) (st1 := [.int (-1), .int (a1 157 21)]) (H1 := H2) (k1 := 0) (n1 := 0) (by with_unfolding_all rfl)) ?_
  refine ex_s (st_icmp rfl) ?_
  by_cases c5 : (a1 157 21) = (-1)
  · have e := (if_pos c5).symm.trans e
    refine ex_pc (if_pos c5) ?_
    refine ex_s (am_nb (m := 2) (pc1 := 28) (ls1 := [(1, .int (a 157 2)), (0, .ref 157)]) (st1 := [.int (-1)]) (H1 := H2) (k1 := 0) (n1 := 0) (by with_unfolding_all rfl)) ?_
    exact le_E (l1 := [(1, .int (a 157 2))]) ⟨rfl, trivial⟩ rfl (tj296_28  s3 e)
  · have e := (if_neg c5).symm.trans e
    refine ex_pc (if_neg c5) ?_
    refine ex_s (am_nb (m := 3) (pc1 := 25) (ls1 := [(1, .int (a 157 2)), (0, .ref 157)]) (st1 := [.int (a 157 2), .int 0, .ref 157]) (H1 := H2) (k1 := 0) (n1 := 0) (by with_unfolding_all rfl)) ?_
    obtain ⟨r13, a14, e12, e⟩ := xb2_some e
    refine ex_cv1 (as := [.int 0, .int (a 157 2)]) (rest := []) rfl rfl rfl rfl (s3.obj rfl (by decide)) rfl (by with_unfolding_all rfl) (by with_unfolding_all rfl) (tf281_abilityOf s3 e12) (fun H10 s11 => ?_)
    exact le_E (l1 := [(1, .int (a 157 2))]) ⟨rfl, trivial⟩ rfl (tj296_28  s11 e)

set_option maxRecDepth 100000 in
theorem tf297_has {sL : Nat} {sx : Nat → Int32} {h b N : Nat} {T : List am_C} {r : Int32} {a' : xA} {x0 : Int32} {a : xA} {H : am_H} (hS : xS h b T a H) (e : f297_has N h b x0 a = some (r, a')) : am_E sL sx am_cs 297 0 [(0, .ref 157), (1, .int x0)] [] H (some (.int r)) (fun H1 => xS h b T a' H1) := by
  unfold f297_has at e
  refine ex_s (am_nb (m := 1) (pc1 := 1) (ls1 := [(0, .ref 157), (1, .int x0)]) (st1 := [.ref 157]) (H1 := H) (k1 := 0) (n1 := 0) (by with_unfolding_all rfl)) ?_
  refine xe_get (v := .int (a 157 21)) hS rfl rfl (by decide) rfl ?_
  refine ex_s (am_nb (m := 1) (pc1 := 5) (ls1 := [(0, .ref 157), (1, .int x0)]) (st1 := [.int (-1), .int (a 157 21)]) (H1 := H) (k1 := 0) (n1 := 0) (by with_unfolding_all rfl)) ?_
  refine ex_s (st_icmp rfl) ?_
  by_cases c2 : (a 157 21) = (-1)
  · have e := (if_pos c2).symm.trans e
    refine ex_pc (if_pos c2) ?_
    refine ex_s (am_nb (m := 1) (pc1 := 31) (ls1 := [(0, .ref 157), (1, .int x0)]) (st1 := [.int 0]) (H1 := H) (k1 := 0) (n1 := 0) (by with_unfolding_all rfl)) ?_
    cases e
    exact ex_r (st_iret rfl rfl rfl) hS
  · have e := (if_neg c2).symm.trans e
    refine ex_pc (if_neg c2) ?_
    refine ex_s (am_nb (m := 1) (pc1 := 9) (ls1 := [(0, .ref 157), (1, .int x0)]) (st1 := [.ref 157]) (H1 := H) (k1 := 0) (n1 := 0) (by with_unfolding_all rfl)) ?_
    refine xe_get (v := .ref 163) hS rfl rfl (by decide) rfl ?_
    refine ex_s (am_nb (m := 2) (pc1 := 15) (ls1 := [(0, .ref 157), (1, .int x0)]) (st1 := [.ref 157, .int 39, .ref 163]) (H1 := H) (k1 := 0) (n1 := 0) (by with_unfolding_all rfl)) ?_
    refine xe_get (v := .int (a 157 21)) hS rfl rfl (by decide) rfl ?_
    refine ex_s (am_nb (m := 3) (pc1 := 21) (ls1 := [(0, .ref 157), (1, .int x0)]) (st1 := [.int ((39 * (a 157 21)) + x0), .ref 163]) (H1 := H) (k1 := 0) (n1 := 0) (by with_unfolding_all rfl)) ?_
    obtain ⟨g3, e⟩ := xg_some e
    refine xe_bald hS rfl rfl g3 ?_
    refine ex_s (am_nb (m := 1) (pc1 := 23) (ls1 := [(0, .ref 157), (1, .int x0)]) (st1 := [.int 1, .int (a 163 (((39 * (a 157 21)) + x0).toNatClampNeg))]) (H1 := H) (k1 := 0) (n1 := 0) (by with_unfolding_all rfl)) ?_
    have kk : am_E sL sx am_cs 297 31 [(0, .ref 157), (1, .int x0)] [.int (if (a 163 (((39 * (a 157 21)) + x0).toNatClampNeg)) = 1 then (1 : Int32) else (0 : Int32))] H (some (.int r)) (fun H1 => xS h b T a' H1) := by
      obtain ⟨g5, e⟩ := xg_some e
      cases e
      exact ex_r (st_iret rfl rfl (xnar_z g5)) hS
    refine ex_s (st_icmp rfl) ?_
    by_cases c4 : (a 163 (((39 * (a 157 21)) + x0).toNatClampNeg)) = 1
    · refine ex_pc (if_pos c4) ?_
      refine ex_s (am_nb (m := 2) (pc1 := 31) (ls1 := [(0, .ref 157), (1, .int x0)]) (st1 := [.int 1]) (H1 := H) (k1 := 0) (n1 := 0) (by with_unfolding_all rfl)) ?_
      rw [if_pos c4] at kk
      exact kk
    · refine ex_pc (if_neg c4) ?_
      refine ex_s (am_nb (m := 1) (pc1 := 31) (ls1 := [(0, .ref 157), (1, .int x0)]) (st1 := [.int 0]) (H1 := H) (k1 := 0) (n1 := 0) (by with_unfolding_all rfl)) ?_
      rw [if_neg c4] at kk
      exact kk

set_option maxRecDepth 100000 in
theorem tl295_81 {sL : Nat} {sx : Nat → Int32} {h b N : Nat} {T : List am_C} {R : Option Value} {F : am_H → Prop} {w2 : Int32} {z : Nat × xA} (k0 : z.1 = 0 → ∀ H2 : am_H, xS h b T z.2 H2 → am_E sL sx am_cs 295 112 [(0, .ref 157)] [] H2 R F) : ∀ (n : Nat) (v3 : Int32) (a : xA) (H : am_H), xS h b T a H → l295_81 N h b w2 n v3 a = some z → am_E sL sx am_cs 295 81 [(0, .ref 157), (2, .int w2), (3, .int v3)] [] H R F := by
  intro n
  induction n with
  | zero =>
    intro v3 a H hS e
    cases e
  | succ n ih =>
    intro v3 a H hS e
    unfold l295_81 at e
    refine ex_s (am_nb (m := 2) (pc1 := 83) (ls1 := [(0, .ref 157), (2, .int w2), (3, .int v3)]) (st1 := [.ref 157, .int v3]) (H1 := H) (k1 := 0) (n1 := 0) (by with_unfolding_all rfl)) ?_
    refine xe_get (v := .int (a 157 4)) hS rfl rfl (by decide) rfl ?_
    refine ex_s (st_icmp rfl) ?_
    by_cases c22 : (a 157 4) ≤ v3
    · have e := (if_pos c22).symm.trans e
      refine ex_pc (if_pos c22) ?_
      cases e
      exact le_E (l1 := [(0, .ref 157)]) ⟨rfl, trivial⟩ rfl (k0 rfl H hS)
    · have e := (if_neg c22).symm.trans e
      refine ex_pc (if_neg c22) ?_
      refine ex_s (am_nb (m := 1) (pc1 := 90) (ls1 := [(0, .ref 157), (2, .int w2), (3, .int v3)]) (st1 := [.ref 157]) (H1 := H) (k1 := 0) (n1 := 0) (by with_unfolding_all rfl)) ?_
      refine xe_get (v := .ref 159) hS rfl rfl (by decide) rfl ?_
      refine ex_s (am_nb (m := 2) (pc1 := 95) (ls1 := [(0, .ref 157), (2, .int w2), (3, .int v3)]) (st1 := [.ref 157, .int v3, .ref 159]) (H1 := H) (k1 := 0) (n1 := 0) (by with_unfolding_all rfl)) ?_
      refine xe_get (v := .ref 165) hS rfl rfl (by decide) rfl ?_
      refine ex_s (am_nb (m := 5) (pc1 := 104) (ls1 := [(0, .ref 157), (2, .int w2), (3, .int v3)]) (st1 := [.int ((40 * w2) + v3), .ref 165, .int v3, .ref 159]) (H1 := H) (k1 := 0) (n1 := 0) (by with_unfolding_all rfl)) ?_
      obtain ⟨g23, e⟩ := xg_some e
      refine xe_bald hS rfl rfl g23 ?_
      obtain ⟨g27, e⟩ := xg_some e
      obtain ⟨a24, ha24, e⟩ := xw_some e
      refine xe_bast hS rfl rfl g27 (fun H25 s26 => ?_)
      have s26 : xS h b T a24 H25 := by rw [ha24]; exact s26
      refine ex_s (am_nb (m := 2) (pc1 := 81) (ls1 := [(3, .int (v3 + 1)), (0, .ref 157), (2, .int w2)]) (st1 := []) (H1 := H25) (k1 := 0) (n1 := 0) (by with_unfolding_all rfl)) ?_
      exact le_E (l1 := [(0, .ref 157), (2, .int w2), (3, .int (v3 + 1))]) ⟨rfl, rfl, rfl, trivial⟩ rfl (ih (v3 + 1) a24 H25 s26 e)

set_option maxRecDepth 100000 in
theorem tf295_ability {sL : Nat} {sx : Nat → Int32} {h b N : Nat} {T : List am_C} {r : Int32} {a' : xA} {a : xA} {H : am_H} (hS : xS h b T a H) (e : f295_ability N h b a = some (r, a')) : am_E sL sx am_cs 295 0 [(0, .ref 157)] [] H (some (.int r)) (fun H1 => xS h b T a' H1) := by
  unfold f295_ability at e
  refine ex_s (am_nb (m := 2) (pc1 := 2) (ls1 := [(0, .ref 157)]) (st1 := [.int 0, .ref 157]) (H1 := H) (k1 := 0) (n1 := 0) (by with_unfolding_all rfl)) ?_
  obtain ⟨a1, ha1, e⟩ := xw_some e
  refine xe_put (w := 0) hS rfl rfl (by decide) rfl rfl rfl rfl (fun H2 s3 => ?_)
  have s3 : xS h b T a1 H2 := by rw [ha1]; exact s3
  refine ex_s (am_nb (m := 1) (pc1 := 6) (ls1 := [(0, .ref 157)]) (st1 := [.ref 157]) (H1 := H2) (k1 := 0) (n1 := 0) (by with_unfolding_all rfl)) ?_
  obtain ⟨r7, a8, e6, e⟩ := xb2_some e
  refine ex_cv1 (as := []) (rest := []) rfl rfl rfl rfl (s3.obj rfl (by decide)) rfl (by with_unfolding_all rfl) (by with_unfolding_all rfl) (tf296_asked s3 e6) (fun H4 s5 => ?_)
  refine ex_s (am_nb (m := 3) (pc1 := 12) (ls1 := [(1, .int r7), (0, .ref 157)]) (st1 := [.int (-1), .int r7]) (H1 := H4) (k1 := 0) (n1 := 0) (by with_unfolding_all rfl)) ?_
  refine ex_s (st_icmp rfl) ?_
  by_cases c9 : r7 = (-1)
  · have e := (if_pos c9).symm.trans e
    refine ex_pc (if_pos c9) ?_
    refine ex_s (am_nb (m := 1) (pc1 := 16) (ls1 := [(1, .int r7), (0, .ref 157)]) (st1 := [.int (-1)]) (H1 := H4) (k1 := 0) (n1 := 0) (by with_unfolding_all rfl)) ?_
    cases e
    exact ex_r (st_iret rfl rfl rfl) s5
  · have e := (if_neg c9).symm.trans e
    refine ex_pc (if_neg c9) ?_
    refine ex_s (am_nb (m := 2) (pc1 := 19) (ls1 := [(1, .int r7), (0, .ref 157)]) (st1 := [.int 3, .int r7]) (H1 := H4) (k1 := 0) (n1 := 0) (by with_unfolding_all rfl)) ?_
    refine ex_s (st_icmp rfl) ?_
    by_cases c10 : 3 ≤ r7
    · have e := (if_pos c10).symm.trans e
      refine ex_pc (if_pos c10) ?_
      refine ex_s (am_nb (m := 2) (pc1 := 38) (ls1 := [(1, .int r7), (0, .ref 157)]) (st1 := [.int r7, .ref 157]) (H1 := H4) (k1 := 0) (n1 := 0) (by with_unfolding_all rfl)) ?_
      obtain ⟨r14, a15, e13, e⟩ := xb2_some e
      refine ex_cv1 (as := [.int r7]) (rest := []) rfl rfl rfl rfl (s5.obj rfl (by decide)) rfl (by with_unfolding_all rfl) (by with_unfolding_all rfl) (tf297_has s5 e13) (fun H11 s12 => ?_)
      refine ex_s (st_if rfl) ?_
      by_cases c16 : r14 = 0
      · have e := (if_pos c16).symm.trans e
        refine ex_pc (if_pos c16) ?_
        refine ex_s (am_nb (m := 1) (pc1 := 45) (ls1 := [(1, .int r7), (0, .ref 157)]) (st1 := [.int (-1)]) (H1 := H11) (k1 := 0) (n1 := 0) (by with_unfolding_all rfl)) ?_
        cases e
        exact ex_r (st_iret rfl rfl rfl) s12
      · have e := (if_neg c16).symm.trans e
        refine ex_pc (if_neg c16) ?_
        refine ex_s (am_nb (m := 2) (pc1 := 49) (ls1 := [(1, .int r7), (0, .ref 157)]) (st1 := [.ref 157, .int 39]) (H1 := H11) (k1 := 0) (n1 := 0) (by with_unfolding_all rfl)) ?_
        refine xe_get (v := .int (a15 157 21)) s12 rfl rfl (by decide) rfl ?_
        refine ex_s (am_nb (m := 6) (pc1 := 59) (ls1 := [(2, .int ((39 * (a15 157 21)) + r7)), (1, .int r7), (0, .ref 157)]) (st1 := [.int 6, .int r7]) (H1 := H11) (k1 := 0) (n1 := 0) (by with_unfolding_all rfl)) ?_
        refine ex_s (st_icmp rfl) ?_
        by_cases c17 : 6 ≤ r7
        · have e := (if_pos c17).symm.trans e
          refine ex_pc (if_pos c17) ?_
          refine ex_s (am_nb (m := 2) (pc1 := 71) (ls1 := [(2, .int ((39 * (a15 157 21)) + r7)), (1, .int r7), (0, .ref 157)]) (st1 := [.ref 157, .ref 157]) (H1 := H11) (k1 := 0) (n1 := 0) (by with_unfolding_all rfl)) ?_
          refine xe_get (v := .ref 166) s12 rfl rfl (by decide) rfl ?_
          refine ex_s (am_nb (m := 1) (pc1 := 75) (ls1 := [(2, .int ((39 * (a15 157 21)) + r7)), (1, .int r7), (0, .ref 157)]) (st1 := [.int ((39 * (a15 157 21)) + r7), .ref 166, .ref 157]) (H1 := H11) (k1 := 0) (n1 := 0) (by with_unfolding_all rfl)) ?_
          obtain ⟨g18, e⟩ := xg_some e
          refine xe_iald s12 rfl rfl g18 ?_
          obtain ⟨a19, ha19, e⟩ := xw_some e
          refine xe_put (w := (a15 166 (((39 * (a15 157 21)) + r7).toNatClampNeg))) s12 rfl rfl (by decide) rfl rfl rfl rfl (fun H20 s21 => ?_)
          have s21 : xS h b T a19 H20 := by rw [ha19]; exact s21
          refine ex_s (am_nb (m := 2) (pc1 := 81) (ls1 := [(3, .int 0), (2, .int ((39 * (a15 157 21)) + r7)), (1, .int r7), (0, .ref 157)]) (st1 := []) (H1 := H20) (k1 := 0) (n1 := 0) (by with_unfolding_all rfl)) ?_
          obtain ⟨z28, e29, e⟩ := Option.bind_eq_some_iff.mp e
          refine le_E (l1 := [(0, .ref 157), (2, .int ((39 * (a15 157 21)) + r7)), (3, .int 0)]) ⟨rfl, rfl, rfl, trivial⟩ rfl (tl295_81 (z := z28)  (fun uz28_0 Hz280 sz280 => ?_) N 0 a19 H20 s21 e29)
          refine ex_s (am_nb (m := 1) (pc1 := 113) (ls1 := [(0, .ref 157)]) (st1 := [.ref 157]) (H1 := Hz280) (k1 := 0) (n1 := 0) (by with_unfolding_all rfl)) ?_
          refine xe_get (v := .int (z28.2 157 4)) sz280 rfl rfl (by decide) rfl ?_
          cases e
          exact ex_r (st_iret rfl rfl rfl) sz280
        · have e := (if_neg c17).symm.trans e
          refine ex_pc (if_neg c17) ?_
          refine ex_s (am_nb (m := 1) (pc1 := 63) (ls1 := [(2, .int ((39 * (a15 157 21)) + r7)), (1, .int r7), (0, .ref 157)]) (st1 := [.ref 157]) (H1 := H11) (k1 := 0) (n1 := 0) (by with_unfolding_all rfl)) ?_
          refine xe_get (v := .ref 164) s12 rfl rfl (by decide) rfl ?_
          refine ex_s (am_nb (m := 1) (pc1 := 67) (ls1 := [(2, .int ((39 * (a15 157 21)) + r7)), (1, .int r7), (0, .ref 157)]) (st1 := [.int ((39 * (a15 157 21)) + r7), .ref 164]) (H1 := H11) (k1 := 0) (n1 := 0) (by with_unfolding_all rfl)) ?_
          obtain ⟨g30, e⟩ := xg_some e
          refine xe_iald s12 rfl rfl g30 ?_
          cases e
          exact ex_r (st_iret rfl rfl rfl) s12
    · have e := (if_neg c10).symm.trans e
      refine ex_pc (if_neg c10) ?_
      refine ex_s (am_nb (m := 2) (pc1 := 24) (ls1 := [(1, .int r7), (0, .ref 157)]) (st1 := [.int r7, .ref 157]) (H1 := H4) (k1 := 0) (n1 := 0) (by with_unfolding_all rfl)) ?_
      obtain ⟨r34, a35, e33, e⟩ := xb2_some e
      refine ex_cv1 (as := [.int r7]) (rest := []) rfl rfl rfl rfl (s5.obj rfl (by decide)) rfl (by with_unfolding_all rfl) (by with_unfolding_all rfl) (tf297_has s5 e33) (fun H31 s32 => ?_)
      have kk : am_E sL sx am_cs 295 35 [(1, .int r7), (0, .ref 157)] [.int (if r34 = 0 then (0 : Int32) else (1 : Int32))] H31 (some (.int r)) (fun H1 => xS h b T a' H1) := by
        cases e
        exact ex_r (st_iret rfl rfl rfl) s32
      refine ex_s (st_if rfl) ?_
      by_cases c36 : r34 = 0
      · refine ex_pc (if_pos c36) ?_
        refine ex_s (am_nb (m := 1) (pc1 := 35) (ls1 := [(1, .int r7), (0, .ref 157)]) (st1 := [.int 0]) (H1 := H31) (k1 := 0) (n1 := 0) (by with_unfolding_all rfl)) ?_
        rw [if_pos c36] at kk
        exact kk
      · refine ex_pc (if_neg c36) ?_
        refine ex_s (am_nb (m := 2) (pc1 := 35) (ls1 := [(1, .int r7), (0, .ref 157)]) (st1 := [.int 1]) (H1 := H31) (k1 := 0) (n1 := 0) (by with_unfolding_all rfl)) ?_
        rw [if_neg c36] at kk
        exact kk

set_option maxRecDepth 100000 in
theorem tf300_says {sL : Nat} {sx : Nat → Int32} {h b N : Nat} {T : List am_C} {a' : xA} {x0 : Int32} {a : xA} {H : am_H} (hS : xS h b T a H) (e : f300_says N h b x0 a = some a') : am_E sL sx am_cs 300 0 [(0, .ref 157), (1, .int x0)] [] H none (fun H1 => xS h b T a' H1) := by
  unfold f300_says at e
  refine ex_s (am_nb (m := 1) (pc1 := 1) (ls1 := [(0, .ref 157), (1, .int x0)]) (st1 := [.ref 157]) (H1 := H) (k1 := 0) (n1 := 0) (by with_unfolding_all rfl)) ?_
  refine xe_get (v := .int (a 157 23)) hS rfl rfl (by decide) rfl ?_
  refine ex_s (am_nb (m := 1) (pc1 := 6) (ls1 := [(0, .ref 157), (1, .int x0)]) (st1 := [.int 60, .int (a 157 23)]) (H1 := H) (k1 := 0) (n1 := 0) (by with_unfolding_all rfl)) ?_
  refine ex_s (st_icmp rfl) ?_
  by_cases c1 : (a 157 23) = 60
  · have e := (if_pos c1).symm.trans e
    refine ex_pc (if_pos c1) ?_
    cases e
    exact ex_r (st_vret rfl rfl) hS
  · have e := (if_neg c1).symm.trans e
    refine ex_pc (if_neg c1) ?_
    refine ex_s (am_nb (m := 1) (pc1 := 11) (ls1 := [(0, .ref 157), (1, .int x0)]) (st1 := [.ref 157]) (H1 := H) (k1 := 0) (n1 := 0) (by with_unfolding_all rfl)) ?_
    refine xe_get (v := .ref 168) hS rfl rfl (by decide) rfl ?_
    refine ex_s (am_nb (m := 1) (pc1 := 15) (ls1 := [(0, .ref 157), (1, .int x0)]) (st1 := [.ref 157, .ref 168]) (H1 := H) (k1 := 0) (n1 := 0) (by with_unfolding_all rfl)) ?_
    refine xe_get (v := .int (a 157 23)) hS rfl rfl (by decide) rfl ?_
    refine ex_s (am_nb (m := 2) (pc1 := 20) (ls1 := [(0, .ref 157), (1, .int x0)]) (st1 := [.int x0.toInt8.toInt32, .int (a 157 23), .ref 168]) (H1 := H) (k1 := 0) (n1 := 0) (by with_unfolding_all rfl)) ?_
    obtain ⟨g5, e⟩ := xg_some e
    obtain ⟨a2, ha2, e⟩ := xw_some e
    refine xe_bast hS rfl rfl g5 (fun H3 s4 => ?_)
    have s4 : xS h b T a2 H3 := by rw [ha2]; exact s4
    refine ex_s (am_nb (m := 2) (pc1 := 23) (ls1 := [(0, .ref 157), (1, .int x0)]) (st1 := [.ref 157, .ref 157]) (H1 := H3) (k1 := 0) (n1 := 0) (by with_unfolding_all rfl)) ?_
    refine xe_get (v := .int (a2 157 23)) s4 rfl rfl (by decide) rfl ?_
    refine ex_s (am_nb (m := 2) (pc1 := 28) (ls1 := [(0, .ref 157), (1, .int x0)]) (st1 := [.int ((a2 157 23) + 1), .ref 157]) (H1 := H3) (k1 := 0) (n1 := 0) (by with_unfolding_all rfl)) ?_
    obtain ⟨a6, ha6, e⟩ := xw_some e
    refine xe_put (w := ((a2 157 23) + 1)) s4 rfl rfl (by decide) rfl rfl rfl rfl (fun H7 s8 => ?_)
    have s8 : xS h b T a6 H7 := by rw [ha6]; exact s8
    cases e
    exact ex_r (st_vret rfl rfl) s8

set_option maxRecDepth 100000 in
theorem tf301_push {sL : Nat} {sx : Nat → Int32} {h b N : Nat} {T : List am_C} {a' : xA} {x0 : Int32} {a : xA} {H : am_H} (hS : xS h b T a H) (e : f301_push N h b x0 a = some a') : am_E sL sx am_cs 301 0 [(0, .ref 157), (1, .int x0)] [] H none (fun H1 => xS h b T a' H1) := by
  unfold f301_push at e
  refine ex_s (am_nb (m := 1) (pc1 := 1) (ls1 := [(0, .ref 157), (1, .int x0)]) (st1 := [.ref 157]) (H1 := H) (k1 := 0) (n1 := 0) (by with_unfolding_all rfl)) ?_
  refine xe_get (v := .int (a 157 25)) hS rfl rfl (by decide) rfl ?_
  refine ex_s (am_nb (m := 1) (pc1 := 6) (ls1 := [(0, .ref 157), (1, .int x0)]) (st1 := [.int 8, .int (a 157 25)]) (H1 := H) (k1 := 0) (n1 := 0) (by with_unfolding_all rfl)) ?_
  refine ex_s (st_icmp rfl) ?_
  by_cases c1 : (a 157 25) = 8
  · have e := (if_pos c1).symm.trans e
    refine ex_pc (if_pos c1) ?_
    cases e
    exact ex_r (st_vret rfl rfl) hS
  · have e := (if_neg c1).symm.trans e
    refine ex_pc (if_neg c1) ?_
    refine ex_s (am_nb (m := 1) (pc1 := 11) (ls1 := [(0, .ref 157), (1, .int x0)]) (st1 := [.ref 157]) (H1 := H) (k1 := 0) (n1 := 0) (by with_unfolding_all rfl)) ?_
    refine xe_get (v := .ref 169) hS rfl rfl (by decide) rfl ?_
    refine ex_s (am_nb (m := 1) (pc1 := 15) (ls1 := [(0, .ref 157), (1, .int x0)]) (st1 := [.ref 157, .ref 169]) (H1 := H) (k1 := 0) (n1 := 0) (by with_unfolding_all rfl)) ?_
    refine xe_get (v := .int (a 157 25)) hS rfl rfl (by decide) rfl ?_
    refine ex_s (am_nb (m := 1) (pc1 := 19) (ls1 := [(0, .ref 157), (1, .int x0)]) (st1 := [.int x0, .int (a 157 25), .ref 169]) (H1 := H) (k1 := 0) (n1 := 0) (by with_unfolding_all rfl)) ?_
    obtain ⟨g5, e⟩ := xg_some e
    obtain ⟨a2, ha2, e⟩ := xw_some e
    refine xe_iast hS rfl rfl g5 (fun H3 s4 => ?_)
    have s4 : xS h b T a2 H3 := by rw [ha2]; exact s4
    refine ex_s (am_nb (m := 2) (pc1 := 22) (ls1 := [(0, .ref 157), (1, .int x0)]) (st1 := [.ref 157, .ref 157]) (H1 := H3) (k1 := 0) (n1 := 0) (by with_unfolding_all rfl)) ?_
    refine xe_get (v := .int (a2 157 25)) s4 rfl rfl (by decide) rfl ?_
    refine ex_s (am_nb (m := 2) (pc1 := 27) (ls1 := [(0, .ref 157), (1, .int x0)]) (st1 := [.int ((a2 157 25) + 1), .ref 157]) (H1 := H3) (k1 := 0) (n1 := 0) (by with_unfolding_all rfl)) ?_
    obtain ⟨a6, ha6, e⟩ := xw_some e
    refine xe_put (w := ((a2 157 25) + 1)) s4 rfl rfl (by decide) rfl rfl rfl rfl (fun H7 s8 => ?_)
    have s8 : xS h b T a6 H7 := by rw [ha6]; exact s8
    cases e
    exact ex_r (st_vret rfl rfl) s8

set_option maxRecDepth 100000 in
theorem tf302_pop {sL : Nat} {sx : Nat → Int32} {h b N : Nat} {T : List am_C} {r : Int32} {a' : xA} {a : xA} {H : am_H} (hS : xS h b T a H) (e : f302_pop N h b a = some (r, a')) : am_E sL sx am_cs 302 0 [(0, .ref 157)] [] H (some (.int r)) (fun H1 => xS h b T a' H1) := by
  unfold f302_pop at e
  refine ex_s (am_nb (m := 1) (pc1 := 1) (ls1 := [(0, .ref 157)]) (st1 := [.ref 157]) (H1 := H) (k1 := 0) (n1 := 0) (by with_unfolding_all rfl)) ?_
  refine xe_get (v := .int (a 157 25)) hS rfl rfl (by decide) rfl ?_
  refine ex_s (st_if rfl) ?_
  by_cases c1 : (a 157 25) = 0
  · have e := (if_pos c1).symm.trans e
    refine ex_pc (if_pos c1) ?_
    refine ex_s (am_nb (m := 1) (pc1 := 8) (ls1 := [(0, .ref 157)]) (st1 := [.int 0]) (H1 := H) (k1 := 0) (n1 := 0) (by with_unfolding_all rfl)) ?_
    cases e
    exact ex_r (st_iret rfl rfl rfl) hS
  · have e := (if_neg c1).symm.trans e
    refine ex_pc (if_neg c1) ?_
    refine ex_s (am_nb (m := 2) (pc1 := 11) (ls1 := [(0, .ref 157)]) (st1 := [.ref 157, .ref 157]) (H1 := H) (k1 := 0) (n1 := 0) (by with_unfolding_all rfl)) ?_
    refine xe_get (v := .int (a 157 25)) hS rfl rfl (by decide) rfl ?_
    refine ex_s (am_nb (m := 2) (pc1 := 16) (ls1 := [(0, .ref 157)]) (st1 := [.int ((a 157 25) - 1), .ref 157]) (H1 := H) (k1 := 0) (n1 := 0) (by with_unfolding_all rfl)) ?_
    obtain ⟨a2, ha2, e⟩ := xw_some e
    refine xe_put (w := ((a 157 25) - 1)) hS rfl rfl (by decide) rfl rfl rfl rfl (fun H3 s4 => ?_)
    have s4 : xS h b T a2 H3 := by rw [ha2]; exact s4
    refine ex_s (am_nb (m := 1) (pc1 := 20) (ls1 := [(0, .ref 157)]) (st1 := [.ref 157]) (H1 := H3) (k1 := 0) (n1 := 0) (by with_unfolding_all rfl)) ?_
    refine xe_get (v := .ref 169) s4 rfl rfl (by decide) rfl ?_
    refine ex_s (am_nb (m := 1) (pc1 := 24) (ls1 := [(0, .ref 157)]) (st1 := [.ref 157, .ref 169]) (H1 := H3) (k1 := 0) (n1 := 0) (by with_unfolding_all rfl)) ?_
    refine xe_get (v := .int (a2 157 25)) s4 rfl rfl (by decide) rfl ?_
    obtain ⟨g5, e⟩ := xg_some e
    refine xe_iald s4 rfl rfl g5 ?_
    cases e
    exact ex_r (st_iret rfl rfl rfl) s4

set_option maxRecDepth 100000 in
theorem tl303_13 {sL : Nat} {sx : Nat → Int32} {h b N : Nat} {T : List am_C} {R : Option Value} {F : am_H → Prop} {w1 : Int32} {w2 : Int32} {w3 : Int32} {w4 : Int64} {z : Nat × Int64 × Int32 × xA} (k0 : z.1 = 0 → ∀ H2 : am_H, xS h b T z.2.2.2 H2 → am_E sL sx am_cs 303 39 [(0, .ref 157), (1, .int w1), (2, .int w2), (3, .int w3), (4, .long w4), (6, .long z.2.1), (8, .int z.2.2.1)] [] H2 R F) : ∀ (n : Nat) (v6 : Int64) (v8 : Int32) (a : xA) (H : am_H), xS h b T a H → l303_13 N h b w1 w2 w3 w4 n v6 v8 a = some z → am_E sL sx am_cs 303 13 [(0, .ref 157), (1, .int w1), (2, .int w2), (3, .int w3), (4, .long w4), (6, .long v6), (8, .int v8)] [] H R F := by
  intro n
  induction n with
  | zero =>
    intro v6 v8 a H hS e
    cases e
  | succ n ih =>
    intro v6 v8 a H hS e
    unfold l303_13 at e
    refine ex_s (am_nb (m := 2) (pc1 := 17) (ls1 := [(0, .ref 157), (1, .int w1), (2, .int w2), (3, .int w3), (4, .long w4), (6, .long v6), (8, .int v8)]) (st1 := [.long v6, .long w4]) (H1 := H) (k1 := 0) (n1 := 0) (by with_unfolding_all rfl)) ?_
    obtain ⟨g1, e⟩ := xg_some e
    refine ex_s (st_ldiv rfl g1) ?_
    refine ex_s (am_nb (m := 2) (pc1 := 22) (ls1 := [(0, .ref 157), (1, .int w1), (2, .int w2), (3, .int w3), (4, .long w4), (6, .long v6), (8, .int v8)]) (st1 := [.int (lg_cmp (w4 / v6) 10)]) (H1 := H) (k1 := 0) (n1 := 0) (by with_unfolding_all rfl)) ?_
    refine ex_s (st_if rfl) ?_
    by_cases c2 : (lg_cmp (w4 / v6) 10) < 0
    · have e := (if_pos c2).symm.trans e
      refine ex_pc (if_pos c2) ?_
      cases e
      exact le_E (l1 := [(0, .ref 157), (1, .int w1), (2, .int w2), (3, .int w3), (4, .long w4), (6, .long v6), (8, .int v8)]) ⟨rfl, rfl, rfl, rfl, rfl, rfl, rfl, trivial⟩ rfl (k0 rfl H hS)
    · have e := (if_neg c2).symm.trans e
      refine ex_pc (if_neg c2) ?_
      refine ex_s (am_nb (m := 6) (pc1 := 13) (ls1 := [(8, .int (v8 + 1)), (6, .long (v6 * 10)), (0, .ref 157), (1, .int w1), (2, .int w2), (3, .int w3), (4, .long w4)]) (st1 := []) (H1 := H) (k1 := 0) (n1 := 0) (by with_unfolding_all rfl)) ?_
      exact le_E (l1 := [(0, .ref 157), (1, .int w1), (2, .int w2), (3, .int w3), (4, .long w4), (6, .long (v6 * 10)), (8, .int (v8 + 1))]) ⟨rfl, rfl, rfl, rfl, rfl, rfl, rfl, trivial⟩ rfl (ih (v6 * 10) (v8 + 1) a H hS e)

set_option maxRecDepth 100000 in
theorem tl303_57 {sL : Nat} {sx : Nat → Int32} {h b N : Nat} {T : List am_C} {R : Option Value} {F : am_H → Prop} {w1 : Int32} {w2 : Int32} {w3 : Int32} {w4 : Int64} {w6 : Int64} {w9 : Int32} {z : Nat × xA} (k0 : z.1 = 0 → ∀ H2 : am_H, xS h b T z.2 H2 → am_E sL sx am_cs 303 79 [(0, .ref 157), (1, .int w1), (2, .int w2), (3, .int w3), (4, .long w4), (6, .long w6), (9, .int w9)] [] H2 R F) : ∀ (n : Nat) (v10 : Int32) (a : xA) (H : am_H), xS h b T a H → l303_57 N h b w1 w2 w3 w4 w6 w9 n v10 a = some z → am_E sL sx am_cs 303 57 [(0, .ref 157), (1, .int w1), (2, .int w2), (3, .int w3), (4, .long w4), (6, .long w6), (9, .int w9), (10, .int v10)] [] H R F := by
  intro n
  induction n with
  | zero =>
    intro v10 a H hS e
    cases e
  | succ n ih =>
    intro v10 a H hS e
    unfold l303_57 at e
    refine ex_s (am_nb (m := 2) (pc1 := 60) (ls1 := [(0, .ref 157), (1, .int w1), (2, .int w2), (3, .int w3), (4, .long w4), (6, .long w6), (9, .int w9), (10, .int v10)]) (st1 := [.int w2, .int v10]) (H1 := H) (k1 := 0) (n1 := 0) (by with_unfolding_all rfl)) ?_
    refine ex_s (st_icmp rfl) ?_
    by_cases c8 : w2 ≤ v10
    · have e := (if_pos c8).symm.trans e
      refine ex_pc (if_pos c8) ?_
      cases e
      exact le_E (l1 := [(0, .ref 157), (1, .int w1), (2, .int w2), (3, .int w3), (4, .long w4), (6, .long w6), (9, .int w9)]) ⟨rfl, rfl, rfl, rfl, rfl, rfl, rfl, trivial⟩ rfl (k0 rfl H hS)
    · have e := (if_neg c8).symm.trans e
      refine ex_pc (if_neg c8) ?_
      refine ex_s (am_nb (m := 1) (pc1 := 64) (ls1 := [(0, .ref 157), (1, .int w1), (2, .int w2), (3, .int w3), (4, .long w4), (6, .long w6), (9, .int w9), (10, .int v10)]) (st1 := [.int w3]) (H1 := H) (k1 := 0) (n1 := 0) (by with_unfolding_all rfl)) ?_
      refine ex_s (st_if rfl) ?_
      by_cases c9 : w3 = 0
      · have e := (if_pos c9).symm.trans e
        refine ex_pc (if_pos c9) ?_
        refine ex_s (am_nb (m := 2) (pc1 := 70) (ls1 := [(0, .ref 157), (1, .int w1), (2, .int w2), (3, .int w3), (4, .long w4), (6, .long w6), (9, .int w9), (10, .int v10)]) (st1 := [.int 32, .ref 157]) (H1 := H) (k1 := 0) (n1 := 0) (by with_unfolding_all rfl)) ?_
        obtain ⟨a13, e12, e⟩ := xb1_some e
        refine ex_cv0 (as := [.int 32]) (rest := []) rfl rfl rfl rfl (hS.obj rfl (by decide)) rfl (by with_unfolding_all rfl) (by with_unfolding_all rfl) (tf300_says hS e12) (fun H10 s11 => ?_)
        refine ex_s (am_nb (m := 2) (pc1 := 57) (ls1 := [(10, .int (v10 + 1)), (0, .ref 157), (1, .int w1), (2, .int w2), (3, .int w3), (4, .long w4), (6, .long w6), (9, .int w9)]) (st1 := []) (H1 := H10) (k1 := 0) (n1 := 0) (by with_unfolding_all rfl)) ?_
        exact le_E (l1 := [(0, .ref 157), (1, .int w1), (2, .int w2), (3, .int w3), (4, .long w4), (6, .long w6), (9, .int w9), (10, .int (v10 + 1))]) ⟨rfl, rfl, rfl, rfl, rfl, rfl, rfl, rfl, trivial⟩ rfl (ih (v10 + 1) a13 H10 s11 e)
      · have e := (if_neg c9).symm.trans e
        refine ex_pc (if_neg c9) ?_
        cases e
        exact le_E (l1 := [(0, .ref 157), (1, .int w1), (2, .int w2), (3, .int w3), (4, .long w4), (6, .long w6), (9, .int w9)]) ⟨rfl, rfl, rfl, rfl, rfl, rfl, rfl, trivial⟩ rfl (k0 rfl H hS)

set_option maxRecDepth 100000 in
theorem tl303_93 {sL : Nat} {sx : Nat → Int32} {h b N : Nat} {T : List am_C} {R : Option Value} {F : am_H → Prop} {w2 : Int32} {w3 : Int32} {w4 : Int64} {w6 : Int64} {z : Nat × xA} (k0 : z.1 = 0 → ∀ H2 : am_H, xS h b T z.2 H2 → am_E sL sx am_cs 303 115 [(0, .ref 157), (4, .long w4), (6, .long w6)] [] H2 R F) : ∀ (n : Nat) (v10 : Int32) (a : xA) (H : am_H), xS h b T a H → l303_93 N h b w2 w3 w4 w6 n v10 a = some z → am_E sL sx am_cs 303 93 [(0, .ref 157), (2, .int w2), (3, .int w3), (4, .long w4), (6, .long w6), (10, .int v10)] [] H R F := by
  intro n
  induction n with
  | zero =>
    intro v10 a H hS e
    cases e
  | succ n ih =>
    intro v10 a H hS e
    unfold l303_93 at e
    refine ex_s (am_nb (m := 2) (pc1 := 96) (ls1 := [(0, .ref 157), (2, .int w2), (3, .int w3), (4, .long w4), (6, .long w6), (10, .int v10)]) (st1 := [.int w2, .int v10]) (H1 := H) (k1 := 0) (n1 := 0) (by with_unfolding_all rfl)) ?_
    refine ex_s (st_icmp rfl) ?_
    by_cases c18 : w2 ≤ v10
    · have e := (if_pos c18).symm.trans e
      refine ex_pc (if_pos c18) ?_
      cases e
      exact le_E (l1 := [(0, .ref 157), (4, .long w4), (6, .long w6)]) ⟨rfl, rfl, rfl, trivial⟩ rfl (k0 rfl H hS)
    · have e := (if_neg c18).symm.trans e
      refine ex_pc (if_neg c18) ?_
      refine ex_s (am_nb (m := 1) (pc1 := 100) (ls1 := [(0, .ref 157), (2, .int w2), (3, .int w3), (4, .long w4), (6, .long w6), (10, .int v10)]) (st1 := [.int w3]) (H1 := H) (k1 := 0) (n1 := 0) (by with_unfolding_all rfl)) ?_
      refine ex_s (st_if rfl) ?_
      by_cases c19 : w3 = 0
      · have e := (if_pos c19).symm.trans e
        refine ex_pc (if_pos c19) ?_
        cases e
        exact le_E (l1 := [(0, .ref 157), (4, .long w4), (6, .long w6)]) ⟨rfl, rfl, rfl, trivial⟩ rfl (k0 rfl H hS)
      · have e := (if_neg c19).symm.trans e
        refine ex_pc (if_neg c19) ?_
        refine ex_s (am_nb (m := 2) (pc1 := 106) (ls1 := [(0, .ref 157), (2, .int w2), (3, .int w3), (4, .long w4), (6, .long w6), (10, .int v10)]) (st1 := [.int 48, .ref 157]) (H1 := H) (k1 := 0) (n1 := 0) (by with_unfolding_all rfl)) ?_
        obtain ⟨a23, e22, e⟩ := xb1_some e
        refine ex_cv0 (as := [.int 48]) (rest := []) rfl rfl rfl rfl (hS.obj rfl (by decide)) rfl (by with_unfolding_all rfl) (by with_unfolding_all rfl) (tf300_says hS e22) (fun H20 s21 => ?_)
        refine ex_s (am_nb (m := 2) (pc1 := 93) (ls1 := [(10, .int (v10 + 1)), (0, .ref 157), (2, .int w2), (3, .int w3), (4, .long w4), (6, .long w6)]) (st1 := []) (H1 := H20) (k1 := 0) (n1 := 0) (by with_unfolding_all rfl)) ?_
        exact le_E (l1 := [(0, .ref 157), (2, .int w2), (3, .int w3), (4, .long w4), (6, .long w6), (10, .int (v10 + 1))]) ⟨rfl, rfl, rfl, rfl, rfl, rfl, trivial⟩ rfl (ih (v10 + 1) a23 H20 s21 e)

set_option maxRecDepth 100000 in
theorem tl303_115 {sL : Nat} {sx : Nat → Int32} {h b N : Nat} {T : List am_C} {R : Option Value} {F : am_H → Prop} {w4 : Int64} {z : Nat × xA} (k0 : z.1 = 0 → ∀ H2 : am_H, xS h b T z.2 H2 → am_E sL sx am_cs 303 150 [] [] H2 R F) : ∀ (n : Nat) (v6 : Int64) (a : xA) (H : am_H), xS h b T a H → l303_115 N h b w4 n v6 a = some z → am_E sL sx am_cs 303 115 [(0, .ref 157), (4, .long w4), (6, .long v6)] [] H R F := by
  intro n
  induction n with
  | zero =>
    intro v6 a H hS e
    cases e
  | succ n ih =>
    intro v6 a H hS e
    unfold l303_115 at e
    refine ex_s (am_nb (m := 3) (pc1 := 119) (ls1 := [(0, .ref 157), (4, .long w4), (6, .long v6)]) (st1 := [.int (lg_cmp v6 0)]) (H1 := H) (k1 := 0) (n1 := 0) (by with_unfolding_all rfl)) ?_
    refine ex_s (st_if rfl) ?_
    by_cases c26 : (lg_cmp v6 0) ≤ 0
    · have e := (if_pos c26).symm.trans e
      refine ex_pc (if_pos c26) ?_
      cases e
      exact le_E (l1 := []) trivial rfl (k0 rfl H hS)
    · have e := (if_neg c26).symm.trans e
      refine ex_pc (if_neg c26) ?_
      refine ex_s (am_nb (m := 4) (pc1 := 129) (ls1 := [(0, .ref 157), (4, .long w4), (6, .long v6)]) (st1 := [.long v6, .long w4, .int 48, .ref 157]) (H1 := H) (k1 := 0) (n1 := 0) (by with_unfolding_all rfl)) ?_
      obtain ⟨g27, e⟩ := xg_some e
      refine ex_s (st_ldiv rfl g27) ?_
      refine ex_s (am_nb (m := 4) (pc1 := 136) (ls1 := [(0, .ref 157), (4, .long w4), (6, .long v6)]) (st1 := [.int (48 + (((w4 / v6) - (w4 / v6) / 10 * 10).toInt32)), .ref 157]) (H1 := H) (k1 := 0) (n1 := 0) (by with_unfolding_all rfl)) ?_
      obtain ⟨a31, e30, e⟩ := xb1_some e
      refine ex_cv0 (as := [.int (48 + (((w4 / v6) - (w4 / v6) / 10 * 10).toInt32))]) (rest := []) rfl rfl rfl rfl (hS.obj rfl (by decide)) rfl (by with_unfolding_all rfl) (by with_unfolding_all rfl) (tf300_says hS e30) (fun H28 s29 => ?_)
      refine ex_s (am_nb (m := 5) (pc1 := 115) (ls1 := [(6, .long (v6 / 10)), (0, .ref 157), (4, .long w4)]) (st1 := []) (H1 := H28) (k1 := 0) (n1 := 0) (by with_unfolding_all rfl)) ?_
      exact le_E (l1 := [(0, .ref 157), (4, .long w4), (6, .long (v6 / 10))]) ⟨rfl, rfl, rfl, trivial⟩ rfl (ih (v6 / 10) a31 H28 s29 e)

set_option maxRecDepth 100000 in
theorem tj303_89 {sL : Nat} {sx : Nat → Int32} {h b N : Nat} {T : List am_C} {a' : xA} {q2 : Int32} {q3 : Int32} {q4 : Int64} {q6 : Int64} {q9 : Int32} {a : xA} {H : am_H} (hS : xS h b T a H) (e : j303_89 N h b q2 q3 q4 q6 q9 a = some a') : am_E sL sx am_cs 303 89 [(0, .ref 157), (2, .int q2), (3, .int q3), (4, .long q4), (6, .long q6), (9, .int q9)] [] H none (fun H1 => xS h b T a' H1) := by
  unfold j303_89 at e
  refine ex_s (am_nb (m := 2) (pc1 := 93) (ls1 := [(10, .int q9), (0, .ref 157), (2, .int q2), (3, .int q3), (4, .long q4), (6, .long q6), (9, .int q9)]) (st1 := []) (H1 := H) (k1 := 0) (n1 := 0) (by with_unfolding_all rfl)) ?_
  obtain ⟨z24, e25, e⟩ := Option.bind_eq_some_iff.mp e
  refine le_E (l1 := [(0, .ref 157), (2, .int q2), (3, .int q3), (4, .long q4), (6, .long q6), (10, .int q9)]) ⟨rfl, rfl, rfl, rfl, rfl, rfl, trivial⟩ rfl (tl303_93 (z := z24)  (fun uz24_0 Hz240 sz240 => ?_) N q9 a H hS e25)
  obtain ⟨z32, e33, e⟩ := Option.bind_eq_some_iff.mp e
  refine le_E (l1 := [(0, .ref 157), (4, .long q4), (6, .long q6)]) ⟨rfl, rfl, rfl, trivial⟩ rfl (tl303_115 (z := z32)  (fun uz32_0 Hz320 sz320 => ?_) N q6 z24.2 Hz240 sz240 e33)
  cases e
  exact ex_r (st_vret rfl rfl) sz320

set_option maxRecDepth 100000 in
theorem tj303_79 {sL : Nat} {sx : Nat → Int32} {h b N : Nat} {T : List am_C} {a' : xA} {q1 : Int32} {q2 : Int32} {q3 : Int32} {q4 : Int64} {q6 : Int64} {q9 : Int32} {a : xA} {H : am_H} (hS : xS h b T a H) (e : j303_79 N h b q1 q2 q3 q4 q6 q9 a = some a') : am_E sL sx am_cs 303 79 [(0, .ref 157), (1, .int q1), (2, .int q2), (3, .int q3), (4, .long q4), (6, .long q6), (9, .int q9)] [] H none (fun H1 => xS h b T a' H1) := by
  unfold j303_79 at e
  refine ex_s (am_nb (m := 1) (pc1 := 80) (ls1 := [(0, .ref 157), (1, .int q1), (2, .int q2), (3, .int q3), (4, .long q4), (6, .long q6), (9, .int q9)]) (st1 := [.int q1]) (H1 := H) (k1 := 0) (n1 := 0) (by with_unfolding_all rfl)) ?_
  refine ex_s (st_if rfl) ?_
  by_cases c17 : 0 ≤ q1
  · have e := (if_pos c17).symm.trans e
    refine ex_pc (if_pos c17) ?_
    exact le_E (l1 := [(0, .ref 157), (2, .int q2), (3, .int q3), (4, .long q4), (6, .long q6), (9, .int q9)]) ⟨rfl, rfl, rfl, rfl, rfl, rfl, trivial⟩ rfl (tj303_89  hS e)
  · have e := (if_neg c17).symm.trans e
    refine ex_pc (if_neg c17) ?_
    refine ex_s (am_nb (m := 2) (pc1 := 86) (ls1 := [(0, .ref 157), (1, .int q1), (2, .int q2), (3, .int q3), (4, .long q4), (6, .long q6), (9, .int q9)]) (st1 := [.int 45, .ref 157]) (H1 := H) (k1 := 0) (n1 := 0) (by with_unfolding_all rfl)) ?_
    obtain ⟨a37, e36, e⟩ := xb1_some e
    refine ex_cv0 (as := [.int 45]) (rest := []) rfl rfl rfl rfl (hS.obj rfl (by decide)) rfl (by with_unfolding_all rfl) (by with_unfolding_all rfl) (tf300_says hS e36) (fun H34 s35 => ?_)
    exact le_E (l1 := [(0, .ref 157), (2, .int q2), (3, .int q3), (4, .long q4), (6, .long q6), (9, .int q9)]) ⟨rfl, rfl, rfl, rfl, rfl, rfl, trivial⟩ rfl (tj303_89  s35 e)

set_option maxRecDepth 100000 in
theorem tf303_decimals {sL : Nat} {sx : Nat → Int32} {h b N : Nat} {T : List am_C} {a' : xA} {x0 : Int32} {x1 : Int32} {x2 : Int32} {a : xA} {H : am_H} (hS : xS h b T a H) (e : f303_decimals N h b x0 x1 x2 a = some a') : am_E sL sx am_cs 303 0 [(0, .ref 157), (1, .int x0), (2, .int x1), (3, .int x2)] [] H none (fun H1 => xS h b T a' H1) := by
  unfold f303_decimals at e
  refine ex_s (am_nb (m := 8) (pc1 := 13) (ls1 := [(8, .int 1), (6, .long 1), (4, .long (xabsl x0.toInt64)), (0, .ref 157), (1, .int x0), (2, .int x1), (3, .int x2)]) (st1 := []) (H1 := H) (k1 := 0) (n1 := 0) (by with_unfolding_all rfl)) ?_
  obtain ⟨z3, e4, e⟩ := Option.bind_eq_some_iff.mp e
  refine le_E (l1 := [(0, .ref 157), (1, .int x0), (2, .int x1), (3, .int x2), (4, .long (xabsl x0.toInt64)), (6, .long 1), (8, .int 1)]) ⟨rfl, rfl, rfl, rfl, rfl, rfl, rfl, trivial⟩ rfl (tl303_13 (z := z3)  (fun uz3_0 Hz30 sz30 => ?_) N 1 1 a H hS e4)
  refine ex_s (am_nb (m := 2) (pc1 := 42) (ls1 := [(0, .ref 157), (1, .int x0), (2, .int x1), (3, .int x2), (4, .long (xabsl x0.toInt64)), (6, .long z3.2.1), (8, .int z3.2.2.1)]) (st1 := [.int x0, .int z3.2.2.1]) (H1 := Hz30) (k1 := 0) (n1 := 0) (by with_unfolding_all rfl)) ?_
  have kk : am_E sL sx am_cs 303 50 [(0, .ref 157), (1, .int x0), (2, .int x1), (3, .int x2), (4, .long (xabsl x0.toInt64)), (6, .long z3.2.1), (8, .int z3.2.2.1)] [.int (if 0 ≤ x0 then (0 : Int32) else (1 : Int32)), .int z3.2.2.1] Hz30 none (fun H1 => xS h b T a' H1) := by
    refine ex_s (am_nb (m := 4) (pc1 := 57) (ls1 := [(10, .int (z3.2.2.1 + (if 0 ≤ x0 then (0 : Int32) else (1 : Int32)))), (9, .int (z3.2.2.1 + (if 0 ≤ x0 then (0 : Int32) else (1 : Int32)))), (0, .ref 157), (1, .int x0), (2, .int x1), (3, .int x2), (4, .long (xabsl x0.toInt64)), (6, .long z3.2.1), (8, .int z3.2.2.1)]) (st1 := []) (H1 := Hz30) (k1 := 0) (n1 := 0) (by with_unfolding_all rfl)) ?_
    obtain ⟨z14, e15, e⟩ := Option.bind_eq_some_iff.mp e
    refine le_E (l1 := [(0, .ref 157), (1, .int x0), (2, .int x1), (3, .int x2), (4, .long (xabsl x0.toInt64)), (6, .long z3.2.1), (9, .int (z3.2.2.1 + (if 0 ≤ x0 then (0 : Int32) else (1 : Int32)))), (10, .int (z3.2.2.1 + (if 0 ≤ x0 then (0 : Int32) else (1 : Int32))))]) ⟨rfl, rfl, rfl, rfl, rfl, rfl, rfl, rfl, trivial⟩ rfl (tl303_57 (z := z14)  (fun uz14_0 Hz140 sz140 => ?_) N (z3.2.2.1 + (if 0 ≤ x0 then (0 : Int32) else (1 : Int32))) z3.2.2.2 Hz30 sz30 e15)
    exact le_E (l1 := [(0, .ref 157), (1, .int x0), (2, .int x1), (3, .int x2), (4, .long (xabsl x0.toInt64)), (6, .long z3.2.1), (9, .int (z3.2.2.1 + (if 0 ≤ x0 then (0 : Int32) else (1 : Int32))))]) ⟨rfl, rfl, rfl, rfl, rfl, rfl, rfl, trivial⟩ rfl (tj303_79  sz140 e)
  refine ex_s (st_if rfl) ?_
  by_cases c5 : 0 ≤ x0
  · refine ex_pc (if_pos c5) ?_
    refine ex_s (am_nb (m := 1) (pc1 := 50) (ls1 := [(0, .ref 157), (1, .int x0), (2, .int x1), (3, .int x2), (4, .long (xabsl x0.toInt64)), (6, .long z3.2.1), (8, .int z3.2.2.1)]) (st1 := [.int 0, .int z3.2.2.1]) (H1 := Hz30) (k1 := 0) (n1 := 0) (by with_unfolding_all rfl)) ?_
    rw [if_pos c5] at kk
    exact kk
  · refine ex_pc (if_neg c5) ?_
    refine ex_s (am_nb (m := 2) (pc1 := 50) (ls1 := [(0, .ref 157), (1, .int x0), (2, .int x1), (3, .int x2), (4, .long (xabsl x0.toInt64)), (6, .long z3.2.1), (8, .int z3.2.2.1)]) (st1 := [.int 1, .int z3.2.2.1]) (H1 := Hz30) (k1 := 0) (n1 := 0) (by with_unfolding_all rfl)) ?_
    rw [if_neg c5] at kk
    exact kk

set_option maxRecDepth 100000 in
theorem tj304_103 {sL : Nat} {sx : Nat → Int32} {h b N : Nat} {T : List am_C} {R : Option Value} {F : am_H → Prop} {w1 : Int32} {w3 : Int32} {z : Nat × Int32 × Int32 × xA} {rc : Int32 → Int32 → xA → Option (Nat × Int32 × Int32 × xA)} (k0 : z.1 = 0 → ∀ H2 : am_H, xS h b T z.2.2.2 H2 → am_E sL sx am_cs 304 87 [(4, .int z.2.1), (6, .int z.2.2.1)] [] H2 R F) (k1 : z.1 = 1 → ∀ H2 : am_H, xS h b T z.2.2.2 H2 → am_E sL sx am_cs 304 113 [(4, .int z.2.1)] [] H2 R F) (ih : ∀ (v4 : Int32) (v5 : Int32) (a : xA) (H : am_H), xS h b T a H → rc v4 v5 a = some z → am_E sL sx am_cs 304 6 [(0, .ref 157), (1, .int w1), (3, .int w3), (4, .int v4), (5, .int v5)] [] H R F) {q4 : Int32} {q5 : Int32} {q6 : Int32} {a : xA} {H : am_H} (hS : xS h b T a H) (e : j304_103 N h b rc w1 w3 q4 q5 q6 a = some z) : am_E sL sx am_cs 304 103 [(0, .ref 157), (1, .int w1), (3, .int w3), (4, .int q4), (5, .int q5), (6, .int q6)] [] H R F := by
  unfold j304_103 at e
  refine ex_s (am_nb (m := 5) (pc1 := 6) (ls1 := [(4, .int (q4 + q6)), (0, .ref 157), (1, .int w1), (3, .int w3), (5, .int q5), (6, .int q6)]) (st1 := []) (H1 := H) (k1 := 0) (n1 := 0) (by with_unfolding_all rfl)) ?_
  exact le_E (l1 := [(0, .ref 157), (1, .int w1), (3, .int w3), (4, .int (q4 + q6)), (5, .int q5)]) ⟨rfl, rfl, rfl, rfl, rfl, trivial⟩ rfl (ih (q4 + q6) q5 a H hS e)

set_option maxRecDepth 100000 in
theorem tj304_93 {sL : Nat} {sx : Nat → Int32} {h b N : Nat} {T : List am_C} {R : Option Value} {F : am_H → Prop} {w1 : Int32} {w3 : Int32} {z : Nat × Int32 × Int32 × xA} {rc : Int32 → Int32 → xA → Option (Nat × Int32 × Int32 × xA)} (k0 : z.1 = 0 → ∀ H2 : am_H, xS h b T z.2.2.2 H2 → am_E sL sx am_cs 304 87 [(4, .int z.2.1), (6, .int z.2.2.1)] [] H2 R F) (k1 : z.1 = 1 → ∀ H2 : am_H, xS h b T z.2.2.2 H2 → am_E sL sx am_cs 304 113 [(4, .int z.2.1)] [] H2 R F) (ih : ∀ (v4 : Int32) (v5 : Int32) (a : xA) (H : am_H), xS h b T a H → rc v4 v5 a = some z → am_E sL sx am_cs 304 6 [(0, .ref 157), (1, .int w1), (3, .int w3), (4, .int v4), (5, .int v5)] [] H R F) {q4 : Int32} {q5 : Int32} {q6 : Int32} {q7 : Int32} {a : xA} {H : am_H} (hS : xS h b T a H) (e : j304_93 N h b rc w1 w3 q4 q5 q6 q7 a = some z) : am_E sL sx am_cs 304 93 [(0, .ref 157), (1, .int w1), (3, .int w3), (4, .int q4), (5, .int q5), (6, .int q6), (7, .int q7)] [] H R F := by
  unfold j304_93 at e
  refine ex_s (am_nb (m := 2) (pc1 := 97) (ls1 := [(0, .ref 157), (1, .int w1), (3, .int w3), (4, .int q4), (5, .int q5), (6, .int q6), (7, .int q7)]) (st1 := [.int 59, .int q7]) (H1 := H) (k1 := 0) (n1 := 0) (by with_unfolding_all rfl)) ?_
  refine ex_s (st_icmp rfl) ?_
  by_cases c39 : q7 = 59
  · have e := (if_pos c39).symm.trans e
    refine ex_pc (if_pos c39) ?_
    refine ex_s (am_nb (m := 1) (pc1 := 103) (ls1 := [(5, .int (q5 + (-1))), (0, .ref 157), (1, .int w1), (3, .int w3), (4, .int q4), (6, .int q6), (7, .int q7)]) (st1 := []) (H1 := H) (k1 := 0) (n1 := 0) (by with_unfolding_all rfl)) ?_
    exact le_E (l1 := [(0, .ref 157), (1, .int w1), (3, .int w3), (4, .int q4), (5, .int (q5 + (-1))), (6, .int q6)]) ⟨rfl, rfl, rfl, rfl, rfl, rfl, trivial⟩ rfl (tj304_103 k0 k1 ih  hS e)
  · have e := (if_neg c39).symm.trans e
    refine ex_pc (if_neg c39) ?_
    exact le_E (l1 := [(0, .ref 157), (1, .int w1), (3, .int w3), (4, .int q4), (5, .int q5), (6, .int q6)]) ⟨rfl, rfl, rfl, rfl, rfl, rfl, trivial⟩ rfl (tj304_103 k0 k1 ih  hS e)

set_option maxRecDepth 100000 in
theorem tj304_71 {sL : Nat} {sx : Nat → Int32} {h b N : Nat} {T : List am_C} {R : Option Value} {F : am_H → Prop} {w1 : Int32} {w3 : Int32} {z : Nat × Int32 × Int32 × xA} {rc : Int32 → Int32 → xA → Option (Nat × Int32 × Int32 × xA)} (k0 : z.1 = 0 → ∀ H2 : am_H, xS h b T z.2.2.2 H2 → am_E sL sx am_cs 304 87 [(4, .int z.2.1), (6, .int z.2.2.1)] [] H2 R F) (k1 : z.1 = 1 → ∀ H2 : am_H, xS h b T z.2.2.2 H2 → am_E sL sx am_cs 304 113 [(4, .int z.2.1)] [] H2 R F) (ih : ∀ (v4 : Int32) (v5 : Int32) (a : xA) (H : am_H), xS h b T a H → rc v4 v5 a = some z → am_E sL sx am_cs 304 6 [(0, .ref 157), (1, .int w1), (3, .int w3), (4, .int v4), (5, .int v5)] [] H R F) {q4 : Int32} {q5 : Int32} {q6 : Int32} {q7 : Int32} {a : xA} {H : am_H} (hS : xS h b T a H) (e : j304_71 N h b rc w1 w3 q4 q5 q6 q7 a = some z) : am_E sL sx am_cs 304 71 [(0, .ref 157), (1, .int w1), (3, .int w3), (4, .int q4), (5, .int q5), (6, .int q6), (7, .int q7)] [] H R F := by
  unfold j304_71 at e
  refine ex_s (am_nb (m := 2) (pc1 := 75) (ls1 := [(0, .ref 157), (1, .int w1), (3, .int w3), (4, .int q4), (5, .int q5), (6, .int q6), (7, .int q7)]) (st1 := [.int 101, .int q7]) (H1 := H) (k1 := 0) (n1 := 0) (by with_unfolding_all rfl)) ?_
  refine ex_s (st_icmp rfl) ?_
  by_cases c33 : q7 = 101
  · have e := (if_pos c33).symm.trans e
    refine ex_pc (if_pos c33) ?_
    refine ex_s (am_nb (m := 1) (pc1 := 80) (ls1 := [(0, .ref 157), (1, .int w1), (3, .int w3), (4, .int q4), (5, .int q5), (6, .int q6), (7, .int q7)]) (st1 := [.int q5]) (H1 := H) (k1 := 0) (n1 := 0) (by with_unfolding_all rfl)) ?_
    refine ex_s (st_if rfl) ?_
    by_cases c36 : q5 = 0
    · have e := (if_pos c36).symm.trans e
      refine ex_pc (if_pos c36) ?_
      refine ex_s (am_nb (m := 1) (pc1 := 84) (ls1 := [(0, .ref 157), (1, .int w1), (3, .int w3), (4, .int q4), (5, .int q5), (6, .int q6), (7, .int q7)]) (st1 := [.int w3]) (H1 := H) (k1 := 0) (n1 := 0) (by with_unfolding_all rfl)) ?_
      refine ex_s (st_if rfl) ?_
      by_cases c37 : w3 = 0
      · have e := (if_pos c37).symm.trans e
        refine ex_pc (if_pos c37) ?_
        exact le_E (l1 := [(0, .ref 157), (1, .int w1), (3, .int w3), (4, .int q4), (5, .int q5), (6, .int q6), (7, .int q7)]) ⟨rfl, rfl, rfl, rfl, rfl, rfl, rfl, trivial⟩ rfl (tj304_93 k0 k1 ih  hS e)
      · have e := (if_neg c37).symm.trans e
        refine ex_pc (if_neg c37) ?_
        cases e
        exact le_E (l1 := [(4, .int q4), (6, .int q6)]) ⟨rfl, rfl, trivial⟩ rfl (k0 rfl H hS)
    · have e := (if_neg c36).symm.trans e
      refine ex_pc (if_neg c36) ?_
      exact le_E (l1 := [(0, .ref 157), (1, .int w1), (3, .int w3), (4, .int q4), (5, .int q5), (6, .int q6), (7, .int q7)]) ⟨rfl, rfl, rfl, rfl, rfl, rfl, rfl, trivial⟩ rfl (tj304_93 k0 k1 ih  hS e)
  · have e := (if_neg c33).symm.trans e
    refine ex_pc (if_neg c33) ?_
    exact le_E (l1 := [(0, .ref 157), (1, .int w1), (3, .int w3), (4, .int q4), (5, .int q5), (6, .int q6), (7, .int q7)]) ⟨rfl, rfl, rfl, rfl, rfl, rfl, rfl, trivial⟩ rfl (tj304_93 k0 k1 ih  hS e)

set_option maxRecDepth 100000 in
theorem tj304_59 {sL : Nat} {sx : Nat → Int32} {h b N : Nat} {T : List am_C} {R : Option Value} {F : am_H → Prop} {w1 : Int32} {w3 : Int32} {z : Nat × Int32 × Int32 × xA} {rc : Int32 → Int32 → xA → Option (Nat × Int32 × Int32 × xA)} (k0 : z.1 = 0 → ∀ H2 : am_H, xS h b T z.2.2.2 H2 → am_E sL sx am_cs 304 87 [(4, .int z.2.1), (6, .int z.2.2.1)] [] H2 R F) (k1 : z.1 = 1 → ∀ H2 : am_H, xS h b T z.2.2.2 H2 → am_E sL sx am_cs 304 113 [(4, .int z.2.1)] [] H2 R F) (ih : ∀ (v4 : Int32) (v5 : Int32) (a : xA) (H : am_H), xS h b T a H → rc v4 v5 a = some z → am_E sL sx am_cs 304 6 [(0, .ref 157), (1, .int w1), (3, .int w3), (4, .int v4), (5, .int v5)] [] H R F) {q4 : Int32} {q5 : Int32} {q6 : Int32} {q7 : Int32} {a : xA} {H : am_H} (hS : xS h b T a H) (e : j304_59 N h b rc w1 w3 q4 q5 q6 q7 a = some z) : am_E sL sx am_cs 304 59 [(0, .ref 157), (1, .int w1), (3, .int w3), (4, .int q4), (5, .int q5), (6, .int q6), (7, .int q7)] [] H R F := by
  unfold j304_59 at e
  refine ex_s (am_nb (m := 2) (pc1 := 63) (ls1 := [(0, .ref 157), (1, .int w1), (3, .int w3), (4, .int q4), (5, .int q5), (6, .int q6), (7, .int q7)]) (st1 := [.int 59, .int q7]) (H1 := H) (k1 := 0) (n1 := 0) (by with_unfolding_all rfl)) ?_
  refine ex_s (st_icmp rfl) ?_
  by_cases c23 : q7 = 59
  · have e := (if_pos c23).symm.trans e
    refine ex_pc (if_pos c23) ?_
    refine ex_s (am_nb (m := 1) (pc1 := 68) (ls1 := [(0, .ref 157), (1, .int w1), (3, .int w3), (4, .int q4), (5, .int q5), (6, .int q6), (7, .int q7)]) (st1 := [.int q5]) (H1 := H) (k1 := 0) (n1 := 0) (by with_unfolding_all rfl)) ?_
    refine ex_s (st_if rfl) ?_
    by_cases c29 : q5 = 0
    · have e := (if_pos c29).symm.trans e
      refine ex_pc (if_pos c29) ?_
      cases e
      exact le_E (l1 := [(4, .int q4), (6, .int q6)]) ⟨rfl, rfl, trivial⟩ rfl (k0 rfl H hS)
    · have e := (if_neg c29).symm.trans e
      refine ex_pc (if_neg c29) ?_
      exact le_E (l1 := [(0, .ref 157), (1, .int w1), (3, .int w3), (4, .int q4), (5, .int q5), (6, .int q6), (7, .int q7)]) ⟨rfl, rfl, rfl, rfl, rfl, rfl, rfl, trivial⟩ rfl (tj304_71 k0 k1 ih  hS e)
  · have e := (if_neg c23).symm.trans e
    refine ex_pc (if_neg c23) ?_
    exact le_E (l1 := [(0, .ref 157), (1, .int w1), (3, .int w3), (4, .int q4), (5, .int q5), (6, .int q6), (7, .int q7)]) ⟨rfl, rfl, rfl, rfl, rfl, rfl, rfl, trivial⟩ rfl (tj304_71 k0 k1 ih  hS e)

set_option maxRecDepth 100000 in
theorem tl304_6 {sL : Nat} {sx : Nat → Int32} {h b N : Nat} {T : List am_C} {R : Option Value} {F : am_H → Prop} {w1 : Int32} {w3 : Int32} {z : Nat × Int32 × Int32 × xA} (k0 : z.1 = 0 → ∀ H2 : am_H, xS h b T z.2.2.2 H2 → am_E sL sx am_cs 304 87 [(4, .int z.2.1), (6, .int z.2.2.1)] [] H2 R F) (k1 : z.1 = 1 → ∀ H2 : am_H, xS h b T z.2.2.2 H2 → am_E sL sx am_cs 304 113 [(4, .int z.2.1)] [] H2 R F) : ∀ (n : Nat) (v4 : Int32) (v5 : Int32) (a : xA) (H : am_H), xS h b T a H → l304_6 N h b w1 w3 n v4 v5 a = some z → am_E sL sx am_cs 304 6 [(0, .ref 157), (1, .int w1), (3, .int w3), (4, .int v4), (5, .int v5)] [] H R F := by
  intro n
  induction n with
  | zero =>
    intro v4 v5 a H hS e
    cases e
  | succ n ih =>
    intro v4 v5 a H hS e
    unfold l304_6 at e
    refine ex_s (am_nb (m := 2) (pc1 := 9) (ls1 := [(0, .ref 157), (1, .int w1), (3, .int w3), (4, .int v4), (5, .int v5)]) (st1 := [.ref 157, .int v4]) (H1 := H) (k1 := 0) (n1 := 0) (by with_unfolding_all rfl)) ?_
    refine xe_get (v := .ref 166) hS rfl rfl (by decide) rfl ?_
    refine ex_s (am_nb (m := 1) (pc1 := 13) (ls1 := [(0, .ref 157), (1, .int w1), (3, .int w3), (4, .int v4), (5, .int v5)]) (st1 := [.int w1, .ref 166, .int v4]) (H1 := H) (k1 := 0) (n1 := 0) (by with_unfolding_all rfl)) ?_
    obtain ⟨g1, e⟩ := xg_some e
    refine xe_iald hS rfl rfl g1 ?_
    refine ex_s (st_icmp rfl) ?_
    by_cases c2 : (a 166 (w1.toNatClampNeg)) ≤ v4
    · have e := (if_pos c2).symm.trans e
      refine ex_pc (if_pos c2) ?_
      cases e
      exact le_E (l1 := [(4, .int v4)]) ⟨rfl, trivial⟩ rfl (k1 rfl H hS)
    · have e := (if_neg c2).symm.trans e
      refine ex_pc (if_neg c2) ?_
      refine ex_s (am_nb (m := 3) (pc1 := 21) (ls1 := [(0, .ref 157), (1, .int w1), (3, .int w3), (4, .int v4), (5, .int v5)]) (st1 := [.int v4, .int w1, .ref 157]) (H1 := H) (k1 := 0) (n1 := 0) (by with_unfolding_all rfl)) ?_
      obtain ⟨r6, a7, e5, e⟩ := xb2_some e
      refine ex_cv1 (as := [.int w1, .int v4]) (rest := []) rfl rfl rfl rfl (hS.obj rfl (by decide)) rfl (by with_unfolding_all rfl) (by with_unfolding_all rfl) (tf287_item hS e5) (fun H3 s4 => ?_)
      refine ex_s (am_nb (m := 4) (pc1 := 30) (ls1 := [(6, .int r6), (0, .ref 157), (1, .int w1), (3, .int w3), (4, .int v4), (5, .int v5)]) (st1 := [.int v4, .int w1, .ref 157]) (H1 := H3) (k1 := 0) (n1 := 0) (by with_unfolding_all rfl)) ?_
      obtain ⟨r11, a12, e10, e⟩ := xb2_some e
      refine ex_cv1 (as := [.int w1, .int v4]) (rest := []) rfl rfl rfl rfl (s4.obj rfl (by decide)) rfl (by with_unfolding_all rfl) (by with_unfolding_all rfl) (tf288_byteOf s4 e10) (fun H8 s9 => ?_)
      refine ex_s (am_nb (m := 1) (pc1 := 35) (ls1 := [(6, .int r6), (0, .ref 157), (1, .int w1), (3, .int w3), (4, .int v4), (5, .int v5)]) (st1 := [.int 37, .int r11]) (H1 := H8) (k1 := 0) (n1 := 0) (by with_unfolding_all rfl)) ?_
      refine ex_s (st_icmp rfl) ?_
      by_cases c13 : r11 = 37
      · have e := (if_pos c13).symm.trans e
        refine ex_pc (if_pos c13) ?_
        refine ex_s (am_nb (m := 5) (pc1 := 44) (ls1 := [(6, .int r6), (0, .ref 157), (1, .int w1), (3, .int w3), (4, .int v4), (5, .int v5)]) (st1 := [.int (v4 + 1), .int w1, .ref 157]) (H1 := H8) (k1 := 0) (n1 := 0) (by with_unfolding_all rfl)) ?_
        obtain ⟨r17, a18, e16, e⟩ := xb2_some e
        refine ex_cv1 (as := [.int w1, .int (v4 + 1)]) (rest := []) rfl rfl rfl rfl (s9.obj rfl (by decide)) rfl (by with_unfolding_all rfl) (by with_unfolding_all rfl) (tf288_byteOf s9 e16) (fun H14 s15 => ?_)
        refine ex_s (am_nb (m := 3) (pc1 := 53) (ls1 := [(7, .int r17), (6, .int r6), (0, .ref 157), (1, .int w1), (3, .int w3), (4, .int v4), (5, .int v5)]) (st1 := [.int 63, .int r17]) (H1 := H14) (k1 := 0) (n1 := 0) (by with_unfolding_all rfl)) ?_
        refine ex_s (st_icmp rfl) ?_
        by_cases c20 : r17 = 63
        · have e := (if_pos c20).symm.trans e
          refine ex_pc (if_pos c20) ?_
          refine ex_s (am_nb (m := 1) (pc1 := 59) (ls1 := [(5, .int (v5 + 1)), (7, .int r17), (6, .int r6), (0, .ref 157), (1, .int w1), (3, .int w3), (4, .int v4)]) (st1 := []) (H1 := H14) (k1 := 0) (n1 := 0) (by with_unfolding_all rfl)) ?_
          exact le_E (l1 := [(0, .ref 157), (1, .int w1), (3, .int w3), (4, .int v4), (5, .int (v5 + 1)), (6, .int r6), (7, .int r17)]) ⟨rfl, rfl, rfl, rfl, rfl, rfl, rfl, trivial⟩ rfl (tj304_59 k0 k1 ih  s15 e)
        · have e := (if_neg c20).symm.trans e
          refine ex_pc (if_neg c20) ?_
          exact le_E (l1 := [(0, .ref 157), (1, .int w1), (3, .int w3), (4, .int v4), (5, .int v5), (6, .int r6), (7, .int r17)]) ⟨rfl, rfl, rfl, rfl, rfl, rfl, rfl, trivial⟩ rfl (tj304_59 k0 k1 ih  s15 e)
      · have e := (if_neg c13).symm.trans e
        refine ex_pc (if_neg c13) ?_
        exact le_E (l1 := [(0, .ref 157), (1, .int w1), (3, .int w3), (4, .int v4), (5, .int v5), (6, .int r6)]) ⟨rfl, rfl, rfl, rfl, rfl, rfl, trivial⟩ rfl (tj304_103 k0 k1 ih  s9 e)

set_option maxRecDepth 100000 in
theorem tj304_87 {sL : Nat} {sx : Nat → Int32} {h b N : Nat} {T : List am_C} {r : Int32} {a' : xA} {q4 : Int32} {q6 : Int32} {a : xA} {H : am_H} (hS : xS h b T a H) (e : j304_87 N h b q4 q6 a = some (r, a')) : am_E sL sx am_cs 304 87 [(4, .int q4), (6, .int q6)] [] H (some (.int r)) (fun H1 => xS h b T a' H1) := by
  unfold j304_87 at e
  refine ex_s (am_nb (m := 3) (pc1 := 92) (ls1 := [(4, .int q4), (6, .int q6)]) (st1 := [.int (q4 + q6)]) (H1 := H) (k1 := 0) (n1 := 0) (by with_unfolding_all rfl)) ?_
  cases e
  exact ex_r (st_iret rfl rfl rfl) hS

set_option maxRecDepth 100000 in
theorem tf304_past {sL : Nat} {sx : Nat → Int32} {h b N : Nat} {T : List am_C} {r : Int32} {a' : xA} {x0 : Int32} {x1 : Int32} {x2 : Int32} {a : xA} {H : am_H} (hS : xS h b T a H) (e : f304_past N h b x0 x1 x2 a = some (r, a')) : am_E sL sx am_cs 304 0 [(0, .ref 157), (1, .int x0), (2, .int x1), (3, .int x2)] [] H (some (.int r)) (fun H1 => xS h b T a' H1) := by
  unfold f304_past at e
  refine ex_s (am_nb (m := 4) (pc1 := 6) (ls1 := [(5, .int 0), (4, .int x1), (0, .ref 157), (1, .int x0), (2, .int x1), (3, .int x2)]) (st1 := []) (H1 := H) (k1 := 0) (n1 := 0) (by with_unfolding_all rfl)) ?_
  obtain ⟨z40, e41, e⟩ := Option.bind_eq_some_iff.mp e
  refine le_E (l1 := [(0, .ref 157), (1, .int x0), (3, .int x2), (4, .int x1), (5, .int 0)]) ⟨rfl, rfl, rfl, rfl, rfl, trivial⟩ rfl (tl304_6 (z := z40)  (fun uz40_0 Hz400 sz400 => ?_) (fun uz40_1 Hz401 sz401 => ?_) N x1 0 a H hS e41)
  · have e := (if_pos uz40_0).symm.trans e
    exact le_E (l1 := [(4, .int z40.2.1), (6, .int z40.2.2.1)]) ⟨rfl, rfl, trivial⟩ rfl (tj304_87  sz400 e)
  · have e := (if_neg (show ¬ z40.1 = 0 by rw [uz40_1]; decide)).symm.trans e
    refine ex_s (am_nb (m := 1) (pc1 := 115) (ls1 := [(4, .int z40.2.1)]) (st1 := [.int z40.2.1]) (H1 := Hz401) (k1 := 0) (n1 := 0) (by with_unfolding_all rfl)) ?_
    cases e
    exact ex_r (st_iret rfl rfl rfl) sz401

set_option maxRecDepth 100000 in
theorem tj305_215 {sL : Nat} {sx : Nat → Int32} {h b N : Nat} {T : List am_C} {r : Int32} {a' : xA} {a : xA} {H : am_H} (hS : xS h b T a H) (e : j305_215 N h b a = some (r, a')) : am_E sL sx am_cs 305 215 [] [] H (some (.int r)) (fun H1 => xS h b T a' H1) := by
  unfold j305_215 at e
  refine ex_s (am_nb (m := 2) (pc1 := 220) (ls1 := []) (st1 := [.int 1]) (H1 := H) (k1 := 0) (n1 := 0) (by with_unfolding_all rfl)) ?_
  cases e
  exact ex_r (st_iret rfl rfl rfl) hS

set_option maxRecDepth 100000 in
theorem tf305_works {sL : Nat} {sx : Nat → Int32} {h b N : Nat} {T : List am_C} {r : Int32} {a' : xA} {x0 : Int32} {x1 : Int32} {x2 : Int32} {a : xA} {H : am_H} (hS : xS h b T a H) (e : f305_works N h b x0 x1 x2 a = some (r, a')) : am_E sL sx am_cs 305 0 [(0, .int x0), (1, .int x1), (2, .int x2)] [] H (some (.int r)) (fun H1 => xS h b T a' H1) := by
  unfold f305_works at e
  refine ex_s (am_nb (m := 1) (pc1 := 1) (ls1 := [(0, .int x0), (1, .int x1), (2, .int x2)]) (st1 := [.int x0]) (H1 := H) (k1 := 0) (n1 := 0) (by with_unfolding_all rfl)) ?_
  refine ex_s (st_lsw rfl) ?_
  by_cases c1 : x0 = 38
  · have e := (if_pos c1).symm.trans e
    refine ex_pc (pc1 := 148) (by rw [c1]; with_unfolding_all rfl) ?_
    refine ex_s (am_nb (m := 3) (pc1 := 151) (ls1 := [(0, .int x0), (1, .int x1), (2, .int x2)]) (st1 := [.int (x1 &&& x2)]) (H1 := H) (k1 := 0) (n1 := 0) (by with_unfolding_all rfl)) ?_
    cases e
    exact ex_r (st_iret rfl rfl rfl) hS
  · have e := (if_neg c1).symm.trans e
    by_cases c2 : x0 = 42
    · have e := (if_pos c2).symm.trans e
      refine ex_pc (pc1 := 116) (by rw [c2]; with_unfolding_all rfl) ?_
      refine ex_s (am_nb (m := 3) (pc1 := 119) (ls1 := [(0, .int x0), (1, .int x1), (2, .int x2)]) (st1 := [.int (x1 * x2)]) (H1 := H) (k1 := 0) (n1 := 0) (by with_unfolding_all rfl)) ?_
      cases e
      exact ex_r (st_iret rfl rfl rfl) hS
    · have e := (if_neg c2).symm.trans e
      by_cases c3 : x0 = 43
      · have e := (if_pos c3).symm.trans e
        refine ex_pc (pc1 := 108) (by rw [c3]; with_unfolding_all rfl) ?_
        refine ex_s (am_nb (m := 3) (pc1 := 111) (ls1 := [(0, .int x0), (1, .int x1), (2, .int x2)]) (st1 := [.int (x1 + x2)]) (H1 := H) (k1 := 0) (n1 := 0) (by with_unfolding_all rfl)) ?_
        cases e
        exact ex_r (st_iret rfl rfl rfl) hS
      · have e := (if_neg c3).symm.trans e
        by_cases c4 : x0 = 45
        · have e := (if_pos c4).symm.trans e
          refine ex_pc (pc1 := 112) (by rw [c4]; with_unfolding_all rfl) ?_
          refine ex_s (am_nb (m := 3) (pc1 := 115) (ls1 := [(0, .int x0), (1, .int x1), (2, .int x2)]) (st1 := [.int (x1 - x2)]) (H1 := H) (k1 := 0) (n1 := 0) (by with_unfolding_all rfl)) ?_
          cases e
          exact ex_r (st_iret rfl rfl rfl) hS
        · have e := (if_neg c4).symm.trans e
          by_cases c5 : x0 = 47
          · have e := (if_pos c5).symm.trans e
            refine ex_pc (pc1 := 120) (by rw [c5]; with_unfolding_all rfl) ?_
            refine ex_s (am_nb (m := 1) (pc1 := 121) (ls1 := [(0, .int x0), (1, .int x1), (2, .int x2)]) (st1 := [.int x2]) (H1 := H) (k1 := 0) (n1 := 0) (by with_unfolding_all rfl)) ?_
            refine ex_s (st_if rfl) ?_
            by_cases c7 : x2 = 0
            · have e := (if_pos c7).symm.trans e
              refine ex_pc (if_pos c7) ?_
              refine ex_s (am_nb (m := 2) (pc1 := 131) (ls1 := [(0, .int x0), (1, .int x1), (2, .int x2)]) (st1 := [.int 0]) (H1 := H) (k1 := 0) (n1 := 0) (by with_unfolding_all rfl)) ?_
              cases e
              exact ex_r (st_iret rfl rfl rfl) hS
            · have e := (if_neg c7).symm.trans e
              refine ex_pc (if_neg c7) ?_
              refine ex_s (am_nb (m := 2) (pc1 := 130) (ls1 := [(0, .int x0), (1, .int x1), (2, .int x2)]) (st1 := [.int x2, .int x1]) (H1 := H) (k1 := 0) (n1 := 0) (by with_unfolding_all rfl)) ?_
              refine ex_s (st_idiv rfl c7) ?_
              cases e
              exact ex_r (st_iret rfl rfl rfl) hS
          · have e := (if_neg c5).symm.trans e
            by_cases c8 : x0 = 60
            · have e := (if_pos c8).symm.trans e
              refine ex_pc (pc1 := 171) (by rw [c8]; with_unfolding_all rfl) ?_
              refine ex_s (am_nb (m := 2) (pc1 := 173) (ls1 := [(0, .int x0), (1, .int x1), (2, .int x2)]) (st1 := [.int x2, .int x1]) (H1 := H) (k1 := 0) (n1 := 0) (by with_unfolding_all rfl)) ?_
              have kk : am_E sL sx am_cs 305 181 [(0, .int x0), (1, .int x1), (2, .int x2)] [.int (if x2 ≤ x1 then (0 : Int32) else (1 : Int32))] H (some (.int r)) (fun H1 => xS h b T a' H1) := by
                cases e
                exact ex_r (st_iret rfl rfl rfl) hS
              refine ex_s (st_icmp rfl) ?_
              by_cases c9 : x2 ≤ x1
              · refine ex_pc (if_pos c9) ?_
                refine ex_s (am_nb (m := 1) (pc1 := 181) (ls1 := [(0, .int x0), (1, .int x1), (2, .int x2)]) (st1 := [.int 0]) (H1 := H) (k1 := 0) (n1 := 0) (by with_unfolding_all rfl)) ?_
                rw [if_pos c9] at kk
                exact kk
              · refine ex_pc (if_neg c9) ?_
                refine ex_s (am_nb (m := 2) (pc1 := 181) (ls1 := [(0, .int x0), (1, .int x1), (2, .int x2)]) (st1 := [.int 1]) (H1 := H) (k1 := 0) (n1 := 0) (by with_unfolding_all rfl)) ?_
                rw [if_neg c9] at kk
                exact kk
            · have e := (if_neg c8).symm.trans e
              by_cases c10 : x0 = 61
              · have e := (if_pos c10).symm.trans e
                refine ex_pc (pc1 := 160) (by rw [c10]; with_unfolding_all rfl) ?_
                refine ex_s (am_nb (m := 2) (pc1 := 162) (ls1 := [(0, .int x0), (1, .int x1), (2, .int x2)]) (st1 := [.int x2, .int x1]) (H1 := H) (k1 := 0) (n1 := 0) (by with_unfolding_all rfl)) ?_
                have kk : am_E sL sx am_cs 305 170 [(0, .int x0), (1, .int x1), (2, .int x2)] [.int (if x1 = x2 then (1 : Int32) else (0 : Int32))] H (some (.int r)) (fun H1 => xS h b T a' H1) := by
                  cases e
                  exact ex_r (st_iret rfl rfl rfl) hS
                refine ex_s (st_icmp rfl) ?_
                by_cases c11 : x1 = x2
                · refine ex_pc (if_pos c11) ?_
                  refine ex_s (am_nb (m := 2) (pc1 := 170) (ls1 := [(0, .int x0), (1, .int x1), (2, .int x2)]) (st1 := [.int 1]) (H1 := H) (k1 := 0) (n1 := 0) (by with_unfolding_all rfl)) ?_
                  rw [if_pos c11] at kk
                  exact kk
                · refine ex_pc (if_neg c11) ?_
                  refine ex_s (am_nb (m := 1) (pc1 := 170) (ls1 := [(0, .int x0), (1, .int x1), (2, .int x2)]) (st1 := [.int 0]) (H1 := H) (k1 := 0) (n1 := 0) (by with_unfolding_all rfl)) ?_
                  rw [if_neg c11] at kk
                  exact kk
              · have e := (if_neg c10).symm.trans e
                by_cases c12 : x0 = 62
                · have e := (if_pos c12).symm.trans e
                  refine ex_pc (pc1 := 182) (by rw [c12]; with_unfolding_all rfl) ?_
                  refine ex_s (am_nb (m := 2) (pc1 := 184) (ls1 := [(0, .int x0), (1, .int x1), (2, .int x2)]) (st1 := [.int x2, .int x1]) (H1 := H) (k1 := 0) (n1 := 0) (by with_unfolding_all rfl)) ?_
                  have kk : am_E sL sx am_cs 305 192 [(0, .int x0), (1, .int x1), (2, .int x2)] [.int (if x1 ≤ x2 then (0 : Int32) else (1 : Int32))] H (some (.int r)) (fun H1 => xS h b T a' H1) := by
                    cases e
                    exact ex_r (st_iret rfl rfl rfl) hS
                  refine ex_s (st_icmp rfl) ?_
                  by_cases c13 : x1 ≤ x2
                  · refine ex_pc (if_pos c13) ?_
                    refine ex_s (am_nb (m := 1) (pc1 := 192) (ls1 := [(0, .int x0), (1, .int x1), (2, .int x2)]) (st1 := [.int 0]) (H1 := H) (k1 := 0) (n1 := 0) (by with_unfolding_all rfl)) ?_
                    rw [if_pos c13] at kk
                    exact kk
                  · refine ex_pc (if_neg c13) ?_
                    refine ex_s (am_nb (m := 2) (pc1 := 192) (ls1 := [(0, .int x0), (1, .int x1), (2, .int x2)]) (st1 := [.int 1]) (H1 := H) (k1 := 0) (n1 := 0) (by with_unfolding_all rfl)) ?_
                    rw [if_neg c13] at kk
                    exact kk
                · have e := (if_neg c12).symm.trans e
                  by_cases c14 : x0 = 65
                  · have e := (if_pos c14).symm.trans e
                    refine ex_pc (pc1 := 193) (by rw [c14]; with_unfolding_all rfl) ?_
                    refine ex_s (am_nb (m := 1) (pc1 := 194) (ls1 := [(0, .int x0), (1, .int x1), (2, .int x2)]) (st1 := [.int x1]) (H1 := H) (k1 := 0) (n1 := 0) (by with_unfolding_all rfl)) ?_
                    refine ex_s (st_if rfl) ?_
                    by_cases c17 : x1 = 0
                    · have e := (if_pos c17).symm.trans e
                      refine ex_pc (if_pos c17) ?_
                      refine ex_s (am_nb (m := 1) (pc1 := 206) (ls1 := [(0, .int x0), (1, .int x1), (2, .int x2)]) (st1 := [.int 0]) (H1 := H) (k1 := 0) (n1 := 0) (by with_unfolding_all rfl)) ?_
                      cases e
                      exact ex_r (st_iret rfl rfl rfl) hS
                    · have e := (if_neg c17).symm.trans e
                      refine ex_pc (if_neg c17) ?_
                      refine ex_s (am_nb (m := 1) (pc1 := 198) (ls1 := [(0, .int x0), (1, .int x1), (2, .int x2)]) (st1 := [.int x2]) (H1 := H) (k1 := 0) (n1 := 0) (by with_unfolding_all rfl)) ?_
                      have kk : am_E sL sx am_cs 305 206 [(0, .int x0), (1, .int x1), (2, .int x2)] [.int (if x2 = 0 then (0 : Int32) else (1 : Int32))] H (some (.int r)) (fun H1 => xS h b T a' H1) := by
                        cases e
                        exact ex_r (st_iret rfl rfl rfl) hS
                      refine ex_s (st_if rfl) ?_
                      by_cases c18 : x2 = 0
                      · refine ex_pc (if_pos c18) ?_
                        refine ex_s (am_nb (m := 1) (pc1 := 206) (ls1 := [(0, .int x0), (1, .int x1), (2, .int x2)]) (st1 := [.int 0]) (H1 := H) (k1 := 0) (n1 := 0) (by with_unfolding_all rfl)) ?_
                        rw [if_pos c18] at kk
                        exact kk
                      · refine ex_pc (if_neg c18) ?_
                        refine ex_s (am_nb (m := 2) (pc1 := 206) (ls1 := [(0, .int x0), (1, .int x1), (2, .int x2)]) (st1 := [.int 1]) (H1 := H) (k1 := 0) (n1 := 0) (by with_unfolding_all rfl)) ?_
                        rw [if_neg c18] at kk
                        exact kk
                  · have e := (if_neg c14).symm.trans e
                    by_cases c19 : x0 = 94
                    · have e := (if_pos c19).symm.trans e
                      refine ex_pc (pc1 := 156) (by rw [c19]; with_unfolding_all rfl) ?_
                      refine ex_s (am_nb (m := 3) (pc1 := 159) (ls1 := [(0, .int x0), (1, .int x1), (2, .int x2)]) (st1 := [.int (x1 ^^^ x2)]) (H1 := H) (k1 := 0) (n1 := 0) (by with_unfolding_all rfl)) ?_
                      cases e
                      exact ex_r (st_iret rfl rfl rfl) hS
                    · have e := (if_neg c19).symm.trans e
                      by_cases c20 : x0 = 109
                      · have e := (if_pos c20).symm.trans e
                        refine ex_pc (pc1 := 132) (by rw [c20]; with_unfolding_all rfl) ?_
                        refine ex_s (am_nb (m := 1) (pc1 := 133) (ls1 := [(0, .int x0), (1, .int x1), (2, .int x2)]) (st1 := [.int x2]) (H1 := H) (k1 := 0) (n1 := 0) (by with_unfolding_all rfl)) ?_
                        refine ex_s (st_if rfl) ?_
                        by_cases c22 : x2 = 0
                        · have e := (if_pos c22).symm.trans e
                          refine ex_pc (if_pos c22) ?_
                          refine ex_s (am_nb (m := 2) (pc1 := 147) (ls1 := [(0, .int x0), (1, .int x1), (2, .int x2)]) (st1 := [.int 0]) (H1 := H) (k1 := 0) (n1 := 0) (by with_unfolding_all rfl)) ?_
                          cases e
                          exact ex_r (st_iret rfl rfl rfl) hS
                        · have e := (if_neg c22).symm.trans e
                          refine ex_pc (if_neg c22) ?_
                          refine ex_s (am_nb (m := 3) (pc1 := 143) (ls1 := [(0, .int x0), (1, .int x1), (2, .int x2)]) (st1 := [.int x2, .int x1, .int x1]) (H1 := H) (k1 := 0) (n1 := 0) (by with_unfolding_all rfl)) ?_
                          refine ex_s (st_idiv rfl c22) ?_
                          refine ex_s (am_nb (m := 3) (pc1 := 147) (ls1 := [(0, .int x0), (1, .int x1), (2, .int x2)]) (st1 := [.int (x1 - ((x1 / x2) * x2))]) (H1 := H) (k1 := 0) (n1 := 0) (by with_unfolding_all rfl)) ?_
                          cases e
                          exact ex_r (st_iret rfl rfl rfl) hS
                      · have e := (if_neg c20).symm.trans e
                        by_cases c23 : x0 = 124
                        · have e := (if_pos c23).symm.trans e
                          refine ex_pc (pc1 := 152) (by rw [c23]; with_unfolding_all rfl) ?_
                          refine ex_s (am_nb (m := 3) (pc1 := 155) (ls1 := [(0, .int x0), (1, .int x1), (2, .int x2)]) (st1 := [.int (x1 ||| x2)]) (H1 := H) (k1 := 0) (n1 := 0) (by with_unfolding_all rfl)) ?_
                          cases e
                          exact ex_r (st_iret rfl rfl rfl) hS
                        · have e := (if_neg c23).symm.trans e
                          refine ex_pc (pc1 := 207) (am_sw_n (sw_c (Or.inl c1) (sw_c (Or.inl c2) (sw_c (Or.inl c3) (sw_c (Or.inl c4) (sw_c (Or.inl c5) (sw_c (Or.inl c8) (sw_c (Or.inl c10) (sw_c (Or.inl c12) (sw_c (Or.inl c14) (sw_c (Or.inl c19) (sw_c (Or.inl c20) (sw_c (Or.inl c23) sw_o))))))))))))) ?_
                          refine ex_s (am_nb (m := 1) (pc1 := 208) (ls1 := [(0, .int x0), (1, .int x1), (2, .int x2)]) (st1 := [.int x1]) (H1 := H) (k1 := 0) (n1 := 0) (by with_unfolding_all rfl)) ?_
                          refine ex_s (st_if rfl) ?_
                          by_cases c26 : x1 = 0
                          · have e := (if_pos c26).symm.trans e
                            refine ex_pc (if_pos c26) ?_
                            refine ex_s (am_nb (m := 1) (pc1 := 212) (ls1 := [(0, .int x0), (1, .int x1), (2, .int x2)]) (st1 := [.int x2]) (H1 := H) (k1 := 0) (n1 := 0) (by with_unfolding_all rfl)) ?_
                            have kk : am_E sL sx am_cs 305 220 [(0, .int x0), (1, .int x1), (2, .int x2)] [.int (if x2 = 0 then (0 : Int32) else (1 : Int32))] H (some (.int r)) (fun H1 => xS h b T a' H1) := by
                              cases e
                              exact ex_r (st_iret rfl rfl rfl) hS
                            refine ex_s (st_if rfl) ?_
                            by_cases c27 : x2 = 0
                            · refine ex_pc (if_pos c27) ?_
                              refine ex_s (am_nb (m := 1) (pc1 := 220) (ls1 := [(0, .int x0), (1, .int x1), (2, .int x2)]) (st1 := [.int 0]) (H1 := H) (k1 := 0) (n1 := 0) (by with_unfolding_all rfl)) ?_
                              rw [if_pos c27] at kk
                              exact kk
                            · refine ex_pc (if_neg c27) ?_
                              refine ex_s (am_nb (m := 2) (pc1 := 220) (ls1 := [(0, .int x0), (1, .int x1), (2, .int x2)]) (st1 := [.int 1]) (H1 := H) (k1 := 0) (n1 := 0) (by with_unfolding_all rfl)) ?_
                              rw [if_neg c27] at kk
                              exact kk
                          · have e := (if_neg c26).symm.trans e
                            refine ex_pc (if_neg c26) ?_
                            exact le_E (l1 := []) trivial rfl (tj305_215  hS e)

set_option maxRecDepth 100000 in
theorem tj299_567 {sL : Nat} {sx : Nat → Int32} {h b N : Nat} {T : List am_C} {R : Option Value} {F : am_H → Prop} {w4 : Int32} {w5 : Int32} {w6 : Int32} {z : Nat × xA} {rc : Int32 → Int32 → Int32 → xA → Option (Nat × xA)} (k0 : z.1 = 0 → ∀ H2 : am_H, xS h b T z.2 H2 → am_E sL sx am_cs 299 574 [] [] H2 R F) (ih : ∀ (v7 : Int32) (v8 : Int32) (v9 : Int32) (a : xA) (H : am_H), xS h b T a H → rc v7 v8 v9 a = some z → am_E sL sx am_cs 299 39 [(0, .ref 157), (4, .int w4), (5, .int w5), (6, .int w6), (7, .int v7), (8, .int v8), (9, .int v9)] [] H R F) {q7 : Int32} {q8 : Int32} {q12 : Int32} {a : xA} {H : am_H} (hS : xS h b T a H) (e : j299_567 N h b rc w4 w5 w6 q7 q8 q12 a = some z) : am_E sL sx am_cs 299 567 [(0, .ref 157), (4, .int w4), (5, .int w5), (6, .int w6), (7, .int q7), (8, .int q8), (12, .int q12)] [] H R F := by
  unfold j299_567 at e
  refine ex_s (am_nb (m := 3) (pc1 := 39) (ls1 := [(9, .int q12), (0, .ref 157), (4, .int w4), (5, .int w5), (6, .int w6), (7, .int q7), (8, .int q8), (12, .int q12)]) (st1 := []) (H1 := H) (k1 := 0) (n1 := 0) (by with_unfolding_all rfl)) ?_
  exact le_E (l1 := [(0, .ref 157), (4, .int w4), (5, .int w5), (6, .int w6), (7, .int q7), (8, .int q8), (9, .int q12)]) ⟨rfl, rfl, rfl, rfl, rfl, rfl, rfl, trivial⟩ rfl (ih q7 q8 q12 a H hS e)

set_option maxRecDepth 100000 in
theorem tl299_351 {sL : Nat} {sx : Nat → Int32} {h b N : Nat} {T : List am_C} {R : Option Value} {F : am_H → Prop} {w4 : Int32} {w5 : Int32} {w6 : Int32} {w7 : Int32} {w8 : Int32} {w12 : Int32} {z : Nat × Int32 × xA} (k0 : z.1 = 0 → ∀ H2 : am_H, xS h b T z.2.2 H2 → am_E sL sx am_cs 299 389 [(0, .ref 157), (4, .int w4), (5, .int w5), (6, .int w6), (7, .int w7), (8, .int w8), (12, .int w12), (13, .int z.2.1)] [] H2 R F) : ∀ (n : Nat) (v13 : Int32) (v14 : Int32) (a : xA) (H : am_H), xS h b T a H → l299_351 N h b w4 w5 w6 w7 w8 w12 n v13 v14 a = some z → am_E sL sx am_cs 299 351 [(0, .ref 157), (4, .int w4), (5, .int w5), (6, .int w6), (7, .int w7), (8, .int w8), (12, .int w12), (13, .int v13), (14, .int v14)] [] H R F := by
  intro n
  induction n with
  | zero =>
    intro v13 v14 a H hS e
    cases e
  | succ n ih =>
    intro v13 v14 a H hS e
    unfold l299_351 at e
    refine ex_s (am_nb (m := 3) (pc1 := 356) (ls1 := [(0, .ref 157), (4, .int w4), (5, .int w5), (6, .int w6), (7, .int w7), (8, .int w8), (12, .int w12), (13, .int v13), (14, .int v14)]) (st1 := [.int v14, .int w6, .ref 157]) (H1 := H) (k1 := 0) (n1 := 0) (by with_unfolding_all rfl)) ?_
    obtain ⟨r150, a151, e149, e⟩ := xb2_some e
    refine ex_cv1 (as := [.int w6, .int v14]) (rest := []) rfl rfl rfl rfl (hS.obj rfl (by decide)) rfl (by with_unfolding_all rfl) (by with_unfolding_all rfl) (tf288_byteOf hS e149) (fun H147 s148 => ?_)
    refine ex_s (am_nb (m := 1) (pc1 := 361) (ls1 := [(0, .ref 157), (4, .int w4), (5, .int w5), (6, .int w6), (7, .int w7), (8, .int w8), (12, .int w12), (13, .int v13), (14, .int v14)]) (st1 := [.int 125, .int r150]) (H1 := H147) (k1 := 0) (n1 := 0) (by with_unfolding_all rfl)) ?_
    refine ex_s (st_icmp rfl) ?_
    by_cases c152 : r150 = 125
    · have e := (if_pos c152).symm.trans e
      refine ex_pc (if_pos c152) ?_
      cases e
      exact le_E (l1 := [(0, .ref 157), (4, .int w4), (5, .int w5), (6, .int w6), (7, .int w7), (8, .int w8), (12, .int w12), (13, .int v13)]) ⟨rfl, rfl, rfl, rfl, rfl, rfl, rfl, rfl, trivial⟩ rfl (k0 rfl H147 s148)
    · have e := (if_neg c152).symm.trans e
      refine ex_pc (if_neg c152) ?_
      refine ex_s (am_nb (m := 6) (pc1 := 374) (ls1 := [(0, .ref 157), (4, .int w4), (5, .int w5), (6, .int w6), (7, .int w7), (8, .int w8), (12, .int w12), (13, .int v13), (14, .int v14)]) (st1 := [.int v14, .int w6, .ref 157, .int (10 * v13)]) (H1 := H147) (k1 := 0) (n1 := 0) (by with_unfolding_all rfl)) ?_
      obtain ⟨r156, a157, e155, e⟩ := xb2_some e
      refine ex_cv1 (as := [.int w6, .int v14]) (rest := [.int (10 * v13)]) rfl rfl rfl rfl (s148.obj rfl (by decide)) rfl (by with_unfolding_all rfl) (by with_unfolding_all rfl) (tf288_byteOf s148 e155) (fun H153 s154 => ?_)
      refine ex_s (am_nb (m := 6) (pc1 := 351) (ls1 := [(14, .int (v14 + 1)), (13, .int (((10 * v13) + r156) - 48)), (0, .ref 157), (4, .int w4), (5, .int w5), (6, .int w6), (7, .int w7), (8, .int w8), (12, .int w12)]) (st1 := []) (H1 := H153) (k1 := 0) (n1 := 0) (by with_unfolding_all rfl)) ?_
      exact le_E (l1 := [(0, .ref 157), (4, .int w4), (5, .int w5), (6, .int w6), (7, .int w7), (8, .int w8), (12, .int w12), (13, .int (((10 * v13) + r156) - 48)), (14, .int (v14 + 1))]) ⟨rfl, rfl, rfl, rfl, rfl, rfl, rfl, rfl, rfl, trivial⟩ rfl (ih (((10 * v13) + r156) - 48) (v14 + 1) a157 H153 s154 e)

set_option maxRecDepth 100000 in
theorem tj299_88 {sL : Nat} {sx : Nat → Int32} {h b N : Nat} {T : List am_C} {R : Option Value} {F : am_H → Prop} {w4 : Int32} {w5 : Int32} {w6 : Int32} {z : Nat × xA} {rc : Int32 → Int32 → Int32 → xA → Option (Nat × xA)} (k0 : z.1 = 0 → ∀ H2 : am_H, xS h b T z.2 H2 → am_E sL sx am_cs 299 574 [] [] H2 R F) (ih : ∀ (v7 : Int32) (v8 : Int32) (v9 : Int32) (a : xA) (H : am_H), xS h b T a H → rc v7 v8 v9 a = some z → am_E sL sx am_cs 299 39 [(0, .ref 157), (4, .int w4), (5, .int w5), (6, .int w6), (7, .int v7), (8, .int v8), (9, .int v9)] [] H R F) {q7 : Int32} {q8 : Int32} {q9 : Int32} {q10 : Int32} {t0 : Int32} {a : xA} {H : am_H} (hS : xS h b T a H) (e : j299_88 N h b rc w4 w5 w6 q7 q8 q9 q10 t0 a = some z) : am_E sL sx am_cs 299 88 [(0, .ref 157), (4, .int w4), (5, .int w5), (6, .int w6), (7, .int q7), (8, .int q8), (9, .int q9), (10, .int q10)] [.int t0] H R F := by
  unfold j299_88 at e
  refine ex_s (am_nb (m := 6) (pc1 := 99) (ls1 := [(12, .int (q9 + q10)), (11, .int t0), (0, .ref 157), (4, .int w4), (5, .int w5), (6, .int w6), (7, .int q7), (8, .int q8), (9, .int q9), (10, .int q10)]) (st1 := [.int t0]) (H1 := H) (k1 := 0) (n1 := 0) (by with_unfolding_all rfl)) ?_
  refine ex_s (st_lsw rfl) ?_
  by_cases c32 : t0 = (-1)
  · have e := (if_pos c32).symm.trans e
    refine ex_pc (pc1 := 244) (by rw [c32]; with_unfolding_all rfl) ?_
    refine ex_s (am_nb (m := 4) (pc1 := 250) (ls1 := [(12, .int (q9 + q10)), (11, .int t0), (0, .ref 157), (4, .int w4), (5, .int w5), (6, .int w6), (7, .int q7), (8, .int q8), (9, .int q9), (10, .int q10)]) (st1 := [.int q9, .int w6, .ref 157, .ref 157]) (H1 := H) (k1 := 0) (n1 := 0) (by with_unfolding_all rfl)) ?_
    obtain ⟨r36, a37, e35, e⟩ := xb2_some e
    refine ex_cv1 (as := [.int w6, .int q9]) (rest := [.ref 157]) rfl rfl rfl rfl (hS.obj rfl (by decide)) rfl (by with_unfolding_all rfl) (by with_unfolding_all rfl) (tf288_byteOf hS e35) (fun H33 s34 => ?_)
    obtain ⟨a41, e40, e⟩ := xb1_some e
    refine ex_cv0 (as := [.int r36]) (rest := []) rfl rfl rfl rfl (s34.obj rfl (by decide)) rfl (by with_unfolding_all rfl) (by with_unfolding_all rfl) (tf300_says s34 e40) (fun H38 s39 => ?_)
    refine ex_s (am_nb (m := 1) (pc1 := 567) (ls1 := [(12, .int (q9 + q10)), (11, .int t0), (0, .ref 157), (4, .int w4), (5, .int w5), (6, .int w6), (7, .int q7), (8, .int q8), (9, .int q9), (10, .int q10)]) (st1 := []) (H1 := H38) (k1 := 0) (n1 := 0) (by with_unfolding_all rfl)) ?_
    exact le_E (l1 := [(0, .ref 157), (4, .int w4), (5, .int w5), (6, .int w6), (7, .int q7), (8, .int q8), (12, .int (q9 + q10))]) ⟨rfl, rfl, rfl, rfl, rfl, rfl, rfl, trivial⟩ rfl (tj299_567 k0 ih  s39 e)
  · have e := (if_neg c32).symm.trans e
    by_cases c42 : t0 = 33
    · have e := (if_pos c42).symm.trans e
      refine ex_pc (pc1 := 511) (by rw [c42]; with_unfolding_all rfl) ?_
      refine ex_s (am_nb (m := 2) (pc1 := 513) (ls1 := [(12, .int (q9 + q10)), (11, .int t0), (0, .ref 157), (4, .int w4), (5, .int w5), (6, .int w6), (7, .int q7), (8, .int q8), (9, .int q9), (10, .int q10)]) (st1 := [.ref 157, .ref 157]) (H1 := H) (k1 := 0) (n1 := 0) (by with_unfolding_all rfl)) ?_
      obtain ⟨r46, a47, e45, e⟩ := xb2_some e
      refine ex_cv1 (as := []) (rest := [.ref 157]) rfl rfl rfl rfl (hS.obj rfl (by decide)) rfl (by with_unfolding_all rfl) (by with_unfolding_all rfl) (tf302_pop hS e45) (fun H43 s44 => ?_)
      have kk : am_E sL sx am_cs 299 524 [(12, .int (q9 + q10)), (11, .int t0), (0, .ref 157), (4, .int w4), (5, .int w5), (6, .int w6), (7, .int q7), (8, .int q8), (9, .int q9), (10, .int q10)] [.int (if r46 = 0 then (1 : Int32) else (0 : Int32)), .ref 157] H43 R F := by
        obtain ⟨a52, e51, e⟩ := xb1_some e
        refine ex_cv0 (as := [.int (if r46 = 0 then (1 : Int32) else (0 : Int32))]) (rest := []) rfl rfl rfl rfl (s44.obj rfl (by decide)) rfl (by with_unfolding_all rfl) (by with_unfolding_all rfl) (tf301_push s44 e51) (fun H49 s50 => ?_)
        refine ex_s (am_nb (m := 1) (pc1 := 567) (ls1 := [(12, .int (q9 + q10)), (11, .int t0), (0, .ref 157), (4, .int w4), (5, .int w5), (6, .int w6), (7, .int q7), (8, .int q8), (9, .int q9), (10, .int q10)]) (st1 := []) (H1 := H49) (k1 := 0) (n1 := 0) (by with_unfolding_all rfl)) ?_
        exact le_E (l1 := [(0, .ref 157), (4, .int w4), (5, .int w5), (6, .int w6), (7, .int q7), (8, .int q8), (12, .int (q9 + q10))]) ⟨rfl, rfl, rfl, rfl, rfl, rfl, rfl, trivial⟩ rfl (tj299_567 k0 ih  s50 e)
      refine ex_s (st_if rfl) ?_
      by_cases c48 : r46 = 0
      · refine ex_pc (if_pos c48) ?_
        refine ex_s (am_nb (m := 2) (pc1 := 524) (ls1 := [(12, .int (q9 + q10)), (11, .int t0), (0, .ref 157), (4, .int w4), (5, .int w5), (6, .int w6), (7, .int q7), (8, .int q8), (9, .int q9), (10, .int q10)]) (st1 := [.int 1, .ref 157]) (H1 := H43) (k1 := 0) (n1 := 0) (by with_unfolding_all rfl)) ?_
        rw [if_pos c48] at kk
        exact kk
      · refine ex_pc (if_neg c48) ?_
        refine ex_s (am_nb (m := 1) (pc1 := 524) (ls1 := [(12, .int (q9 + q10)), (11, .int t0), (0, .ref 157), (4, .int w4), (5, .int w5), (6, .int w6), (7, .int q7), (8, .int q8), (9, .int q9), (10, .int q10)]) (st1 := [.int 0, .ref 157]) (H1 := H43) (k1 := 0) (n1 := 0) (by with_unfolding_all rfl)) ?_
        rw [if_neg c48] at kk
        exact kk
    · have e := (if_neg c42).symm.trans e
      by_cases c53 : t0 = 37
      · have e := (if_pos c53).symm.trans e
        refine ex_pc (pc1 := 259) (by rw [c53]; with_unfolding_all rfl) ?_
        refine ex_s (am_nb (m := 2) (pc1 := 262) (ls1 := [(12, .int (q9 + q10)), (11, .int t0), (0, .ref 157), (4, .int w4), (5, .int w5), (6, .int w6), (7, .int q7), (8, .int q8), (9, .int q9), (10, .int q10)]) (st1 := [.int 37, .ref 157]) (H1 := H) (k1 := 0) (n1 := 0) (by with_unfolding_all rfl)) ?_
        obtain ⟨a57, e56, e⟩ := xb1_some e
        refine ex_cv0 (as := [.int 37]) (rest := []) rfl rfl rfl rfl (hS.obj rfl (by decide)) rfl (by with_unfolding_all rfl) (by with_unfolding_all rfl) (tf300_says hS e56) (fun H54 s55 => ?_)
        refine ex_s (am_nb (m := 1) (pc1 := 567) (ls1 := [(12, .int (q9 + q10)), (11, .int t0), (0, .ref 157), (4, .int w4), (5, .int w5), (6, .int w6), (7, .int q7), (8, .int q8), (9, .int q9), (10, .int q10)]) (st1 := []) (H1 := H54) (k1 := 0) (n1 := 0) (by with_unfolding_all rfl)) ?_
        exact le_E (l1 := [(0, .ref 157), (4, .int w4), (5, .int w5), (6, .int w6), (7, .int q7), (8, .int q8), (12, .int (q9 + q10))]) ⟨rfl, rfl, rfl, rfl, rfl, rfl, rfl, trivial⟩ rfl (tj299_567 k0 ih  s55 e)
      · have e := (if_neg c53).symm.trans e
        by_cases c58 : t0 = 39
        · have e := (if_pos c58).symm.trans e
          refine ex_pc (pc1 := 325) (by rw [c58]; with_unfolding_all rfl) ?_
          refine ex_s (am_nb (m := 6) (pc1 := 333) (ls1 := [(12, .int (q9 + q10)), (11, .int t0), (0, .ref 157), (4, .int w4), (5, .int w5), (6, .int w6), (7, .int q7), (8, .int q8), (9, .int q9), (10, .int q10)]) (st1 := [.int (q9 + 2), .int w6, .ref 157, .ref 157]) (H1 := H) (k1 := 0) (n1 := 0) (by with_unfolding_all rfl)) ?_
          obtain ⟨r62, a63, e61, e⟩ := xb2_some e
          refine ex_cv1 (as := [.int w6, .int (q9 + 2)]) (rest := [.ref 157]) rfl rfl rfl rfl (hS.obj rfl (by decide)) rfl (by with_unfolding_all rfl) (by with_unfolding_all rfl) (tf288_byteOf hS e61) (fun H59 s60 => ?_)
          obtain ⟨a67, e66, e⟩ := xb1_some e
          refine ex_cv0 (as := [.int r62]) (rest := []) rfl rfl rfl rfl (s60.obj rfl (by decide)) rfl (by with_unfolding_all rfl) (by with_unfolding_all rfl) (tf301_push s60 e66) (fun H64 s65 => ?_)
          refine ex_s (am_nb (m := 1) (pc1 := 567) (ls1 := [(12, .int (q9 + q10)), (11, .int t0), (0, .ref 157), (4, .int w4), (5, .int w5), (6, .int w6), (7, .int q7), (8, .int q8), (9, .int q9), (10, .int q10)]) (st1 := []) (H1 := H64) (k1 := 0) (n1 := 0) (by with_unfolding_all rfl)) ?_
          exact le_E (l1 := [(0, .ref 157), (4, .int w4), (5, .int w5), (6, .int w6), (7, .int q7), (8, .int q8), (12, .int (q9 + q10))]) ⟨rfl, rfl, rfl, rfl, rfl, rfl, rfl, trivial⟩ rfl (tj299_567 k0 ih  s65 e)
        · have e := (if_neg c58).symm.trans e
          by_cases c68 : t0 = 48
          · have e := (if_pos c68).symm.trans e
            refine ex_pc (pc1 := 428) (by rw [c68]; with_unfolding_all rfl) ?_
            refine ex_s (am_nb (m := 2) (pc1 := 430) (ls1 := [(12, .int (q9 + q10)), (11, .int t0), (0, .ref 157), (4, .int w4), (5, .int w5), (6, .int w6), (7, .int q7), (8, .int q8), (9, .int q9), (10, .int q10)]) (st1 := [.ref 157, .ref 157]) (H1 := H) (k1 := 0) (n1 := 0) (by with_unfolding_all rfl)) ?_
            obtain ⟨r72, a73, e71, e⟩ := xb2_some e
            refine ex_cv1 (as := []) (rest := [.ref 157]) rfl rfl rfl rfl (hS.obj rfl (by decide)) rfl (by with_unfolding_all rfl) (by with_unfolding_all rfl) (tf302_pop hS e71) (fun H69 s70 => ?_)
            refine ex_s (am_nb (m := 5) (pc1 := 440) (ls1 := [(12, .int (q9 + q10)), (11, .int t0), (0, .ref 157), (4, .int w4), (5, .int w5), (6, .int w6), (7, .int q7), (8, .int q8), (9, .int q9), (10, .int q10)]) (st1 := [.int (q9 + 2), .int w6, .ref 157, .int r72, .ref 157]) (H1 := H69) (k1 := 0) (n1 := 0) (by with_unfolding_all rfl)) ?_
            obtain ⟨r77, a78, e76, e⟩ := xb2_some e
            refine ex_cv1 (as := [.int w6, .int (q9 + 2)]) (rest := [.int r72, .ref 157]) rfl rfl rfl rfl (s70.obj rfl (by decide)) rfl (by with_unfolding_all rfl) (by with_unfolding_all rfl) (tf288_byteOf s70 e76) (fun H74 s75 => ?_)
            refine ex_s (am_nb (m := 3) (pc1 := 447) (ls1 := [(12, .int (q9 + q10)), (11, .int t0), (0, .ref 157), (4, .int w4), (5, .int w5), (6, .int w6), (7, .int q7), (8, .int q8), (9, .int q9), (10, .int q10)]) (st1 := [.int 1, .int (r77 - 48), .int r72, .ref 157]) (H1 := H74) (k1 := 0) (n1 := 0) (by with_unfolding_all rfl)) ?_
            obtain ⟨a82, e81, e⟩ := xb1_some e
            refine ex_cv0 (as := [.int r72, .int (r77 - 48), .int 1]) (rest := []) rfl rfl rfl rfl (s75.obj rfl (by decide)) rfl (by with_unfolding_all rfl) (by with_unfolding_all rfl) (tf303_decimals s75 e81) (fun H79 s80 => ?_)
            refine ex_s (am_nb (m := 1) (pc1 := 567) (ls1 := [(12, .int (q9 + q10)), (11, .int t0), (0, .ref 157), (4, .int w4), (5, .int w5), (6, .int w6), (7, .int q7), (8, .int q8), (9, .int q9), (10, .int q10)]) (st1 := []) (H1 := H79) (k1 := 0) (n1 := 0) (by with_unfolding_all rfl)) ?_
            exact le_E (l1 := [(0, .ref 157), (4, .int w4), (5, .int w5), (6, .int w6), (7, .int q7), (8, .int q8), (12, .int (q9 + q10))]) ⟨rfl, rfl, rfl, rfl, rfl, rfl, rfl, trivial⟩ rfl (tj299_567 k0 ih  s80 e)
          · have e := (if_neg c68).symm.trans e
            by_cases c83 : t0 = 50 ∨ t0 = 51
            · have e := (if_pos c83).symm.trans e
              refine ex_pc (pc1 := 411) (by rcases c83 with c83 | c83 <;> (rw [c83]; with_unfolding_all rfl)) ?_
              refine ex_s (am_nb (m := 2) (pc1 := 413) (ls1 := [(12, .int (q9 + q10)), (11, .int t0), (0, .ref 157), (4, .int w4), (5, .int w5), (6, .int w6), (7, .int q7), (8, .int q8), (9, .int q9), (10, .int q10)]) (st1 := [.ref 157, .ref 157]) (H1 := H) (k1 := 0) (n1 := 0) (by with_unfolding_all rfl)) ?_
              obtain ⟨r87, a88, e86, e⟩ := xb2_some e
              refine ex_cv1 (as := []) (rest := [.ref 157]) rfl rfl rfl rfl (hS.obj rfl (by decide)) rfl (by with_unfolding_all rfl) (by with_unfolding_all rfl) (tf302_pop hS e86) (fun H84 s85 => ?_)
              refine ex_s (am_nb (m := 4) (pc1 := 422) (ls1 := [(12, .int (q9 + q10)), (11, .int t0), (0, .ref 157), (4, .int w4), (5, .int w5), (6, .int w6), (7, .int q7), (8, .int q8), (9, .int q9), (10, .int q10)]) (st1 := [.int 0, .int (t0 - 48), .int r87, .ref 157]) (H1 := H84) (k1 := 0) (n1 := 0) (by with_unfolding_all rfl)) ?_
              obtain ⟨a92, e91, e⟩ := xb1_some e
              refine ex_cv0 (as := [.int r87, .int (t0 - 48), .int 0]) (rest := []) rfl rfl rfl rfl (s85.obj rfl (by decide)) rfl (by with_unfolding_all rfl) (by with_unfolding_all rfl) (tf303_decimals s85 e91) (fun H89 s90 => ?_)
              refine ex_s (am_nb (m := 1) (pc1 := 567) (ls1 := [(12, .int (q9 + q10)), (11, .int t0), (0, .ref 157), (4, .int w4), (5, .int w5), (6, .int w6), (7, .int q7), (8, .int q8), (9, .int q9), (10, .int q10)]) (st1 := []) (H1 := H89) (k1 := 0) (n1 := 0) (by with_unfolding_all rfl)) ?_
              exact le_E (l1 := [(0, .ref 157), (4, .int w4), (5, .int w5), (6, .int w6), (7, .int q7), (8, .int q8), (12, .int (q9 + q10))]) ⟨rfl, rfl, rfl, rfl, rfl, rfl, rfl, trivial⟩ rfl (tj299_567 k0 ih  s90 e)
            · have e := (if_neg c83).symm.trans e
              by_cases c93 : t0 = 59 ∨ t0 = 63
              · have e := (if_pos c93).symm.trans e
                refine ex_pc (pc1 := 473) (by rcases c93 with c93 | c93 <;> (rw [c93]; with_unfolding_all rfl)) ?_
                refine ex_s (am_nb (m := 1) (pc1 := 567) (ls1 := [(12, .int (q9 + q10)), (11, .int t0), (0, .ref 157), (4, .int w4), (5, .int w5), (6, .int w6), (7, .int q7), (8, .int q8), (9, .int q9), (10, .int q10)]) (st1 := []) (H1 := H) (k1 := 0) (n1 := 0) (by with_unfolding_all rfl)) ?_
                exact le_E (l1 := [(0, .ref 157), (4, .int w4), (5, .int w5), (6, .int w6), (7, .int q7), (8, .int q8), (12, .int (q9 + q10))]) ⟨rfl, rfl, rfl, rfl, rfl, rfl, rfl, trivial⟩ rfl (tj299_567 k0 ih  hS e)
              · have e := (if_neg c93).symm.trans e
                by_cases c94 : t0 = 99
                · have e := (if_pos c94).symm.trans e
                  refine ex_pc (pc1 := 453) (by rw [c94]; with_unfolding_all rfl) ?_
                  refine ex_s (am_nb (m := 2) (pc1 := 455) (ls1 := [(12, .int (q9 + q10)), (11, .int t0), (0, .ref 157), (4, .int w4), (5, .int w5), (6, .int w6), (7, .int q7), (8, .int q8), (9, .int q9), (10, .int q10)]) (st1 := [.ref 157, .ref 157]) (H1 := H) (k1 := 0) (n1 := 0) (by with_unfolding_all rfl)) ?_
                  obtain ⟨r98, a99, e97, e⟩ := xb2_some e
                  refine ex_cv1 (as := []) (rest := [.ref 157]) rfl rfl rfl rfl (hS.obj rfl (by decide)) rfl (by with_unfolding_all rfl) (by with_unfolding_all rfl) (tf302_pop hS e97) (fun H95 s96 => ?_)
                  obtain ⟨a103, e102, e⟩ := xb1_some e
                  refine ex_cv0 (as := [.int r98]) (rest := []) rfl rfl rfl rfl (s96.obj rfl (by decide)) rfl (by with_unfolding_all rfl) (by with_unfolding_all rfl) (tf300_says s96 e102) (fun H100 s101 => ?_)
                  refine ex_s (am_nb (m := 1) (pc1 := 567) (ls1 := [(12, .int (q9 + q10)), (11, .int t0), (0, .ref 157), (4, .int w4), (5, .int w5), (6, .int w6), (7, .int q7), (8, .int q8), (9, .int q9), (10, .int q10)]) (st1 := []) (H1 := H100) (k1 := 0) (n1 := 0) (by with_unfolding_all rfl)) ?_
                  exact le_E (l1 := [(0, .ref 157), (4, .int w4), (5, .int w5), (6, .int w6), (7, .int q7), (8, .int q8), (12, .int (q9 + q10))]) ⟨rfl, rfl, rfl, rfl, rfl, rfl, rfl, trivial⟩ rfl (tj299_567 k0 ih  s101 e)
                · have e := (if_neg c94).symm.trans e
                  by_cases c104 : t0 = 100
                  · have e := (if_pos c104).symm.trans e
                    refine ex_pc (pc1 := 398) (by rw [c104]; with_unfolding_all rfl) ?_
                    refine ex_s (am_nb (m := 2) (pc1 := 400) (ls1 := [(12, .int (q9 + q10)), (11, .int t0), (0, .ref 157), (4, .int w4), (5, .int w5), (6, .int w6), (7, .int q7), (8, .int q8), (9, .int q9), (10, .int q10)]) (st1 := [.ref 157, .ref 157]) (H1 := H) (k1 := 0) (n1 := 0) (by with_unfolding_all rfl)) ?_
                    obtain ⟨r108, a109, e107, e⟩ := xb2_some e
                    refine ex_cv1 (as := []) (rest := [.ref 157]) rfl rfl rfl rfl (hS.obj rfl (by decide)) rfl (by with_unfolding_all rfl) (by with_unfolding_all rfl) (tf302_pop hS e107) (fun H105 s106 => ?_)
                    refine ex_s (am_nb (m := 2) (pc1 := 405) (ls1 := [(12, .int (q9 + q10)), (11, .int t0), (0, .ref 157), (4, .int w4), (5, .int w5), (6, .int w6), (7, .int q7), (8, .int q8), (9, .int q9), (10, .int q10)]) (st1 := [.int 0, .int 0, .int r108, .ref 157]) (H1 := H105) (k1 := 0) (n1 := 0) (by with_unfolding_all rfl)) ?_
                    obtain ⟨a113, e112, e⟩ := xb1_some e
                    refine ex_cv0 (as := [.int r108, .int 0, .int 0]) (rest := []) rfl rfl rfl rfl (s106.obj rfl (by decide)) rfl (by with_unfolding_all rfl) (by with_unfolding_all rfl) (tf303_decimals s106 e112) (fun H110 s111 => ?_)
                    refine ex_s (am_nb (m := 1) (pc1 := 567) (ls1 := [(12, .int (q9 + q10)), (11, .int t0), (0, .ref 157), (4, .int w4), (5, .int w5), (6, .int w6), (7, .int q7), (8, .int q8), (9, .int q9), (10, .int q10)]) (st1 := []) (H1 := H110) (k1 := 0) (n1 := 0) (by with_unfolding_all rfl)) ?_
                    exact le_E (l1 := [(0, .ref 157), (4, .int w4), (5, .int w5), (6, .int w6), (7, .int q7), (8, .int q8), (12, .int (q9 + q10))]) ⟨rfl, rfl, rfl, rfl, rfl, rfl, rfl, trivial⟩ rfl (tj299_567 k0 ih  s111 e)
                  · have e := (if_neg c104).symm.trans e
                    by_cases c114 : t0 = 101
                    · have e := (if_pos c114).symm.trans e
                      refine ex_pc (pc1 := 497) (by rw [c114]; with_unfolding_all rfl) ?_
                      refine ex_s (am_nb (m := 4) (pc1 := 503) (ls1 := [(12, .int (q9 + q10)), (11, .int t0), (0, .ref 157), (4, .int w4), (5, .int w5), (6, .int w6), (7, .int q7), (8, .int q8), (9, .int q9), (10, .int q10)]) (st1 := [.int 0, .int (q9 + q10), .int w6, .ref 157]) (H1 := H) (k1 := 0) (n1 := 0) (by with_unfolding_all rfl)) ?_
                      obtain ⟨r118, a119, e117, e⟩ := xb2_some e
                      refine ex_cv1 (as := [.int w6, .int (q9 + q10), .int 0]) (rest := []) rfl rfl rfl rfl (hS.obj rfl (by decide)) rfl (by with_unfolding_all rfl) (by with_unfolding_all rfl) (tf304_past hS e117) (fun H115 s116 => ?_)
                      refine ex_s (am_nb (m := 2) (pc1 := 567) (ls1 := [(12, .int r118), (11, .int t0), (0, .ref 157), (4, .int w4), (5, .int w5), (6, .int w6), (7, .int q7), (8, .int q8), (9, .int q9), (10, .int q10)]) (st1 := []) (H1 := H115) (k1 := 0) (n1 := 0) (by with_unfolding_all rfl)) ?_
                      exact le_E (l1 := [(0, .ref 157), (4, .int w4), (5, .int w5), (6, .int w6), (7, .int q7), (8, .int q8), (12, .int r118)]) ⟨rfl, rfl, rfl, rfl, rfl, rfl, rfl, trivial⟩ rfl (tj299_567 k0 ih  s116 e)
                    · have e := (if_neg c114).symm.trans e
                      by_cases c120 : t0 = 105
                      · have e := (if_pos c120).symm.trans e
                        refine ex_pc (pc1 := 464) (by rw [c120]; with_unfolding_all rfl) ?_
                        refine ex_s (am_nb (m := 3) (pc1 := 567) (ls1 := [(8, .int (q8 + 1)), (7, .int (q7 + 1)), (12, .int (q9 + q10)), (11, .int t0), (0, .ref 157), (4, .int w4), (5, .int w5), (6, .int w6), (9, .int q9), (10, .int q10)]) (st1 := []) (H1 := H) (k1 := 0) (n1 := 0) (by with_unfolding_all rfl)) ?_
                        exact le_E (l1 := [(0, .ref 157), (4, .int w4), (5, .int w5), (6, .int w6), (7, .int (q7 + 1)), (8, .int (q8 + 1)), (12, .int (q9 + q10))]) ⟨rfl, rfl, rfl, rfl, rfl, rfl, rfl, trivial⟩ rfl (tj299_567 k0 ih  hS e)
                      · have e := (if_neg c120).symm.trans e
                        by_cases c121 : t0 = 112
                        · have e := (if_pos c121).symm.trans e
                          refine ex_pc (pc1 := 268) (by rw [c121]; with_unfolding_all rfl) ?_
                          refine ex_s (am_nb (m := 5) (pc1 := 275) (ls1 := [(12, .int (q9 + q10)), (11, .int t0), (0, .ref 157), (4, .int w4), (5, .int w5), (6, .int w6), (7, .int q7), (8, .int q8), (9, .int q9), (10, .int q10)]) (st1 := [.int (q9 + 2), .int w6, .ref 157]) (H1 := H) (k1 := 0) (n1 := 0) (by with_unfolding_all rfl)) ?_
                          obtain ⟨r125, a126, e124, e⟩ := xb2_some e
                          refine ex_cv1 (as := [.int w6, .int (q9 + 2)]) (rest := []) rfl rfl rfl rfl (hS.obj rfl (by decide)) rfl (by with_unfolding_all rfl) (by with_unfolding_all rfl) (tf288_byteOf hS e124) (fun H122 s123 => ?_)
                          refine ex_s (am_nb (m := 6) (pc1 := 287) (ls1 := [(13, .int (r125 - 48)), (12, .int (q9 + q10)), (11, .int t0), (0, .ref 157), (4, .int w4), (5, .int w5), (6, .int w6), (7, .int q7), (8, .int q8), (9, .int q9), (10, .int q10)]) (st1 := [.int 1, .int (r125 - 48), .ref 157]) (H1 := H122) (k1 := 0) (n1 := 0) (by with_unfolding_all rfl)) ?_
                          have kk : am_E sL sx am_cs 299 319 [(13, .int (r125 - 48)), (12, .int (q9 + q10)), (11, .int t0), (0, .ref 157), (4, .int w4), (5, .int w5), (6, .int w6), (7, .int q7), (8, .int q8), (9, .int q9), (10, .int q10)] [.int (if (r125 - 48) = 1 then (q7) else (if (r125 - 48) = 2 then (q8) else (if (r125 - 48) = 3 then (w4) else (w5)))), .ref 157] H122 R F := by
                            obtain ⟨a133, e132, e⟩ := xb1_some e
                            refine ex_cv0 (as := [.int (if (r125 - 48) = 1 then (q7) else (if (r125 - 48) = 2 then (q8) else (if (r125 - 48) = 3 then (w4) else (w5))))]) (rest := []) rfl rfl rfl rfl (s123.obj rfl (by decide)) rfl (by with_unfolding_all rfl) (by with_unfolding_all rfl) (tf301_push s123 e132) (fun H130 s131 => ?_)
                            refine ex_s (am_nb (m := 1) (pc1 := 567) (ls1 := [(13, .int (r125 - 48)), (12, .int (q9 + q10)), (11, .int t0), (0, .ref 157), (4, .int w4), (5, .int w5), (6, .int w6), (7, .int q7), (8, .int q8), (9, .int q9), (10, .int q10)]) (st1 := []) (H1 := H130) (k1 := 0) (n1 := 0) (by with_unfolding_all rfl)) ?_
                            exact le_E (l1 := [(0, .ref 157), (4, .int w4), (5, .int w5), (6, .int w6), (7, .int q7), (8, .int q8), (12, .int (q9 + q10))]) ⟨rfl, rfl, rfl, rfl, rfl, rfl, rfl, trivial⟩ rfl (tj299_567 k0 ih  s131 e)
                          refine ex_s (st_icmp rfl) ?_
                          by_cases c127 : (r125 - 48) = 1
                          · refine ex_pc (if_pos c127) ?_
                            refine ex_s (am_nb (m := 2) (pc1 := 319) (ls1 := [(13, .int (r125 - 48)), (12, .int (q9 + q10)), (11, .int t0), (0, .ref 157), (4, .int w4), (5, .int w5), (6, .int w6), (7, .int q7), (8, .int q8), (9, .int q9), (10, .int q10)]) (st1 := [.int q7, .ref 157]) (H1 := H122) (k1 := 0) (n1 := 0) (by with_unfolding_all rfl)) ?_
                            rw [if_pos c127] at kk
                            exact kk
                          · refine ex_pc (if_neg c127) ?_
                            refine ex_s (am_nb (m := 2) (pc1 := 298) (ls1 := [(13, .int (r125 - 48)), (12, .int (q9 + q10)), (11, .int t0), (0, .ref 157), (4, .int w4), (5, .int w5), (6, .int w6), (7, .int q7), (8, .int q8), (9, .int q9), (10, .int q10)]) (st1 := [.int 2, .int (r125 - 48), .ref 157]) (H1 := H122) (k1 := 0) (n1 := 0) (by with_unfolding_all rfl)) ?_
                            refine ex_s (st_icmp rfl) ?_
                            by_cases c128 : (r125 - 48) = 2
                            · refine ex_pc (if_pos c128) ?_
                              refine ex_s (am_nb (m := 2) (pc1 := 319) (ls1 := [(13, .int (r125 - 48)), (12, .int (q9 + q10)), (11, .int t0), (0, .ref 157), (4, .int w4), (5, .int w5), (6, .int w6), (7, .int q7), (8, .int q8), (9, .int q9), (10, .int q10)]) (st1 := [.int q8, .ref 157]) (H1 := H122) (k1 := 0) (n1 := 0) (by with_unfolding_all rfl)) ?_
                              rw [if_neg c127, if_pos c128] at kk
                              exact kk
                            · refine ex_pc (if_neg c128) ?_
                              refine ex_s (am_nb (m := 2) (pc1 := 309) (ls1 := [(13, .int (r125 - 48)), (12, .int (q9 + q10)), (11, .int t0), (0, .ref 157), (4, .int w4), (5, .int w5), (6, .int w6), (7, .int q7), (8, .int q8), (9, .int q9), (10, .int q10)]) (st1 := [.int 3, .int (r125 - 48), .ref 157]) (H1 := H122) (k1 := 0) (n1 := 0) (by with_unfolding_all rfl)) ?_
                              refine ex_s (st_icmp rfl) ?_
                              by_cases c129 : (r125 - 48) = 3
                              · refine ex_pc (if_pos c129) ?_
                                refine ex_s (am_nb (m := 2) (pc1 := 319) (ls1 := [(13, .int (r125 - 48)), (12, .int (q9 + q10)), (11, .int t0), (0, .ref 157), (4, .int w4), (5, .int w5), (6, .int w6), (7, .int q7), (8, .int q8), (9, .int q9), (10, .int q10)]) (st1 := [.int w4, .ref 157]) (H1 := H122) (k1 := 0) (n1 := 0) (by with_unfolding_all rfl)) ?_
                                rw [if_neg c127, if_neg c128, if_pos c129] at kk
                                exact kk
                              · refine ex_pc (if_neg c129) ?_
                                refine ex_s (am_nb (m := 1) (pc1 := 319) (ls1 := [(13, .int (r125 - 48)), (12, .int (q9 + q10)), (11, .int t0), (0, .ref 157), (4, .int w4), (5, .int w5), (6, .int w6), (7, .int q7), (8, .int q8), (9, .int q9), (10, .int q10)]) (st1 := [.int w5, .ref 157]) (H1 := H122) (k1 := 0) (n1 := 0) (by with_unfolding_all rfl)) ?_
                                rw [if_neg c127, if_neg c128, if_neg c129] at kk
                                exact kk
                        · have e := (if_neg c121).symm.trans e
                          by_cases c134 : t0 = 116
                          · have e := (if_pos c134).symm.trans e
                            refine ex_pc (pc1 := 476) (by rw [c134]; with_unfolding_all rfl) ?_
                            refine ex_s (am_nb (m := 1) (pc1 := 477) (ls1 := [(12, .int (q9 + q10)), (11, .int t0), (0, .ref 157), (4, .int w4), (5, .int w5), (6, .int w6), (7, .int q7), (8, .int q8), (9, .int q9), (10, .int q10)]) (st1 := [.ref 157]) (H1 := H) (k1 := 0) (n1 := 0) (by with_unfolding_all rfl)) ?_
                            obtain ⟨r138, a139, e137, e⟩ := xb2_some e
                            refine ex_cv1 (as := []) (rest := []) rfl rfl rfl rfl (hS.obj rfl (by decide)) rfl (by with_unfolding_all rfl) (by with_unfolding_all rfl) (tf302_pop hS e137) (fun H135 s136 => ?_)
                            refine ex_s (st_if rfl) ?_
                            by_cases c140 : r138 = 0
                            · have e := (if_pos c140).symm.trans e
                              refine ex_pc (if_pos c140) ?_
                              refine ex_s (am_nb (m := 4) (pc1 := 489) (ls1 := [(12, .int (q9 + q10)), (11, .int t0), (0, .ref 157), (4, .int w4), (5, .int w5), (6, .int w6), (7, .int q7), (8, .int q8), (9, .int q9), (10, .int q10)]) (st1 := [.int 1, .int (q9 + q10), .int w6, .ref 157]) (H1 := H135) (k1 := 0) (n1 := 0) (by with_unfolding_all rfl)) ?_
                              obtain ⟨r144, a145, e143, e⟩ := xb2_some e
                              refine ex_cv1 (as := [.int w6, .int (q9 + q10), .int 1]) (rest := []) rfl rfl rfl rfl (s136.obj rfl (by decide)) rfl (by with_unfolding_all rfl) (by with_unfolding_all rfl) (tf304_past s136 e143) (fun H141 s142 => ?_)
                              refine ex_s (am_nb (m := 2) (pc1 := 567) (ls1 := [(12, .int r144), (11, .int t0), (0, .ref 157), (4, .int w4), (5, .int w5), (6, .int w6), (7, .int q7), (8, .int q8), (9, .int q9), (10, .int q10)]) (st1 := []) (H1 := H141) (k1 := 0) (n1 := 0) (by with_unfolding_all rfl)) ?_
                              exact le_E (l1 := [(0, .ref 157), (4, .int w4), (5, .int w5), (6, .int w6), (7, .int q7), (8, .int q8), (12, .int r144)]) ⟨rfl, rfl, rfl, rfl, rfl, rfl, rfl, trivial⟩ rfl (tj299_567 k0 ih  s142 e)
                            · have e := (if_neg c140).symm.trans e
                              refine ex_pc (if_neg c140) ?_
                              exact le_E (l1 := [(0, .ref 157), (4, .int w4), (5, .int w5), (6, .int w6), (7, .int q7), (8, .int q8), (12, .int (q9 + q10))]) ⟨rfl, rfl, rfl, rfl, rfl, rfl, rfl, trivial⟩ rfl (tj299_567 k0 ih  s136 e)
                          · have e := (if_neg c134).symm.trans e
                            by_cases c146 : t0 = 123
                            · have e := (if_pos c146).symm.trans e
                              refine ex_pc (pc1 := 342) (by rw [c146]; with_unfolding_all rfl) ?_
                              refine ex_s (am_nb (m := 6) (pc1 := 351) (ls1 := [(14, .int (q9 + 2)), (13, .int 0), (12, .int (q9 + q10)), (11, .int t0), (0, .ref 157), (4, .int w4), (5, .int w5), (6, .int w6), (7, .int q7), (8, .int q8), (9, .int q9), (10, .int q10)]) (st1 := []) (H1 := H) (k1 := 0) (n1 := 0) (by with_unfolding_all rfl)) ?_
                              obtain ⟨z158, e159, e⟩ := Option.bind_eq_some_iff.mp e
                              refine le_E (l1 := [(0, .ref 157), (4, .int w4), (5, .int w5), (6, .int w6), (7, .int q7), (8, .int q8), (12, .int (q9 + q10)), (13, .int 0), (14, .int (q9 + 2))]) ⟨rfl, rfl, rfl, rfl, rfl, rfl, rfl, rfl, rfl, trivial⟩ rfl (tl299_351 (z := z158)  (fun uz158_0 Hz1580 sz1580 => ?_) N 0 (q9 + 2) a H hS e159)
                              refine ex_s (am_nb (m := 2) (pc1 := 392) (ls1 := [(0, .ref 157), (4, .int w4), (5, .int w5), (6, .int w6), (7, .int q7), (8, .int q8), (12, .int (q9 + q10)), (13, .int z158.2.1)]) (st1 := [.int z158.2.1, .ref 157]) (H1 := Hz1580) (k1 := 0) (n1 := 0) (by with_unfolding_all rfl)) ?_
                              obtain ⟨a163, e162, e⟩ := xb1_some e
                              refine ex_cv0 (as := [.int z158.2.1]) (rest := []) rfl rfl rfl rfl (sz1580.obj rfl (by decide)) rfl (by with_unfolding_all rfl) (by with_unfolding_all rfl) (tf301_push sz1580 e162) (fun H160 s161 => ?_)
                              refine ex_s (am_nb (m := 1) (pc1 := 567) (ls1 := [(0, .ref 157), (4, .int w4), (5, .int w5), (6, .int w6), (7, .int q7), (8, .int q8), (12, .int (q9 + q10)), (13, .int z158.2.1)]) (st1 := []) (H1 := H160) (k1 := 0) (n1 := 0) (by with_unfolding_all rfl)) ?_
                              exact le_E (l1 := [(0, .ref 157), (4, .int w4), (5, .int w5), (6, .int w6), (7, .int q7), (8, .int q8), (12, .int (q9 + q10))]) ⟨rfl, rfl, rfl, rfl, rfl, rfl, rfl, trivial⟩ rfl (tj299_567 k0 ih  s161 e)
                            · have e := (if_neg c146).symm.trans e
                              by_cases c164 : t0 = 126
                              · have e := (if_pos c164).symm.trans e
                                refine ex_pc (pc1 := 530) (by rw [c164]; with_unfolding_all rfl) ?_
                                refine ex_s (am_nb (m := 2) (pc1 := 532) (ls1 := [(12, .int (q9 + q10)), (11, .int t0), (0, .ref 157), (4, .int w4), (5, .int w5), (6, .int w6), (7, .int q7), (8, .int q8), (9, .int q9), (10, .int q10)]) (st1 := [.ref 157, .ref 157]) (H1 := H) (k1 := 0) (n1 := 0) (by with_unfolding_all rfl)) ?_
                                obtain ⟨r168, a169, e167, e⟩ := xb2_some e
                                refine ex_cv1 (as := []) (rest := [.ref 157]) rfl rfl rfl rfl (hS.obj rfl (by decide)) rfl (by with_unfolding_all rfl) (by with_unfolding_all rfl) (tf302_pop hS e167) (fun H165 s166 => ?_)
                                refine ex_s (am_nb (m := 2) (pc1 := 537) (ls1 := [(12, .int (q9 + q10)), (11, .int t0), (0, .ref 157), (4, .int w4), (5, .int w5), (6, .int w6), (7, .int q7), (8, .int q8), (9, .int q9), (10, .int q10)]) (st1 := [.int (r168 ^^^ (-1)), .ref 157]) (H1 := H165) (k1 := 0) (n1 := 0) (by with_unfolding_all rfl)) ?_
                                obtain ⟨a173, e172, e⟩ := xb1_some e
                                refine ex_cv0 (as := [.int (r168 ^^^ (-1))]) (rest := []) rfl rfl rfl rfl (s166.obj rfl (by decide)) rfl (by with_unfolding_all rfl) (by with_unfolding_all rfl) (tf301_push s166 e172) (fun H170 s171 => ?_)
                                refine ex_s (am_nb (m := 1) (pc1 := 567) (ls1 := [(12, .int (q9 + q10)), (11, .int t0), (0, .ref 157), (4, .int w4), (5, .int w5), (6, .int w6), (7, .int q7), (8, .int q8), (9, .int q9), (10, .int q10)]) (st1 := []) (H1 := H170) (k1 := 0) (n1 := 0) (by with_unfolding_all rfl)) ?_
                                exact le_E (l1 := [(0, .ref 157), (4, .int w4), (5, .int w5), (6, .int w6), (7, .int q7), (8, .int q8), (12, .int (q9 + q10))]) ⟨rfl, rfl, rfl, rfl, rfl, rfl, rfl, trivial⟩ rfl (tj299_567 k0 ih  s171 e)
                              · have e := (if_neg c164).symm.trans e
                                refine ex_pc (pc1 := 543) (am_sw_n (sw_c (Or.inl c32) (sw_c (Or.inl c42) (sw_c (Or.inl c53) (sw_c (Or.inl c58) (sw_c (Or.inl c68) (sw_c (Or.inl (fun q => c83 (Or.inl q))) (sw_c (Or.inl (fun q => c83 (Or.inr q))) (sw_c (Or.inl (fun q => c93 (Or.inl q))) (sw_c (Or.inl (fun q => c93 (Or.inr q))) (sw_c (Or.inl c94) (sw_c (Or.inl c104) (sw_c (Or.inl c114) (sw_c (Or.inl c120) (sw_c (Or.inl c121) (sw_c (Or.inl c134) (sw_c (Or.inl c146) (sw_c (Or.inl c164) sw_o)))))))))))))))))) ?_
                                refine ex_s (am_nb (m := 1) (pc1 := 544) (ls1 := [(12, .int (q9 + q10)), (11, .int t0), (0, .ref 157), (4, .int w4), (5, .int w5), (6, .int w6), (7, .int q7), (8, .int q8), (9, .int q9), (10, .int q10)]) (st1 := [.ref 157]) (H1 := H) (k1 := 0) (n1 := 0) (by with_unfolding_all rfl)) ?_
                                obtain ⟨r177, a178, e176, e⟩ := xb2_some e
                                refine ex_cv1 (as := []) (rest := []) rfl rfl rfl rfl (hS.obj rfl (by decide)) rfl (by with_unfolding_all rfl) (by with_unfolding_all rfl) (tf302_pop hS e176) (fun H174 s175 => ?_)
                                refine ex_s (am_nb (m := 4) (pc1 := 553) (ls1 := [(13, .int r177), (12, .int (q9 + q10)), (11, .int t0), (0, .ref 157), (4, .int w4), (5, .int w5), (6, .int w6), (7, .int q7), (8, .int q8), (9, .int q9), (10, .int q10)]) (st1 := [.ref 157, .int t0, .ref 157]) (H1 := H174) (k1 := 0) (n1 := 0) (by with_unfolding_all rfl)) ?_
                                obtain ⟨r182, a183, e181, e⟩ := xb2_some e
                                refine ex_cv1 (as := []) (rest := [.int t0, .ref 157]) rfl rfl rfl rfl (s175.obj rfl (by decide)) rfl (by with_unfolding_all rfl) (by with_unfolding_all rfl) (tf302_pop s175 e181) (fun H179 s180 => ?_)
                                refine ex_s (am_nb (m := 1) (pc1 := 558) (ls1 := [(13, .int r177), (12, .int (q9 + q10)), (11, .int t0), (0, .ref 157), (4, .int w4), (5, .int w5), (6, .int w6), (7, .int q7), (8, .int q8), (9, .int q9), (10, .int q10)]) (st1 := [.int r177, .int r182, .int t0, .ref 157]) (H1 := H179) (k1 := 0) (n1 := 0) (by with_unfolding_all rfl)) ?_
                                obtain ⟨r187, a188, e186, e⟩ := xb2_some e
                                refine ex_cs1 (as := [.int t0, .int r182, .int r177]) (rest := [.ref 157]) rfl (by decide) rfl rfl (by with_unfolding_all rfl) (by with_unfolding_all rfl) (tf305_works s180 e186) (fun H184 s185 => ?_)
                                obtain ⟨a192, e191, e⟩ := xb1_some e
                                refine ex_cv0 (as := [.int r187]) (rest := []) rfl rfl rfl rfl (s185.obj rfl (by decide)) rfl (by with_unfolding_all rfl) (by with_unfolding_all rfl) (tf301_push s185 e191) (fun H189 s190 => ?_)
                                refine ex_s (am_nb (m := 1) (pc1 := 567) (ls1 := [(13, .int r177), (12, .int (q9 + q10)), (11, .int t0), (0, .ref 157), (4, .int w4), (5, .int w5), (6, .int w6), (7, .int q7), (8, .int q8), (9, .int q9), (10, .int q10)]) (st1 := []) (H1 := H189) (k1 := 0) (n1 := 0) (by with_unfolding_all rfl)) ?_
                                exact le_E (l1 := [(0, .ref 157), (4, .int w4), (5, .int w5), (6, .int w6), (7, .int q7), (8, .int q8), (12, .int (q9 + q10))]) ⟨rfl, rfl, rfl, rfl, rfl, rfl, rfl, trivial⟩ rfl (tj299_567 k0 ih  s190 e)

set_option maxRecDepth 100000 in
theorem tl299_39 {sL : Nat} {sx : Nat → Int32} {h b N : Nat} {T : List am_C} {R : Option Value} {F : am_H → Prop} {w4 : Int32} {w5 : Int32} {w6 : Int32} {z : Nat × xA} (k0 : z.1 = 0 → ∀ H2 : am_H, xS h b T z.2 H2 → am_E sL sx am_cs 299 574 [] [] H2 R F) : ∀ (n : Nat) (v7 : Int32) (v8 : Int32) (v9 : Int32) (a : xA) (H : am_H), xS h b T a H → l299_39 N h b w4 w5 w6 n v7 v8 v9 a = some z → am_E sL sx am_cs 299 39 [(0, .ref 157), (4, .int w4), (5, .int w5), (6, .int w6), (7, .int v7), (8, .int v8), (9, .int v9)] [] H R F := by
  intro n
  induction n with
  | zero =>
    intro v7 v8 v9 a H hS e
    cases e
  | succ n ih =>
    intro v7 v8 v9 a H hS e
    unfold l299_39 at e
    refine ex_s (am_nb (m := 2) (pc1 := 42) (ls1 := [(0, .ref 157), (4, .int w4), (5, .int w5), (6, .int w6), (7, .int v7), (8, .int v8), (9, .int v9)]) (st1 := [.ref 157, .int v9]) (H1 := H) (k1 := 0) (n1 := 0) (by with_unfolding_all rfl)) ?_
    refine xe_get (v := .ref 166) hS rfl rfl (by decide) rfl ?_
    refine ex_s (am_nb (m := 1) (pc1 := 47) (ls1 := [(0, .ref 157), (4, .int w4), (5, .int w5), (6, .int w6), (7, .int v7), (8, .int v8), (9, .int v9)]) (st1 := [.int w6, .ref 166, .int v9]) (H1 := H) (k1 := 0) (n1 := 0) (by with_unfolding_all rfl)) ?_
    obtain ⟨g13, e⟩ := xg_some e
    refine xe_iald hS rfl rfl g13 ?_
    refine ex_s (st_icmp rfl) ?_
    by_cases c14 : (a 166 (w6.toNatClampNeg)) ≤ v9
    · have e := (if_pos c14).symm.trans e
      refine ex_pc (if_pos c14) ?_
      cases e
      exact le_E (l1 := []) trivial rfl (k0 rfl H hS)
    · have e := (if_neg c14).symm.trans e
      refine ex_pc (if_neg c14) ?_
      refine ex_s (am_nb (m := 3) (pc1 := 56) (ls1 := [(0, .ref 157), (4, .int w4), (5, .int w5), (6, .int w6), (7, .int v7), (8, .int v8), (9, .int v9)]) (st1 := [.int v9, .int w6, .ref 157]) (H1 := H) (k1 := 0) (n1 := 0) (by with_unfolding_all rfl)) ?_
      obtain ⟨r18, a19, e17, e⟩ := xb2_some e
      refine ex_cv1 (as := [.int w6, .int v9]) (rest := []) rfl rfl rfl rfl (hS.obj rfl (by decide)) rfl (by with_unfolding_all rfl) (by with_unfolding_all rfl) (tf287_item hS e17) (fun H15 s16 => ?_)
      refine ex_s (am_nb (m := 4) (pc1 := 66) (ls1 := [(10, .int r18), (0, .ref 157), (4, .int w4), (5, .int w5), (6, .int w6), (7, .int v7), (8, .int v8), (9, .int v9)]) (st1 := [.int v9, .int w6, .ref 157]) (H1 := H15) (k1 := 0) (n1 := 0) (by with_unfolding_all rfl)) ?_
      obtain ⟨r23, a24, e22, e⟩ := xb2_some e
      refine ex_cv1 (as := [.int w6, .int v9]) (rest := []) rfl rfl rfl rfl (s16.obj rfl (by decide)) rfl (by with_unfolding_all rfl) (by with_unfolding_all rfl) (tf288_byteOf s16 e22) (fun H20 s21 => ?_)
      refine ex_s (am_nb (m := 1) (pc1 := 71) (ls1 := [(10, .int r18), (0, .ref 157), (4, .int w4), (5, .int w5), (6, .int w6), (7, .int v7), (8, .int v8), (9, .int v9)]) (st1 := [.int 37, .int r23]) (H1 := H20) (k1 := 0) (n1 := 0) (by with_unfolding_all rfl)) ?_
      refine ex_s (st_icmp rfl) ?_
      by_cases c26 : r23 = 37
      · have e := (if_pos c26).symm.trans e
        refine ex_pc (if_pos c26) ?_
        refine ex_s (am_nb (m := 5) (pc1 := 81) (ls1 := [(10, .int r18), (0, .ref 157), (4, .int w4), (5, .int w5), (6, .int w6), (7, .int v7), (8, .int v8), (9, .int v9)]) (st1 := [.int (v9 + 1), .int w6, .ref 157]) (H1 := H20) (k1 := 0) (n1 := 0) (by with_unfolding_all rfl)) ?_
        obtain ⟨r30, a31, e29, e⟩ := xb2_some e
        refine ex_cv1 (as := [.int w6, .int (v9 + 1)]) (rest := []) rfl rfl rfl rfl (s21.obj rfl (by decide)) rfl (by with_unfolding_all rfl) (by with_unfolding_all rfl) (tf288_byteOf s21 e29) (fun H27 s28 => ?_)
        refine ex_s (am_nb (m := 1) (pc1 := 88) (ls1 := [(10, .int r18), (0, .ref 157), (4, .int w4), (5, .int w5), (6, .int w6), (7, .int v7), (8, .int v8), (9, .int v9)]) (st1 := [.int r30]) (H1 := H27) (k1 := 0) (n1 := 0) (by with_unfolding_all rfl)) ?_
        exact le_E (l1 := [(0, .ref 157), (4, .int w4), (5, .int w5), (6, .int w6), (7, .int v7), (8, .int v8), (9, .int v9), (10, .int r18)]) ⟨rfl, rfl, rfl, rfl, rfl, rfl, rfl, rfl, trivial⟩ rfl (tj299_88 k0 ih  s28 e)
      · have e := (if_neg c26).symm.trans e
        refine ex_pc (if_neg c26) ?_
        refine ex_s (am_nb (m := 1) (pc1 := 88) (ls1 := [(10, .int r18), (0, .ref 157), (4, .int w4), (5, .int w5), (6, .int w6), (7, .int v7), (8, .int v8), (9, .int v9)]) (st1 := [.int (-1)]) (H1 := H20) (k1 := 0) (n1 := 0) (by with_unfolding_all rfl)) ?_
        exact le_E (l1 := [(0, .ref 157), (4, .int w4), (5, .int w5), (6, .int w6), (7, .int v7), (8, .int v8), (9, .int v9), (10, .int r18)]) ⟨rfl, rfl, rfl, rfl, rfl, rfl, rfl, rfl, trivial⟩ rfl (tj299_88 k0 ih  s21 e)

set_option maxRecDepth 100000 in
theorem tf299_puts {sL : Nat} {sx : Nat → Int32} {h b N : Nat} {T : List am_C} {a' : xA} {x0 : Int32} {x1 : Int32} {x2 : Int32} {x3 : Int32} {x4 : Int32} {a : xA} {H : am_H} (hS : xS h b T a H) (e : f299_puts N h b x0 x1 x2 x3 x4 a = some a') : am_E sL sx am_cs 299 0 [(0, .ref 157), (1, .int x0), (2, .int x1), (3, .int x2), (4, .int x3), (5, .int x4)] [] H none (fun H1 => xS h b T a' H1) := by
  unfold f299_puts at e
  refine ex_s (am_nb (m := 2) (pc1 := 2) (ls1 := [(0, .ref 157), (1, .int x0), (2, .int x1), (3, .int x2), (4, .int x3), (5, .int x4)]) (st1 := [.int 0, .ref 157]) (H1 := H) (k1 := 0) (n1 := 0) (by with_unfolding_all rfl)) ?_
  obtain ⟨a1, ha1, e⟩ := xw_some e
  refine xe_put (w := 0) hS rfl rfl (by decide) rfl rfl rfl rfl (fun H2 s3 => ?_)
  have s3 : xS h b T a1 H2 := by rw [ha1]; exact s3
  refine ex_s (am_nb (m := 2) (pc1 := 7) (ls1 := [(0, .ref 157), (1, .int x0), (2, .int x1), (3, .int x2), (4, .int x3), (5, .int x4)]) (st1 := [.int 0, .ref 157]) (H1 := H2) (k1 := 0) (n1 := 0) (by with_unfolding_all rfl)) ?_
  obtain ⟨a4, ha4, e⟩ := xw_some e
  refine xe_put (w := 0) s3 rfl rfl (by decide) rfl rfl rfl rfl (fun H5 s6 => ?_)
  have s6 : xS h b T a4 H5 := by rw [ha4]; exact s6
  refine ex_s (am_nb (m := 2) (pc1 := 12) (ls1 := [(0, .ref 157), (1, .int x0), (2, .int x1), (3, .int x2), (4, .int x3), (5, .int x4)]) (st1 := [.int x0, .ref 157]) (H1 := H5) (k1 := 0) (n1 := 0) (by with_unfolding_all rfl)) ?_
  obtain ⟨r10, a11, e9, e⟩ := xb2_some e
  refine ex_cv1 (as := [.int x0]) (rest := []) rfl rfl rfl rfl (s6.obj rfl (by decide)) rfl (by with_unfolding_all rfl) (by with_unfolding_all rfl) (tf297_has s6 e9) (fun H7 s8 => ?_)
  refine ex_s (st_if rfl) ?_
  by_cases c12 : r10 = 0
  · have e := (if_pos c12).symm.trans e
    refine ex_pc (if_pos c12) ?_
    cases e
    exact ex_r (st_vret rfl rfl) s8
  · have e := (if_neg c12).symm.trans e
    refine ex_pc (if_neg c12) ?_
    refine ex_s (am_nb (m := 2) (pc1 := 22) (ls1 := [(0, .ref 157), (1, .int x0), (2, .int x1), (3, .int x2), (4, .int x3), (5, .int x4)]) (st1 := [.ref 157, .int 39]) (H1 := H7) (k1 := 0) (n1 := 0) (by with_unfolding_all rfl)) ?_
    refine xe_get (v := .int (a11 157 21)) s8 rfl rfl (by decide) rfl ?_
    refine ex_s (am_nb (m := 10) (pc1 := 39) (ls1 := [(9, .int 0), (8, .int x2), (7, .int x1), (6, .int ((39 * (a11 157 21)) + x0)), (0, .ref 157), (1, .int x0), (2, .int x1), (3, .int x2), (4, .int x3), (5, .int x4)]) (st1 := []) (H1 := H7) (k1 := 0) (n1 := 0) (by with_unfolding_all rfl)) ?_
    obtain ⟨z193, e194, e⟩ := Option.bind_eq_some_iff.mp e
    refine le_E (l1 := [(0, .ref 157), (4, .int x3), (5, .int x4), (6, .int ((39 * (a11 157 21)) + x0)), (7, .int x1), (8, .int x2), (9, .int 0)]) ⟨rfl, rfl, rfl, rfl, rfl, rfl, rfl, trivial⟩ rfl (tl299_39 (z := z193)  (fun uz193_0 Hz1930 sz1930 => ?_) N x1 x2 0 a11 H7 s8 e194)
    cases e
    exact ex_r (st_vret rfl rfl) sz1930
