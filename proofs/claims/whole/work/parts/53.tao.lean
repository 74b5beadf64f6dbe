/-! The program does what the functions say. -/
set_option maxRecDepth 100000 in
theorem tf321_cells {sL : Nat} {sx : Nat → Int32} {h b N : Nat} {T : List am_C} {r : Int32} {a' : xA} {x0 : Int32} {x1 : Int32} {a : xA} {H : am_H} (hS : xS h b T a H) (e : f321_cells N h b x0 x1 a = some (r, a')) : am_E sL sx am_cs 321 0 [(0, .ref 157), (1, .int x0), (2, .int x1)] [] H (some (.int r)) (fun H1 => xS h b T a' H1) := by
  unfold f321_cells at e
  refine ex_s (am_nb (m := 2) (pc1 := 2) (ls1 := [(0, .ref 157), (1, .int x0), (2, .int x1)]) (st1 := [.int 0, .ref 157]) (H1 := H) (k1 := 0) (n1 := 0) (by with_unfolding_all rfl)) ?_
  obtain ⟨a1, ha1, e⟩ := xw_some e
  refine xe_put (w := 0) hS rfl rfl (by decide) rfl rfl rfl rfl (fun H2 s3 => ?_)
  have s3 : xS h b T a1 H2 := by rw [ha1]; exact s3
  refine ex_s (am_nb (m := 2) (pc1 := 7) (ls1 := [(0, .ref 157), (1, .int x0), (2, .int x1)]) (st1 := [.int x0, .ref 157]) (H1 := H2) (k1 := 0) (n1 := 0) (by with_unfolding_all rfl)) ?_
  obtain ⟨r7, a8, e6, e⟩ := xb2_some e
  refine ex_cv1 (as := [.int x0]) (rest := []) rfl rfl rfl rfl (s3.obj rfl (by decide)) rfl (by with_unfolding_all rfl) (by with_unfolding_all rfl) (tf308_is s3 e6) (fun H4 s5 => ?_)
  refine ex_s (st_if rfl) ?_
  by_cases c9 : r7 = 0
  · have e := (if_pos c9).symm.trans e
    refine ex_pc (if_pos c9) ?_
    refine ex_s (am_nb (m := 1) (pc1 := 14) (ls1 := [(0, .ref 157), (1, .int x0), (2, .int x1)]) (st1 := [.int 0]) (H1 := H4) (k1 := 0) (n1 := 0) (by with_unfolding_all rfl)) ?_
    cases e
    exact ex_r (st_iret rfl rfl rfl) s5
  · have e := (if_neg c9).symm.trans e
    refine ex_pc (if_neg c9) ?_
    refine ex_s (am_nb (m := 12) (pc1 := 34) (ls1 := [(4, .int ((xminl (xabsl x1.toInt64) 80).toInt32)), (3, .int x0), (0, .ref 157), (1, .int x0), (2, .int x1)]) (st1 := [.ref 157, .int x0, .ref 157]) (H1 := H4) (k1 := 0) (n1 := 0) (by with_unfolding_all rfl)) ?_
    refine xe_get (v := .ref 177) s5 rfl rfl (by decide) rfl ?_
    refine ex_s (am_nb (m := 1) (pc1 := 38) (ls1 := [(4, .int ((xminl (xabsl x1.toInt64) 80).toInt32)), (3, .int x0), (0, .ref 157), (1, .int x0), (2, .int x1)]) (st1 := [.int x0, .ref 177, .int x0, .ref 157]) (H1 := H4) (k1 := 0) (n1 := 0) (by with_unfolding_all rfl)) ?_
    obtain ⟨g10, e⟩ := xg_some e
    refine xe_iald s5 rfl rfl g10 ?_
    refine ex_s (am_nb (m := 1) (pc1 := 40) (ls1 := [(4, .int ((xminl (xabsl x1.toInt64) 80).toInt32)), (3, .int x0), (0, .ref 157), (1, .int x0), (2, .int x1)]) (st1 := [.ref 157, .int (a8 177 (x0.toNatClampNeg)), .int x0, .ref 157]) (H1 := H4) (k1 := 0) (n1 := 0) (by with_unfolding_all rfl)) ?_
    refine xe_get (v := .ref 178) s5 rfl rfl (by decide) rfl ?_
    refine ex_s (am_nb (m := 1) (pc1 := 44) (ls1 := [(4, .int ((xminl (xabsl x1.toInt64) 80).toInt32)), (3, .int x0), (0, .ref 157), (1, .int x0), (2, .int x1)]) (st1 := [.int x0, .ref 178, .int (a8 177 (x0.toNatClampNeg)), .int x0, .ref 157]) (H1 := H4) (k1 := 0) (n1 := 0) (by with_unfolding_all rfl)) ?_
    refine xe_iald s5 rfl rfl g10 ?_
    obtain ⟨r14, a15, e13, e⟩ := xb2_some e
    refine ex_cv1 (as := [.int x0, .int (a8 177 (x0.toNatClampNeg)), .int (a8 178 (x0.toNatClampNeg))]) (rest := []) rfl rfl rfl rfl (s5.obj rfl (by decide)) rfl (by with_unfolding_all rfl) (by with_unfolding_all rfl) (tf314_cellAt s5 e13) (fun H11 s12 => ?_)
    refine ex_s (am_nb (m := 4) (pc1 := 53) (ls1 := [(5, .int r14), (4, .int ((xminl (xabsl x1.toInt64) 80).toInt32)), (3, .int x0), (0, .ref 157), (1, .int x0), (2, .int x1)]) (st1 := [.ref 157, .int x0, .ref 157]) (H1 := H11) (k1 := 0) (n1 := 0) (by with_unfolding_all rfl)) ?_
    refine xe_get (v := .ref 177) s12 rfl rfl (by decide) rfl ?_
    refine ex_s (am_nb (m := 1) (pc1 := 57) (ls1 := [(5, .int r14), (4, .int ((xminl (xabsl x1.toInt64) 80).toInt32)), (3, .int x0), (0, .ref 157), (1, .int x0), (2, .int x1)]) (st1 := [.int x0, .ref 177, .int x0, .ref 157]) (H1 := H11) (k1 := 0) (n1 := 0) (by with_unfolding_all rfl)) ?_
    refine xe_iald s12 rfl rfl g10 ?_
    refine ex_s (am_nb (m := 1) (pc1 := 59) (ls1 := [(5, .int r14), (4, .int ((xminl (xabsl x1.toInt64) 80).toInt32)), (3, .int x0), (0, .ref 157), (1, .int x0), (2, .int x1)]) (st1 := [.ref 157, .int (a15 177 (x0.toNatClampNeg)), .int x0, .ref 157]) (H1 := H11) (k1 := 0) (n1 := 0) (by with_unfolding_all rfl)) ?_
    refine xe_get (v := .ref 176) s12 rfl rfl (by decide) rfl ?_
    refine ex_s (am_nb (m := 1) (pc1 := 63) (ls1 := [(5, .int r14), (4, .int ((xminl (xabsl x1.toInt64) 80).toInt32)), (3, .int x0), (0, .ref 157), (1, .int x0), (2, .int x1)]) (st1 := [.int x0, .ref 176, .int (a15 177 (x0.toNatClampNeg)), .int x0, .ref 157]) (H1 := H11) (k1 := 0) (n1 := 0) (by with_unfolding_all rfl)) ?_
    refine xe_iald s12 rfl rfl g10 ?_
    obtain ⟨r19, a20, e18, e⟩ := xb2_some e
    refine ex_cv1 (as := [.int x0, .int (a15 177 (x0.toNatClampNeg)), .int (a15 176 (x0.toNatClampNeg))]) (rest := []) rfl rfl rfl rfl (s12.obj rfl (by decide)) rfl (by with_unfolding_all rfl) (by with_unfolding_all rfl) (tf314_cellAt s12 e18) (fun H16 s17 => ?_)
    refine ex_s (am_nb (m := 3) (pc1 := 72) (ls1 := [(7, .int 0), (6, .int r19), (5, .int r14), (4, .int ((xminl (xabsl x1.toInt64) 80).toInt32)), (3, .int x0), (0, .ref 157), (1, .int x0), (2, .int x1)]) (st1 := []) (H1 := H16) (k1 := 0) (n1 := 0) (by with_unfolding_all rfl)) ?_
    obtain ⟨z44, e45, e⟩ := Option.bind_eq_some_iff.mp e
    refine le_E (l1 := [(0, .ref 157), (2, .int x1), (4, .int ((xminl (xabsl x1.toInt64) 80).toInt32)), (5, .int r14), (6, .int r19), (7, .int 0)]) ⟨rfl, rfl, rfl, rfl, rfl, rfl, trivial⟩ rfl (tl321_72 (z := z44)  (fun uz44_0 Hz440 sz440 => ?_) N 0 a20 H16 s17 e45)
    refine ex_s (am_nb (m := 1) (pc1 := 183) (ls1 := []) (st1 := [.int 1]) (H1 := Hz440) (k1 := 0) (n1 := 0) (by with_unfolding_all rfl)) ?_
    cases e
    exact ex_r (st_iret rfl rfl rfl) sz440

set_option maxRecDepth 100000 in
theorem tj322_56 {sL : Nat} {sx : Nat → Int32} {h b N : Nat} {T : List am_C} {R : Option Value} {F : am_H → Prop} {w1 : Int32} {w2 : Int32} {w3 : Int32} {z : Nat × xA} {rc : Int32 → xA → Option (Nat × xA)} (k0 : z.1 = 0 → ∀ H2 : am_H, xS h b T z.2 H2 → am_E sL sx am_cs 322 62 [] [] H2 R F) (ih : ∀ (v4 : Int32) (a : xA) (H : am_H), xS h b T a H → rc v4 a = some z → am_E sL sx am_cs 322 31 [(0, .ref 157), (1, .int w1), (2, .int w2), (3, .int w3), (4, .int v4)] [] H R F) {q4 : Int32} {a : xA} {H : am_H} (hS : xS h b T a H) (e : j322_56 N h b rc w1 w2 w3 q4 a = some z) : am_E sL sx am_cs 322 56 [(0, .ref 157), (1, .int w1), (2, .int w2), (3, .int w3), (4, .int q4)] [] H R F := by
  unfold j322_56 at e
  refine ex_s (am_nb (m := 2) (pc1 := 31) (ls1 := [(4, .int (q4 + 1)), (0, .ref 157), (1, .int w1), (2, .int w2), (3, .int w3)]) (st1 := []) (H1 := H) (k1 := 0) (n1 := 0) (by with_unfolding_all rfl)) ?_
  exact le_E (l1 := [(0, .ref 157), (1, .int w1), (2, .int w2), (3, .int w3), (4, .int (q4 + 1))]) ⟨rfl, rfl, rfl, rfl, rfl, trivial⟩ rfl (ih (q4 + 1) a H hS e)

set_option maxRecDepth 100000 in
theorem tl322_31 {sL : Nat} {sx : Nat → Int32} {h b N : Nat} {T : List am_C} {R : Option Value} {F : am_H → Prop} {w1 : Int32} {w2 : Int32} {w3 : Int32} {z : Nat × xA} (k0 : z.1 = 0 → ∀ H2 : am_H, xS h b T z.2 H2 → am_E sL sx am_cs 322 62 [] [] H2 R F) : ∀ (n : Nat) (v4 : Int32) (a : xA) (H : am_H), xS h b T a H → l322_31 N h b w1 w2 w3 n v4 a = some z → am_E sL sx am_cs 322 31 [(0, .ref 157), (1, .int w1), (2, .int w2), (3, .int w3), (4, .int v4)] [] H R F := by
  intro n
  induction n with
  | zero =>
    intro v4 a H hS e
    cases e
  | succ n ih =>
    intro v4 a H hS e
    unfold l322_31 at e
    refine ex_s (am_nb (m := 2) (pc1 := 34) (ls1 := [(0, .ref 157), (1, .int w1), (2, .int w2), (3, .int w3), (4, .int v4)]) (st1 := [.int w3, .int v4]) (H1 := H) (k1 := 0) (n1 := 0) (by with_unfolding_all rfl)) ?_
    refine ex_s (st_icmp rfl) ?_
    by_cases c10 : w3 ≤ v4
    · have e := (if_pos c10).symm.trans e
      refine ex_pc (if_pos c10) ?_
      cases e
      exact le_E (l1 := []) trivial rfl (k0 rfl H hS)
    · have e := (if_neg c10).symm.trans e
      refine ex_pc (if_neg c10) ?_
      refine ex_s (am_nb (m := 1) (pc1 := 38) (ls1 := [(0, .ref 157), (1, .int w1), (2, .int w2), (3, .int w3), (4, .int v4)]) (st1 := [.int w2]) (H1 := H) (k1 := 0) (n1 := 0) (by with_unfolding_all rfl)) ?_
      refine ex_s (st_if rfl) ?_
      by_cases c12 : w2 ≤ 0
      · have e := (if_pos c12).symm.trans e
        refine ex_pc (if_pos c12) ?_
        refine ex_s (am_nb (m := 3) (pc1 := 53) (ls1 := [(0, .ref 157), (1, .int w1), (2, .int w2), (3, .int w3), (4, .int v4)]) (st1 := [.int 0, .int w1, .ref 157]) (H1 := H) (k1 := 0) (n1 := 0) (by with_unfolding_all rfl)) ?_
        obtain ⟨a16, e15, e⟩ := xb1_some e
        refine ex_cv0 (as := [.int w1, .int 0]) (rest := []) rfl rfl rfl rfl (hS.obj rfl (by decide)) rfl (by with_unfolding_all rfl) (by with_unfolding_all rfl) (tf320_down hS e15) (fun H13 s14 => ?_)
        exact le_E (l1 := [(0, .ref 157), (1, .int w1), (2, .int w2), (3, .int w3), (4, .int v4)]) ⟨rfl, rfl, rfl, rfl, rfl, trivial⟩ rfl (tj322_56 k0 ih  s14 e)
      · have e := (if_neg c12).symm.trans e
        refine ex_pc (if_neg c12) ?_
        refine ex_s (am_nb (m := 3) (pc1 := 44) (ls1 := [(0, .ref 157), (1, .int w1), (2, .int w2), (3, .int w3), (4, .int v4)]) (st1 := [.int 0, .int w1, .ref 157]) (H1 := H) (k1 := 0) (n1 := 0) (by with_unfolding_all rfl)) ?_
        obtain ⟨a20, e19, e⟩ := xb1_some e
        refine ex_cv0 (as := [.int w1, .int 0]) (rest := []) rfl rfl rfl rfl (hS.obj rfl (by decide)) rfl (by with_unfolding_all rfl) (by with_unfolding_all rfl) (tf316_up hS e19) (fun H17 s18 => ?_)
        refine ex_s (am_nb (m := 1) (pc1 := 56) (ls1 := [(0, .ref 157), (1, .int w1), (2, .int w2), (3, .int w3), (4, .int v4)]) (st1 := []) (H1 := H17) (k1 := 0) (n1 := 0) (by with_unfolding_all rfl)) ?_
        exact le_E (l1 := [(0, .ref 157), (1, .int w1), (2, .int w2), (3, .int w3), (4, .int v4)]) ⟨rfl, rfl, rfl, rfl, rfl, trivial⟩ rfl (tj322_56 k0 ih  s18 e)

set_option maxRecDepth 100000 in
theorem tf322_roll {sL : Nat} {sx : Nat → Int32} {h b N : Nat} {T : List am_C} {r : Int32} {a' : xA} {x0 : Int32} {x1 : Int32} {a : xA} {H : am_H} (hS : xS h b T a H) (e : f322_roll N h b x0 x1 a = some (r, a')) : am_E sL sx am_cs 322 0 [(0, .ref 157), (1, .int x0), (2, .int x1)] [] H (some (.int r)) (fun H1 => xS h b T a' H1) := by
  unfold f322_roll at e
  refine ex_s (am_nb (m := 2) (pc1 := 2) (ls1 := [(0, .ref 157), (1, .int x0), (2, .int x1)]) (st1 := [.int 0, .ref 157]) (H1 := H) (k1 := 0) (n1 := 0) (by with_unfolding_all rfl)) ?_
  obtain ⟨a1, ha1, e⟩ := xw_some e
  refine xe_put (w := 0) hS rfl rfl (by decide) rfl rfl rfl rfl (fun H2 s3 => ?_)
  have s3 : xS h b T a1 H2 := by rw [ha1]; exact s3
  refine ex_s (am_nb (m := 2) (pc1 := 7) (ls1 := [(0, .ref 157), (1, .int x0), (2, .int x1)]) (st1 := [.int x0, .ref 157]) (H1 := H2) (k1 := 0) (n1 := 0) (by with_unfolding_all rfl)) ?_
  obtain ⟨r7, a8, e6, e⟩ := xb2_some e
  refine ex_cv1 (as := [.int x0]) (rest := []) rfl rfl rfl rfl (s3.obj rfl (by decide)) rfl (by with_unfolding_all rfl) (by with_unfolding_all rfl) (tf308_is s3 e6) (fun H4 s5 => ?_)
  refine ex_s (st_if rfl) ?_
  by_cases c9 : r7 = 0
  · have e := (if_pos c9).symm.trans e
    refine ex_pc (if_pos c9) ?_
    refine ex_s (am_nb (m := 1) (pc1 := 14) (ls1 := [(0, .ref 157), (1, .int x0), (2, .int x1)]) (st1 := [.int 0]) (H1 := H4) (k1 := 0) (n1 := 0) (by with_unfolding_all rfl)) ?_
    cases e
    exact ex_r (st_iret rfl rfl rfl) s5
  · have e := (if_neg c9).symm.trans e
    refine ex_pc (if_neg c9) ?_
    refine ex_s (am_nb (m := 9) (pc1 := 31) (ls1 := [(4, .int 0), (3, .int ((xminl (xabsl x1.toInt64) 24).toInt32)), (0, .ref 157), (1, .int x0), (2, .int x1)]) (st1 := []) (H1 := H4) (k1 := 0) (n1 := 0) (by with_unfolding_all rfl)) ?_
    obtain ⟨z21, e22, e⟩ := Option.bind_eq_some_iff.mp e
    refine le_E (l1 := [(0, .ref 157), (1, .int x0), (2, .int x1), (3, .int ((xminl (xabsl x1.toInt64) 24).toInt32)), (4, .int 0)]) ⟨rfl, rfl, rfl, rfl, rfl, trivial⟩ rfl (tl322_31 (z := z21)  (fun uz21_0 Hz210 sz210 => ?_) N 0 a8 H4 s5 e22)
    refine ex_s (am_nb (m := 1) (pc1 := 63) (ls1 := []) (st1 := [.int 1]) (H1 := Hz210) (k1 := 0) (n1 := 0) (by with_unfolding_all rfl)) ?_
    cases e
    exact ex_r (st_iret rfl rfl rfl) sz210

set_option maxRecDepth 100000 in
theorem tj323_154 {sL : Nat} {sx : Nat → Int32} {h b N : Nat} {T : List am_C} {R : Option Value} {F : am_H → Prop} {w2 : Int32} {w3 : Int32} {w4 : Int32} {w5 : Int32} {z : Nat × xA} {rc : Int32 → xA → Option (Nat × xA)} (k0 : z.1 = 0 → ∀ H2 : am_H, xS h b T z.2 H2 → am_E sL sx am_cs 323 160 [(0, .ref 157), (2, .int w2), (3, .int w3), (4, .int w4), (5, .int w5)] [] H2 R F) (ih : ∀ (v6 : Int32) (a : xA) (H : am_H), xS h b T a H → rc v6 a = some z → am_E sL sx am_cs 323 48 [(0, .ref 157), (2, .int w2), (3, .int w3), (4, .int w4), (5, .int w5), (6, .int v6)] [] H R F) {q6 : Int32} {a : xA} {H : am_H} (hS : xS h b T a H) (e : j323_154 N h b rc w2 w3 w4 w5 q6 a = some z) : am_E sL sx am_cs 323 154 [(0, .ref 157), (2, .int w2), (3, .int w3), (4, .int w4), (5, .int w5), (6, .int q6)] [] H R F := by
  unfold j323_154 at e
  refine ex_s (am_nb (m := 2) (pc1 := 48) (ls1 := [(6, .int (q6 + 1)), (0, .ref 157), (2, .int w2), (3, .int w3), (4, .int w4), (5, .int w5)]) (st1 := []) (H1 := H) (k1 := 0) (n1 := 0) (by with_unfolding_all rfl)) ?_
  exact le_E (l1 := [(0, .ref 157), (2, .int w2), (3, .int w3), (4, .int w4), (5, .int w5), (6, .int (q6 + 1))]) ⟨rfl, rfl, rfl, rfl, rfl, rfl, trivial⟩ rfl (ih (q6 + 1) a H hS e)

set_option maxRecDepth 100000 in
theorem tj323_130 {sL : Nat} {sx : Nat → Int32} {h b N : Nat} {T : List am_C} {R : Option Value} {F : am_H → Prop} {w2 : Int32} {w3 : Int32} {w4 : Int32} {w5 : Int32} {z : Nat × xA} {rc : Int32 → xA → Option (Nat × xA)} (k0 : z.1 = 0 → ∀ H2 : am_H, xS h b T z.2 H2 → am_E sL sx am_cs 323 160 [(0, .ref 157), (2, .int w2), (3, .int w3), (4, .int w4), (5, .int w5)] [] H2 R F) (ih : ∀ (v6 : Int32) (a : xA) (H : am_H), xS h b T a H → rc v6 a = some z → am_E sL sx am_cs 323 48 [(0, .ref 157), (2, .int w2), (3, .int w3), (4, .int w4), (5, .int w5), (6, .int v6)] [] H R F) {q6 : Int32} {q7 : Int32} {t0 : Int32} {a : xA} {H : am_H} (hS : xS h b T a H) (e : j323_130 N h b rc w2 w3 w4 w5 q6 q7 t0 a = some z) : am_E sL sx am_cs 323 130 [(0, .ref 157), (2, .int w2), (3, .int w3), (4, .int w4), (5, .int w5), (6, .int q6), (7, .int q7)] [.int t0, .ref 181] H R F := by
  unfold j323_130 at e
  refine ex_s (am_nb (m := 1) (pc1 := 132) (ls1 := [(0, .ref 157), (2, .int w2), (3, .int w3), (4, .int w4), (5, .int w5), (6, .int q6), (7, .int q7)]) (st1 := [.int q7, .int t0, .ref 181]) (H1 := H) (k1 := 0) (n1 := 0) (by with_unfolding_all rfl)) ?_
  have kk : am_E sL sx am_cs 323 142 [(0, .ref 157), (2, .int w2), (3, .int w3), (4, .int w4), (5, .int w5), (6, .int q6), (7, .int q7)] [.int (if q7 = 0 then (124 : Int32) else (45 : Int32)), .int t0, .ref 181] H R F := by
    refine ex_s (am_nb (m := 2) (pc1 := 146) (ls1 := [(0, .ref 157), (2, .int w2), (3, .int w3), (4, .int w4), (5, .int w5), (6, .int q6), (7, .int q7)]) (st1 := [.ref 157, .int 256, .int (if q7 = 0 then (124 : Int32) else (45 : Int32)), .int t0, .ref 181]) (H1 := H) (k1 := 0) (n1 := 0) (by with_unfolding_all rfl)) ?_
    refine xe_get (v := .ref 179) hS rfl rfl (by decide) rfl ?_
    refine ex_s (am_nb (m := 1) (pc1 := 150) (ls1 := [(0, .ref 157), (2, .int w2), (3, .int w3), (4, .int w4), (5, .int w5), (6, .int q6), (7, .int q7)]) (st1 := [.int w2, .ref 179, .int 256, .int (if q7 = 0 then (124 : Int32) else (45 : Int32)), .int t0, .ref 181]) (H1 := H) (k1 := 0) (n1 := 0) (by with_unfolding_all rfl)) ?_
    obtain ⟨g33, e⟩ := xg_some e
    refine xe_iald hS rfl rfl g33 ?_
    refine ex_s (am_nb (m := 2) (pc1 := 153) (ls1 := [(0, .ref 157), (2, .int w2), (3, .int w3), (4, .int w4), (5, .int w5), (6, .int q6), (7, .int q7)]) (st1 := [.int ((if q7 = 0 then (124 : Int32) else (45 : Int32)) + (256 * (a 179 (w2.toNatClampNeg)))), .int t0, .ref 181]) (H1 := H) (k1 := 0) (n1 := 0) (by with_unfolding_all rfl)) ?_
    obtain ⟨g37, e⟩ := xg_some e
    obtain ⟨a34, ha34, e⟩ := xw_some e
    refine xe_iast hS rfl rfl g37 (fun H35 s36 => ?_)
    have s36 : xS h b T a34 H35 := by rw [ha34]; exact s36
    exact le_E (l1 := [(0, .ref 157), (2, .int w2), (3, .int w3), (4, .int w4), (5, .int w5), (6, .int q6)]) ⟨rfl, rfl, rfl, rfl, rfl, rfl, trivial⟩ rfl (tj323_154 k0 ih  s36 e)
  refine ex_s (st_if rfl) ?_
  by_cases c32 : q7 = 0
  · refine ex_pc (if_pos c32) ?_
    refine ex_s (am_nb (m := 1) (pc1 := 142) (ls1 := [(0, .ref 157), (2, .int w2), (3, .int w3), (4, .int w4), (5, .int w5), (6, .int q6), (7, .int q7)]) (st1 := [.int 124, .int t0, .ref 181]) (H1 := H) (k1 := 0) (n1 := 0) (by with_unfolding_all rfl)) ?_
    rw [if_pos c32] at kk
    exact kk
  · refine ex_pc (if_neg c32) ?_
    refine ex_s (am_nb (m := 2) (pc1 := 142) (ls1 := [(0, .ref 157), (2, .int w2), (3, .int w3), (4, .int w4), (5, .int w5), (6, .int q6), (7, .int q7)]) (st1 := [.int 45, .int t0, .ref 181]) (H1 := H) (k1 := 0) (n1 := 0) (by with_unfolding_all rfl)) ?_
    rw [if_neg c32] at kk
    exact kk

set_option maxRecDepth 100000 in
theorem tj323_102 {sL : Nat} {sx : Nat → Int32} {h b N : Nat} {T : List am_C} {R : Option Value} {F : am_H → Prop} {w2 : Int32} {w3 : Int32} {w4 : Int32} {w5 : Int32} {z : Nat × xA} {rc : Int32 → xA → Option (Nat × xA)} (k0 : z.1 = 0 → ∀ H2 : am_H, xS h b T z.2 H2 → am_E sL sx am_cs 323 160 [(0, .ref 157), (2, .int w2), (3, .int w3), (4, .int w4), (5, .int w5)] [] H2 R F) (ih : ∀ (v6 : Int32) (a : xA) (H : am_H), xS h b T a H → rc v6 a = some z → am_E sL sx am_cs 323 48 [(0, .ref 157), (2, .int w2), (3, .int w3), (4, .int w4), (5, .int w5), (6, .int v6)] [] H R F) {q6 : Int32} {q7 : Int32} {q8 : Int32} {a : xA} {H : am_H} (hS : xS h b T a H) (e : j323_102 N h b rc w2 w3 w4 w5 q6 q7 q8 a = some z) : am_E sL sx am_cs 323 102 [(0, .ref 157), (2, .int w2), (3, .int w3), (4, .int w4), (5, .int w5), (6, .int q6), (7, .int q7), (8, .int q8)] [] H R F := by
  unfold j323_102 at e
  refine ex_s (am_nb (m := 1) (pc1 := 103) (ls1 := [(0, .ref 157), (2, .int w2), (3, .int w3), (4, .int w4), (5, .int w5), (6, .int q6), (7, .int q7), (8, .int q8)]) (st1 := [.ref 157]) (H1 := H) (k1 := 0) (n1 := 0) (by with_unfolding_all rfl)) ?_
  refine xe_get (v := .ref 181) hS rfl rfl (by decide) rfl ?_
  refine ex_s (am_nb (m := 4) (pc1 := 112) (ls1 := [(0, .ref 157), (2, .int w2), (3, .int w3), (4, .int w4), (5, .int w5), (6, .int q6), (7, .int q7), (8, .int q8)]) (st1 := [.int q6, .int w5, .int w2, .ref 157, .ref 181]) (H1 := H) (k1 := 0) (n1 := 0) (by with_unfolding_all rfl)) ?_
  obtain ⟨r27, a28, e26, e⟩ := xb2_some e
  refine ex_cv1 (as := [.int w2, .int w5, .int q6]) (rest := [.ref 181]) rfl rfl rfl rfl (hS.obj rfl (by decide)) rfl (by with_unfolding_all rfl) (by with_unfolding_all rfl) (tf314_cellAt hS e26) (fun H24 s25 => ?_)
  refine ex_s (am_nb (m := 1) (pc1 := 117) (ls1 := [(0, .ref 157), (2, .int w2), (3, .int w3), (4, .int w4), (5, .int w5), (6, .int q6), (7, .int q7), (8, .int q8)]) (st1 := [.int q7, .int r27, .ref 181]) (H1 := H24) (k1 := 0) (n1 := 0) (by with_unfolding_all rfl)) ?_
  refine ex_s (st_if rfl) ?_
  by_cases c31 : q7 = 0
  · have e := (if_pos c31).symm.trans e
    refine ex_pc (if_pos c31) ?_
    exact le_E (l1 := [(0, .ref 157), (2, .int w2), (3, .int w3), (4, .int w4), (5, .int w5), (6, .int q6), (7, .int q7)]) ⟨rfl, rfl, rfl, rfl, rfl, rfl, rfl, trivial⟩ rfl (tj323_130 k0 ih  s25 e)
  · have e := (if_neg c31).symm.trans e
    refine ex_pc (if_neg c31) ?_
    refine ex_s (am_nb (m := 1) (pc1 := 122) (ls1 := [(0, .ref 157), (2, .int w2), (3, .int w3), (4, .int w4), (5, .int w5), (6, .int q6), (7, .int q7), (8, .int q8)]) (st1 := [.int q8, .int r27, .ref 181]) (H1 := H24) (k1 := 0) (n1 := 0) (by with_unfolding_all rfl)) ?_
    have kk : am_E sL sx am_cs 323 142 [(0, .ref 157), (2, .int w2), (3, .int w3), (4, .int w4), (5, .int w5), (6, .int q6), (7, .int q7), (8, .int q8)] [.int (if q8 = 0 then (if q7 = 0 then (124 : Int32) else (45 : Int32)) else (43 : Int32)), .int r27, .ref 181] H24 R F := by
      refine ex_s (am_nb (m := 2) (pc1 := 146) (ls1 := [(0, .ref 157), (2, .int w2), (3, .int w3), (4, .int w4), (5, .int w5), (6, .int q6), (7, .int q7), (8, .int q8)]) (st1 := [.ref 157, .int 256, .int (if q8 = 0 then (if q7 = 0 then (124 : Int32) else (45 : Int32)) else (43 : Int32)), .int r27, .ref 181]) (H1 := H24) (k1 := 0) (n1 := 0) (by with_unfolding_all rfl)) ?_
      refine xe_get (v := .ref 179) s25 rfl rfl (by decide) rfl ?_
      refine ex_s (am_nb (m := 1) (pc1 := 150) (ls1 := [(0, .ref 157), (2, .int w2), (3, .int w3), (4, .int w4), (5, .int w5), (6, .int q6), (7, .int q7), (8, .int q8)]) (st1 := [.int w2, .ref 179, .int 256, .int (if q8 = 0 then (if q7 = 0 then (124 : Int32) else (45 : Int32)) else (43 : Int32)), .int r27, .ref 181]) (H1 := H24) (k1 := 0) (n1 := 0) (by with_unfolding_all rfl)) ?_
      obtain ⟨g40, e⟩ := xg_some e
      refine xe_iald s25 rfl rfl g40 ?_
      refine ex_s (am_nb (m := 2) (pc1 := 153) (ls1 := [(0, .ref 157), (2, .int w2), (3, .int w3), (4, .int w4), (5, .int w5), (6, .int q6), (7, .int q7), (8, .int q8)]) (st1 := [.int ((if q8 = 0 then (if q7 = 0 then (124 : Int32) else (45 : Int32)) else (43 : Int32)) + (256 * (a28 179 (w2.toNatClampNeg)))), .int r27, .ref 181]) (H1 := H24) (k1 := 0) (n1 := 0) (by with_unfolding_all rfl)) ?_
      obtain ⟨g44, e⟩ := xg_some e
      obtain ⟨a41, ha41, e⟩ := xw_some e
      refine xe_iast s25 rfl rfl g44 (fun H42 s43 => ?_)
      have s43 : xS h b T a41 H42 := by rw [ha41]; exact s43
      exact le_E (l1 := [(0, .ref 157), (2, .int w2), (3, .int w3), (4, .int w4), (5, .int w5), (6, .int q6)]) ⟨rfl, rfl, rfl, rfl, rfl, rfl, trivial⟩ rfl (tj323_154 k0 ih  s43 e)
    refine ex_s (st_if rfl) ?_
    by_cases c38 : q8 = 0
    · refine ex_pc (if_pos c38) ?_
      refine ex_s (am_nb (m := 1) (pc1 := 132) (ls1 := [(0, .ref 157), (2, .int w2), (3, .int w3), (4, .int w4), (5, .int w5), (6, .int q6), (7, .int q7), (8, .int q8)]) (st1 := [.int q7, .int r27, .ref 181]) (H1 := H24) (k1 := 0) (n1 := 0) (by with_unfolding_all rfl)) ?_
      refine ex_s (st_if rfl) ?_
      by_cases c39 : q7 = 0
      · refine ex_pc (if_pos c39) ?_
        refine ex_s (am_nb (m := 1) (pc1 := 142) (ls1 := [(0, .ref 157), (2, .int w2), (3, .int w3), (4, .int w4), (5, .int w5), (6, .int q6), (7, .int q7), (8, .int q8)]) (st1 := [.int 124, .int r27, .ref 181]) (H1 := H24) (k1 := 0) (n1 := 0) (by with_unfolding_all rfl)) ?_
        rw [if_pos c38, if_pos c39] at kk
        exact kk
      · refine ex_pc (if_neg c39) ?_
        refine ex_s (am_nb (m := 2) (pc1 := 142) (ls1 := [(0, .ref 157), (2, .int w2), (3, .int w3), (4, .int w4), (5, .int w5), (6, .int q6), (7, .int q7), (8, .int q8)]) (st1 := [.int 45, .int r27, .ref 181]) (H1 := H24) (k1 := 0) (n1 := 0) (by with_unfolding_all rfl)) ?_
        rw [if_pos c38, if_neg c39] at kk
        exact kk
    · refine ex_pc (if_neg c38) ?_
      refine ex_s (am_nb (m := 2) (pc1 := 142) (ls1 := [(0, .ref 157), (2, .int w2), (3, .int w3), (4, .int w4), (5, .int w5), (6, .int q6), (7, .int q7), (8, .int q8)]) (st1 := [.int 43, .int r27, .ref 181]) (H1 := H24) (k1 := 0) (n1 := 0) (by with_unfolding_all rfl)) ?_
      rw [if_neg c38] at kk
      exact kk

set_option maxRecDepth 100000 in
theorem tj323_90 {sL : Nat} {sx : Nat → Int32} {h b N : Nat} {T : List am_C} {R : Option Value} {F : am_H → Prop} {w2 : Int32} {w3 : Int32} {w4 : Int32} {w5 : Int32} {z : Nat × xA} {rc : Int32 → xA → Option (Nat × xA)} (k0 : z.1 = 0 → ∀ H2 : am_H, xS h b T z.2 H2 → am_E sL sx am_cs 323 160 [(0, .ref 157), (2, .int w2), (3, .int w3), (4, .int w4), (5, .int w5)] [] H2 R F) (ih : ∀ (v6 : Int32) (a : xA) (H : am_H), xS h b T a H → rc v6 a = some z → am_E sL sx am_cs 323 48 [(0, .ref 157), (2, .int w2), (3, .int w3), (4, .int w4), (5, .int w5), (6, .int v6)] [] H R F) {q6 : Int32} {q7 : Int32} {t0 : Int32} {a : xA} {H : am_H} (hS : xS h b T a H) (e : j323_90 N h b rc w2 w3 w4 w5 q6 q7 t0 a = some z) : am_E sL sx am_cs 323 90 [(0, .ref 157), (2, .int w2), (3, .int w3), (4, .int w4), (5, .int w5), (6, .int q6), (7, .int q7)] [.int t0] H R F := by
  unfold j323_90 at e
  refine ex_s (am_nb (m := 2) (pc1 := 94) (ls1 := [(8, .int t0), (0, .ref 157), (2, .int w2), (3, .int w3), (4, .int w4), (5, .int w5), (6, .int q6), (7, .int q7)]) (st1 := [.int q7]) (H1 := H) (k1 := 0) (n1 := 0) (by with_unfolding_all rfl)) ?_
  refine ex_s (st_if rfl) ?_
  by_cases c21 : q7 = 0
  · have e := (if_pos c21).symm.trans e
    refine ex_pc (if_pos c21) ?_
    refine ex_s (am_nb (m := 1) (pc1 := 99) (ls1 := [(8, .int t0), (0, .ref 157), (2, .int w2), (3, .int w3), (4, .int w4), (5, .int w5), (6, .int q6), (7, .int q7)]) (st1 := [.int t0]) (H1 := H) (k1 := 0) (n1 := 0) (by with_unfolding_all rfl)) ?_
    refine ex_s (st_if rfl) ?_
    by_cases c23 : t0 = 0
    · have e := (if_pos c23).symm.trans e
      refine ex_pc (if_pos c23) ?_
      exact le_E (l1 := [(0, .ref 157), (2, .int w2), (3, .int w3), (4, .int w4), (5, .int w5), (6, .int q6)]) ⟨rfl, rfl, rfl, rfl, rfl, rfl, trivial⟩ rfl (tj323_154 k0 ih  hS e)
    · have e := (if_neg c23).symm.trans e
      refine ex_pc (if_neg c23) ?_
      exact le_E (l1 := [(0, .ref 157), (2, .int w2), (3, .int w3), (4, .int w4), (5, .int w5), (6, .int q6), (7, .int q7), (8, .int t0)]) ⟨rfl, rfl, rfl, rfl, rfl, rfl, rfl, rfl, trivial⟩ rfl (tj323_102 k0 ih  hS e)
  · have e := (if_neg c21).symm.trans e
    refine ex_pc (if_neg c21) ?_
    exact le_E (l1 := [(0, .ref 157), (2, .int w2), (3, .int w3), (4, .int w4), (5, .int w5), (6, .int q6), (7, .int q7), (8, .int t0)]) ⟨rfl, rfl, rfl, rfl, rfl, rfl, rfl, rfl, trivial⟩ rfl (tj323_102 k0 ih  hS e)

set_option maxRecDepth 100000 in
theorem tj323_85 {sL : Nat} {sx : Nat → Int32} {h b N : Nat} {T : List am_C} {R : Option Value} {F : am_H → Prop} {w2 : Int32} {w3 : Int32} {w4 : Int32} {w5 : Int32} {z : Nat × xA} {rc : Int32 → xA → Option (Nat × xA)} (k0 : z.1 = 0 → ∀ H2 : am_H, xS h b T z.2 H2 → am_E sL sx am_cs 323 160 [(0, .ref 157), (2, .int w2), (3, .int w3), (4, .int w4), (5, .int w5)] [] H2 R F) (ih : ∀ (v6 : Int32) (a : xA) (H : am_H), xS h b T a H → rc v6 a = some z → am_E sL sx am_cs 323 48 [(0, .ref 157), (2, .int w2), (3, .int w3), (4, .int w4), (5, .int w5), (6, .int v6)] [] H R F) {q6 : Int32} {q7 : Int32} {a : xA} {H : am_H} (hS : xS h b T a H) (e : j323_85 N h b rc w2 w3 w4 w5 q6 q7 a = some z) : am_E sL sx am_cs 323 85 [(0, .ref 157), (2, .int w2), (3, .int w3), (4, .int w4), (5, .int w5), (6, .int q6), (7, .int q7)] [] H R F := by
  unfold j323_85 at e
  refine ex_s (am_nb (m := 2) (pc1 := 90) (ls1 := [(0, .ref 157), (2, .int w2), (3, .int w3), (4, .int w4), (5, .int w5), (6, .int q6), (7, .int q7)]) (st1 := [.int 1]) (H1 := H) (k1 := 0) (n1 := 0) (by with_unfolding_all rfl)) ?_
  exact le_E (l1 := [(0, .ref 157), (2, .int w2), (3, .int w3), (4, .int w4), (5, .int w5), (6, .int q6), (7, .int q7)]) ⟨rfl, rfl, rfl, rfl, rfl, rfl, rfl, trivial⟩ rfl (tj323_90 k0 ih  hS e)

set_option maxRecDepth 100000 in
theorem tj323_71 {sL : Nat} {sx : Nat → Int32} {h b N : Nat} {T : List am_C} {R : Option Value} {F : am_H → Prop} {w2 : Int32} {w3 : Int32} {w4 : Int32} {w5 : Int32} {z : Nat × xA} {rc : Int32 → xA → Option (Nat × xA)} (k0 : z.1 = 0 → ∀ H2 : am_H, xS h b T z.2 H2 → am_E sL sx am_cs 323 160 [(0, .ref 157), (2, .int w2), (3, .int w3), (4, .int w4), (5, .int w5)] [] H2 R F) (ih : ∀ (v6 : Int32) (a : xA) (H : am_H), xS h b T a H → rc v6 a = some z → am_E sL sx am_cs 323 48 [(0, .ref 157), (2, .int w2), (3, .int w3), (4, .int w4), (5, .int w5), (6, .int v6)] [] H R F) {q6 : Int32} {t0 : Int32} {a : xA} {H : am_H} (hS : xS h b T a H) (e : j323_71 N h b rc w2 w3 w4 w5 q6 t0 a = some z) : am_E sL sx am_cs 323 71 [(0, .ref 157), (2, .int w2), (3, .int w3), (4, .int w4), (5, .int w5), (6, .int q6)] [.int t0] H R F := by
  unfold j323_71 at e
  refine ex_s (am_nb (m := 2) (pc1 := 75) (ls1 := [(7, .int t0), (0, .ref 157), (2, .int w2), (3, .int w3), (4, .int w4), (5, .int w5), (6, .int q6)]) (st1 := [.int q6]) (H1 := H) (k1 := 0) (n1 := 0) (by with_unfolding_all rfl)) ?_
  refine ex_s (st_if rfl) ?_
  by_cases c18 : q6 = 0
  · have e := (if_pos c18).symm.trans e
    refine ex_pc (if_pos c18) ?_
    exact le_E (l1 := [(0, .ref 157), (2, .int w2), (3, .int w3), (4, .int w4), (5, .int w5), (6, .int q6), (7, .int t0)]) ⟨rfl, rfl, rfl, rfl, rfl, rfl, rfl, trivial⟩ rfl (tj323_85 k0 ih  hS e)
  · have e := (if_neg c18).symm.trans e
    refine ex_pc (if_neg c18) ?_
    refine ex_s (am_nb (m := 2) (pc1 := 82) (ls1 := [(7, .int t0), (0, .ref 157), (2, .int w2), (3, .int w3), (4, .int w4), (5, .int w5), (6, .int q6)]) (st1 := [.int w4, .int q6]) (H1 := H) (k1 := 0) (n1 := 0) (by with_unfolding_all rfl)) ?_
    have kk : am_E sL sx am_cs 323 90 [(7, .int t0), (0, .ref 157), (2, .int w2), (3, .int w3), (4, .int w4), (5, .int w5), (6, .int q6)] [.int (if q6 = w4 then (1 : Int32) else (0 : Int32))] H R F := by
      refine ex_s (am_nb (m := 2) (pc1 := 94) (ls1 := [(8, .int (if q6 = w4 then (1 : Int32) else (0 : Int32))), (7, .int t0), (0, .ref 157), (2, .int w2), (3, .int w3), (4, .int w4), (5, .int w5), (6, .int q6)]) (st1 := [.int t0]) (H1 := H) (k1 := 0) (n1 := 0) (by with_unfolding_all rfl)) ?_
      refine ex_s (st_if rfl) ?_
      by_cases c48 : t0 = 0
      · have e := (if_pos c48).symm.trans e
        refine ex_pc (if_pos c48) ?_
        refine ex_s (am_nb (m := 1) (pc1 := 99) (ls1 := [(8, .int (if q6 = w4 then (1 : Int32) else (0 : Int32))), (7, .int t0), (0, .ref 157), (2, .int w2), (3, .int w3), (4, .int w4), (5, .int w5), (6, .int q6)]) (st1 := [.int (if q6 = w4 then (1 : Int32) else (0 : Int32))]) (H1 := H) (k1 := 0) (n1 := 0) (by with_unfolding_all rfl)) ?_
        refine ex_s (st_if rfl) ?_
        by_cases c50 : (if q6 = w4 then (1 : Int32) else (0 : Int32)) = 0
        · have e := (if_pos c50).symm.trans e
          refine ex_pc (if_pos c50) ?_
          exact le_E (l1 := [(0, .ref 157), (2, .int w2), (3, .int w3), (4, .int w4), (5, .int w5), (6, .int q6)]) ⟨rfl, rfl, rfl, rfl, rfl, rfl, trivial⟩ rfl (tj323_154 k0 ih  hS e)
        · have e := (if_neg c50).symm.trans e
          refine ex_pc (if_neg c50) ?_
          exact le_E (l1 := [(0, .ref 157), (2, .int w2), (3, .int w3), (4, .int w4), (5, .int w5), (6, .int q6), (7, .int t0), (8, .int (if q6 = w4 then (1 : Int32) else (0 : Int32)))]) ⟨rfl, rfl, rfl, rfl, rfl, rfl, rfl, rfl, trivial⟩ rfl (tj323_102 k0 ih  hS e)
      · have e := (if_neg c48).symm.trans e
        refine ex_pc (if_neg c48) ?_
        exact le_E (l1 := [(0, .ref 157), (2, .int w2), (3, .int w3), (4, .int w4), (5, .int w5), (6, .int q6), (7, .int t0), (8, .int (if q6 = w4 then (1 : Int32) else (0 : Int32)))]) ⟨rfl, rfl, rfl, rfl, rfl, rfl, rfl, rfl, trivial⟩ rfl (tj323_102 k0 ih  hS e)
    refine ex_s (st_icmp rfl) ?_
    by_cases c45 : q6 = w4
    · refine ex_pc (if_pos c45) ?_
      refine ex_s (am_nb (m := 2) (pc1 := 90) (ls1 := [(7, .int t0), (0, .ref 157), (2, .int w2), (3, .int w3), (4, .int w4), (5, .int w5), (6, .int q6)]) (st1 := [.int 1]) (H1 := H) (k1 := 0) (n1 := 0) (by with_unfolding_all rfl)) ?_
      rw [if_pos c45] at kk
      exact kk
    · refine ex_pc (if_neg c45) ?_
      refine ex_s (am_nb (m := 1) (pc1 := 90) (ls1 := [(7, .int t0), (0, .ref 157), (2, .int w2), (3, .int w3), (4, .int w4), (5, .int w5), (6, .int q6)]) (st1 := [.int 0]) (H1 := H) (k1 := 0) (n1 := 0) (by with_unfolding_all rfl)) ?_
      rw [if_neg c45] at kk
      exact kk

set_option maxRecDepth 100000 in
theorem tj323_66 {sL : Nat} {sx : Nat → Int32} {h b N : Nat} {T : List am_C} {R : Option Value} {F : am_H → Prop} {w2 : Int32} {w3 : Int32} {w4 : Int32} {w5 : Int32} {z : Nat × xA} {rc : Int32 → xA → Option (Nat × xA)} (k0 : z.1 = 0 → ∀ H2 : am_H, xS h b T z.2 H2 → am_E sL sx am_cs 323 160 [(0, .ref 157), (2, .int w2), (3, .int w3), (4, .int w4), (5, .int w5)] [] H2 R F) (ih : ∀ (v6 : Int32) (a : xA) (H : am_H), xS h b T a H → rc v6 a = some z → am_E sL sx am_cs 323 48 [(0, .ref 157), (2, .int w2), (3, .int w3), (4, .int w4), (5, .int w5), (6, .int v6)] [] H R F) {q6 : Int32} {a : xA} {H : am_H} (hS : xS h b T a H) (e : j323_66 N h b rc w2 w3 w4 w5 q6 a = some z) : am_E sL sx am_cs 323 66 [(0, .ref 157), (2, .int w2), (3, .int w3), (4, .int w4), (5, .int w5), (6, .int q6)] [] H R F := by
  unfold j323_66 at e
  refine ex_s (am_nb (m := 2) (pc1 := 71) (ls1 := [(0, .ref 157), (2, .int w2), (3, .int w3), (4, .int w4), (5, .int w5), (6, .int q6)]) (st1 := [.int 1]) (H1 := H) (k1 := 0) (n1 := 0) (by with_unfolding_all rfl)) ?_
  exact le_E (l1 := [(0, .ref 157), (2, .int w2), (3, .int w3), (4, .int w4), (5, .int w5), (6, .int q6)]) ⟨rfl, rfl, rfl, rfl, rfl, rfl, trivial⟩ rfl (tj323_71 k0 ih  hS e)

set_option maxRecDepth 100000 in
theorem tl323_48 {sL : Nat} {sx : Nat → Int32} {h b N : Nat} {T : List am_C} {R : Option Value} {F : am_H → Prop} {w2 : Int32} {w3 : Int32} {w4 : Int32} {w5 : Int32} {z : Nat × xA} (k0 : z.1 = 0 → ∀ H2 : am_H, xS h b T z.2 H2 → am_E sL sx am_cs 323 160 [(0, .ref 157), (2, .int w2), (3, .int w3), (4, .int w4), (5, .int w5)] [] H2 R F) : ∀ (n : Nat) (v6 : Int32) (a : xA) (H : am_H), xS h b T a H → l323_48 N h b w2 w3 w4 w5 n v6 a = some z → am_E sL sx am_cs 323 48 [(0, .ref 157), (2, .int w2), (3, .int w3), (4, .int w4), (5, .int w5), (6, .int v6)] [] H R F := by
  intro n
  induction n with
  | zero =>
    intro v6 a H hS e
    cases e
  | succ n ih =>
    intro v6 a H hS e
    unfold l323_48 at e
    refine ex_s (am_nb (m := 2) (pc1 := 52) (ls1 := [(0, .ref 157), (2, .int w2), (3, .int w3), (4, .int w4), (5, .int w5), (6, .int v6)]) (st1 := [.int w4, .int v6]) (H1 := H) (k1 := 0) (n1 := 0) (by with_unfolding_all rfl)) ?_
    refine ex_s (st_icmp rfl) ?_
    by_cases c12 : w4 < v6
    · have e := (if_pos c12).symm.trans e
      refine ex_pc (if_pos c12) ?_
      cases e
      exact le_E (l1 := [(0, .ref 157), (2, .int w2), (3, .int w3), (4, .int w4), (5, .int w5)]) ⟨rfl, rfl, rfl, rfl, rfl, trivial⟩ rfl (k0 rfl H hS)
    · have e := (if_neg c12).symm.trans e
      refine ex_pc (if_neg c12) ?_
      refine ex_s (am_nb (m := 1) (pc1 := 57) (ls1 := [(0, .ref 157), (2, .int w2), (3, .int w3), (4, .int w4), (5, .int w5), (6, .int v6)]) (st1 := [.int w5]) (H1 := H) (k1 := 0) (n1 := 0) (by with_unfolding_all rfl)) ?_
      refine ex_s (st_if rfl) ?_
      by_cases c15 : w5 = 0
      · have e := (if_pos c15).symm.trans e
        refine ex_pc (if_pos c15) ?_
        exact le_E (l1 := [(0, .ref 157), (2, .int w2), (3, .int w3), (4, .int w4), (5, .int w5), (6, .int v6)]) ⟨rfl, rfl, rfl, rfl, rfl, rfl, trivial⟩ rfl (tj323_66 k0 ih  hS e)
      · have e := (if_neg c15).symm.trans e
        refine ex_pc (if_neg c15) ?_
        refine ex_s (am_nb (m := 2) (pc1 := 63) (ls1 := [(0, .ref 157), (2, .int w2), (3, .int w3), (4, .int w4), (5, .int w5), (6, .int v6)]) (st1 := [.int w3, .int w5]) (H1 := H) (k1 := 0) (n1 := 0) (by with_unfolding_all rfl)) ?_
        have kk : am_E sL sx am_cs 323 71 [(0, .ref 157), (2, .int w2), (3, .int w3), (4, .int w4), (5, .int w5), (6, .int v6)] [.int (if w5 = w3 then (1 : Int32) else (0 : Int32))] H R F := by
          refine ex_s (am_nb (m := 2) (pc1 := 75) (ls1 := [(7, .int (if w5 = w3 then (1 : Int32) else (0 : Int32))), (0, .ref 157), (2, .int w2), (3, .int w3), (4, .int w4), (5, .int w5), (6, .int v6)]) (st1 := [.int v6]) (H1 := H) (k1 := 0) (n1 := 0) (by with_unfolding_all rfl)) ?_
          refine ex_s (st_if rfl) ?_
          by_cases c54 : v6 = 0
          · have e := (if_pos c54).symm.trans e
            refine ex_pc (if_pos c54) ?_
            exact le_E (l1 := [(0, .ref 157), (2, .int w2), (3, .int w3), (4, .int w4), (5, .int w5), (6, .int v6), (7, .int (if w5 = w3 then (1 : Int32) else (0 : Int32)))]) ⟨rfl, rfl, rfl, rfl, rfl, rfl, rfl, trivial⟩ rfl (tj323_85 k0 ih  hS e)
          · have e := (if_neg c54).symm.trans e
            refine ex_pc (if_neg c54) ?_
            refine ex_s (am_nb (m := 2) (pc1 := 82) (ls1 := [(7, .int (if w5 = w3 then (1 : Int32) else (0 : Int32))), (0, .ref 157), (2, .int w2), (3, .int w3), (4, .int w4), (5, .int w5), (6, .int v6)]) (st1 := [.int w4, .int v6]) (H1 := H) (k1 := 0) (n1 := 0) (by with_unfolding_all rfl)) ?_
            have kk : am_E sL sx am_cs 323 90 [(7, .int (if w5 = w3 then (1 : Int32) else (0 : Int32))), (0, .ref 157), (2, .int w2), (3, .int w3), (4, .int w4), (5, .int w5), (6, .int v6)] [.int (if v6 = w4 then (1 : Int32) else (0 : Int32))] H R F := by
              refine ex_s (am_nb (m := 2) (pc1 := 94) (ls1 := [(8, .int (if v6 = w4 then (1 : Int32) else (0 : Int32))), (7, .int (if w5 = w3 then (1 : Int32) else (0 : Int32))), (0, .ref 157), (2, .int w2), (3, .int w3), (4, .int w4), (5, .int w5), (6, .int v6)]) (st1 := [.int (if w5 = w3 then (1 : Int32) else (0 : Int32))]) (H1 := H) (k1 := 0) (n1 := 0) (by with_unfolding_all rfl)) ?_
              refine ex_s (st_if rfl) ?_
              by_cases c58 : (if w5 = w3 then (1 : Int32) else (0 : Int32)) = 0
              · have e := (if_pos c58).symm.trans e
                refine ex_pc (if_pos c58) ?_
                refine ex_s (am_nb (m := 1) (pc1 := 99) (ls1 := [(8, .int (if v6 = w4 then (1 : Int32) else (0 : Int32))), (7, .int (if w5 = w3 then (1 : Int32) else (0 : Int32))), (0, .ref 157), (2, .int w2), (3, .int w3), (4, .int w4), (5, .int w5), (6, .int v6)]) (st1 := [.int (if v6 = w4 then (1 : Int32) else (0 : Int32))]) (H1 := H) (k1 := 0) (n1 := 0) (by with_unfolding_all rfl)) ?_
                refine ex_s (st_if rfl) ?_
                by_cases c60 : (if v6 = w4 then (1 : Int32) else (0 : Int32)) = 0
                · have e := (if_pos c60).symm.trans e
                  refine ex_pc (if_pos c60) ?_
                  exact le_E (l1 := [(0, .ref 157), (2, .int w2), (3, .int w3), (4, .int w4), (5, .int w5), (6, .int v6)]) ⟨rfl, rfl, rfl, rfl, rfl, rfl, trivial⟩ rfl (tj323_154 k0 ih  hS e)
                · have e := (if_neg c60).symm.trans e
                  refine ex_pc (if_neg c60) ?_
                  exact le_E (l1 := [(0, .ref 157), (2, .int w2), (3, .int w3), (4, .int w4), (5, .int w5), (6, .int v6), (7, .int (if w5 = w3 then (1 : Int32) else (0 : Int32))), (8, .int (if v6 = w4 then (1 : Int32) else (0 : Int32)))]) ⟨rfl, rfl, rfl, rfl, rfl, rfl, rfl, rfl, trivial⟩ rfl (tj323_102 k0 ih  hS e)
              · have e := (if_neg c58).symm.trans e
                refine ex_pc (if_neg c58) ?_
                exact le_E (l1 := [(0, .ref 157), (2, .int w2), (3, .int w3), (4, .int w4), (5, .int w5), (6, .int v6), (7, .int (if w5 = w3 then (1 : Int32) else (0 : Int32))), (8, .int (if v6 = w4 then (1 : Int32) else (0 : Int32)))]) ⟨rfl, rfl, rfl, rfl, rfl, rfl, rfl, rfl, trivial⟩ rfl (tj323_102 k0 ih  hS e)
            refine ex_s (st_icmp rfl) ?_
            by_cases c55 : v6 = w4
            · refine ex_pc (if_pos c55) ?_
              refine ex_s (am_nb (m := 2) (pc1 := 90) (ls1 := [(7, .int (if w5 = w3 then (1 : Int32) else (0 : Int32))), (0, .ref 157), (2, .int w2), (3, .int w3), (4, .int w4), (5, .int w5), (6, .int v6)]) (st1 := [.int 1]) (H1 := H) (k1 := 0) (n1 := 0) (by with_unfolding_all rfl)) ?_
              rw [if_pos c55] at kk
              exact kk
            · refine ex_pc (if_neg c55) ?_
              refine ex_s (am_nb (m := 1) (pc1 := 90) (ls1 := [(7, .int (if w5 = w3 then (1 : Int32) else (0 : Int32))), (0, .ref 157), (2, .int w2), (3, .int w3), (4, .int w4), (5, .int w5), (6, .int v6)]) (st1 := [.int 0]) (H1 := H) (k1 := 0) (n1 := 0) (by with_unfolding_all rfl)) ?_
              rw [if_neg c55] at kk
              exact kk
        refine ex_s (st_icmp rfl) ?_
        by_cases c51 : w5 = w3
        · refine ex_pc (if_pos c51) ?_
          refine ex_s (am_nb (m := 2) (pc1 := 71) (ls1 := [(0, .ref 157), (2, .int w2), (3, .int w3), (4, .int w4), (5, .int w5), (6, .int v6)]) (st1 := [.int 1]) (H1 := H) (k1 := 0) (n1 := 0) (by with_unfolding_all rfl)) ?_
          rw [if_pos c51] at kk
          exact kk
        · refine ex_pc (if_neg c51) ?_
          refine ex_s (am_nb (m := 1) (pc1 := 71) (ls1 := [(0, .ref 157), (2, .int w2), (3, .int w3), (4, .int w4), (5, .int w5), (6, .int v6)]) (st1 := [.int 0]) (H1 := H) (k1 := 0) (n1 := 0) (by with_unfolding_all rfl)) ?_
          rw [if_neg c51] at kk
          exact kk

set_option maxRecDepth 100000 in
theorem tl323_39 {sL : Nat} {sx : Nat → Int32} {h b N : Nat} {T : List am_C} {R : Option Value} {F : am_H → Prop} {w2 : Int32} {w3 : Int32} {w4 : Int32} {z : Nat × xA} (k0 : z.1 = 0 → ∀ H2 : am_H, xS h b T z.2 H2 → am_E sL sx am_cs 323 166 [] [] H2 R F) : ∀ (n : Nat) (v5 : Int32) (a : xA) (H : am_H), xS h b T a H → l323_39 N h b w2 w3 w4 n v5 a = some z → am_E sL sx am_cs 323 39 [(0, .ref 157), (2, .int w2), (3, .int w3), (4, .int w4), (5, .int v5)] [] H R F := by
  intro n
  induction n with
  | zero =>
    intro v5 a H hS e
    cases e
  | succ n ih =>
    intro v5 a H hS e
    unfold l323_39 at e
    refine ex_s (am_nb (m := 2) (pc1 := 42) (ls1 := [(0, .ref 157), (2, .int w2), (3, .int w3), (4, .int w4), (5, .int v5)]) (st1 := [.int w3, .int v5]) (H1 := H) (k1 := 0) (n1 := 0) (by with_unfolding_all rfl)) ?_
    refine ex_s (st_icmp rfl) ?_
    by_cases c11 : w3 < v5
    · have e := (if_pos c11).symm.trans e
      refine ex_pc (if_pos c11) ?_
      cases e
      exact le_E (l1 := []) trivial rfl (k0 rfl H hS)
    · have e := (if_neg c11).symm.trans e
      refine ex_pc (if_neg c11) ?_
      refine ex_s (am_nb (m := 2) (pc1 := 48) (ls1 := [(6, .int 0), (0, .ref 157), (2, .int w2), (3, .int w3), (4, .int w4), (5, .int v5)]) (st1 := []) (H1 := H) (k1 := 0) (n1 := 0) (by with_unfolding_all rfl)) ?_
      obtain ⟨z61, e62, e⟩ := Option.bind_eq_some_iff.mp e
      refine le_E (l1 := [(0, .ref 157), (2, .int w2), (3, .int w3), (4, .int w4), (5, .int v5), (6, .int 0)]) ⟨rfl, rfl, rfl, rfl, rfl, rfl, trivial⟩ rfl (tl323_48 (z := z61)  (fun uz61_0 Hz610 sz610 => ?_) N 0 a H hS e62)
      refine ex_s (am_nb (m := 2) (pc1 := 39) (ls1 := [(5, .int (v5 + 1)), (0, .ref 157), (2, .int w2), (3, .int w3), (4, .int w4)]) (st1 := []) (H1 := Hz610) (k1 := 0) (n1 := 0) (by with_unfolding_all rfl)) ?_
      exact le_E (l1 := [(0, .ref 157), (2, .int w2), (3, .int w3), (4, .int w4), (5, .int (v5 + 1))]) ⟨rfl, rfl, rfl, rfl, rfl, trivial⟩ rfl (ih (v5 + 1) z61.2 Hz610 sz610 e)

set_option maxRecDepth 100000 in
theorem tf323_box {sL : Nat} {sx : Nat → Int32} {h b N : Nat} {T : List am_C} {r : Int32} {a' : xA} {x0 : Int32} {a : xA} {H : am_H} (hS : xS h b T a H) (e : f323_box N h b x0 a = some (r, a')) : am_E sL sx am_cs 323 0 [(0, .ref 157), (1, .int x0)] [] H (some (.int r)) (fun H1 => xS h b T a' H1) := by
  unfold f323_box at e
  refine ex_s (am_nb (m := 2) (pc1 := 2) (ls1 := [(0, .ref 157), (1, .int x0)]) (st1 := [.int 0, .ref 157]) (H1 := H) (k1 := 0) (n1 := 0) (by with_unfolding_all rfl)) ?_
  obtain ⟨a1, ha1, e⟩ := xw_some e
  refine xe_put (w := 0) hS rfl rfl (by decide) rfl rfl rfl rfl (fun H2 s3 => ?_)
  have s3 : xS h b T a1 H2 := by rw [ha1]; exact s3
  refine ex_s (am_nb (m := 2) (pc1 := 7) (ls1 := [(0, .ref 157), (1, .int x0)]) (st1 := [.int x0, .ref 157]) (H1 := H2) (k1 := 0) (n1 := 0) (by with_unfolding_all rfl)) ?_
  obtain ⟨r7, a8, e6, e⟩ := xb2_some e
  refine ex_cv1 (as := [.int x0]) (rest := []) rfl rfl rfl rfl (s3.obj rfl (by decide)) rfl (by with_unfolding_all rfl) (by with_unfolding_all rfl) (tf308_is s3 e6) (fun H4 s5 => ?_)
  refine ex_s (st_if rfl) ?_
  by_cases c9 : r7 = 0
  · have e := (if_pos c9).symm.trans e
    refine ex_pc (if_pos c9) ?_
    refine ex_s (am_nb (m := 1) (pc1 := 14) (ls1 := [(0, .ref 157), (1, .int x0)]) (st1 := [.int 0]) (H1 := H4) (k1 := 0) (n1 := 0) (by with_unfolding_all rfl)) ?_
    cases e
    exact ex_r (st_iret rfl rfl rfl) s5
  · have e := (if_neg c9).symm.trans e
    refine ex_pc (if_neg c9) ?_
    refine ex_s (am_nb (m := 3) (pc1 := 18) (ls1 := [(2, .int x0), (0, .ref 157), (1, .int x0)]) (st1 := [.ref 157]) (H1 := H4) (k1 := 0) (n1 := 0) (by with_unfolding_all rfl)) ?_
    refine xe_get (v := .ref 175) s5 rfl rfl (by decide) rfl ?_
    refine ex_s (am_nb (m := 1) (pc1 := 22) (ls1 := [(2, .int x0), (0, .ref 157), (1, .int x0)]) (st1 := [.int x0, .ref 175]) (H1 := H4) (k1 := 0) (n1 := 0) (by with_unfolding_all rfl)) ?_
    obtain ⟨g10, e⟩ := xg_some e
    refine xe_iald s5 rfl rfl g10 ?_
    refine ex_s (am_nb (m := 4) (pc1 := 27) (ls1 := [(3, .int ((a8 175 (x0.toNatClampNeg)) - 1)), (2, .int x0), (0, .ref 157), (1, .int x0)]) (st1 := [.ref 157]) (H1 := H4) (k1 := 0) (n1 := 0) (by with_unfolding_all rfl)) ?_
    refine xe_get (v := .ref 176) s5 rfl rfl (by decide) rfl ?_
    refine ex_s (am_nb (m := 1) (pc1 := 31) (ls1 := [(3, .int ((a8 175 (x0.toNatClampNeg)) - 1)), (2, .int x0), (0, .ref 157), (1, .int x0)]) (st1 := [.int x0, .ref 176]) (H1 := H4) (k1 := 0) (n1 := 0) (by with_unfolding_all rfl)) ?_
    refine xe_iald s5 rfl rfl g10 ?_
    refine ex_s (am_nb (m := 5) (pc1 := 39) (ls1 := [(5, .int 0), (4, .int ((a8 176 (x0.toNatClampNeg)) - 1)), (3, .int ((a8 175 (x0.toNatClampNeg)) - 1)), (2, .int x0), (0, .ref 157), (1, .int x0)]) (st1 := []) (H1 := H4) (k1 := 0) (n1 := 0) (by with_unfolding_all rfl)) ?_
    obtain ⟨z63, e64, e⟩ := Option.bind_eq_some_iff.mp e
    refine le_E (l1 := [(0, .ref 157), (2, .int x0), (3, .int ((a8 175 (x0.toNatClampNeg)) - 1)), (4, .int ((a8 176 (x0.toNatClampNeg)) - 1)), (5, .int 0)]) ⟨rfl, rfl, rfl, rfl, rfl, trivial⟩ rfl (tl323_39 (z := z63)  (fun uz63_0 Hz630 sz630 => ?_) N 0 a8 H4 s5 e64)
    refine ex_s (am_nb (m := 1) (pc1 := 167) (ls1 := []) (st1 := [.int 1]) (H1 := Hz630) (k1 := 0) (n1 := 0) (by with_unfolding_all rfl)) ?_
    cases e
    exact ex_r (st_iret rfl rfl rfl) sz630

set_option maxRecDepth 100000 in
theorem tj324_41 {sL : Nat} {sx : Nat → Int32} {h b N : Nat} {T : List am_C} {r : Int32} {a' : xA} {a : xA} {H : am_H} (hS : xS h b T a H) (e : j324_41 N h b a = some (r, a')) : am_E sL sx am_cs 324 41 [] [] H (some (.int r)) (fun H1 => xS h b T a' H1) := by
  unfold j324_41 at e
  refine ex_s (am_nb (m := 2) (pc1 := 57) (ls1 := []) (st1 := [.int (-1)]) (H1 := H) (k1 := 0) (n1 := 0) (by with_unfolding_all rfl)) ?_
  cases e
  exact ex_r (st_iret rfl rfl rfl) hS

set_option maxRecDepth 100000 in
theorem tf324_look {sL : Nat} {sx : Nat → Int32} {h b N : Nat} {T : List am_C} {r : Int32} {a' : xA} {x0 : Int32} {x1 : Int32} {x2 : Int32} {a : xA} {H : am_H} (hS : xS h b T a H) (e : f324_look N h b x0 x1 x2 a = some (r, a')) : am_E sL sx am_cs 324 0 [(0, .ref 157), (1, .int x0), (2, .int x1), (3, .int x2)] [] H (some (.int r)) (fun H1 => xS h b T a' H1) := by
  unfold f324_look at e
  refine ex_s (am_nb (m := 2) (pc1 := 2) (ls1 := [(0, .ref 157), (1, .int x0), (2, .int x1), (3, .int x2)]) (st1 := [.int 0, .ref 157]) (H1 := H) (k1 := 0) (n1 := 0) (by with_unfolding_all rfl)) ?_
  obtain ⟨a1, ha1, e⟩ := xw_some e
  refine xe_put (w := 0) hS rfl rfl (by decide) rfl rfl rfl rfl (fun H2 s3 => ?_)
  have s3 : xS h b T a1 H2 := by rw [ha1]; exact s3
  refine ex_s (am_nb (m := 2) (pc1 := 7) (ls1 := [(0, .ref 157), (1, .int x0), (2, .int x1), (3, .int x2)]) (st1 := [.int x0, .ref 157]) (H1 := H2) (k1 := 0) (n1 := 0) (by with_unfolding_all rfl)) ?_
  obtain ⟨r7, a8, e6, e⟩ := xb2_some e
  refine ex_cv1 (as := [.int x0]) (rest := []) rfl rfl rfl rfl (s3.obj rfl (by decide)) rfl (by with_unfolding_all rfl) (by with_unfolding_all rfl) (tf308_is s3 e6) (fun H4 s5 => ?_)
  refine ex_s (st_if rfl) ?_
  by_cases c12 : r7 = 0
  · have e := (if_pos c12).symm.trans e
    refine ex_pc (if_pos c12) ?_
    exact le_E (l1 := []) trivial rfl (tj324_41  s5 e)
  · have e := (if_neg c12).symm.trans e
    refine ex_pc (if_neg c12) ?_
    refine ex_s (am_nb (m := 1) (pc1 := 14) (ls1 := [(0, .ref 157), (1, .int x0), (2, .int x1), (3, .int x2)]) (st1 := [.int x1]) (H1 := H4) (k1 := 0) (n1 := 0) (by with_unfolding_all rfl)) ?_
    refine ex_s (st_if rfl) ?_
    by_cases c15 : x1 < 0
    · have e := (if_pos c15).symm.trans e
      refine ex_pc (if_pos c15) ?_
      exact le_E (l1 := []) trivial rfl (tj324_41  s5 e)
    · have e := (if_neg c15).symm.trans e
      refine ex_pc (if_neg c15) ?_
      refine ex_s (am_nb (m := 1) (pc1 := 18) (ls1 := [(0, .ref 157), (1, .int x0), (2, .int x1), (3, .int x2)]) (st1 := [.int x2]) (H1 := H4) (k1 := 0) (n1 := 0) (by with_unfolding_all rfl)) ?_
      refine ex_s (st_if rfl) ?_
      by_cases c17 : x2 < 0
      · have e := (if_pos c17).symm.trans e
        refine ex_pc (if_pos c17) ?_
        exact le_E (l1 := []) trivial rfl (tj324_41  s5 e)
      · have e := (if_neg c17).symm.trans e
        refine ex_pc (if_neg c17) ?_
        refine ex_s (am_nb (m := 2) (pc1 := 23) (ls1 := [(0, .ref 157), (1, .int x0), (2, .int x1), (3, .int x2)]) (st1 := [.ref 157, .int x1]) (H1 := H4) (k1 := 0) (n1 := 0) (by with_unfolding_all rfl)) ?_
        refine xe_get (v := .ref 175) s5 rfl rfl (by decide) rfl ?_
        refine ex_s (am_nb (m := 1) (pc1 := 27) (ls1 := [(0, .ref 157), (1, .int x0), (2, .int x1), (3, .int x2)]) (st1 := [.int x0, .ref 175, .int x1]) (H1 := H4) (k1 := 0) (n1 := 0) (by with_unfolding_all rfl)) ?_
        obtain ⟨g18, e⟩ := xg_some e
        refine xe_iald s5 rfl rfl g18 ?_
        refine ex_s (st_icmp rfl) ?_
        by_cases c20 : (a8 175 (x0.toNatClampNeg)) ≤ x1
        · have e := (if_pos c20).symm.trans e
          refine ex_pc (if_pos c20) ?_
          exact le_E (l1 := []) trivial rfl (tj324_41  s5 e)
        · have e := (if_neg c20).symm.trans e
          refine ex_pc (if_neg c20) ?_
          refine ex_s (am_nb (m := 2) (pc1 := 33) (ls1 := [(0, .ref 157), (1, .int x0), (2, .int x1), (3, .int x2)]) (st1 := [.ref 157, .int x2]) (H1 := H4) (k1 := 0) (n1 := 0) (by with_unfolding_all rfl)) ?_
          refine xe_get (v := .ref 176) s5 rfl rfl (by decide) rfl ?_
          refine ex_s (am_nb (m := 1) (pc1 := 37) (ls1 := [(0, .ref 157), (1, .int x0), (2, .int x1), (3, .int x2)]) (st1 := [.int x0, .ref 176, .int x2]) (H1 := H4) (k1 := 0) (n1 := 0) (by with_unfolding_all rfl)) ?_
          refine xe_iald s5 rfl rfl g18 ?_
          refine ex_s (st_icmp rfl) ?_
          by_cases c22 : x2 < (a8 176 (x0.toNatClampNeg))
          · have e := (if_pos c22).symm.trans e
            refine ex_pc (if_pos c22) ?_
            refine ex_s (am_nb (m := 1) (pc1 := 46) (ls1 := [(0, .ref 157), (1, .int x0), (2, .int x1), (3, .int x2)]) (st1 := [.ref 157]) (H1 := H4) (k1 := 0) (n1 := 0) (by with_unfolding_all rfl)) ?_
            refine xe_get (v := .ref 181) s5 rfl rfl (by decide) rfl ?_
            refine ex_s (am_nb (m := 4) (pc1 := 53) (ls1 := [(0, .ref 157), (1, .int x0), (2, .int x1), (3, .int x2)]) (st1 := [.int x2, .int x1, .int x0, .ref 157, .ref 181]) (H1 := H4) (k1 := 0) (n1 := 0) (by with_unfolding_all rfl)) ?_
            obtain ⟨r26, a27, e25, e⟩ := xb2_some e
            refine ex_cv1 (as := [.int x0, .int x1, .int x2]) (rest := [.ref 181]) rfl rfl rfl rfl (s5.obj rfl (by decide)) rfl (by with_unfolding_all rfl) (by with_unfolding_all rfl) (tf314_cellAt s5 e25) (fun H23 s24 => ?_)
            obtain ⟨g28, e⟩ := xg_some e
            refine xe_iald s24 rfl rfl g28 ?_
            cases e
            exact ex_r (st_iret rfl rfl rfl) s24
          · have e := (if_neg c22).symm.trans e
            refine ex_pc (if_neg c22) ?_
            exact le_E (l1 := []) trivial rfl (tj324_41  s5 e)

set_option maxRecDepth 100000 in
theorem tf325_where {sL : Nat} {sx : Nat → Int32} {h b N : Nat} {T : List am_C} {r : Int32} {a' : xA} {x0 : Int32} {x1 : Int32} {a : xA} {H : am_H} (hS : xS h b T a H) (e : f325_where N h b x0 x1 a = some (r, a')) : am_E sL sx am_cs 325 0 [(0, .ref 157), (1, .int x0), (2, .int x1)] [] H (some (.int r)) (fun H1 => xS h b T a' H1) := by
  unfold f325_where at e
  refine ex_s (am_nb (m := 2) (pc1 := 2) (ls1 := [(0, .ref 157), (1, .int x0), (2, .int x1)]) (st1 := [.int 0, .ref 157]) (H1 := H) (k1 := 0) (n1 := 0) (by with_unfolding_all rfl)) ?_
  obtain ⟨a1, ha1, e⟩ := xw_some e
  refine xe_put (w := 0) hS rfl rfl (by decide) rfl rfl rfl rfl (fun H2 s3 => ?_)
  have s3 : xS h b T a1 H2 := by rw [ha1]; exact s3
  refine ex_s (am_nb (m := 2) (pc1 := 7) (ls1 := [(0, .ref 157), (1, .int x0), (2, .int x1)]) (st1 := [.int x0, .ref 157]) (H1 := H2) (k1 := 0) (n1 := 0) (by with_unfolding_all rfl)) ?_
  obtain ⟨r7, a8, e6, e⟩ := xb2_some e
  refine ex_cv1 (as := [.int x0]) (rest := []) rfl rfl rfl rfl (s3.obj rfl (by decide)) rfl (by with_unfolding_all rfl) (by with_unfolding_all rfl) (tf308_is s3 e6) (fun H4 s5 => ?_)
  refine ex_s (st_if rfl) ?_
  by_cases c9 : r7 = 0
  · have e := (if_pos c9).symm.trans e
    refine ex_pc (if_pos c9) ?_
    refine ex_s (am_nb (m := 1) (pc1 := 14) (ls1 := [(0, .ref 157), (1, .int x0), (2, .int x1)]) (st1 := [.int (-1)]) (H1 := H4) (k1 := 0) (n1 := 0) (by with_unfolding_all rfl)) ?_
    cases e
    exact ex_r (st_iret rfl rfl rfl) s5
  · have e := (if_neg c9).symm.trans e
    refine ex_pc (if_neg c9) ?_
    refine ex_s (am_nb (m := 1) (pc1 := 16) (ls1 := [(0, .ref 157), (1, .int x0), (2, .int x1)]) (st1 := [.int x1]) (H1 := H4) (k1 := 0) (n1 := 0) (by with_unfolding_all rfl)) ?_
    refine ex_s (st_tsw rfl) ?_
    by_cases c10 : x1 = 0
    · have e := (if_pos c10).symm.trans e
      refine ex_pc (pc1 := 64) (by rw [c10]; with_unfolding_all rfl) ?_
      refine ex_s (am_nb (m := 1) (pc1 := 65) (ls1 := [(0, .ref 157), (1, .int x0), (2, .int x1)]) (st1 := [.ref 157]) (H1 := H4) (k1 := 0) (n1 := 0) (by with_unfolding_all rfl)) ?_
      refine xe_get (v := .ref 173) s5 rfl rfl (by decide) rfl ?_
      refine ex_s (am_nb (m := 1) (pc1 := 69) (ls1 := [(0, .ref 157), (1, .int x0), (2, .int x1)]) (st1 := [.int x0, .ref 173]) (H1 := H4) (k1 := 0) (n1 := 0) (by with_unfolding_all rfl)) ?_
      obtain ⟨g11, e⟩ := xg_some e
      refine xe_iald s5 rfl rfl g11 ?_
      cases e
      exact ex_r (st_iret rfl rfl rfl) s5
    · have e := (if_neg c10).symm.trans e
      by_cases c12 : x1 = 1
      · have e := (if_pos c12).symm.trans e
        refine ex_pc (pc1 := 71) (by rw [c12]; with_unfolding_all rfl) ?_
        refine ex_s (am_nb (m := 1) (pc1 := 72) (ls1 := [(0, .ref 157), (1, .int x0), (2, .int x1)]) (st1 := [.ref 157]) (H1 := H4) (k1 := 0) (n1 := 0) (by with_unfolding_all rfl)) ?_
        refine xe_get (v := .ref 174) s5 rfl rfl (by decide) rfl ?_
        refine ex_s (am_nb (m := 1) (pc1 := 76) (ls1 := [(0, .ref 157), (1, .int x0), (2, .int x1)]) (st1 := [.int x0, .ref 174]) (H1 := H4) (k1 := 0) (n1 := 0) (by with_unfolding_all rfl)) ?_
        obtain ⟨g13, e⟩ := xg_some e
        refine xe_iald s5 rfl rfl g13 ?_
        cases e
        exact ex_r (st_iret rfl rfl rfl) s5
      · have e := (if_neg c12).symm.trans e
        by_cases c14 : x1 = 2
        · have e := (if_pos c14).symm.trans e
          refine ex_pc (pc1 := 78) (by rw [c14]; with_unfolding_all rfl) ?_
          refine ex_s (am_nb (m := 1) (pc1 := 79) (ls1 := [(0, .ref 157), (1, .int x0), (2, .int x1)]) (st1 := [.ref 157]) (H1 := H4) (k1 := 0) (n1 := 0) (by with_unfolding_all rfl)) ?_
          refine xe_get (v := .ref 175) s5 rfl rfl (by decide) rfl ?_
          refine ex_s (am_nb (m := 1) (pc1 := 83) (ls1 := [(0, .ref 157), (1, .int x0), (2, .int x1)]) (st1 := [.int x0, .ref 175]) (H1 := H4) (k1 := 0) (n1 := 0) (by with_unfolding_all rfl)) ?_
          obtain ⟨g15, e⟩ := xg_some e
          refine xe_iald s5 rfl rfl g15 ?_
          cases e
          exact ex_r (st_iret rfl rfl rfl) s5
        · have e := (if_neg c14).symm.trans e
          by_cases c16 : x1 = 3
          · have e := (if_pos c16).symm.trans e
            refine ex_pc (pc1 := 85) (by rw [c16]; with_unfolding_all rfl) ?_
            refine ex_s (am_nb (m := 1) (pc1 := 86) (ls1 := [(0, .ref 157), (1, .int x0), (2, .int x1)]) (st1 := [.ref 157]) (H1 := H4) (k1 := 0) (n1 := 0) (by with_unfolding_all rfl)) ?_
            refine xe_get (v := .ref 176) s5 rfl rfl (by decide) rfl ?_
            refine ex_s (am_nb (m := 1) (pc1 := 90) (ls1 := [(0, .ref 157), (1, .int x0), (2, .int x1)]) (st1 := [.int x0, .ref 176]) (H1 := H4) (k1 := 0) (n1 := 0) (by with_unfolding_all rfl)) ?_
            obtain ⟨g17, e⟩ := xg_some e
            refine xe_iald s5 rfl rfl g17 ?_
            cases e
            exact ex_r (st_iret rfl rfl rfl) s5
          · have e := (if_neg c16).symm.trans e
            by_cases c18 : x1 = 4
            · have e := (if_pos c18).symm.trans e
              refine ex_pc (pc1 := 92) (by rw [c18]; with_unfolding_all rfl) ?_
              refine ex_s (am_nb (m := 1) (pc1 := 93) (ls1 := [(0, .ref 157), (1, .int x0), (2, .int x1)]) (st1 := [.ref 157]) (H1 := H4) (k1 := 0) (n1 := 0) (by with_unfolding_all rfl)) ?_
              refine xe_get (v := .ref 177) s5 rfl rfl (by decide) rfl ?_
              refine ex_s (am_nb (m := 1) (pc1 := 97) (ls1 := [(0, .ref 157), (1, .int x0), (2, .int x1)]) (st1 := [.int x0, .ref 177]) (H1 := H4) (k1 := 0) (n1 := 0) (by with_unfolding_all rfl)) ?_
              obtain ⟨g19, e⟩ := xg_some e
              refine xe_iald s5 rfl rfl g19 ?_
              cases e
              exact ex_r (st_iret rfl rfl rfl) s5
            · have e := (if_neg c18).symm.trans e
              by_cases c20 : x1 = 5
              · have e := (if_pos c20).symm.trans e
                refine ex_pc (pc1 := 99) (by rw [c20]; with_unfolding_all rfl) ?_
                refine ex_s (am_nb (m := 1) (pc1 := 100) (ls1 := [(0, .ref 157), (1, .int x0), (2, .int x1)]) (st1 := [.ref 157]) (H1 := H4) (k1 := 0) (n1 := 0) (by with_unfolding_all rfl)) ?_
                refine xe_get (v := .ref 178) s5 rfl rfl (by decide) rfl ?_
                refine ex_s (am_nb (m := 1) (pc1 := 104) (ls1 := [(0, .ref 157), (1, .int x0), (2, .int x1)]) (st1 := [.int x0, .ref 178]) (H1 := H4) (k1 := 0) (n1 := 0) (by with_unfolding_all rfl)) ?_
                obtain ⟨g21, e⟩ := xg_some e
                refine xe_iald s5 rfl rfl g21 ?_
                cases e
                exact ex_r (st_iret rfl rfl rfl) s5
              · have e := (if_neg c20).symm.trans e
                by_cases c22 : x1 = 6
                · have e := (if_pos c22).symm.trans e
                  refine ex_pc (pc1 := 106) (by rw [c22]; with_unfolding_all rfl) ?_
                  refine ex_s (am_nb (m := 1) (pc1 := 107) (ls1 := [(0, .ref 157), (1, .int x0), (2, .int x1)]) (st1 := [.ref 157]) (H1 := H4) (k1 := 0) (n1 := 0) (by with_unfolding_all rfl)) ?_
                  refine xe_get (v := .ref 179) s5 rfl rfl (by decide) rfl ?_
                  refine ex_s (am_nb (m := 1) (pc1 := 111) (ls1 := [(0, .ref 157), (1, .int x0), (2, .int x1)]) (st1 := [.int x0, .ref 179]) (H1 := H4) (k1 := 0) (n1 := 0) (by with_unfolding_all rfl)) ?_
                  obtain ⟨g23, e⟩ := xg_some e
                  refine xe_iald s5 rfl rfl g23 ?_
                  cases e
                  exact ex_r (st_iret rfl rfl rfl) s5
                · have e := (if_neg c22).symm.trans e
                  by_cases c24 : x1 = 7
                  · have e := (if_pos c24).symm.trans e
                    refine ex_pc (pc1 := 113) (by rw [c24]; with_unfolding_all rfl) ?_
                    refine ex_s (am_nb (m := 1) (pc1 := 114) (ls1 := [(0, .ref 157), (1, .int x0), (2, .int x1)]) (st1 := [.ref 157]) (H1 := H4) (k1 := 0) (n1 := 0) (by with_unfolding_all rfl)) ?_
                    refine xe_get (v := .ref 180) s5 rfl rfl (by decide) rfl ?_
                    refine ex_s (am_nb (m := 1) (pc1 := 118) (ls1 := [(0, .ref 157), (1, .int x0), (2, .int x1)]) (st1 := [.int x0, .ref 180]) (H1 := H4) (k1 := 0) (n1 := 0) (by with_unfolding_all rfl)) ?_
                    obtain ⟨g25, e⟩ := xg_some e
                    refine xe_zald s5 rfl rfl g25 ?_
                    have kk : am_E sL sx am_cs 325 127 [(0, .ref 157), (1, .int x0), (2, .int x1)] [.int (if (a8 180 (x0.toNatClampNeg)) = 0 then (0 : Int32) else (1 : Int32))] H4 (some (.int r)) (fun H1 => xS h b T a' H1) := by
                      cases e
                      exact ex_r (st_iret rfl rfl rfl) s5
                    refine ex_s (st_if rfl) ?_
                    by_cases c26 : (a8 180 (x0.toNatClampNeg)) = 0
                    · refine ex_pc (if_pos c26) ?_
                      refine ex_s (am_nb (m := 1) (pc1 := 127) (ls1 := [(0, .ref 157), (1, .int x0), (2, .int x1)]) (st1 := [.int 0]) (H1 := H4) (k1 := 0) (n1 := 0) (by with_unfolding_all rfl)) ?_
                      rw [if_pos c26] at kk
                      exact kk
                    · refine ex_pc (if_neg c26) ?_
                      refine ex_s (am_nb (m := 2) (pc1 := 127) (ls1 := [(0, .ref 157), (1, .int x0), (2, .int x1)]) (st1 := [.int 1]) (H1 := H4) (k1 := 0) (n1 := 0) (by with_unfolding_all rfl)) ?_
                      rw [if_neg c26] at kk
                      exact kk
                  · have e := (if_neg c24).symm.trans e
                    refine ex_pc (pc1 := 128) (am_sw_n (sw_c (Or.inl c10) (sw_c (Or.inl c12) (sw_c (Or.inl c14) (sw_c (Or.inl c16) (sw_c (Or.inl c18) (sw_c (Or.inl c20) (sw_c (Or.inl c22) (sw_c (Or.inl c24) sw_o))))))))) ?_
                    refine ex_s (am_nb (m := 1) (pc1 := 129) (ls1 := [(0, .ref 157), (1, .int x0), (2, .int x1)]) (st1 := [.int (-1)]) (H1 := H4) (k1 := 0) (n1 := 0) (by with_unfolding_all rfl)) ?_
                    cases e
                    exact ex_r (st_iret rfl rfl rfl) s5

set_option maxRecDepth 100000 in
theorem tl326_32 {sL : Nat} {sx : Nat → Int32} {h b N : Nat} {T : List am_C} {R : Option Value} {F : am_H → Prop} {w1 : Int32} {w3 : Int32} {z : Nat × Int32 × xA} (k0 : z.1 = 0 → ∀ H2 : am_H, xS h b T z.2.2 H2 → am_E sL sx am_cs 326 116 [(0, .ref 157), (1, .int w1), (2, .int z.2.1), (3, .int w3)] [] H2 R F) : ∀ (n : Nat) (v2 : Int32) (v4 : Int32) (a : xA) (H : am_H), xS h b T a H → l326_32 N h b w1 w3 n v2 v4 a = some z → am_E sL sx am_cs 326 32 [(0, .ref 157), (1, .int w1), (2, .int v2), (3, .int w3), (4, .int v4)] [] H R F := by
  intro n
  induction n with
  | zero =>
    intro v2 v4 a H hS e
    cases e
  | succ n ih =>
    intro v2 v4 a H hS e
    unfold l326_32 at e
    refine ex_s (am_nb (m := 2) (pc1 := 35) (ls1 := [(0, .ref 157), (1, .int w1), (2, .int v2), (3, .int w3), (4, .int v4)]) (st1 := [.ref 157, .int v4]) (H1 := H) (k1 := 0) (n1 := 0) (by with_unfolding_all rfl)) ?_
    refine xe_get (v := .ref 176) hS rfl rfl (by decide) rfl ?_
    refine ex_s (am_nb (m := 1) (pc1 := 39) (ls1 := [(0, .ref 157), (1, .int w1), (2, .int v2), (3, .int w3), (4, .int v4)]) (st1 := [.int w1, .ref 176, .int v4]) (H1 := H) (k1 := 0) (n1 := 0) (by with_unfolding_all rfl)) ?_
    obtain ⟨g12, e⟩ := xg_some e
    refine xe_iald hS rfl rfl g12 ?_
    refine ex_s (st_icmp rfl) ?_
    by_cases c13 : (a 176 (w1.toNatClampNeg)) ≤ v4
    · have e := (if_pos c13).symm.trans e
      refine ex_pc (if_pos c13) ?_
      cases e
      exact le_E (l1 := [(0, .ref 157), (1, .int w1), (2, .int v2), (3, .int w3)]) ⟨rfl, rfl, rfl, rfl, trivial⟩ rfl (k0 rfl H hS)
    · have e := (if_neg c13).symm.trans e
      refine ex_pc (if_neg c13) ?_
      refine ex_s (am_nb (m := 2) (pc1 := 46) (ls1 := [(0, .ref 157), (1, .int w1), (2, .int v2), (3, .int w3), (4, .int v4)]) (st1 := [.ref 157, .int 80]) (H1 := H) (k1 := 0) (n1 := 0) (by with_unfolding_all rfl)) ?_
      refine xe_get (v := .ref 173) hS rfl rfl (by decide) rfl ?_
      refine ex_s (am_nb (m := 1) (pc1 := 50) (ls1 := [(0, .ref 157), (1, .int w1), (2, .int v2), (3, .int w3), (4, .int v4)]) (st1 := [.int w1, .ref 173, .int 80]) (H1 := H) (k1 := 0) (n1 := 0) (by with_unfolding_all rfl)) ?_
      refine xe_iald hS rfl rfl g12 ?_
      refine ex_s (am_nb (m := 4) (pc1 := 55) (ls1 := [(0, .ref 157), (1, .int w1), (2, .int v2), (3, .int w3), (4, .int v4)]) (st1 := [.ref 157, .int (80 * ((a 173 (w1.toNatClampNeg)) + w3))]) (H1 := H) (k1 := 0) (n1 := 0) (by with_unfolding_all rfl)) ?_
      refine xe_get (v := .ref 174) hS rfl rfl (by decide) rfl ?_
      refine ex_s (am_nb (m := 1) (pc1 := 59) (ls1 := [(0, .ref 157), (1, .int w1), (2, .int v2), (3, .int w3), (4, .int v4)]) (st1 := [.int w1, .ref 174, .int (80 * ((a 173 (w1.toNatClampNeg)) + w3))]) (H1 := H) (k1 := 0) (n1 := 0) (by with_unfolding_all rfl)) ?_
      refine xe_iald hS rfl rfl g12 ?_
      refine ex_s (am_nb (m := 5) (pc1 := 67) (ls1 := [(5, .int (((80 * ((a 173 (w1.toNatClampNeg)) + w3)) + (a 174 (w1.toNatClampNeg))) + v4)), (0, .ref 157), (1, .int w1), (2, .int v2), (3, .int w3), (4, .int v4)]) (st1 := [.ref 157]) (H1 := H) (k1 := 0) (n1 := 0) (by with_unfolding_all rfl)) ?_
      refine xe_get (v := .ref 181) hS rfl rfl (by decide) rfl ?_
      refine ex_s (am_nb (m := 4) (pc1 := 75) (ls1 := [(5, .int (((80 * ((a 173 (w1.toNatClampNeg)) + w3)) + (a 174 (w1.toNatClampNeg))) + v4)), (0, .ref 157), (1, .int w1), (2, .int v2), (3, .int w3), (4, .int v4)]) (st1 := [.int v4, .int w3, .int w1, .ref 157, .ref 181]) (H1 := H) (k1 := 0) (n1 := 0) (by with_unfolding_all rfl)) ?_
      obtain ⟨r17, a18, e16, e⟩ := xb2_some e
      refine ex_cv1 (as := [.int w1, .int w3, .int v4]) (rest := [.ref 181]) rfl rfl rfl rfl (hS.obj rfl (by decide)) rfl (by with_unfolding_all rfl) (by with_unfolding_all rfl) (tf314_cellAt hS e16) (fun H14 s15 => ?_)
      obtain ⟨g19, e⟩ := xg_some e
      refine xe_iald s15 rfl rfl g19 ?_
      refine ex_s (am_nb (m := 3) (pc1 := 83) (ls1 := [(6, .int (a18 181 (r17.toNatClampNeg))), (5, .int (((80 * ((a 173 (w1.toNatClampNeg)) + w3)) + (a 174 (w1.toNatClampNeg))) + v4)), (0, .ref 157), (1, .int w1), (2, .int v2), (3, .int w3), (4, .int v4)]) (st1 := [.ref 157, .int v2]) (H1 := H14) (k1 := 0) (n1 := 0) (by with_unfolding_all rfl)) ?_
      refine xe_get (v := .ref 170) s15 rfl rfl (by decide) rfl ?_
      refine ex_s (am_nb (m := 1) (pc1 := 88) (ls1 := [(6, .int (a18 181 (r17.toNatClampNeg))), (5, .int (((80 * ((a 173 (w1.toNatClampNeg)) + w3)) + (a 174 (w1.toNatClampNeg))) + v4)), (0, .ref 157), (1, .int w1), (2, .int v2), (3, .int w3), (4, .int v4)]) (st1 := [.int (((80 * ((a 173 (w1.toNatClampNeg)) + w3)) + (a 174 (w1.toNatClampNeg))) + v4), .ref 170, .int v2]) (H1 := H14) (k1 := 0) (n1 := 0) (by with_unfolding_all rfl)) ?_
      obtain ⟨g20, e⟩ := xg_some e
      refine xe_iald s15 rfl rfl g20 ?_
      refine ex_s (am_nb (m := 1) (pc1 := 91) (ls1 := [(6, .int (a18 181 (r17.toNatClampNeg))), (5, .int (((80 * ((a 173 (w1.toNatClampNeg)) + w3)) + (a 174 (w1.toNatClampNeg))) + v4)), (0, .ref 157), (1, .int w1), (2, .int v2), (3, .int w3), (4, .int v4)]) (st1 := [.int (a18 181 (r17.toNatClampNeg)), .int (a18 170 ((((80 * ((a 173 (w1.toNatClampNeg)) + w3)) + (a 174 (w1.toNatClampNeg))) + v4).toNatClampNeg)), .int v2]) (H1 := H14) (k1 := 0) (n1 := 0) (by with_unfolding_all rfl)) ?_
      have kk : am_E sL sx am_cs 326 99 [(6, .int (a18 181 (r17.toNatClampNeg))), (5, .int (((80 * ((a 173 (w1.toNatClampNeg)) + w3)) + (a 174 (w1.toNatClampNeg))) + v4)), (0, .ref 157), (1, .int w1), (2, .int v2), (3, .int w3), (4, .int v4)] [.int (if (a18 170 ((((80 * ((a 173 (w1.toNatClampNeg)) + w3)) + (a 174 (w1.toNatClampNeg))) + v4).toNatClampNeg)) = (a18 181 (r17.toNatClampNeg)) then (0 : Int32) else (1 : Int32)), .int v2] H14 R F := by
        refine ex_s (am_nb (m := 3) (pc1 := 102) (ls1 := [(2, .int (v2 + (if (a18 170 ((((80 * ((a 173 (w1.toNatClampNeg)) + w3)) + (a 174 (w1.toNatClampNeg))) + v4).toNatClampNeg)) = (a18 181 (r17.toNatClampNeg)) then (0 : Int32) else (1 : Int32)))), (6, .int (a18 181 (r17.toNatClampNeg))), (5, .int (((80 * ((a 173 (w1.toNatClampNeg)) + w3)) + (a 174 (w1.toNatClampNeg))) + v4)), (0, .ref 157), (1, .int w1), (3, .int w3), (4, .int v4)]) (st1 := [.ref 157]) (H1 := H14) (k1 := 0) (n1 := 0) (by with_unfolding_all rfl)) ?_
        refine xe_get (v := .ref 170) s15 rfl rfl (by decide) rfl ?_
        refine ex_s (am_nb (m := 2) (pc1 := 109) (ls1 := [(2, .int (v2 + (if (a18 170 ((((80 * ((a 173 (w1.toNatClampNeg)) + w3)) + (a 174 (w1.toNatClampNeg))) + v4).toNatClampNeg)) = (a18 181 (r17.toNatClampNeg)) then (0 : Int32) else (1 : Int32)))), (6, .int (a18 181 (r17.toNatClampNeg))), (5, .int (((80 * ((a 173 (w1.toNatClampNeg)) + w3)) + (a 174 (w1.toNatClampNeg))) + v4)), (0, .ref 157), (1, .int w1), (3, .int w3), (4, .int v4)]) (st1 := [.int (a18 181 (r17.toNatClampNeg)), .int (((80 * ((a 173 (w1.toNatClampNeg)) + w3)) + (a 174 (w1.toNatClampNeg))) + v4), .ref 170]) (H1 := H14) (k1 := 0) (n1 := 0) (by with_unfolding_all rfl)) ?_
        obtain ⟨a22, ha22, e⟩ := xw_some e
        refine xe_iast s15 rfl rfl g20 (fun H23 s24 => ?_)
        have s24 : xS h b T a22 H23 := by rw [ha22]; exact s24
        refine ex_s (am_nb (m := 2) (pc1 := 32) (ls1 := [(4, .int (v4 + 1)), (2, .int (v2 + (if (a18 170 ((((80 * ((a 173 (w1.toNatClampNeg)) + w3)) + (a 174 (w1.toNatClampNeg))) + v4).toNatClampNeg)) = (a18 181 (r17.toNatClampNeg)) then (0 : Int32) else (1 : Int32)))), (6, .int (a18 181 (r17.toNatClampNeg))), (5, .int (((80 * ((a 173 (w1.toNatClampNeg)) + w3)) + (a 174 (w1.toNatClampNeg))) + v4)), (0, .ref 157), (1, .int w1), (3, .int w3)]) (st1 := []) (H1 := H23) (k1 := 0) (n1 := 0) (by with_unfolding_all rfl)) ?_
        exact le_E (l1 := [(0, .ref 157), (1, .int w1), (2, .int (v2 + (if (a18 170 ((((80 * ((a 173 (w1.toNatClampNeg)) + w3)) + (a 174 (w1.toNatClampNeg))) + v4).toNatClampNeg)) = (a18 181 (r17.toNatClampNeg)) then (0 : Int32) else (1 : Int32)))), (3, .int w3), (4, .int (v4 + 1))]) ⟨rfl, rfl, rfl, rfl, rfl, trivial⟩ rfl (ih (v2 + (if (a18 170 ((((80 * ((a 173 (w1.toNatClampNeg)) + w3)) + (a 174 (w1.toNatClampNeg))) + v4).toNatClampNeg)) = (a18 181 (r17.toNatClampNeg)) then (0 : Int32) else (1 : Int32))) (v4 + 1) a22 H23 s24 e)
      refine ex_s (st_icmp rfl) ?_
      by_cases c21 : (a18 170 ((((80 * ((a 173 (w1.toNatClampNeg)) + w3)) + (a 174 (w1.toNatClampNeg))) + v4).toNatClampNeg)) = (a18 181 (r17.toNatClampNeg))
      · refine ex_pc (if_pos c21) ?_
        refine ex_s (am_nb (m := 1) (pc1 := 99) (ls1 := [(6, .int (a18 181 (r17.toNatClampNeg))), (5, .int (((80 * ((a 173 (w1.toNatClampNeg)) + w3)) + (a 174 (w1.toNatClampNeg))) + v4)), (0, .ref 157), (1, .int w1), (2, .int v2), (3, .int w3), (4, .int v4)]) (st1 := [.int 0, .int v2]) (H1 := H14) (k1 := 0) (n1 := 0) (by with_unfolding_all rfl)) ?_
        rw [if_pos c21] at kk
        exact kk
      · refine ex_pc (if_neg c21) ?_
        refine ex_s (am_nb (m := 2) (pc1 := 99) (ls1 := [(6, .int (a18 181 (r17.toNatClampNeg))), (5, .int (((80 * ((a 173 (w1.toNatClampNeg)) + w3)) + (a 174 (w1.toNatClampNeg))) + v4)), (0, .ref 157), (1, .int w1), (2, .int v2), (3, .int w3), (4, .int v4)]) (st1 := [.int 1, .int v2]) (H1 := H14) (k1 := 0) (n1 := 0) (by with_unfolding_all rfl)) ?_
        rw [if_neg c21] at kk
        exact kk

set_option maxRecDepth 100000 in
theorem tl326_19 {sL : Nat} {sx : Nat → Int32} {h b N : Nat} {T : List am_C} {R : Option Value} {F : am_H → Prop} {w1 : Int32} {z : Nat × Int32 × xA} (k0 : z.1 = 0 → ∀ H2 : am_H, xS h b T z.2.2 H2 → am_E sL sx am_cs 326 122 [(0, .ref 157), (1, .int w1), (2, .int z.2.1)] [] H2 R F) : ∀ (n : Nat) (v2 : Int32) (v3 : Int32) (a : xA) (H : am_H), xS h b T a H → l326_19 N h b w1 n v2 v3 a = some z → am_E sL sx am_cs 326 19 [(0, .ref 157), (1, .int w1), (2, .int v2), (3, .int v3)] [] H R F := by
  intro n
  induction n with
  | zero =>
    intro v2 v3 a H hS e
    cases e
  | succ n ih =>
    intro v2 v3 a H hS e
    unfold l326_19 at e
    refine ex_s (am_nb (m := 2) (pc1 := 21) (ls1 := [(0, .ref 157), (1, .int w1), (2, .int v2), (3, .int v3)]) (st1 := [.ref 157, .int v3]) (H1 := H) (k1 := 0) (n1 := 0) (by with_unfolding_all rfl)) ?_
    refine xe_get (v := .ref 175) hS rfl rfl (by decide) rfl ?_
    refine ex_s (am_nb (m := 1) (pc1 := 25) (ls1 := [(0, .ref 157), (1, .int w1), (2, .int v2), (3, .int v3)]) (st1 := [.int w1, .ref 175, .int v3]) (H1 := H) (k1 := 0) (n1 := 0) (by with_unfolding_all rfl)) ?_
    obtain ⟨g10, e⟩ := xg_some e
    refine xe_iald hS rfl rfl g10 ?_
    refine ex_s (st_icmp rfl) ?_
    by_cases c11 : (a 175 (w1.toNatClampNeg)) ≤ v3
    · have e := (if_pos c11).symm.trans e
      refine ex_pc (if_pos c11) ?_
      cases e
      exact le_E (l1 := [(0, .ref 157), (1, .int w1), (2, .int v2)]) ⟨rfl, rfl, rfl, trivial⟩ rfl (k0 rfl H hS)
    · have e := (if_neg c11).symm.trans e
      refine ex_pc (if_neg c11) ?_
      refine ex_s (am_nb (m := 2) (pc1 := 32) (ls1 := [(4, .int 0), (0, .ref 157), (1, .int w1), (2, .int v2), (3, .int v3)]) (st1 := []) (H1 := H) (k1 := 0) (n1 := 0) (by with_unfolding_all rfl)) ?_
      obtain ⟨z25, e26, e⟩ := Option.bind_eq_some_iff.mp e
      refine le_E (l1 := [(0, .ref 157), (1, .int w1), (2, .int v2), (3, .int v3), (4, .int 0)]) ⟨rfl, rfl, rfl, rfl, rfl, trivial⟩ rfl (tl326_32 (z := z25)  (fun uz25_0 Hz250 sz250 => ?_) N v2 0 a H hS e26)
      refine ex_s (am_nb (m := 2) (pc1 := 19) (ls1 := [(3, .int (v3 + 1)), (0, .ref 157), (1, .int w1), (2, .int z25.2.1)]) (st1 := []) (H1 := Hz250) (k1 := 0) (n1 := 0) (by with_unfolding_all rfl)) ?_
      exact le_E (l1 := [(0, .ref 157), (1, .int w1), (2, .int z25.2.1), (3, .int (v3 + 1))]) ⟨rfl, rfl, rfl, rfl, trivial⟩ rfl (ih z25.2.1 (v3 + 1) z25.2.2 Hz250 sz250 e)

set_option maxRecDepth 100000 in
theorem tf326_show {sL : Nat} {sx : Nat → Int32} {h b N : Nat} {T : List am_C} {r : Int32} {a' : xA} {x0 : Int32} {a : xA} {H : am_H} (hS : xS h b T a H) (e : f326_show N h b x0 a = some (r, a')) : am_E sL sx am_cs 326 0 [(0, .ref 157), (1, .int x0)] [] H (some (.int r)) (fun H1 => xS h b T a' H1) := by
  unfold f326_show at e
  refine ex_s (am_nb (m := 2) (pc1 := 2) (ls1 := [(0, .ref 157), (1, .int x0)]) (st1 := [.int 0, .ref 157]) (H1 := H) (k1 := 0) (n1 := 0) (by with_unfolding_all rfl)) ?_
  obtain ⟨a1, ha1, e⟩ := xw_some e
  refine xe_put (w := 0) hS rfl rfl (by decide) rfl rfl rfl rfl (fun H2 s3 => ?_)
  have s3 : xS h b T a1 H2 := by rw [ha1]; exact s3
  refine ex_s (am_nb (m := 2) (pc1 := 7) (ls1 := [(0, .ref 157), (1, .int x0)]) (st1 := [.int x0, .ref 157]) (H1 := H2) (k1 := 0) (n1 := 0) (by with_unfolding_all rfl)) ?_
  obtain ⟨r7, a8, e6, e⟩ := xb2_some e
  refine ex_cv1 (as := [.int x0]) (rest := []) rfl rfl rfl rfl (s3.obj rfl (by decide)) rfl (by with_unfolding_all rfl) (by with_unfolding_all rfl) (tf308_is s3 e6) (fun H4 s5 => ?_)
  refine ex_s (st_if rfl) ?_
  by_cases c9 : r7 = 0
  · have e := (if_pos c9).symm.trans e
    refine ex_pc (if_pos c9) ?_
    refine ex_s (am_nb (m := 1) (pc1 := 14) (ls1 := [(0, .ref 157), (1, .int x0)]) (st1 := [.int (-1)]) (H1 := H4) (k1 := 0) (n1 := 0) (by with_unfolding_all rfl)) ?_
    cases e
    exact ex_r (st_iret rfl rfl rfl) s5
  · have e := (if_neg c9).symm.trans e
    refine ex_pc (if_neg c9) ?_
    refine ex_s (am_nb (m := 4) (pc1 := 19) (ls1 := [(3, .int 0), (2, .int 0), (0, .ref 157), (1, .int x0)]) (st1 := []) (H1 := H4) (k1 := 0) (n1 := 0) (by with_unfolding_all rfl)) ?_
    obtain ⟨z27, e28, e⟩ := Option.bind_eq_some_iff.mp e
    refine le_E (l1 := [(0, .ref 157), (1, .int x0), (2, .int 0), (3, .int 0)]) ⟨rfl, rfl, rfl, rfl, trivial⟩ rfl (tl326_19 (z := z27)  (fun uz27_0 Hz270 sz270 => ?_) N 0 0 a8 H4 s5 e28)
    refine ex_s (am_nb (m := 2) (pc1 := 124) (ls1 := [(0, .ref 157), (1, .int x0), (2, .int z27.2.1)]) (st1 := [.ref 157, .ref 157]) (H1 := Hz270) (k1 := 0) (n1 := 0) (by with_unfolding_all rfl)) ?_
    refine xe_get (v := .ref 173) sz270 rfl rfl (by decide) rfl ?_
    refine ex_s (am_nb (m := 1) (pc1 := 128) (ls1 := [(0, .ref 157), (1, .int x0), (2, .int z27.2.1)]) (st1 := [.int x0, .ref 173, .ref 157]) (H1 := Hz270) (k1 := 0) (n1 := 0) (by with_unfolding_all rfl)) ?_
    obtain ⟨g29, e⟩ := xg_some e
    refine xe_iald sz270 rfl rfl g29 ?_
    refine ex_s (am_nb (m := 1) (pc1 := 130) (ls1 := [(0, .ref 157), (1, .int x0), (2, .int z27.2.1)]) (st1 := [.ref 157, .int (z27.2.2 173 (x0.toNatClampNeg)), .ref 157]) (H1 := Hz270) (k1 := 0) (n1 := 0) (by with_unfolding_all rfl)) ?_
    refine xe_get (v := .ref 177) sz270 rfl rfl (by decide) rfl ?_
    refine ex_s (am_nb (m := 1) (pc1 := 134) (ls1 := [(0, .ref 157), (1, .int x0), (2, .int z27.2.1)]) (st1 := [.int x0, .ref 177, .int (z27.2.2 173 (x0.toNatClampNeg)), .ref 157]) (H1 := Hz270) (k1 := 0) (n1 := 0) (by with_unfolding_all rfl)) ?_
    refine xe_iald sz270 rfl rfl g29 ?_
    refine ex_s (am_nb (m := 1) (pc1 := 136) (ls1 := [(0, .ref 157), (1, .int x0), (2, .int z27.2.1)]) (st1 := [.int ((z27.2.2 173 (x0.toNatClampNeg)) + (z27.2.2 177 (x0.toNatClampNeg))), .ref 157]) (H1 := Hz270) (k1 := 0) (n1 := 0) (by with_unfolding_all rfl)) ?_
    obtain ⟨a30, ha30, e⟩ := xw_some e
    refine xe_put (w := ((z27.2.2 173 (x0.toNatClampNeg)) + (z27.2.2 177 (x0.toNatClampNeg)))) sz270 rfl rfl (by decide) rfl rfl rfl rfl (fun H31 s32 => ?_)
    have s32 : xS h b T a30 H31 := by rw [ha30]; exact s32
    refine ex_s (am_nb (m := 2) (pc1 := 141) (ls1 := [(0, .ref 157), (1, .int x0), (2, .int z27.2.1)]) (st1 := [.ref 157, .ref 157]) (H1 := H31) (k1 := 0) (n1 := 0) (by with_unfolding_all rfl)) ?_
    refine xe_get (v := .ref 174) s32 rfl rfl (by decide) rfl ?_
    refine ex_s (am_nb (m := 1) (pc1 := 145) (ls1 := [(0, .ref 157), (1, .int x0), (2, .int z27.2.1)]) (st1 := [.int x0, .ref 174, .ref 157]) (H1 := H31) (k1 := 0) (n1 := 0) (by with_unfolding_all rfl)) ?_
    refine xe_iald s32 rfl rfl g29 ?_
    refine ex_s (am_nb (m := 1) (pc1 := 147) (ls1 := [(0, .ref 157), (1, .int x0), (2, .int z27.2.1)]) (st1 := [.ref 157, .int (a30 174 (x0.toNatClampNeg)), .ref 157]) (H1 := H31) (k1 := 0) (n1 := 0) (by with_unfolding_all rfl)) ?_
    refine xe_get (v := .ref 178) s32 rfl rfl (by decide) rfl ?_
    refine ex_s (am_nb (m := 1) (pc1 := 151) (ls1 := [(0, .ref 157), (1, .int x0), (2, .int z27.2.1)]) (st1 := [.int x0, .ref 178, .int (a30 174 (x0.toNatClampNeg)), .ref 157]) (H1 := H31) (k1 := 0) (n1 := 0) (by with_unfolding_all rfl)) ?_
    refine xe_iald s32 rfl rfl g29 ?_
    refine ex_s (am_nb (m := 1) (pc1 := 153) (ls1 := [(0, .ref 157), (1, .int x0), (2, .int z27.2.1)]) (st1 := [.int ((a30 174 (x0.toNatClampNeg)) + (a30 178 (x0.toNatClampNeg))), .ref 157]) (H1 := H31) (k1 := 0) (n1 := 0) (by with_unfolding_all rfl)) ?_
    obtain ⟨a33, ha33, e⟩ := xw_some e
    refine xe_put (w := ((a30 174 (x0.toNatClampNeg)) + (a30 178 (x0.toNatClampNeg)))) s32 rfl rfl (by decide) rfl rfl rfl rfl (fun H34 s35 => ?_)
    have s35 : xS h b T a33 H34 := by rw [ha33]; exact s35
    refine ex_s (am_nb (m := 1) (pc1 := 157) (ls1 := [(0, .ref 157), (1, .int x0), (2, .int z27.2.1)]) (st1 := [.int z27.2.1]) (H1 := H34) (k1 := 0) (n1 := 0) (by with_unfolding_all rfl)) ?_
    cases e
    exact ex_r (st_iret rfl rfl rfl) s35

set_option maxRecDepth 100000 in
theorem tf327_redraw {sL : Nat} {sx : Nat → Int32} {h b N : Nat} {T : List am_C} {r : Int32} {a' : xA} {a : xA} {H : am_H} (hS : xS h b T a H) (e : f327_redraw N h b a = some (r, a')) : am_E sL sx am_cs 327 0 [(0, .ref 157)] [] H (some (.int r)) (fun H1 => xS h b T a' H1) := by
  unfold f327_redraw at e
  refine ex_s (am_nb (m := 2) (pc1 := 2) (ls1 := [(0, .ref 157)]) (st1 := [.int 0, .ref 157]) (H1 := H) (k1 := 0) (n1 := 0) (by with_unfolding_all rfl)) ?_
  obtain ⟨a1, ha1, e⟩ := xw_some e
  refine xe_put (w := 0) hS rfl rfl (by decide) rfl rfl rfl rfl (fun H2 s3 => ?_)
  have s3 : xS h b T a1 H2 := by rw [ha1]; exact s3
  refine ex_s (am_nb (m := 1) (pc1 := 6) (ls1 := [(0, .ref 157)]) (st1 := [.ref 157]) (H1 := H2) (k1 := 0) (n1 := 0) (by with_unfolding_all rfl)) ?_
  refine xe_get (v := .int (a1 157 21)) s3 rfl rfl (by decide) rfl ?_
  refine ex_s (am_nb (m := 1) (pc1 := 10) (ls1 := [(0, .ref 157)]) (st1 := [.int (-1), .int (a1 157 21)]) (H1 := H2) (k1 := 0) (n1 := 0) (by with_unfolding_all rfl)) ?_
  refine ex_s (st_icmp rfl) ?_
  by_cases c4 : (a1 157 21) = (-1)
  · have e := (if_pos c4).symm.trans e
    refine ex_pc (if_pos c4) ?_
    refine ex_s (am_nb (m := 1) (pc1 := 14) (ls1 := [(0, .ref 157)]) (st1 := [.int 0]) (H1 := H2) (k1 := 0) (n1 := 0) (by with_unfolding_all rfl)) ?_
    cases e
    exact ex_r (st_iret rfl rfl rfl) s3
  · have e := (if_neg c4).symm.trans e
    refine ex_pc (if_neg c4) ?_
    refine ex_s (am_nb (m := 2) (pc1 := 17) (ls1 := [(0, .ref 157)]) (st1 := [.int 1, .ref 157]) (H1 := H2) (k1 := 0) (n1 := 0) (by with_unfolding_all rfl)) ?_
    obtain ⟨a5, ha5, e⟩ := xw_some e
    refine xe_put (w := 1) s3 rfl rfl (by decide) rfl rfl rfl rfl (fun H6 s7 => ?_)
    have s7 : xS h b T a5 H6 := by rw [ha5]; exact s7
    refine ex_s (am_nb (m := 1) (pc1 := 21) (ls1 := [(0, .ref 157)]) (st1 := [.int 1]) (H1 := H6) (k1 := 0) (n1 := 0) (by with_unfolding_all rfl)) ?_
    cases e
    exact ex_r (st_iret rfl rfl rfl) s7

set_option maxRecDepth 100000 in
theorem tf329_onScreen {sL : Nat} {sx : Nat → Int32} {h b N : Nat} {T : List am_C} {r : Int32} {a' : xA} {x0 : Int32} {x1 : Int32} {a : xA} {H : am_H} (hS : xS h b T a H) (e : f329_onScreen N h b x0 x1 a = some (r, a')) : am_E sL sx am_cs 329 0 [(0, .ref 157), (1, .int x0), (2, .int x1)] [] H (some (.int r)) (fun H1 => xS h b T a' H1) := by
  unfold f329_onScreen at e
  refine ex_s (am_nb (m := 1) (pc1 := 1) (ls1 := [(0, .ref 157), (1, .int x0), (2, .int x1)]) (st1 := [.ref 157]) (H1 := H) (k1 := 0) (n1 := 0) (by with_unfolding_all rfl)) ?_
  refine xe_get (v := .int (a 157 21)) hS rfl rfl (by decide) rfl ?_
  refine ex_s (am_nb (m := 1) (pc1 := 5) (ls1 := [(0, .ref 157), (1, .int x0), (2, .int x1)]) (st1 := [.int (-1), .int (a 157 21)]) (H1 := H) (k1 := 0) (n1 := 0) (by with_unfolding_all rfl)) ?_
  refine ex_s (st_icmp rfl) ?_
  by_cases c6 : (a 157 21) = (-1)
  · have e := (if_pos c6).symm.trans e
    refine ex_pc (if_pos c6) ?_
    refine ex_s (am_nb (m := 1) (pc1 := 37) (ls1 := [(0, .ref 157), (1, .int x0), (2, .int x1)]) (st1 := [.int 0]) (H1 := H) (k1 := 0) (n1 := 0) (by with_unfolding_all rfl)) ?_
    cases e
    exact ex_r (st_iret rfl rfl rfl) hS
  · have e := (if_neg c6).symm.trans e
    refine ex_pc (if_neg c6) ?_
    refine ex_s (am_nb (m := 1) (pc1 := 9) (ls1 := [(0, .ref 157), (1, .int x0), (2, .int x1)]) (st1 := [.int x0]) (H1 := H) (k1 := 0) (n1 := 0) (by with_unfolding_all rfl)) ?_
    refine ex_s (st_if rfl) ?_
    by_cases c11 : x0 < 0
    · have e := (if_pos c11).symm.trans e
      refine ex_pc (if_pos c11) ?_
      refine ex_s (am_nb (m := 1) (pc1 := 37) (ls1 := [(0, .ref 157), (1, .int x0), (2, .int x1)]) (st1 := [.int 0]) (H1 := H) (k1 := 0) (n1 := 0) (by with_unfolding_all rfl)) ?_
      cases e
      exact ex_r (st_iret rfl rfl rfl) hS
    · have e := (if_neg c11).symm.trans e
      refine ex_pc (if_neg c11) ?_
      refine ex_s (am_nb (m := 1) (pc1 := 13) (ls1 := [(0, .ref 157), (1, .int x0), (2, .int x1)]) (st1 := [.int x1]) (H1 := H) (k1 := 0) (n1 := 0) (by with_unfolding_all rfl)) ?_
      refine ex_s (st_if rfl) ?_
      by_cases c15 : x1 < 0
      · have e := (if_pos c15).symm.trans e
        refine ex_pc (if_pos c15) ?_
        refine ex_s (am_nb (m := 1) (pc1 := 37) (ls1 := [(0, .ref 157), (1, .int x0), (2, .int x1)]) (st1 := [.int 0]) (H1 := H) (k1 := 0) (n1 := 0) (by with_unfolding_all rfl)) ?_
        cases e
        exact ex_r (st_iret rfl rfl rfl) hS
      · have e := (if_neg c15).symm.trans e
        refine ex_pc (if_neg c15) ?_
        refine ex_s (am_nb (m := 2) (pc1 := 18) (ls1 := [(0, .ref 157), (1, .int x0), (2, .int x1)]) (st1 := [.ref 157, .int x0]) (H1 := H) (k1 := 0) (n1 := 0) (by with_unfolding_all rfl)) ?_
        refine xe_get (v := .int (a 157 27)) hS rfl rfl (by decide) rfl ?_
        refine ex_s (st_icmp rfl) ?_
        by_cases c18 : (a 157 27) ≤ x0
        · have e := (if_pos c18).symm.trans e
          refine ex_pc (if_pos c18) ?_
          refine ex_s (am_nb (m := 1) (pc1 := 37) (ls1 := [(0, .ref 157), (1, .int x0), (2, .int x1)]) (st1 := [.int 0]) (H1 := H) (k1 := 0) (n1 := 0) (by with_unfolding_all rfl)) ?_
          cases e
          exact ex_r (st_iret rfl rfl rfl) hS
        · have e := (if_neg c18).symm.trans e
          refine ex_pc (if_neg c18) ?_
          refine ex_s (am_nb (m := 2) (pc1 := 26) (ls1 := [(0, .ref 157), (1, .int x0), (2, .int x1)]) (st1 := [.ref 157, .int x1]) (H1 := H) (k1 := 0) (n1 := 0) (by with_unfolding_all rfl)) ?_
          refine xe_get (v := .int (a 157 26)) hS rfl rfl (by decide) rfl ?_
          have kk : am_E sL sx am_cs 329 37 [(0, .ref 157), (1, .int x0), (2, .int x1)] [.int (if (a 157 26) ≤ x1 then (0 : Int32) else (1 : Int32))] H (some (.int r)) (fun H1 => xS h b T a' H1) := by
            obtain ⟨g20, e⟩ := xg_some e
            cases e
            exact ex_r (st_iret rfl rfl (xnar_z g20)) hS
          refine ex_s (st_icmp rfl) ?_
          by_cases c19 : (a 157 26) ≤ x1
          · refine ex_pc (if_pos c19) ?_
            refine ex_s (am_nb (m := 1) (pc1 := 37) (ls1 := [(0, .ref 157), (1, .int x0), (2, .int x1)]) (st1 := [.int 0]) (H1 := H) (k1 := 0) (n1 := 0) (by with_unfolding_all rfl)) ?_
            rw [if_pos c19] at kk
            exact kk
          · refine ex_pc (if_neg c19) ?_
            refine ex_s (am_nb (m := 2) (pc1 := 37) (ls1 := [(0, .ref 157), (1, .int x0), (2, .int x1)]) (st1 := [.int 1]) (H1 := H) (k1 := 0) (n1 := 0) (by with_unfolding_all rfl)) ?_
            rw [if_neg c19] at kk
            exact kk

set_option maxRecDepth 100000 in
theorem tj328_21 {sL : Nat} {sx : Nat → Int32} {h b N : Nat} {T : List am_C} {r : Int32} {a' : xA} {a : xA} {H : am_H} (hS : xS h b T a H) (e : j328_21 N h b a = some (r, a')) : am_E sL sx am_cs 328 21 [] [] H (some (.int r)) (fun H1 => xS h b T a' H1) := by
  unfold j328_21 at e
  refine ex_s (am_nb (m := 2) (pc1 := 36) (ls1 := []) (st1 := [.int (-1)]) (H1 := H) (k1 := 0) (n1 := 0) (by with_unfolding_all rfl)) ?_
  cases e
  exact ex_r (st_iret rfl rfl rfl) hS

set_option maxRecDepth 100000 in
theorem tf328_known {sL : Nat} {sx : Nat → Int32} {h b N : Nat} {T : List am_C} {r : Int32} {a' : xA} {x0 : Int32} {x1 : Int32} {a : xA} {H : am_H} (hS : xS h b T a H) (e : f328_known N h b x0 x1 a = some (r, a')) : am_E sL sx am_cs 328 0 [(0, .ref 157), (1, .int x0), (2, .int x1)] [] H (some (.int r)) (fun H1 => xS h b T a' H1) := by
  unfold f328_known at e
  refine ex_s (am_nb (m := 2) (pc1 := 2) (ls1 := [(0, .ref 157), (1, .int x0), (2, .int x1)]) (st1 := [.int 0, .ref 157]) (H1 := H) (k1 := 0) (n1 := 0) (by with_unfolding_all rfl)) ?_
  obtain ⟨a1, ha1, e⟩ := xw_some e
  refine xe_put (w := 0) hS rfl rfl (by decide) rfl rfl rfl rfl (fun H2 s3 => ?_)
  have s3 : xS h b T a1 H2 := by rw [ha1]; exact s3
  refine ex_s (am_nb (m := 3) (pc1 := 8) (ls1 := [(0, .ref 157), (1, .int x0), (2, .int x1)]) (st1 := [.int x1, .int x0, .ref 157]) (H1 := H2) (k1 := 0) (n1 := 0) (by with_unfolding_all rfl)) ?_
  obtain ⟨r7, a8, e6, e⟩ := xb2_some e
  refine ex_cv1 (as := [.int x0, .int x1]) (rest := []) rfl rfl rfl rfl (s3.obj rfl (by decide)) rfl (by with_unfolding_all rfl) (by with_unfolding_all rfl) (tf329_onScreen s3 e6) (fun H4 s5 => ?_)
  refine ex_s (st_if rfl) ?_
  by_cases c11 : r7 = 0
  · have e := (if_pos c11).symm.trans e
    refine ex_pc (if_pos c11) ?_
    exact le_E (l1 := []) trivial rfl (tj328_21  s5 e)
  · have e := (if_neg c11).symm.trans e
    refine ex_pc (if_neg c11) ?_
    refine ex_s (am_nb (m := 1) (pc1 := 15) (ls1 := [(0, .ref 157), (1, .int x0), (2, .int x1)]) (st1 := [.ref 157]) (H1 := H4) (k1 := 0) (n1 := 0) (by with_unfolding_all rfl)) ?_
    refine xe_get (v := .int (a8 157 35)) s5 rfl rfl (by decide) rfl ?_
    refine ex_s (st_if rfl) ?_
    by_cases c13 : (a8 157 35) = 0
    · have e := (if_pos c13).symm.trans e
      refine ex_pc (if_pos c13) ?_
      refine ex_s (am_nb (m := 1) (pc1 := 26) (ls1 := [(0, .ref 157), (1, .int x0), (2, .int x1)]) (st1 := [.ref 157]) (H1 := H4) (k1 := 0) (n1 := 0) (by with_unfolding_all rfl)) ?_
      refine xe_get (v := .ref 171) s5 rfl rfl (by decide) rfl ?_
      refine ex_s (am_nb (m := 5) (pc1 := 35) (ls1 := [(0, .ref 157), (1, .int x0), (2, .int x1)]) (st1 := [.int ((80 * x0) + x1), .ref 171]) (H1 := H4) (k1 := 0) (n1 := 0) (by with_unfolding_all rfl)) ?_
      obtain ⟨g14, e⟩ := xg_some e
      refine xe_iald s5 rfl rfl g14 ?_
      cases e
      exact ex_r (st_iret rfl rfl rfl) s5
    · have e := (if_neg c13).symm.trans e
      refine ex_pc (if_neg c13) ?_
      exact le_E (l1 := []) trivial rfl (tj328_21  s5 e)

set_option maxRecDepth 100000 in
theorem tf330_wanted {sL : Nat} {sx : Nat → Int32} {h b N : Nat} {T : List am_C} {r : Int32} {a' : xA} {x0 : Int32} {x1 : Int32} {a : xA} {H : am_H} (hS : xS h b T a H) (e : f330_wanted N h b x0 x1 a = some (r, a')) : am_E sL sx am_cs 330 0 [(0, .ref 157), (1, .int x0), (2, .int x1)] [] H (some (.int r)) (fun H1 => xS h b T a' H1) := by
  unfold f330_wanted at e
  refine ex_s (am_nb (m := 2) (pc1 := 2) (ls1 := [(0, .ref 157), (1, .int x0), (2, .int x1)]) (st1 := [.int 0, .ref 157]) (H1 := H) (k1 := 0) (n1 := 0) (by with_unfolding_all rfl)) ?_
  obtain ⟨a1, ha1, e⟩ := xw_some e
  refine xe_put (w := 0) hS rfl rfl (by decide) rfl rfl rfl rfl (fun H2 s3 => ?_)
  have s3 : xS h b T a1 H2 := by rw [ha1]; exact s3
  refine ex_s (am_nb (m := 3) (pc1 := 8) (ls1 := [(0, .ref 157), (1, .int x0), (2, .int x1)]) (st1 := [.int x1, .int x0, .ref 157]) (H1 := H2) (k1 := 0) (n1 := 0) (by with_unfolding_all rfl)) ?_
  obtain ⟨r7, a8, e6, e⟩ := xb2_some e
  refine ex_cv1 (as := [.int x0, .int x1]) (rest := []) rfl rfl rfl rfl (s3.obj rfl (by decide)) rfl (by with_unfolding_all rfl) (by with_unfolding_all rfl) (tf329_onScreen s3 e6) (fun H4 s5 => ?_)
  refine ex_s (st_if rfl) ?_
  by_cases c10 : r7 = 0
  · have e := (if_pos c10).symm.trans e
    refine ex_pc (if_pos c10) ?_
    refine ex_s (am_nb (m := 2) (pc1 := 29) (ls1 := [(0, .ref 157), (1, .int x0), (2, .int x1)]) (st1 := [.int (-1)]) (H1 := H4) (k1 := 0) (n1 := 0) (by with_unfolding_all rfl)) ?_
    cases e
    exact ex_r (st_iret rfl rfl rfl) s5
  · have e := (if_neg c10).symm.trans e
    refine ex_pc (if_neg c10) ?_
    refine ex_s (am_nb (m := 1) (pc1 := 19) (ls1 := [(0, .ref 157), (1, .int x0), (2, .int x1)]) (st1 := [.ref 157]) (H1 := H4) (k1 := 0) (n1 := 0) (by with_unfolding_all rfl)) ?_
    refine xe_get (v := .ref 170) s5 rfl rfl (by decide) rfl ?_
    refine ex_s (am_nb (m := 5) (pc1 := 28) (ls1 := [(0, .ref 157), (1, .int x0), (2, .int x1)]) (st1 := [.int ((80 * x0) + x1), .ref 170]) (H1 := H4) (k1 := 0) (n1 := 0) (by with_unfolding_all rfl)) ?_
    obtain ⟨g11, e⟩ := xg_some e
    refine xe_iald s5 rfl rfl g11 ?_
    cases e
    exact ex_r (st_iret rfl rfl rfl) s5

set_option maxRecDepth 100000 in
theorem tf333_bytesOf {sL : Nat} {sx : Nat → Int32} {h b N : Nat} {T : List am_C} {r : Int32} {a' : xA} {x0 : Int32} {x1 : Int32} {x2 : Int32} {a : xA} {H : am_H} (hS : xS h b T a H) (e : f333_bytesOf N h b x0 x1 x2 a = some (r, a')) : am_E sL sx am_cs 333 0 [(0, .ref 157), (1, .int x0), (2, .int x1), (3, .int x2)] [] H (some (.int r)) (fun H1 => xS h b T a' H1) := by
  unfold f333_bytesOf at e
  refine ex_s (am_nb (m := 2) (pc1 := 2) (ls1 := [(0, .ref 157), (1, .int x0), (2, .int x1), (3, .int x2)]) (st1 := [.int x0, .ref 157]) (H1 := H) (k1 := 0) (n1 := 0) (by with_unfolding_all rfl)) ?_
  obtain ⟨r4, a5, e3, e⟩ := xb2_some e
  refine ex_cv1 (as := [.int x0]) (rest := []) rfl rfl rfl rfl (hS.obj rfl (by decide)) rfl (by with_unfolding_all rfl) (by with_unfolding_all rfl) (tf297_has hS e3) (fun H1 s2 => ?_)
  refine ex_s (st_if rfl) ?_
  by_cases c6 : r4 = 0
  · have e := (if_pos c6).symm.trans e
    refine ex_pc (if_pos c6) ?_
    refine ex_s (am_nb (m := 1) (pc1 := 9) (ls1 := [(0, .ref 157), (1, .int x0), (2, .int x1), (3, .int x2)]) (st1 := [.int (-1)]) (H1 := H1) (k1 := 0) (n1 := 0) (by with_unfolding_all rfl)) ?_
    cases e
    exact ex_r (st_iret rfl rfl rfl) s2
  · have e := (if_neg c6).symm.trans e
    refine ex_pc (if_neg c6) ?_
    refine ex_s (am_nb (m := 6) (pc1 := 16) (ls1 := [(0, .ref 157), (1, .int x0), (2, .int x1), (3, .int x2)]) (st1 := [.int 0, .int 0, .int x2, .int x1, .int x0, .ref 157]) (H1 := H1) (k1 := 0) (n1 := 0) (by with_unfolding_all rfl)) ?_
    obtain ⟨a10, e9, e⟩ := xb1_some e
    refine ex_cv0 (as := [.int x0, .int x1, .int x2, .int 0, .int 0]) (rest := []) rfl rfl rfl rfl (s2.obj rfl (by decide)) rfl (by with_unfolding_all rfl) (by with_unfolding_all rfl) (tf299_puts s2 e9) (fun H7 s8 => ?_)
    refine ex_s (am_nb (m := 1) (pc1 := 20) (ls1 := [(0, .ref 157), (1, .int x0), (2, .int x1), (3, .int x2)]) (st1 := [.ref 157]) (H1 := H7) (k1 := 0) (n1 := 0) (by with_unfolding_all rfl)) ?_
    refine xe_get (v := .int (a10 157 23)) s8 rfl rfl (by decide) rfl ?_
    cases e
    exact ex_r (st_iret rfl rfl rfl) s8

set_option maxRecDepth 100000 in
theorem tj334_21 {sL : Nat} {sx : Nat → Int32} {h b N : Nat} {T : List am_C} {a' : xA} {a : xA} {H : am_H} (hS : xS h b T a H) (e : j334_21 N h b a = some a') : am_E sL sx am_cs 334 21 [(0, .ref 157)] [] H none (fun H1 => xS h b T a' H1) := by
  unfold j334_21 at e
  refine ex_s (am_nb (m := 2) (pc1 := 23) (ls1 := [(0, .ref 157)]) (st1 := [.ref 157, .ref 157]) (H1 := H) (k1 := 0) (n1 := 0) (by with_unfolding_all rfl)) ?_
  refine xe_get (v := .int (a 157 49)) hS rfl rfl (by decide) rfl ?_
  refine ex_s (am_nb (m := 2) (pc1 := 28) (ls1 := [(0, .ref 157)]) (st1 := [.int ((a 157 49) + 1), .ref 157]) (H1 := H) (k1 := 0) (n1 := 0) (by with_unfolding_all rfl)) ?_
  obtain ⟨a3, ha3, e⟩ := xw_some e
  refine xe_put (w := ((a 157 49) + 1)) hS rfl rfl (by decide) rfl rfl rfl rfl (fun H4 s5 => ?_)
  have s5 : xS h b T a3 H4 := by rw [ha3]; exact s5
  cases e
  exact ex_r (st_vret rfl rfl) s5

set_option maxRecDepth 100000 in
theorem tf334_typeByte {sL : Nat} {sx : Nat → Int32} {h b N : Nat} {T : List am_C} {a' : xA} {x0 : Int32} {a : xA} {H : am_H} (hS : xS h b T a H) (e : f334_typeByte N h b x0 a = some a') : am_E sL sx am_cs 334 0 [(0, .ref 157), (1, .int x0)] [] H none (fun H1 => xS h b T a' H1) := by
  unfold f334_typeByte at e
  refine ex_s (am_nb (m := 1) (pc1 := 1) (ls1 := [(0, .ref 157), (1, .int x0)]) (st1 := [.ref 157]) (H1 := H) (k1 := 0) (n1 := 0) (by with_unfolding_all rfl)) ?_
  refine xe_get (v := .int (a 157 49)) hS rfl rfl (by decide) rfl ?_
  refine ex_s (am_nb (m := 1) (pc1 := 7) (ls1 := [(0, .ref 157), (1, .int x0)]) (st1 := [.int 6000, .int (a 157 49)]) (H1 := H) (k1 := 0) (n1 := 0) (by with_unfolding_all rfl)) ?_
  refine ex_s (st_icmp rfl) ?_
  by_cases c2 : 6000 ≤ (a 157 49)
  · have e := (if_pos c2).symm.trans e
    refine ex_pc (if_pos c2) ?_
    exact le_E (l1 := [(0, .ref 157)]) ⟨rfl, trivial⟩ rfl (tj334_21  hS e)
  · have e := (if_neg c2).symm.trans e
    refine ex_pc (if_neg c2) ?_
    refine ex_s (am_nb (m := 1) (pc1 := 11) (ls1 := [(0, .ref 157), (1, .int x0)]) (st1 := [.ref 157]) (H1 := H) (k1 := 0) (n1 := 0) (by with_unfolding_all rfl)) ?_
    refine xe_get (v := .ref 182) hS rfl rfl (by decide) rfl ?_
    refine ex_s (am_nb (m := 1) (pc1 := 15) (ls1 := [(0, .ref 157), (1, .int x0)]) (st1 := [.ref 157, .ref 182]) (H1 := H) (k1 := 0) (n1 := 0) (by with_unfolding_all rfl)) ?_
    refine xe_get (v := .int (a 157 49)) hS rfl rfl (by decide) rfl ?_
    refine ex_s (am_nb (m := 2) (pc1 := 20) (ls1 := [(0, .ref 157), (1, .int x0)]) (st1 := [.int x0.toInt8.toInt32, .int (a 157 49), .ref 182]) (H1 := H) (k1 := 0) (n1 := 0) (by with_unfolding_all rfl)) ?_
    obtain ⟨g9, e⟩ := xg_some e
    obtain ⟨a6, ha6, e⟩ := xw_some e
    refine xe_bast hS rfl rfl g9 (fun H7 s8 => ?_)
    have s8 : xS h b T a6 H7 := by rw [ha6]; exact s8
    exact le_E (l1 := [(0, .ref 157)]) ⟨rfl, trivial⟩ rfl (tj334_21  s8 e)

set_option maxRecDepth 100000 in
theorem tl332_32 {sL : Nat} {sx : Nat → Int32} {h b N : Nat} {T : List am_C} {R : Option Value} {F : am_H → Prop} {w4 : Int32} {w5 : Int32} {w6 : Int32} {z : Nat × xA} (k0 : z.1 = 0 → ∀ H2 : am_H, xS h b T z.2 H2 → am_E sL sx am_cs 332 56 [(0, .ref 157), (4, .int w4), (5, .int w5), (6, .int w6)] [] H2 R F) : ∀ (n : Nat) (v7 : Int32) (a : xA) (H : am_H), xS h b T a H → l332_32 N h b w4 w5 w6 n v7 a = some z → am_E sL sx am_cs 332 32 [(0, .ref 157), (4, .int w4), (5, .int w5), (6, .int w6), (7, .int v7)] [] H R F := by
  intro n
  induction n with
  | zero =>
    intro v7 a H hS e
    cases e
  | succ n ih =>
    intro v7 a H hS e
    unfold l332_32 at e
    refine ex_s (am_nb (m := 2) (pc1 := 36) (ls1 := [(0, .ref 157), (4, .int w4), (5, .int w5), (6, .int w6), (7, .int v7)]) (st1 := [.int w5, .int v7]) (H1 := H) (k1 := 0) (n1 := 0) (by with_unfolding_all rfl)) ?_
    refine ex_s (st_icmp rfl) ?_
    by_cases c10 : w5 ≤ v7
    · have e := (if_pos c10).symm.trans e
      refine ex_pc (if_pos c10) ?_
      cases e
      exact le_E (l1 := [(0, .ref 157), (4, .int w4), (5, .int w5), (6, .int w6)]) ⟨rfl, rfl, rfl, rfl, trivial⟩ rfl (k0 rfl H hS)
    · have e := (if_neg c10).symm.trans e
      refine ex_pc (if_neg c10) ?_
      refine ex_s (am_nb (m := 2) (pc1 := 41) (ls1 := [(0, .ref 157), (4, .int w4), (5, .int w5), (6, .int w6), (7, .int v7)]) (st1 := [.ref 157, .ref 157]) (H1 := H) (k1 := 0) (n1 := 0) (by with_unfolding_all rfl)) ?_
      refine xe_get (v := .ref 168) hS rfl rfl (by decide) rfl ?_
      refine ex_s (am_nb (m := 1) (pc1 := 46) (ls1 := [(0, .ref 157), (4, .int w4), (5, .int w5), (6, .int w6), (7, .int v7)]) (st1 := [.int v7, .ref 168, .ref 157]) (H1 := H) (k1 := 0) (n1 := 0) (by with_unfolding_all rfl)) ?_
      obtain ⟨g11, e⟩ := xg_some e
      refine xe_bald hS rfl rfl g11 ?_
      obtain ⟨a15, e14, e⟩ := xb1_some e
      refine ex_cv0 (as := [.int (a 168 (v7.toNatClampNeg))]) (rest := []) rfl rfl rfl rfl (hS.obj rfl (by decide)) rfl (by with_unfolding_all rfl) (by with_unfolding_all rfl) (tf334_typeByte hS e14) (fun H12 s13 => ?_)
      refine ex_s (am_nb (m := 2) (pc1 := 32) (ls1 := [(7, .int (v7 + 1)), (0, .ref 157), (4, .int w4), (5, .int w5), (6, .int w6)]) (st1 := []) (H1 := H12) (k1 := 0) (n1 := 0) (by with_unfolding_all rfl)) ?_
      exact le_E (l1 := [(0, .ref 157), (4, .int w4), (5, .int w5), (6, .int w6), (7, .int (v7 + 1))]) ⟨rfl, rfl, rfl, rfl, rfl, trivial⟩ rfl (ih (v7 + 1) a15 H12 s13 e)

set_option maxRecDepth 100000 in
theorem tl332_12 {sL : Nat} {sx : Nat → Int32} {h b N : Nat} {T : List am_C} {R : Option Value} {F : am_H → Prop} {w4 : Int32} {w5 : Int32} {z : Nat × xA} (k0 : z.1 = 0 → ∀ H2 : am_H, xS h b T z.2 H2 → am_E sL sx am_cs 332 62 [] [] H2 R F) : ∀ (n : Nat) (v6 : Int32) (a : xA) (H : am_H), xS h b T a H → l332_12 N h b w4 w5 n v6 a = some z → am_E sL sx am_cs 332 12 [(0, .ref 157), (4, .int w4), (5, .int w5), (6, .int v6)] [] H R F := by
  intro n
  induction n with
  | zero =>
    intro v6 a H hS e
    cases e
  | succ n ih =>
    intro v6 a H hS e
    unfold l332_12 at e
    refine ex_s (am_nb (m := 2) (pc1 := 16) (ls1 := [(0, .ref 157), (4, .int w4), (5, .int w5), (6, .int v6)]) (st1 := [.int w4, .int v6]) (H1 := H) (k1 := 0) (n1 := 0) (by with_unfolding_all rfl)) ?_
    refine ex_s (st_icmp rfl) ?_
    by_cases c8 : w4 ≤ v6
    · have e := (if_pos c8).symm.trans e
      refine ex_pc (if_pos c8) ?_
      cases e
      exact le_E (l1 := []) trivial rfl (k0 rfl H hS)
    · have e := (if_neg c8).symm.trans e
      refine ex_pc (if_neg c8) ?_
      refine ex_s (am_nb (m := 1) (pc1 := 20) (ls1 := [(0, .ref 157), (4, .int w4), (5, .int w5), (6, .int v6)]) (st1 := [.ref 157]) (H1 := H) (k1 := 0) (n1 := 0) (by with_unfolding_all rfl)) ?_
      refine xe_get (v := .int (a 157 49)) hS rfl rfl (by decide) rfl ?_
      refine ex_s (am_nb (m := 1) (pc1 := 26) (ls1 := [(0, .ref 157), (4, .int w4), (5, .int w5), (6, .int v6)]) (st1 := [.int 6000, .int (a 157 49)]) (H1 := H) (k1 := 0) (n1 := 0) (by with_unfolding_all rfl)) ?_
      refine ex_s (st_icmp rfl) ?_
      by_cases c9 : 6000 < (a 157 49)
      · have e := (if_pos c9).symm.trans e
        refine ex_pc (if_pos c9) ?_
        cases e
        exact le_E (l1 := []) trivial rfl (k0 rfl H hS)
      · have e := (if_neg c9).symm.trans e
        refine ex_pc (if_neg c9) ?_
        refine ex_s (am_nb (m := 2) (pc1 := 32) (ls1 := [(7, .int 0), (0, .ref 157), (4, .int w4), (5, .int w5), (6, .int v6)]) (st1 := []) (H1 := H) (k1 := 0) (n1 := 0) (by with_unfolding_all rfl)) ?_
        obtain ⟨z16, e17, e⟩ := Option.bind_eq_some_iff.mp e
        refine le_E (l1 := [(0, .ref 157), (4, .int w4), (5, .int w5), (6, .int v6), (7, .int 0)]) ⟨rfl, rfl, rfl, rfl, rfl, trivial⟩ rfl (tl332_32 (z := z16)  (fun uz16_0 Hz160 sz160 => ?_) N 0 a H hS e17)
        refine ex_s (am_nb (m := 2) (pc1 := 12) (ls1 := [(6, .int (v6 + 1)), (0, .ref 157), (4, .int w4), (5, .int w5)]) (st1 := []) (H1 := Hz160) (k1 := 0) (n1 := 0) (by with_unfolding_all rfl)) ?_
        exact le_E (l1 := [(0, .ref 157), (4, .int w4), (5, .int w5), (6, .int (v6 + 1))]) ⟨rfl, rfl, rfl, rfl, trivial⟩ rfl (ih (v6 + 1) z16.2 Hz160 sz160 e)

set_option maxRecDepth 100000 in
theorem tf332_typeAll {sL : Nat} {sx : Nat → Int32} {h b N : Nat} {T : List am_C} {a' : xA} {x0 : Int32} {x1 : Int32} {x2 : Int32} {x3 : Int32} {a : xA} {H : am_H} (hS : xS h b T a H) (e : f332_typeAll N h b x0 x1 x2 x3 a = some a') : am_E sL sx am_cs 332 0 [(0, .ref 157), (1, .int x0), (2, .int x1), (3, .int x2), (4, .int x3)] [] H none (fun H1 => xS h b T a' H1) := by
  unfold f332_typeAll at e
  refine ex_s (am_nb (m := 4) (pc1 := 4) (ls1 := [(0, .ref 157), (1, .int x0), (2, .int x1), (3, .int x2), (4, .int x3)]) (st1 := [.int x2, .int x1, .int x0, .ref 157]) (H1 := H) (k1 := 0) (n1 := 0) (by with_unfolding_all rfl)) ?_
  obtain ⟨r4, a5, e3, e⟩ := xb2_some e
  refine ex_cv1 (as := [.int x0, .int x1, .int x2]) (rest := []) rfl rfl rfl rfl (hS.obj rfl (by decide)) rfl (by with_unfolding_all rfl) (by with_unfolding_all rfl) (tf333_bytesOf hS e3) (fun H1 s2 => ?_)
  refine ex_s (am_nb (m := 3) (pc1 := 12) (ls1 := [(6, .int 0), (5, .int r4), (0, .ref 157), (1, .int x0), (2, .int x1), (3, .int x2), (4, .int x3)]) (st1 := []) (H1 := H1) (k1 := 0) (n1 := 0) (by with_unfolding_all rfl)) ?_
  obtain ⟨z18, e19, e⟩ := Option.bind_eq_some_iff.mp e
  refine le_E (l1 := [(0, .ref 157), (4, .int x3), (5, .int r4), (6, .int 0)]) ⟨rfl, rfl, rfl, rfl, trivial⟩ rfl (tl332_12 (z := z18)  (fun uz18_0 Hz180 sz180 => ?_) N 0 a5 H1 s2 e19)
  cases e
  exact ex_r (st_vret rfl rfl) sz180

set_option maxRecDepth 100000 in
theorem tl335_43 {sL : Nat} {sx : Nat → Int32} {h b N : Nat} {T : List am_C} {R : Option Value} {F : am_H → Prop} {z : Nat × xA} (k0 : z.1 = 0 → ∀ H2 : am_H, xS h b T z.2 H2 → am_E sL sx am_cs 335 64 [(0, .ref 157)] [] H2 R F) : ∀ (n : Nat) (v1 : Int32) (a : xA) (H : am_H), xS h b T a H → l335_43 N h b n v1 a = some z → am_E sL sx am_cs 335 43 [(0, .ref 157), (1, .int v1)] [] H R F := by
  intro n
  induction n with
  | zero =>
    intro v1 a H hS e
    cases e
  | succ n ih =>
    intro v1 a H hS e
    unfold l335_43 at e
    refine ex_s (am_nb (m := 2) (pc1 := 47) (ls1 := [(0, .ref 157), (1, .int v1)]) (st1 := [.int 1920, .int v1]) (H1 := H) (k1 := 0) (n1 := 0) (by with_unfolding_all rfl)) ?_
    refine ex_s (st_icmp rfl) ?_
    by_cases c17 : 1920 ≤ v1
    · have e := (if_pos c17).symm.trans e
      refine ex_pc (if_pos c17) ?_
      cases e
      exact le_E (l1 := [(0, .ref 157)]) ⟨rfl, trivial⟩ rfl (k0 rfl H hS)
    · have e := (if_neg c17).symm.trans e
      refine ex_pc (if_neg c17) ?_
      refine ex_s (am_nb (m := 1) (pc1 := 51) (ls1 := [(0, .ref 157), (1, .int v1)]) (st1 := [.ref 157]) (H1 := H) (k1 := 0) (n1 := 0) (by with_unfolding_all rfl)) ?_
      refine xe_get (v := .ref 183) hS rfl rfl (by decide) rfl ?_
      refine ex_s (am_nb (m := 2) (pc1 := 57) (ls1 := [(0, .ref 157), (1, .int v1)]) (st1 := [.int 32, .int v1, .ref 183]) (H1 := H) (k1 := 0) (n1 := 0) (by with_unfolding_all rfl)) ?_
      obtain ⟨g21, e⟩ := xg_some e
      obtain ⟨a18, ha18, e⟩ := xw_some e
      refine xe_iast hS rfl rfl g21 (fun H19 s20 => ?_)
      have s20 : xS h b T a18 H19 := by rw [ha18]; exact s20
      refine ex_s (am_nb (m := 2) (pc1 := 43) (ls1 := [(1, .int (v1 + 1)), (0, .ref 157)]) (st1 := []) (H1 := H19) (k1 := 0) (n1 := 0) (by with_unfolding_all rfl)) ?_
      exact le_E (l1 := [(0, .ref 157), (1, .int (v1 + 1))]) ⟨rfl, rfl, trivial⟩ rfl (ih (v1 + 1) a18 H19 s20 e)

set_option maxRecDepth 100000 in
theorem tf335_begins {sL : Nat} {sx : Nat → Int32} {h b N : Nat} {T : List am_C} {a' : xA} {a : xA} {H : am_H} (hS : xS h b T a H) (e : f335_begins N h b a = some a') : am_E sL sx am_cs 335 0 [(0, .ref 157)] [] H none (fun H1 => xS h b T a' H1) := by
  unfold f335_begins at e
  refine ex_s (am_nb (m := 5) (pc1 := 6) (ls1 := [(0, .ref 157)]) (st1 := [.int 1, .int 0, .int 0, .int 30, .ref 157]) (H1 := H) (k1 := 0) (n1 := 0) (by with_unfolding_all rfl)) ?_
  obtain ⟨a4, e3, e⟩ := xb1_some e
  refine ex_cv0 (as := [.int 30, .int 0, .int 0, .int 1]) (rest := []) rfl rfl rfl rfl (hS.obj rfl (by decide)) rfl (by with_unfolding_all rfl) (by with_unfolding_all rfl) (tf332_typeAll hS e3) (fun H1 s2 => ?_)
  refine ex_s (am_nb (m := 5) (pc1 := 15) (ls1 := [(0, .ref 157)]) (st1 := [.int 1, .int 0, .int 0, .int 25, .ref 157]) (H1 := H1) (k1 := 0) (n1 := 0) (by with_unfolding_all rfl)) ?_
  obtain ⟨a8, e7, e⟩ := xb1_some e
  refine ex_cv0 (as := [.int 25, .int 0, .int 0, .int 1]) (rest := []) rfl rfl rfl rfl (s2.obj rfl (by decide)) rfl (by with_unfolding_all rfl) (by with_unfolding_all rfl) (tf332_typeAll s2 e7) (fun H5 s6 => ?_)
  refine ex_s (am_nb (m := 4) (pc1 := 23) (ls1 := [(0, .ref 157)]) (st1 := [.ref 157, .int 0, .int 23, .ref 157]) (H1 := H5) (k1 := 0) (n1 := 0) (by with_unfolding_all rfl)) ?_
  refine xe_get (v := .int (a8 157 27)) s6 rfl rfl (by decide) rfl ?_
  refine ex_s (am_nb (m := 3) (pc1 := 29) (ls1 := [(0, .ref 157)]) (st1 := [.int 1, .int ((a8 157 27) - 1), .int 0, .int 23, .ref 157]) (H1 := H5) (k1 := 0) (n1 := 0) (by with_unfolding_all rfl)) ?_
  obtain ⟨a12, e11, e⟩ := xb1_some e
  refine ex_cv0 (as := [.int 23, .int 0, .int ((a8 157 27) - 1), .int 1]) (rest := []) rfl rfl rfl rfl (s6.obj rfl (by decide)) rfl (by with_unfolding_all rfl) (by with_unfolding_all rfl) (tf332_typeAll s6 e11) (fun H9 s10 => ?_)
  refine ex_s (am_nb (m := 5) (pc1 := 38) (ls1 := [(0, .ref 157)]) (st1 := [.int 1, .int 0, .int 0, .int 7, .ref 157]) (H1 := H9) (k1 := 0) (n1 := 0) (by with_unfolding_all rfl)) ?_
  obtain ⟨a16, e15, e⟩ := xb1_some e
  refine ex_cv0 (as := [.int 7, .int 0, .int 0, .int 1]) (rest := []) rfl rfl rfl rfl (s10.obj rfl (by decide)) rfl (by with_unfolding_all rfl) (by with_unfolding_all rfl) (tf332_typeAll s10 e15) (fun H13 s14 => ?_)
  refine ex_s (am_nb (m := 2) (pc1 := 43) (ls1 := [(1, .int 0), (0, .ref 157)]) (st1 := []) (H1 := H13) (k1 := 0) (n1 := 0) (by with_unfolding_all rfl)) ?_
  obtain ⟨z22, e23, e⟩ := Option.bind_eq_some_iff.mp e
  refine le_E (l1 := [(0, .ref 157), (1, .int 0)]) ⟨rfl, rfl, trivial⟩ rfl (tl335_43 (z := z22)  (fun uz22_0 Hz220 sz220 => ?_) N 0 a16 H13 s14 e23)
  refine ex_s (am_nb (m := 2) (pc1 := 66) (ls1 := [(0, .ref 157)]) (st1 := [.int 0, .ref 157]) (H1 := Hz220) (k1 := 0) (n1 := 0) (by with_unfolding_all rfl)) ?_
  obtain ⟨a24, ha24, e⟩ := xw_some e
  refine xe_put (w := 0) sz220 rfl rfl (by decide) rfl rfl rfl rfl (fun H25 s26 => ?_)
  have s26 : xS h b T a24 H25 := by rw [ha24]; exact s26
  refine ex_s (am_nb (m := 2) (pc1 := 71) (ls1 := [(0, .ref 157)]) (st1 := [.int 0, .ref 157]) (H1 := H25) (k1 := 0) (n1 := 0) (by with_unfolding_all rfl)) ?_
  obtain ⟨a27, ha27, e⟩ := xw_some e
  refine xe_put (w := 0) s26 rfl rfl (by decide) rfl rfl rfl rfl (fun H28 s29 => ?_)
  have s29 : xS h b T a27 H28 := by rw [ha27]; exact s29
  refine ex_s (am_nb (m := 2) (pc1 := 76) (ls1 := [(0, .ref 157)]) (st1 := [.int 0, .ref 157]) (H1 := H28) (k1 := 0) (n1 := 0) (by with_unfolding_all rfl)) ?_
  obtain ⟨a30, ha30, e⟩ := xw_some e
  refine xe_put (w := 0) s29 rfl rfl (by decide) rfl rfl rfl rfl (fun H31 s32 => ?_)
  have s32 : xS h b T a30 H31 := by rw [ha30]; exact s32
  cases e
  exact ex_r (st_vret rfl rfl) s32

set_option maxRecDepth 100000 in
theorem tf337_movedCell {sL : Nat} {sx : Nat → Int32} {h b N : Nat} {T : List am_C} {r : Int32} {a' : xA} {x0 : Int32} {x1 : Int32} {x2 : Int32} {a : xA} {H : am_H} (hS : xS h b T a H) (e : f337_movedCell N h b x0 x1 x2 a = some (r, a')) : am_E sL sx am_cs 337 0 [(0, .ref 157), (1, .int x0), (2, .int x1), (3, .int x2)] [] H (some (.int r)) (fun H1 => xS h b T a' H1) := by
  unfold f337_movedCell at e
  refine ex_s (am_nb (m := 4) (pc1 := 4) (ls1 := [(0, .ref 157), (1, .int x0), (2, .int x1), (3, .int x2)]) (st1 := [.ref 157, .int (x0 + x2)]) (H1 := H) (k1 := 0) (n1 := 0) (by with_unfolding_all rfl)) ?_
  refine xe_get (v := .int (a 157 27)) hS rfl rfl (by decide) rfl ?_
  refine ex_s (st_icmp rfl) ?_
  by_cases c2 : (a 157 27) ≤ (x0 + x2)
  · have e := (if_pos c2).symm.trans e
    refine ex_pc (if_pos c2) ?_
    refine ex_s (am_nb (m := 1) (pc1 := 28) (ls1 := [(0, .ref 157), (1, .int x0), (2, .int x1), (3, .int x2)]) (st1 := [.int 32]) (H1 := H) (k1 := 0) (n1 := 0) (by with_unfolding_all rfl)) ?_
    cases e
    exact ex_r (st_iret rfl rfl rfl) hS
  · have e := (if_neg c2).symm.trans e
    refine ex_pc (if_neg c2) ?_
    refine ex_s (am_nb (m := 1) (pc1 := 11) (ls1 := [(0, .ref 157), (1, .int x0), (2, .int x1), (3, .int x2)]) (st1 := [.ref 157]) (H1 := H) (k1 := 0) (n1 := 0) (by with_unfolding_all rfl)) ?_
    refine xe_get (v := .ref 183) hS rfl rfl (by decide) rfl ?_
    refine ex_s (am_nb (m := 7) (pc1 := 22) (ls1 := [(0, .ref 157), (1, .int x0), (2, .int x1), (3, .int x2)]) (st1 := [.int ((80 * (x0 + x2)) + x1), .ref 183]) (H1 := H) (k1 := 0) (n1 := 0) (by with_unfolding_all rfl)) ?_
    obtain ⟨g3, e⟩ := xg_some e
    refine xe_iald hS rfl rfl g3 ?_
    refine ex_s (am_nb (m := 1) (pc1 := 28) (ls1 := [(0, .ref 157), (1, .int x0), (2, .int x1), (3, .int x2)]) (st1 := [.int (a 183 (((80 * (x0 + x2)) + x1).toNatClampNeg))]) (H1 := H) (k1 := 0) (n1 := 0) (by with_unfolding_all rfl)) ?_
    cases e
    exact ex_r (st_iret rfl rfl rfl) hS

set_option maxRecDepth 100000 in
theorem tf339_offeredOf {sL : Nat} {sx : Nat → Int32} {h b N : Nat} {T : List am_C} {r : Int32} {a' : xA} {x0 : Int32} {a : xA} {H : am_H} (hS : xS h b T a H) (e : f339_offeredOf N h b x0 a = some (r, a')) : am_E sL sx am_cs 339 0 [(0, .ref 157), (1, .int x0)] [] H (some (.int r)) (fun H1 => xS h b T a' H1) := by
  unfold f339_offeredOf at e
  refine ex_s (am_nb (m := 8) (pc1 := 13) (ls1 := [(0, .ref 157), (1, .int x0)]) (st1 := [.ref 157, .int (x0 >>> ((8 : Int32) &&& 31)), .int 256, .int (x0 &&& 255)]) (H1 := H) (k1 := 0) (n1 := 0) (by with_unfolding_all rfl)) ?_
  refine xe_get (v := .int (a 157 50)) hS rfl rfl (by decide) rfl ?_
  refine ex_s (am_nb (m := 3) (pc1 := 19) (ls1 := [(0, .ref 157), (1, .int x0)]) (st1 := [.int ((x0 &&& 255) + (256 * ((x0 >>> ((8 : Int32) &&& 31)) &&& (a 157 50))))]) (H1 := H) (k1 := 0) (n1 := 0) (by with_unfolding_all rfl)) ?_
  cases e
  exact ex_r (st_iret rfl rfl rfl) hS

set_option maxRecDepth 100000 in
theorem tj338_41 {sL : Nat} {sx : Nat → Int32} {h b N : Nat} {T : List am_C} {r : Int32} {a' : xA} {q1 : Int32} {q2 : Int32} {q3 : Int32} {t0 : Int32} {a : xA} {H : am_H} (hS : xS h b T a H) (e : j338_41 N h b q1 q2 q3 t0 a = some (r, a')) : am_E sL sx am_cs 338 41 [(0, .ref 157), (1, .int q1), (2, .int q2), (3, .int q3)] [.int t0] H (some (.int r)) (fun H1 => xS h b T a' H1) := by
  unfold j338_41 at e
  refine ex_s (am_nb (m := 2) (pc1 := 45) (ls1 := [(4, .int t0), (0, .ref 157), (1, .int q1), (2, .int q2), (3, .int q3)]) (st1 := [.int t0]) (H1 := H) (k1 := 0) (n1 := 0) (by with_unfolding_all rfl)) ?_
  refine ex_s (st_if rfl) ?_
  by_cases c14 : t0 = 0
  · have e := (if_pos c14).symm.trans e
    refine ex_pc (if_pos c14) ?_
    refine ex_s (am_nb (m := 2) (pc1 := 50) (ls1 := [(4, .int t0), (0, .ref 157), (1, .int q1), (2, .int q2), (3, .int q3)]) (st1 := [.ref 157, .ref 157]) (H1 := H) (k1 := 0) (n1 := 0) (by with_unfolding_all rfl)) ?_
    refine xe_get (v := .ref 170) hS rfl rfl (by decide) rfl ?_
    refine ex_s (am_nb (m := 5) (pc1 := 59) (ls1 := [(4, .int t0), (0, .ref 157), (1, .int q1), (2, .int q2), (3, .int q3)]) (st1 := [.int ((80 * q1) + q2), .ref 170, .ref 157]) (H1 := H) (k1 := 0) (n1 := 0) (by with_unfolding_all rfl)) ?_
    obtain ⟨g15, e⟩ := xg_some e
    refine xe_iald hS rfl rfl g15 ?_
    obtain ⟨r19, a20, e18, e⟩ := xb2_some e
    refine ex_cv1 (as := [.int (a 170 (((80 * q1) + q2).toNatClampNeg))]) (rest := []) rfl rfl rfl rfl (hS.obj rfl (by decide)) rfl (by with_unfolding_all rfl) (by with_unfolding_all rfl) (tf339_offeredOf hS e18) (fun H16 s17 => ?_)
    refine ex_s (am_nb (m := 1) (pc1 := 64) (ls1 := [(4, .int t0), (0, .ref 157), (1, .int q1), (2, .int q2), (3, .int q3)]) (st1 := [.int q3, .int r19]) (H1 := H16) (k1 := 0) (n1 := 0) (by with_unfolding_all rfl)) ?_
    have kk : am_E sL sx am_cs 338 72 [(4, .int t0), (0, .ref 157), (1, .int q1), (2, .int q2), (3, .int q3)] [.int (if r19 = q3 then (0 : Int32) else (1 : Int32))] H16 (some (.int r)) (fun H1 => xS h b T a' H1) := by
      obtain ⟨g22, e⟩ := xg_some e
      cases e
      exact ex_r (st_iret rfl rfl (xnar_z g22)) s17
    refine ex_s (st_icmp rfl) ?_
    by_cases c21 : r19 = q3
    · refine ex_pc (if_pos c21) ?_
      refine ex_s (am_nb (m := 1) (pc1 := 72) (ls1 := [(4, .int t0), (0, .ref 157), (1, .int q1), (2, .int q2), (3, .int q3)]) (st1 := [.int 0]) (H1 := H16) (k1 := 0) (n1 := 0) (by with_unfolding_all rfl)) ?_
      rw [if_pos c21] at kk
      exact kk
    · refine ex_pc (if_neg c21) ?_
      refine ex_s (am_nb (m := 2) (pc1 := 72) (ls1 := [(4, .int t0), (0, .ref 157), (1, .int q1), (2, .int q2), (3, .int q3)]) (st1 := [.int 1]) (H1 := H16) (k1 := 0) (n1 := 0) (by with_unfolding_all rfl)) ?_
      rw [if_neg c21] at kk
      exact kk
  · have e := (if_neg c14).symm.trans e
    refine ex_pc (if_neg c14) ?_
    refine ex_s (am_nb (m := 1) (pc1 := 72) (ls1 := [(4, .int t0), (0, .ref 157), (1, .int q1), (2, .int q2), (3, .int q3)]) (st1 := [.int 0]) (H1 := H) (k1 := 0) (n1 := 0) (by with_unfolding_all rfl)) ?_
    cases e
    exact ex_r (st_iret rfl rfl rfl) hS

set_option maxRecDepth 100000 in
theorem tj338_40 {sL : Nat} {sx : Nat → Int32} {h b N : Nat} {T : List am_C} {r : Int32} {a' : xA} {q1 : Int32} {q2 : Int32} {q3 : Int32} {a : xA} {H : am_H} (hS : xS h b T a H) (e : j338_40 N h b q1 q2 q3 a = some (r, a')) : am_E sL sx am_cs 338 40 [(0, .ref 157), (1, .int q1), (2, .int q2), (3, .int q3)] [] H (some (.int r)) (fun H1 => xS h b T a' H1) := by
  unfold j338_40 at e
  refine ex_s (am_nb (m := 1) (pc1 := 41) (ls1 := [(0, .ref 157), (1, .int q1), (2, .int q2), (3, .int q3)]) (st1 := [.int 0]) (H1 := H) (k1 := 0) (n1 := 0) (by with_unfolding_all rfl)) ?_
  exact le_E (l1 := [(0, .ref 157), (1, .int q1), (2, .int q2), (3, .int q3)]) ⟨rfl, rfl, rfl, rfl, trivial⟩ rfl (tj338_41  hS e)

set_option maxRecDepth 100000 in
theorem tf338_unlike {sL : Nat} {sx : Nat → Int32} {h b N : Nat} {T : List am_C} {r : Int32} {a' : xA} {x0 : Int32} {x1 : Int32} {x2 : Int32} {a : xA} {H : am_H} (hS : xS h b T a H) (e : f338_unlike N h b x0 x1 x2 a = some (r, a')) : am_E sL sx am_cs 338 0 [(0, .ref 157), (1, .int x0), (2, .int x1), (3, .int x2)] [] H (some (.int r)) (fun H1 => xS h b T a' H1) := by
  unfold f338_unlike at e
  refine ex_s (am_nb (m := 2) (pc1 := 2) (ls1 := [(0, .ref 157), (1, .int x0), (2, .int x1), (3, .int x2)]) (st1 := [.ref 157, .int x0]) (H1 := H) (k1 := 0) (n1 := 0) (by with_unfolding_all rfl)) ?_
  refine xe_get (v := .int (a 157 27)) hS rfl rfl (by decide) rfl ?_
  refine ex_s (am_nb (m := 2) (pc1 := 7) (ls1 := [(0, .ref 157), (1, .int x0), (2, .int x1), (3, .int x2)]) (st1 := [.int ((a 157 27) - 1), .int x0]) (H1 := H) (k1 := 0) (n1 := 0) (by with_unfolding_all rfl)) ?_
  refine ex_s (st_icmp rfl) ?_
  by_cases c3 : x0 = ((a 157 27) - 1)
  · have e := (if_pos c3).symm.trans e
    refine ex_pc (if_pos c3) ?_
    refine ex_s (am_nb (m := 2) (pc1 := 12) (ls1 := [(0, .ref 157), (1, .int x0), (2, .int x1), (3, .int x2)]) (st1 := [.ref 157, .int x1]) (H1 := H) (k1 := 0) (n1 := 0) (by with_unfolding_all rfl)) ?_
    refine xe_get (v := .int (a 157 26)) hS rfl rfl (by decide) rfl ?_
    refine ex_s (am_nb (m := 2) (pc1 := 17) (ls1 := [(0, .ref 157), (1, .int x0), (2, .int x1), (3, .int x2)]) (st1 := [.int ((a 157 26) - 1), .int x1]) (H1 := H) (k1 := 0) (n1 := 0) (by with_unfolding_all rfl)) ?_
    refine ex_s (st_icmp rfl) ?_
    by_cases c5 : x1 = ((a 157 26) - 1)
    · have e := (if_pos c5).symm.trans e
      refine ex_pc (if_pos c5) ?_
      refine ex_s (am_nb (m := 2) (pc1 := 22) (ls1 := [(0, .ref 157), (1, .int x0), (2, .int x1), (3, .int x2)]) (st1 := [.int 0, .ref 157]) (H1 := H) (k1 := 0) (n1 := 0) (by with_unfolding_all rfl)) ?_
      obtain ⟨r9, a10, e8, e⟩ := xb2_some e
      refine ex_cv1 (as := [.int 0]) (rest := []) rfl rfl rfl rfl (hS.obj rfl (by decide)) rfl (by with_unfolding_all rfl) (by with_unfolding_all rfl) (tf297_has hS e8) (fun H6 s7 => ?_)
      refine ex_s (st_if rfl) ?_
      by_cases c12 : r9 = 0
      · have e := (if_pos c12).symm.trans e
        refine ex_pc (if_pos c12) ?_
        exact le_E (l1 := [(0, .ref 157), (1, .int x0), (2, .int x1), (3, .int x2)]) ⟨rfl, rfl, rfl, rfl, trivial⟩ rfl (tj338_40  s7 e)
      · have e := (if_neg c12).symm.trans e
        refine ex_pc (if_neg c12) ?_
        refine ex_s (am_nb (m := 2) (pc1 := 30) (ls1 := [(0, .ref 157), (1, .int x0), (2, .int x1), (3, .int x2)]) (st1 := [.int 1, .ref 157]) (H1 := H6) (k1 := 0) (n1 := 0) (by with_unfolding_all rfl)) ?_
        obtain ⟨r26, a27, e25, e⟩ := xb2_some e
        refine ex_cv1 (as := [.int 1]) (rest := []) rfl rfl rfl rfl (s7.obj rfl (by decide)) rfl (by with_unfolding_all rfl) (by with_unfolding_all rfl) (tf297_has s7 e25) (fun H23 s24 => ?_)
        have kk : am_E sL sx am_cs 338 41 [(0, .ref 157), (1, .int x0), (2, .int x1), (3, .int x2)] [.int (if r26 = 0 then (1 : Int32) else (0 : Int32))] H23 (some (.int r)) (fun H1 => xS h b T a' H1) := by
          refine ex_s (am_nb (m := 2) (pc1 := 45) (ls1 := [(4, .int (if r26 = 0 then (1 : Int32) else (0 : Int32))), (0, .ref 157), (1, .int x0), (2, .int x1), (3, .int x2)]) (st1 := [.int (if r26 = 0 then (1 : Int32) else (0 : Int32))]) (H1 := H23) (k1 := 0) (n1 := 0) (by with_unfolding_all rfl)) ?_
          refine ex_s (st_if rfl) ?_
          by_cases c30 : (if r26 = 0 then (1 : Int32) else (0 : Int32)) = 0
          · have e := (if_pos c30).symm.trans e
            refine ex_pc (if_pos c30) ?_
            refine ex_s (am_nb (m := 2) (pc1 := 50) (ls1 := [(4, .int (if r26 = 0 then (1 : Int32) else (0 : Int32))), (0, .ref 157), (1, .int x0), (2, .int x1), (3, .int x2)]) (st1 := [.ref 157, .ref 157]) (H1 := H23) (k1 := 0) (n1 := 0) (by with_unfolding_all rfl)) ?_
            refine xe_get (v := .ref 170) s24 rfl rfl (by decide) rfl ?_
            refine ex_s (am_nb (m := 5) (pc1 := 59) (ls1 := [(4, .int (if r26 = 0 then (1 : Int32) else (0 : Int32))), (0, .ref 157), (1, .int x0), (2, .int x1), (3, .int x2)]) (st1 := [.int ((80 * x0) + x1), .ref 170, .ref 157]) (H1 := H23) (k1 := 0) (n1 := 0) (by with_unfolding_all rfl)) ?_
            obtain ⟨g31, e⟩ := xg_some e
            refine xe_iald s24 rfl rfl g31 ?_
            obtain ⟨r35, a36, e34, e⟩ := xb2_some e
            refine ex_cv1 (as := [.int (a27 170 (((80 * x0) + x1).toNatClampNeg))]) (rest := []) rfl rfl rfl rfl (s24.obj rfl (by decide)) rfl (by with_unfolding_all rfl) (by with_unfolding_all rfl) (tf339_offeredOf s24 e34) (fun H32 s33 => ?_)
            refine ex_s (am_nb (m := 1) (pc1 := 64) (ls1 := [(4, .int (if r26 = 0 then (1 : Int32) else (0 : Int32))), (0, .ref 157), (1, .int x0), (2, .int x1), (3, .int x2)]) (st1 := [.int x2, .int r35]) (H1 := H32) (k1 := 0) (n1 := 0) (by with_unfolding_all rfl)) ?_
            have kk : am_E sL sx am_cs 338 72 [(4, .int (if r26 = 0 then (1 : Int32) else (0 : Int32))), (0, .ref 157), (1, .int x0), (2, .int x1), (3, .int x2)] [.int (if r35 = x2 then (0 : Int32) else (1 : Int32))] H32 (some (.int r)) (fun H1 => xS h b T a' H1) := by
              obtain ⟨g38, e⟩ := xg_some e
              cases e
              exact ex_r (st_iret rfl rfl (xnar_z g38)) s33
            refine ex_s (st_icmp rfl) ?_
            by_cases c37 : r35 = x2
            · refine ex_pc (if_pos c37) ?_
              refine ex_s (am_nb (m := 1) (pc1 := 72) (ls1 := [(4, .int (if r26 = 0 then (1 : Int32) else (0 : Int32))), (0, .ref 157), (1, .int x0), (2, .int x1), (3, .int x2)]) (st1 := [.int 0]) (H1 := H32) (k1 := 0) (n1 := 0) (by with_unfolding_all rfl)) ?_
              rw [if_pos c37] at kk
              exact kk
            · refine ex_pc (if_neg c37) ?_
              refine ex_s (am_nb (m := 2) (pc1 := 72) (ls1 := [(4, .int (if r26 = 0 then (1 : Int32) else (0 : Int32))), (0, .ref 157), (1, .int x0), (2, .int x1), (3, .int x2)]) (st1 := [.int 1]) (H1 := H32) (k1 := 0) (n1 := 0) (by with_unfolding_all rfl)) ?_
              rw [if_neg c37] at kk
              exact kk
          · have e := (if_neg c30).symm.trans e
            refine ex_pc (if_neg c30) ?_
            refine ex_s (am_nb (m := 1) (pc1 := 72) (ls1 := [(4, .int (if r26 = 0 then (1 : Int32) else (0 : Int32))), (0, .ref 157), (1, .int x0), (2, .int x1), (3, .int x2)]) (st1 := [.int 0]) (H1 := H23) (k1 := 0) (n1 := 0) (by with_unfolding_all rfl)) ?_
            cases e
            exact ex_r (st_iret rfl rfl rfl) s24
        refine ex_s (st_if rfl) ?_
        by_cases c28 : r26 = 0
        · refine ex_pc (if_pos c28) ?_
          refine ex_s (am_nb (m := 2) (pc1 := 41) (ls1 := [(0, .ref 157), (1, .int x0), (2, .int x1), (3, .int x2)]) (st1 := [.int 1]) (H1 := H23) (k1 := 0) (n1 := 0) (by with_unfolding_all rfl)) ?_
          rw [if_pos c28] at kk
          exact kk
        · refine ex_pc (if_neg c28) ?_
          refine ex_s (am_nb (m := 1) (pc1 := 41) (ls1 := [(0, .ref 157), (1, .int x0), (2, .int x1), (3, .int x2)]) (st1 := [.int 0]) (H1 := H23) (k1 := 0) (n1 := 0) (by with_unfolding_all rfl)) ?_
          rw [if_neg c28] at kk
          exact kk
    · have e := (if_neg c5).symm.trans e
      refine ex_pc (if_neg c5) ?_
      exact le_E (l1 := [(0, .ref 157), (1, .int x0), (2, .int x1), (3, .int x2)]) ⟨rfl, rfl, rfl, rfl, trivial⟩ rfl (tj338_40  hS e)
  · have e := (if_neg c3).symm.trans e
    refine ex_pc (if_neg c3) ?_
    exact le_E (l1 := [(0, .ref 157), (1, .int x0), (2, .int x1), (3, .int x2)]) ⟨rfl, rfl, rfl, rfl, trivial⟩ rfl (tj338_40  hS e)

set_option maxRecDepth 100000 in
theorem tf341_undress {sL : Nat} {sx : Nat → Int32} {h b N : Nat} {T : List am_C} {a' : xA} {a : xA} {H : am_H} (hS : xS h b T a H) (e : f341_undress N h b a = some a') : am_E sL sx am_cs 341 0 [(0, .ref 157)] [] H none (fun H1 => xS h b T a' H1) := by
  unfold f341_undress at e
  refine ex_s (am_nb (m := 5) (pc1 := 6) (ls1 := [(0, .ref 157)]) (st1 := [.int 1, .int 0, .int 0, .int 25, .ref 157]) (H1 := H) (k1 := 0) (n1 := 0) (by with_unfolding_all rfl)) ?_
  obtain ⟨a4, e3, e⟩ := xb1_some e
  refine ex_cv0 (as := [.int 25, .int 0, .int 0, .int 1]) (rest := []) rfl rfl rfl rfl (hS.obj rfl (by decide)) rfl (by with_unfolding_all rfl) (by with_unfolding_all rfl) (tf332_typeAll hS e3) (fun H1 s2 => ?_)
  refine ex_s (am_nb (m := 2) (pc1 := 11) (ls1 := [(0, .ref 157)]) (st1 := [.int 0, .ref 157]) (H1 := H1) (k1 := 0) (n1 := 0) (by with_unfolding_all rfl)) ?_
  obtain ⟨a5, ha5, e⟩ := xw_some e
  refine xe_put (w := 0) s2 rfl rfl (by decide) rfl rfl rfl rfl (fun H6 s7 => ?_)
  have s7 : xS h b T a5 H6 := by rw [ha5]; exact s7
  cases e
  exact ex_r (st_vret rfl rfl) s7

set_option maxRecDepth 100000 in
theorem tj345_29 {sL : Nat} {sx : Nat → Int32} {h b N : Nat} {T : List am_C} {r : Int32} {a' : xA} {a : xA} {H : am_H} (hS : xS h b T a H) (e : j345_29 N h b a = some (r, a')) : am_E sL sx am_cs 345 29 [] [] H (some (.int r)) (fun H1 => xS h b T a' H1) := by
  unfold j345_29 at e
  refine ex_s (am_nb (m := 2) (pc1 := 34) (ls1 := []) (st1 := [.int 0]) (H1 := H) (k1 := 0) (n1 := 0) (by with_unfolding_all rfl)) ?_
  cases e
  exact ex_r (st_iret rfl rfl rfl) hS

set_option maxRecDepth 100000 in
theorem tj345_14 {sL : Nat} {sx : Nat → Int32} {h b N : Nat} {T : List am_C} {r : Int32} {a' : xA} {q0 : Int32} {q1 : Int32} {a : xA} {H : am_H} (hS : xS h b T a H) (e : j345_14 N h b q0 q1 a = some (r, a')) : am_E sL sx am_cs 345 14 [(0, .int q0), (1, .int q1)] [] H (some (.int r)) (fun H1 => xS h b T a' H1) := by
  unfold j345_14 at e
  refine ex_s (am_nb (m := 2) (pc1 := 16) (ls1 := [(0, .int q0), (1, .int q1)]) (st1 := [.int (-1), .int q1]) (H1 := H) (k1 := 0) (n1 := 0) (by with_unfolding_all rfl)) ?_
  refine ex_s (st_icmp rfl) ?_
  by_cases c10 : q1 = (-1)
  · have e := (if_pos c10).symm.trans e
    refine ex_pc (if_pos c10) ?_
    exact le_E (l1 := []) trivial rfl (tj345_29  hS e)
  · have e := (if_neg c10).symm.trans e
    refine ex_pc (if_neg c10) ?_
    refine ex_s (am_nb (m := 2) (pc1 := 21) (ls1 := [(0, .int q0), (1, .int q1)]) (st1 := [.int (-1), .int q0]) (H1 := H) (k1 := 0) (n1 := 0) (by with_unfolding_all rfl)) ?_
    refine ex_s (st_icmp rfl) ?_
    by_cases c13 : q0 = (-1)
    · have e := (if_pos c13).symm.trans e
      refine ex_pc (if_pos c13) ?_
      refine ex_s (am_nb (m := 1) (pc1 := 34) (ls1 := [(0, .int q0), (1, .int q1)]) (st1 := [.int 1]) (H1 := H) (k1 := 0) (n1 := 0) (by with_unfolding_all rfl)) ?_
      cases e
      exact ex_r (st_iret rfl rfl rfl) hS
    · have e := (if_neg c13).symm.trans e
      refine ex_pc (if_neg c13) ?_
      refine ex_s (am_nb (m := 2) (pc1 := 26) (ls1 := [(0, .int q0), (1, .int q1)]) (st1 := [.int q1, .int q0]) (H1 := H) (k1 := 0) (n1 := 0) (by with_unfolding_all rfl)) ?_
      have kk : am_E sL sx am_cs 345 34 [(0, .int q0), (1, .int q1)] [.int (if q1 < q0 then (1 : Int32) else (0 : Int32))] H (some (.int r)) (fun H1 => xS h b T a' H1) := by
        cases e
        exact ex_r (st_iret rfl rfl rfl) hS
      refine ex_s (st_icmp rfl) ?_
      by_cases c14 : q1 < q0
      · refine ex_pc (if_pos c14) ?_
        refine ex_s (am_nb (m := 1) (pc1 := 34) (ls1 := [(0, .int q0), (1, .int q1)]) (st1 := [.int 1]) (H1 := H) (k1 := 0) (n1 := 0) (by with_unfolding_all rfl)) ?_
        rw [if_pos c14] at kk
        exact kk
      · refine ex_pc (if_neg c14) ?_
        refine ex_s (am_nb (m := 2) (pc1 := 34) (ls1 := [(0, .int q0), (1, .int q1)]) (st1 := [.int 0]) (H1 := H) (k1 := 0) (n1 := 0) (by with_unfolding_all rfl)) ?_
        rw [if_neg c14] at kk
        exact kk

set_option maxRecDepth 100000 in
theorem tf345_better {sL : Nat} {sx : Nat → Int32} {h b N : Nat} {T : List am_C} {r : Int32} {a' : xA} {x0 : Int32} {x1 : Int32} {a : xA} {H : am_H} (hS : xS h b T a H) (e : f345_better N h b x0 x1 a = some (r, a')) : am_E sL sx am_cs 345 0 [(0, .int x0), (1, .int x1)] [] H (some (.int r)) (fun H1 => xS h b T a' H1) := by
  unfold f345_better at e
  refine ex_s (am_nb (m := 2) (pc1 := 2) (ls1 := [(0, .int x0), (1, .int x1)]) (st1 := [.int (-1), .int x0]) (H1 := H) (k1 := 0) (n1 := 0) (by with_unfolding_all rfl)) ?_
  refine ex_s (st_icmp rfl) ?_
  by_cases c3 : x0 = (-1)
  · have e := (if_pos c3).symm.trans e
    refine ex_pc (if_pos c3) ?_
    refine ex_s (am_nb (m := 2) (pc1 := 7) (ls1 := [(0, .int x0), (1, .int x1)]) (st1 := [.int (-1), .int x1]) (H1 := H) (k1 := 0) (n1 := 0) (by with_unfolding_all rfl)) ?_
    have kk : am_E sL sx am_cs 345 34 [(0, .int x0), (1, .int x1)] [.int (if x1 = (-1) then (-1 : Int32) else (if x1 = (-1) then (0 : Int32) else (if x0 = (-1) then (1 : Int32) else (if x1 < x0 then (1 : Int32) else (0 : Int32)))))] H (some (.int r)) (fun H1 => xS h b T a' H1) := by
      cases e
      exact ex_r (st_iret rfl rfl rfl) hS
    refine ex_s (st_icmp rfl) ?_
    by_cases c4 : x1 = (-1)
    · refine ex_pc (if_pos c4) ?_
      refine ex_s (am_nb (m := 2) (pc1 := 34) (ls1 := [(0, .int x0), (1, .int x1)]) (st1 := [.int (-1)]) (H1 := H) (k1 := 0) (n1 := 0) (by with_unfolding_all rfl)) ?_
      rw [if_pos c4] at kk
      exact kk
    · refine ex_pc (if_neg c4) ?_
      refine ex_s (am_nb (m := 2) (pc1 := 16) (ls1 := [(0, .int x0), (1, .int x1)]) (st1 := [.int (-1), .int x1]) (H1 := H) (k1 := 0) (n1 := 0) (by with_unfolding_all rfl)) ?_
      refine ex_s (st_icmp rfl) ?_
      by_cases c5 : x1 = (-1)
      · refine ex_pc (if_pos c5) ?_
        refine ex_s (am_nb (m := 2) (pc1 := 34) (ls1 := [(0, .int x0), (1, .int x1)]) (st1 := [.int 0]) (H1 := H) (k1 := 0) (n1 := 0) (by with_unfolding_all rfl)) ?_
        rw [if_neg c4, if_pos c5] at kk
        exact kk
      · refine ex_pc (if_neg c5) ?_
        refine ex_s (am_nb (m := 2) (pc1 := 21) (ls1 := [(0, .int x0), (1, .int x1)]) (st1 := [.int (-1), .int x0]) (H1 := H) (k1 := 0) (n1 := 0) (by with_unfolding_all rfl)) ?_
        refine ex_s (st_icmp rfl) ?_
        by_cases c6 : x0 = (-1)
        · refine ex_pc (if_pos c6) ?_
          refine ex_s (am_nb (m := 1) (pc1 := 34) (ls1 := [(0, .int x0), (1, .int x1)]) (st1 := [.int 1]) (H1 := H) (k1 := 0) (n1 := 0) (by with_unfolding_all rfl)) ?_
          rw [if_neg c4, if_neg c5, if_pos c6] at kk
          exact kk
        · refine ex_pc (if_neg c6) ?_
          refine ex_s (am_nb (m := 2) (pc1 := 26) (ls1 := [(0, .int x0), (1, .int x1)]) (st1 := [.int x1, .int x0]) (H1 := H) (k1 := 0) (n1 := 0) (by with_unfolding_all rfl)) ?_
          refine ex_s (st_icmp rfl) ?_
          by_cases c7 : x1 < x0
          · refine ex_pc (if_pos c7) ?_
            refine ex_s (am_nb (m := 1) (pc1 := 34) (ls1 := [(0, .int x0), (1, .int x1)]) (st1 := [.int 1]) (H1 := H) (k1 := 0) (n1 := 0) (by with_unfolding_all rfl)) ?_
            rw [if_neg c4, if_neg c5, if_neg c6, if_pos c7] at kk
            exact kk
          · refine ex_pc (if_neg c7) ?_
            refine ex_s (am_nb (m := 2) (pc1 := 34) (ls1 := [(0, .int x0), (1, .int x1)]) (st1 := [.int 0]) (H1 := H) (k1 := 0) (n1 := 0) (by with_unfolding_all rfl)) ?_
            rw [if_neg c4, if_neg c5, if_neg c6, if_neg c7] at kk
            exact kk
  · have e := (if_neg c3).symm.trans e
    refine ex_pc (if_neg c3) ?_
    exact le_E (l1 := [(0, .int x0), (1, .int x1)]) ⟨rfl, rfl, trivial⟩ rfl (tj345_14  hS e)

set_option maxRecDepth 100000 in
theorem tj344_80 {sL : Nat} {sx : Nat → Int32} {h b N : Nat} {T : List am_C} {r : Int32} {a' : xA} {q6 : Int32} {q7 : Int32} {q8 : Int32} {a : xA} {H : am_H} (hS : xS h b T a H) (e : j344_80 N h b q6 q7 q8 a = some (r, a')) : am_E sL sx am_cs 344 80 [(6, .int q6), (7, .int q7), (8, .int q8)] [] H (some (.int r)) (fun H1 => xS h b T a' H1) := by
  unfold j344_80 at e
  refine ex_s (am_nb (m := 2) (pc1 := 83) (ls1 := [(6, .int q6), (7, .int q7), (8, .int q8)]) (st1 := [.int (-1), .int q8]) (H1 := H) (k1 := 0) (n1 := 0) (by with_unfolding_all rfl)) ?_
  have kk : am_E sL sx am_cs 344 102 [(6, .int q6), (7, .int q7), (8, .int q8)] [.int (if q8 = (-1) then (-1 : Int32) else (if q8 = 0 then (q6) else (q7)))] H (some (.int r)) (fun H1 => xS h b T a' H1) := by
    cases e
    exact ex_r (st_iret rfl rfl rfl) hS
  refine ex_s (st_icmp rfl) ?_
  by_cases c23 : q8 = (-1)
  · refine ex_pc (if_pos c23) ?_
    refine ex_s (am_nb (m := 2) (pc1 := 102) (ls1 := [(6, .int q6), (7, .int q7), (8, .int q8)]) (st1 := [.int (-1)]) (H1 := H) (k1 := 0) (n1 := 0) (by with_unfolding_all rfl)) ?_
    rw [if_pos c23] at kk
    exact kk
  · refine ex_pc (if_neg c23) ?_
    refine ex_s (am_nb (m := 1) (pc1 := 92) (ls1 := [(6, .int q6), (7, .int q7), (8, .int q8)]) (st1 := [.int q8]) (H1 := H) (k1 := 0) (n1 := 0) (by with_unfolding_all rfl)) ?_
    refine ex_s (st_if rfl) ?_
    by_cases c24 : q8 = 0
    · refine ex_pc (if_pos c24) ?_
      refine ex_s (am_nb (m := 2) (pc1 := 102) (ls1 := [(6, .int q6), (7, .int q7), (8, .int q8)]) (st1 := [.int q6]) (H1 := H) (k1 := 0) (n1 := 0) (by with_unfolding_all rfl)) ?_
      rw [if_neg c23, if_pos c24] at kk
      exact kk
    · refine ex_pc (if_neg c24) ?_
      refine ex_s (am_nb (m := 1) (pc1 := 102) (ls1 := [(6, .int q6), (7, .int q7), (8, .int q8)]) (st1 := [.int q7]) (H1 := H) (k1 := 0) (n1 := 0) (by with_unfolding_all rfl)) ?_
      rw [if_neg c23, if_neg c24] at kk
      exact kk

set_option maxRecDepth 100000 in
theorem tj344_61 {sL : Nat} {sx : Nat → Int32} {h b N : Nat} {T : List am_C} {r : Int32} {a' : xA} {q2 : Int32} {q3 : Int32} {q4 : Int32} {q6 : Int32} {q7 : Int32} {q8 : Int32} {a : xA} {H : am_H} (hS : xS h b T a H) (e : j344_61 N h b q2 q3 q4 q6 q7 q8 a = some (r, a')) : am_E sL sx am_cs 344 61 [(0, .ref 157), (2, .int q2), (3, .int q3), (4, .int q4), (6, .int q6), (7, .int q7), (8, .int q8)] [] H (some (.int r)) (fun H1 => xS h b T a' H1) := by
  unfold j344_61 at e
  refine ex_s (am_nb (m := 1) (pc1 := 63) (ls1 := [(0, .ref 157), (2, .int q2), (3, .int q3), (4, .int q4), (6, .int q6), (7, .int q7), (8, .int q8)]) (st1 := [.int q4]) (H1 := H) (k1 := 0) (n1 := 0) (by with_unfolding_all rfl)) ?_
  refine ex_s (st_if rfl) ?_
  by_cases c22 : q4 = 0
  · have e := (if_pos c22).symm.trans e
    refine ex_pc (if_pos c22) ?_
    exact le_E (l1 := [(6, .int q6), (7, .int q7), (8, .int q8)]) ⟨rfl, rfl, rfl, trivial⟩ rfl (tj344_80  hS e)
  · have e := (if_neg c22).symm.trans e
    refine ex_pc (if_neg c22) ?_
    refine ex_s (am_nb (m := 2) (pc1 := 69) (ls1 := [(0, .ref 157), (2, .int q2), (3, .int q3), (4, .int q4), (6, .int q6), (7, .int q7), (8, .int q8)]) (st1 := [.int 1, .int q8]) (H1 := H) (k1 := 0) (n1 := 0) (by with_unfolding_all rfl)) ?_
    refine ex_s (st_icmp rfl) ?_
    by_cases c26 : q8 = 1
    · have e := (if_pos c26).symm.trans e
      refine ex_pc (if_pos c26) ?_
      refine ex_s (am_nb (m := 5) (pc1 := 77) (ls1 := [(0, .ref 157), (2, .int q2), (3, .int q3), (4, .int q4), (6, .int q6), (7, .int q7), (8, .int q8)]) (st1 := [.int 1, .int 0, .int q3, .int q2, .ref 157]) (H1 := H) (k1 := 0) (n1 := 0) (by with_unfolding_all rfl)) ?_
      obtain ⟨a30, e29, e⟩ := xb1_some e
      refine ex_cv0 (as := [.int q2, .int q3, .int 0, .int 1]) (rest := []) rfl rfl rfl rfl (hS.obj rfl (by decide)) rfl (by with_unfolding_all rfl) (by with_unfolding_all rfl) (tf332_typeAll hS e29) (fun H27 s28 => ?_)
      exact le_E (l1 := [(6, .int q6), (7, .int q7), (8, .int q8)]) ⟨rfl, rfl, rfl, trivial⟩ rfl (tj344_80  s28 e)
    · have e := (if_neg c26).symm.trans e
      refine ex_pc (if_neg c26) ?_
      exact le_E (l1 := [(6, .int q6), (7, .int q7), (8, .int q8)]) ⟨rfl, rfl, rfl, trivial⟩ rfl (tj344_80  hS e)

set_option maxRecDepth 100000 in
theorem tf344_eitherOf {sL : Nat} {sx : Nat → Int32} {h b N : Nat} {T : List am_C} {r : Int32} {a' : xA} {x0 : Int32} {x1 : Int32} {x2 : Int32} {x3 : Int32} {a : xA} {H : am_H} (hS : xS h b T a H) (e : f344_eitherOf N h b x0 x1 x2 x3 a = some (r, a')) : am_E sL sx am_cs 344 0 [(0, .ref 157), (1, .int x0), (2, .int x1), (3, .int x2), (4, .int x3)] [] H (some (.int r)) (fun H1 => xS h b T a' H1) := by
  unfold f344_eitherOf at e
  refine ex_s (am_nb (m := 4) (pc1 := 4) (ls1 := [(0, .ref 157), (1, .int x0), (2, .int x1), (3, .int x2), (4, .int x3)]) (st1 := [.int 0, .int 0, .int x0, .ref 157]) (H1 := H) (k1 := 0) (n1 := 0) (by with_unfolding_all rfl)) ?_
  obtain ⟨r4, a5, e3, e⟩ := xb2_some e
  refine ex_cv1 (as := [.int x0, .int 0, .int 0]) (rest := []) rfl rfl rfl rfl (hS.obj rfl (by decide)) rfl (by with_unfolding_all rfl) (by with_unfolding_all rfl) (tf333_bytesOf hS e3) (fun H1 s2 => ?_)
  refine ex_s (am_nb (m := 3) (pc1 := 12) (ls1 := [(5, .int r4), (0, .ref 157), (1, .int x0), (2, .int x1), (3, .int x2), (4, .int x3)]) (st1 := [.int (-1), .int r4]) (H1 := H1) (k1 := 0) (n1 := 0) (by with_unfolding_all rfl)) ?_
  have kk : am_E sL sx am_cs 344 23 [(5, .int r4), (0, .ref 157), (1, .int x0), (2, .int x1), (3, .int x2), (4, .int x3)] [.int (if r4 = (-1) then (-1 : Int32) else (r4 * x2))] H1 (some (.int r)) (fun H1 => xS h b T a' H1) := by
    refine ex_s (am_nb (m := 5) (pc1 := 29) (ls1 := [(6, .int (if r4 = (-1) then (-1 : Int32) else (r4 * x2))), (5, .int r4), (0, .ref 157), (1, .int x0), (2, .int x1), (3, .int x2), (4, .int x3)]) (st1 := [.int 0, .int x2, .int x1, .ref 157]) (H1 := H1) (k1 := 0) (n1 := 0) (by with_unfolding_all rfl)) ?_
    obtain ⟨r10, a11, e9, e⟩ := xb2_some e
    refine ex_cv1 (as := [.int x1, .int x2, .int 0]) (rest := []) rfl rfl rfl rfl (s2.obj rfl (by decide)) rfl (by with_unfolding_all rfl) (by with_unfolding_all rfl) (tf333_bytesOf s2 e9) (fun H7 s8 => ?_)
    refine ex_s (am_nb (m := 3) (pc1 := 38) (ls1 := [(7, .int r10), (6, .int (if r4 = (-1) then (-1 : Int32) else (r4 * x2))), (5, .int r4), (0, .ref 157), (1, .int x0), (2, .int x1), (3, .int x2), (4, .int x3)]) (st1 := [.int r10, .int (if r4 = (-1) then (-1 : Int32) else (r4 * x2))]) (H1 := H7) (k1 := 0) (n1 := 0) (by with_unfolding_all rfl)) ?_
    obtain ⟨r15, a16, e14, e⟩ := xb2_some e
    refine ex_cs1 (as := [.int (if r4 = (-1) then (-1 : Int32) else (r4 * x2)), .int r10]) (rest := []) rfl (by decide) rfl rfl (by with_unfolding_all rfl) (by with_unfolding_all rfl) (tf345_better s8 e14) (fun H12 s13 => ?_)
    refine ex_s (am_nb (m := 2) (pc1 := 45) (ls1 := [(8, .int r15), (7, .int r10), (6, .int (if r4 = (-1) then (-1 : Int32) else (r4 * x2))), (5, .int r4), (0, .ref 157), (1, .int x0), (2, .int x1), (3, .int x2), (4, .int x3)]) (st1 := [.int x3]) (H1 := H12) (k1 := 0) (n1 := 0) (by with_unfolding_all rfl)) ?_
    refine ex_s (st_if rfl) ?_
    by_cases c19 : x3 = 0
    · have e := (if_pos c19).symm.trans e
      refine ex_pc (if_pos c19) ?_
      exact le_E (l1 := [(0, .ref 157), (2, .int x1), (3, .int x2), (4, .int x3), (6, .int (if r4 = (-1) then (-1 : Int32) else (r4 * x2))), (7, .int r10), (8, .int r15)]) ⟨rfl, rfl, rfl, rfl, rfl, rfl, rfl, trivial⟩ rfl (tj344_61  s13 e)
    · have e := (if_neg c19).symm.trans e
      refine ex_pc (if_neg c19) ?_
      refine ex_s (am_nb (m := 1) (pc1 := 50) (ls1 := [(8, .int r15), (7, .int r10), (6, .int (if r4 = (-1) then (-1 : Int32) else (r4 * x2))), (5, .int r4), (0, .ref 157), (1, .int x0), (2, .int x1), (3, .int x2), (4, .int x3)]) (st1 := [.int r15]) (H1 := H12) (k1 := 0) (n1 := 0) (by with_unfolding_all rfl)) ?_
      refine ex_s (st_if rfl) ?_
      by_cases c32 : r15 = 0
      · have e := (if_pos c32).symm.trans e
        refine ex_pc (if_pos c32) ?_
        refine ex_s (am_nb (m := 5) (pc1 := 58) (ls1 := [(8, .int r15), (7, .int r10), (6, .int (if r4 = (-1) then (-1 : Int32) else (r4 * x2))), (5, .int r4), (0, .ref 157), (1, .int x0), (2, .int x1), (3, .int x2), (4, .int x3)]) (st1 := [.int x2, .int 0, .int 0, .int x0, .ref 157]) (H1 := H12) (k1 := 0) (n1 := 0) (by with_unfolding_all rfl)) ?_
        obtain ⟨a36, e35, e⟩ := xb1_some e
        refine ex_cv0 (as := [.int x0, .int 0, .int 0, .int x2]) (rest := []) rfl rfl rfl rfl (s13.obj rfl (by decide)) rfl (by with_unfolding_all rfl) (by with_unfolding_all rfl) (tf332_typeAll s13 e35) (fun H33 s34 => ?_)
        exact le_E (l1 := [(0, .ref 157), (2, .int x1), (3, .int x2), (4, .int x3), (6, .int (if r4 = (-1) then (-1 : Int32) else (r4 * x2))), (7, .int r10), (8, .int r15)]) ⟨rfl, rfl, rfl, rfl, rfl, rfl, rfl, trivial⟩ rfl (tj344_61  s34 e)
      · have e := (if_neg c32).symm.trans e
        refine ex_pc (if_neg c32) ?_
        exact le_E (l1 := [(0, .ref 157), (2, .int x1), (3, .int x2), (4, .int x3), (6, .int (if r4 = (-1) then (-1 : Int32) else (r4 * x2))), (7, .int r10), (8, .int r15)]) ⟨rfl, rfl, rfl, rfl, rfl, rfl, rfl, trivial⟩ rfl (tj344_61  s13 e)
  refine ex_s (st_icmp rfl) ?_
  by_cases c6 : r4 = (-1)
  · refine ex_pc (if_pos c6) ?_
    refine ex_s (am_nb (m := 2) (pc1 := 23) (ls1 := [(5, .int r4), (0, .ref 157), (1, .int x0), (2, .int x1), (3, .int x2), (4, .int x3)]) (st1 := [.int (-1)]) (H1 := H1) (k1 := 0) (n1 := 0) (by with_unfolding_all rfl)) ?_
    rw [if_pos c6] at kk
    exact kk
  · refine ex_pc (if_neg c6) ?_
    refine ex_s (am_nb (m := 3) (pc1 := 23) (ls1 := [(5, .int r4), (0, .ref 157), (1, .int x0), (2, .int x1), (3, .int x2), (4, .int x3)]) (st1 := [.int (r4 * x2)]) (H1 := H1) (k1 := 0) (n1 := 0) (by with_unfolding_all rfl)) ?_
    rw [if_neg c6] at kk
    exact kk

set_option maxRecDepth 100000 in
theorem tf343_upDown {sL : Nat} {sx : Nat → Int32} {h b N : Nat} {T : List am_C} {r : Int32} {a' : xA} {x0 : Int32} {x1 : Int32} {x2 : Int32} {a : xA} {H : am_H} (hS : xS h b T a H) (e : f343_upDown N h b x0 x1 x2 a = some (r, a')) : am_E sL sx am_cs 343 0 [(0, .ref 157), (1, .int x0), (2, .int x1), (3, .int x2)] [] H (some (.int r)) (fun H1 => xS h b T a' H1) := by
  unfold f343_upDown at e
  refine ex_s (am_nb (m := 6) (pc1 := 10) (ls1 := [(4, .int (xabs (x1 - x0))), (0, .ref 157), (1, .int x0), (2, .int x1), (3, .int x2)]) (st1 := [.int (xabs (x1 - x0))]) (H1 := H) (k1 := 0) (n1 := 0) (by with_unfolding_all rfl)) ?_
  refine ex_s (st_if rfl) ?_
  by_cases c1 : (xabs (x1 - x0)) = 0
  · have e := (if_pos c1).symm.trans e
    refine ex_pc (if_pos c1) ?_
    refine ex_s (am_nb (m := 1) (pc1 := 14) (ls1 := [(4, .int (xabs (x1 - x0))), (0, .ref 157), (1, .int x0), (2, .int x1), (3, .int x2)]) (st1 := [.int 0]) (H1 := H) (k1 := 0) (n1 := 0) (by with_unfolding_all rfl)) ?_
    cases e
    exact ex_r (st_iret rfl rfl rfl) hS
  · have e := (if_neg c1).symm.trans e
    refine ex_pc (if_neg c1) ?_
    refine ex_s (am_nb (m := 2) (pc1 := 17) (ls1 := [(4, .int (xabs (x1 - x0))), (0, .ref 157), (1, .int x0), (2, .int x1), (3, .int x2)]) (st1 := [.int x0, .int x1]) (H1 := H) (k1 := 0) (n1 := 0) (by with_unfolding_all rfl)) ?_
    have kk : am_E sL sx am_cs 343 27 [(4, .int (xabs (x1 - x0))), (0, .ref 157), (1, .int x0), (2, .int x1), (3, .int x2)] [.int (if x1 ≤ x0 then (10 : Int32) else (11 : Int32))] H (some (.int r)) (fun H1 => xS h b T a' H1) := by
      refine ex_s (am_nb (m := 3) (pc1 := 31) (ls1 := [(5, .int (if x1 ≤ x0 then (10 : Int32) else (11 : Int32))), (4, .int (xabs (x1 - x0))), (0, .ref 157), (1, .int x0), (2, .int x1), (3, .int x2)]) (st1 := [.int x0, .int x1]) (H1 := H) (k1 := 0) (n1 := 0) (by with_unfolding_all rfl)) ?_
      have kk : ∀ w_ : Int32, w_ = (if x1 ≤ x0 then (14 : Int32) else (15 : Int32)) → am_E sL sx am_cs 343 41 [(5, .int (if x1 ≤ x0 then (10 : Int32) else (11 : Int32))), (4, .int (xabs (x1 - x0))), (0, .ref 157), (1, .int x0), (2, .int x1), (3, .int x2)] [.int w_] H (some (.int r)) (fun H1 => xS h b T a' H1) := by
        intro w_ hw_
        subst hw_
        refine ex_s (am_nb (m := 6) (pc1 := 51) (ls1 := [(6, .int (if x1 ≤ x0 then (14 : Int32) else (15 : Int32))), (5, .int (if x1 ≤ x0 then (10 : Int32) else (11 : Int32))), (4, .int (xabs (x1 - x0))), (0, .ref 157), (1, .int x0), (2, .int x1), (3, .int x2)]) (st1 := [.int x2, .int (xabs (x1 - x0)), .int (if x1 ≤ x0 then (14 : Int32) else (15 : Int32)), .int (if x1 ≤ x0 then (10 : Int32) else (11 : Int32)), .ref 157]) (H1 := H) (k1 := 0) (n1 := 0) (by with_unfolding_all rfl)) ?_
        obtain ⟨r7, a8, e6, e⟩ := xb2_some e
        refine ex_cv1 (as := [.int (if x1 ≤ x0 then (10 : Int32) else (11 : Int32)), .int (if x1 ≤ x0 then (14 : Int32) else (15 : Int32)), .int (xabs (x1 - x0)), .int x2]) (rest := []) rfl rfl rfl rfl (hS.obj rfl (by decide)) rfl (by with_unfolding_all rfl) (by with_unfolding_all rfl) (tf344_eitherOf hS e6) (fun H4 s5 => ?_)
        cases e
        exact ex_r (st_iret rfl rfl rfl) s5
      refine ex_s (st_icmp rfl) ?_
      by_cases c3 : x1 ≤ x0
      · refine ex_pc (if_pos c3) ?_
        refine ex_s (am_nb (m := 1) (pc1 := 41) (ls1 := [(5, .int (if x1 ≤ x0 then (10 : Int32) else (11 : Int32))), (4, .int (xabs (x1 - x0))), (0, .ref 157), (1, .int x0), (2, .int x1), (3, .int x2)]) (st1 := [.int 14]) (H1 := H) (k1 := 0) (n1 := 0) (by with_unfolding_all rfl)) ?_
        exact kk _ (if_pos c3).symm
      · refine ex_pc (if_neg c3) ?_
        refine ex_s (am_nb (m := 2) (pc1 := 41) (ls1 := [(5, .int (if x1 ≤ x0 then (10 : Int32) else (11 : Int32))), (4, .int (xabs (x1 - x0))), (0, .ref 157), (1, .int x0), (2, .int x1), (3, .int x2)]) (st1 := [.int 15]) (H1 := H) (k1 := 0) (n1 := 0) (by with_unfolding_all rfl)) ?_
        exact kk _ (if_neg c3).symm
    refine ex_s (st_icmp rfl) ?_
    by_cases c2 : x1 ≤ x0
    · refine ex_pc (if_pos c2) ?_
      refine ex_s (am_nb (m := 1) (pc1 := 27) (ls1 := [(4, .int (xabs (x1 - x0))), (0, .ref 157), (1, .int x0), (2, .int x1), (3, .int x2)]) (st1 := [.int 10]) (H1 := H) (k1 := 0) (n1 := 0) (by with_unfolding_all rfl)) ?_
      rw [if_pos c2] at kk
      exact kk
    · refine ex_pc (if_neg c2) ?_
      refine ex_s (am_nb (m := 2) (pc1 := 27) (ls1 := [(4, .int (xabs (x1 - x0))), (0, .ref 157), (1, .int x0), (2, .int x1), (3, .int x2)]) (st1 := [.int 11]) (H1 := H) (k1 := 0) (n1 := 0) (by with_unfolding_all rfl)) ?_
      rw [if_neg c2] at kk
      exact kk

set_option maxRecDepth 100000 in
theorem tf348_numberOf {sL : Nat} {sx : Nat → Int32} {h b N : Nat} {T : List am_C} {r : Int32} {a' : xA} {x0 : Int32} {a : xA} {H : am_H} (hS : xS h b T a H) (e : f348_numberOf N h b x0 a = some (r, a')) : am_E sL sx am_cs 348 0 [(0, .ref 157), (1, .int x0)] [] H (some (.int r)) (fun H1 => xS h b T a' H1) := by
  unfold f348_numberOf at e
  refine ex_s (am_nb (m := 2) (pc1 := 2) (ls1 := [(0, .ref 157), (1, .int x0)]) (st1 := [.int x0, .ref 157]) (H1 := H) (k1 := 0) (n1 := 0) (by with_unfolding_all rfl)) ?_
  obtain ⟨r4, a5, e3, e⟩ := xb2_some e
  refine ex_cv1 (as := [.int x0]) (rest := []) rfl rfl rfl rfl (hS.obj rfl (by decide)) rfl (by with_unfolding_all rfl) (by with_unfolding_all rfl) (tf297_has hS e3) (fun H1 s2 => ?_)
  refine ex_s (st_if rfl) ?_
  by_cases c7 : r4 = 0
  · have e := (if_pos c7).symm.trans e
    refine ex_pc (if_pos c7) ?_
    refine ex_s (am_nb (m := 1) (pc1 := 26) (ls1 := [(0, .ref 157), (1, .int x0)]) (st1 := [.int 0]) (H1 := H1) (k1 := 0) (n1 := 0) (by with_unfolding_all rfl)) ?_
    cases e
    exact ex_r (st_iret rfl rfl rfl) s2
  · have e := (if_neg c7).symm.trans e
    refine ex_pc (if_neg c7) ?_
    refine ex_s (am_nb (m := 1) (pc1 := 9) (ls1 := [(0, .ref 157), (1, .int x0)]) (st1 := [.ref 157]) (H1 := H1) (k1 := 0) (n1 := 0) (by with_unfolding_all rfl)) ?_
    refine xe_get (v := .ref 164) s2 rfl rfl (by decide) rfl ?_
    refine ex_s (am_nb (m := 2) (pc1 := 15) (ls1 := [(0, .ref 157), (1, .int x0)]) (st1 := [.ref 157, .int 39, .ref 164]) (H1 := H1) (k1 := 0) (n1 := 0) (by with_unfolding_all rfl)) ?_
    refine xe_get (v := .int (a5 157 21)) s2 rfl rfl (by decide) rfl ?_
    refine ex_s (am_nb (m := 3) (pc1 := 21) (ls1 := [(0, .ref 157), (1, .int x0)]) (st1 := [.int ((39 * (a5 157 21)) + x0), .ref 164]) (H1 := H1) (k1 := 0) (n1 := 0) (by with_unfolding_all rfl)) ?_
    obtain ⟨g8, e⟩ := xg_some e
    refine xe_iald s2 rfl rfl g8 ?_
    refine ex_s (am_nb (m := 1) (pc1 := 26) (ls1 := [(0, .ref 157), (1, .int x0)]) (st1 := [.int (a5 164 (((39 * (a5 157 21)) + x0).toNatClampNeg))]) (H1 := H1) (k1 := 0) (n1 := 0) (by with_unfolding_all rfl)) ?_
    cases e
    exact ex_r (st_iret rfl rfl rfl) s2

set_option maxRecDepth 100000 in
theorem tj347_75 {sL : Nat} {sx : Nat → Int32} {h b N : Nat} {T : List am_C} {r : Int32} {a' : xA} {q2 : Int32} {q3 : Int32} {q5 : Int32} {q6 : Int32} {t0 : Int32} {a : xA} {H : am_H} (hS : xS h b T a H) (e : j347_75 N h b q2 q3 q5 q6 t0 a = some (r, a')) : am_E sL sx am_cs 347 75 [(0, .ref 157), (2, .int q2), (3, .int q3), (5, .int q5), (6, .int q6)] [.int t0] H (some (.int r)) (fun H1 => xS h b T a' H1) := by
  unfold j347_75 at e
  refine ex_s (am_nb (m := 3) (pc1 := 80) (ls1 := [(7, .int t0), (0, .ref 157), (2, .int q2), (3, .int q3), (5, .int q5), (6, .int q6)]) (st1 := [.int (-1), .int t0]) (H1 := H) (k1 := 0) (n1 := 0) (by with_unfolding_all rfl)) ?_
  refine ex_s (st_icmp rfl) ?_
  by_cases c18 : t0 = (-1)
  · have e := (if_pos c18).symm.trans e
    refine ex_pc (if_pos c18) ?_
    refine ex_s (am_nb (m := 1) (pc1 := 84) (ls1 := [(7, .int t0), (0, .ref 157), (2, .int q2), (3, .int q3), (5, .int q5), (6, .int q6)]) (st1 := [.int (-1)]) (H1 := H) (k1 := 0) (n1 := 0) (by with_unfolding_all rfl)) ?_
    cases e
    exact ex_r (st_iret rfl rfl rfl) hS
  · have e := (if_neg c18).symm.trans e
    refine ex_pc (if_neg c18) ?_
    refine ex_s (am_nb (m := 5) (pc1 := 92) (ls1 := [(7, .int t0), (0, .ref 157), (2, .int q2), (3, .int q3), (5, .int q5), (6, .int q6)]) (st1 := [.int 0, .int 0, .int 21, .ref 157, .int q6]) (H1 := H) (k1 := 0) (n1 := 0) (by with_unfolding_all rfl)) ?_
    obtain ⟨r22, a23, e21, e⟩ := xb2_some e
    refine ex_cv1 (as := [.int 21, .int 0, .int 0]) (rest := [.int q6]) rfl rfl rfl rfl (hS.obj rfl (by decide)) rfl (by with_unfolding_all rfl) (by with_unfolding_all rfl) (tf333_bytesOf hS e21) (fun H19 s20 => ?_)
    refine ex_s (am_nb (m := 5) (pc1 := 102) (ls1 := [(8, .int ((q6 * r22) + t0)), (7, .int t0), (0, .ref 157), (2, .int q2), (3, .int q3), (5, .int q5), (6, .int q6)]) (st1 := [.int q3]) (H1 := H19) (k1 := 0) (n1 := 0) (by with_unfolding_all rfl)) ?_
    refine ex_s (st_if rfl) ?_
    by_cases c25 : q3 = 0
    · have e := (if_pos c25).symm.trans e
      refine ex_pc (if_pos c25) ?_
      refine ex_s (am_nb (m := 1) (pc1 := 137) (ls1 := [(8, .int ((q6 * r22) + t0)), (7, .int t0), (0, .ref 157), (2, .int q2), (3, .int q3), (5, .int q5), (6, .int q6)]) (st1 := [.int ((q6 * r22) + t0)]) (H1 := H19) (k1 := 0) (n1 := 0) (by with_unfolding_all rfl)) ?_
      cases e
      exact ex_r (st_iret rfl rfl rfl) s20
    · have e := (if_neg c25).symm.trans e
      refine ex_pc (if_neg c25) ?_
      refine ex_s (am_nb (m := 5) (pc1 := 112) (ls1 := [(8, .int ((q6 * r22) + t0)), (7, .int t0), (0, .ref 157), (2, .int q2), (3, .int q3), (5, .int q5), (6, .int q6)]) (st1 := [.int q6, .int 0, .int 0, .int 21, .ref 157]) (H1 := H19) (k1 := 0) (n1 := 0) (by with_unfolding_all rfl)) ?_
      obtain ⟨a29, e28, e⟩ := xb1_some e
      refine ex_cv0 (as := [.int 21, .int 0, .int 0, .int q6]) (rest := []) rfl rfl rfl rfl (s20.obj rfl (by decide)) rfl (by with_unfolding_all rfl) (by with_unfolding_all rfl) (tf332_typeAll s20 e28) (fun H26 s27 => ?_)
      refine ex_s (am_nb (m := 2) (pc1 := 118) (ls1 := [(8, .int ((q6 * r22) + t0)), (7, .int t0), (0, .ref 157), (2, .int q2), (3, .int q3), (5, .int q5), (6, .int q6)]) (st1 := [.int q2, .int q5]) (H1 := H26) (k1 := 0) (n1 := 0) (by with_unfolding_all rfl)) ?_
      refine ex_s (st_icmp rfl) ?_
      by_cases c31 : q5 = q2
      · have e := (if_pos c31).symm.trans e
        refine ex_pc (if_pos c31) ?_
        refine ex_s (am_nb (m := 1) (pc1 := 137) (ls1 := [(8, .int ((q6 * r22) + t0)), (7, .int t0), (0, .ref 157), (2, .int q2), (3, .int q3), (5, .int q5), (6, .int q6)]) (st1 := [.int ((q6 * r22) + t0)]) (H1 := H26) (k1 := 0) (n1 := 0) (by with_unfolding_all rfl)) ?_
        cases e
        exact ex_r (st_iret rfl rfl rfl) s27
      · have e := (if_neg c31).symm.trans e
        refine ex_pc (if_neg c31) ?_
        refine ex_s (am_nb (m := 7) (pc1 := 131) (ls1 := [(8, .int ((q6 * r22) + t0)), (7, .int t0), (0, .ref 157), (2, .int q2), (3, .int q3), (5, .int q5), (6, .int q6)]) (st1 := [.int 1, .int (q2 - q5), .int 17, .int 13, .ref 157]) (H1 := H26) (k1 := 0) (n1 := 0) (by with_unfolding_all rfl)) ?_
        obtain ⟨r35, a36, e34, e⟩ := xb2_some e
        refine ex_cv1 (as := [.int 13, .int 17, .int (q2 - q5), .int 1]) (rest := []) rfl rfl rfl rfl (s27.obj rfl (by decide)) rfl (by with_unfolding_all rfl) (by with_unfolding_all rfl) (tf344_eitherOf s27 e34) (fun H32 s33 => ?_)
        refine ex_s (am_nb (m := 2) (pc1 := 137) (ls1 := [(8, .int ((q6 * r22) + t0)), (7, .int t0), (0, .ref 157), (2, .int q2), (3, .int q3), (5, .int q5), (6, .int q6)]) (st1 := [.int ((q6 * r22) + t0)]) (H1 := H32) (k1 := 0) (n1 := 0) (by with_unfolding_all rfl)) ?_
        cases e
        exact ex_r (st_iret rfl rfl rfl) s33

set_option maxRecDepth 100000 in
theorem tf347_tabbed {sL : Nat} {sx : Nat → Int32} {h b N : Nat} {T : List am_C} {r : Int32} {a' : xA} {x0 : Int32} {x1 : Int32} {x2 : Int32} {a : xA} {H : am_H} (hS : xS h b T a H) (e : f347_tabbed N h b x0 x1 x2 a = some (r, a')) : am_E sL sx am_cs 347 0 [(0, .ref 157), (1, .int x0), (2, .int x1), (3, .int x2)] [] H (some (.int r)) (fun H1 => xS h b T a' H1) := by
  unfold f347_tabbed at e
  refine ex_s (am_nb (m := 2) (pc1 := 2) (ls1 := [(0, .ref 157), (1, .int x0), (2, .int x1), (3, .int x2)]) (st1 := [.int 5, .ref 157]) (H1 := H) (k1 := 0) (n1 := 0) (by with_unfolding_all rfl)) ?_
  obtain ⟨r4, a5, e3, e⟩ := xb2_some e
  refine ex_cv1 (as := [.int 5]) (rest := []) rfl rfl rfl rfl (hS.obj rfl (by decide)) rfl (by with_unfolding_all rfl) (by with_unfolding_all rfl) (tf348_numberOf hS e3) (fun H1 s2 => ?_)
  refine ex_s (am_nb (m := 3) (pc1 := 10) (ls1 := [(4, .int r4), (0, .ref 157), (1, .int x0), (2, .int x1), (3, .int x2)]) (st1 := [.int 21, .ref 157]) (H1 := H1) (k1 := 0) (n1 := 0) (by with_unfolding_all rfl)) ?_
  obtain ⟨r9, a10, e8, e⟩ := xb2_some e
  refine ex_cv1 (as := [.int 21]) (rest := []) rfl rfl rfl rfl (s2.obj rfl (by decide)) rfl (by with_unfolding_all rfl) (by with_unfolding_all rfl) (tf297_has s2 e8) (fun H6 s7 => ?_)
  refine ex_s (st_if rfl) ?_
  by_cases c13 : r9 = 0
  · have e := (if_pos c13).symm.trans e
    refine ex_pc (if_pos c13) ?_
    refine ex_s (am_nb (m := 1) (pc1 := 22) (ls1 := [(4, .int r4), (0, .ref 157), (1, .int x0), (2, .int x1), (3, .int x2)]) (st1 := [.int (-1)]) (H1 := H6) (k1 := 0) (n1 := 0) (by with_unfolding_all rfl)) ?_
    cases e
    exact ex_r (st_iret rfl rfl rfl) s7
  · have e := (if_neg c13).symm.trans e
    refine ex_pc (if_neg c13) ?_
    refine ex_s (am_nb (m := 1) (pc1 := 18) (ls1 := [(4, .int r4), (0, .ref 157), (1, .int x0), (2, .int x1), (3, .int x2)]) (st1 := [.int r4]) (H1 := H6) (k1 := 0) (n1 := 0) (by with_unfolding_all rfl)) ?_
    refine ex_s (st_if rfl) ?_
    by_cases c14 : r4 = 0
    · have e := (if_pos c14).symm.trans e
      refine ex_pc (if_pos c14) ?_
      refine ex_s (am_nb (m := 1) (pc1 := 22) (ls1 := [(4, .int r4), (0, .ref 157), (1, .int x0), (2, .int x1), (3, .int x2)]) (st1 := [.int (-1)]) (H1 := H6) (k1 := 0) (n1 := 0) (by with_unfolding_all rfl)) ?_
      cases e
      exact ex_r (st_iret rfl rfl rfl) s7
    · have e := (if_neg c14).symm.trans e
      refine ex_pc (if_neg c14) ?_
      refine ex_s (am_nb (m := 2) (pc1 := 26) (ls1 := [(4, .int r4), (0, .ref 157), (1, .int x0), (2, .int x1), (3, .int x2)]) (st1 := [.int r4, .int x1]) (H1 := H6) (k1 := 0) (n1 := 0) (by with_unfolding_all rfl)) ?_
      refine ex_s (st_idiv rfl c14) ?_
      refine ex_s (am_nb (m := 5) (pc1 := 35) (ls1 := [(5, .int ((x1 / r4) * r4)), (4, .int r4), (0, .ref 157), (1, .int x0), (2, .int x1), (3, .int x2)]) (st1 := [.int x0, .int ((x1 / r4) * r4)]) (H1 := H6) (k1 := 0) (n1 := 0) (by with_unfolding_all rfl)) ?_
      refine ex_s (st_icmp rfl) ?_
      by_cases c15 : x0 < ((x1 / r4) * r4)
      · have e := (if_pos c15).symm.trans e
        refine ex_pc (if_pos c15) ?_
        refine ex_s (am_nb (m := 2) (pc1 := 44) (ls1 := [(5, .int ((x1 / r4) * r4)), (4, .int r4), (0, .ref 157), (1, .int x0), (2, .int x1), (3, .int x2)]) (st1 := [.int r4, .int ((x1 / r4) * r4)]) (H1 := H6) (k1 := 0) (n1 := 0) (by with_unfolding_all rfl)) ?_
        refine ex_s (st_idiv rfl c14) ?_
        refine ex_s (am_nb (m := 2) (pc1 := 48) (ls1 := [(5, .int ((x1 / r4) * r4)), (4, .int r4), (0, .ref 157), (1, .int x0), (2, .int x1), (3, .int x2)]) (st1 := [.int r4, .int x0, .int (((x1 / r4) * r4) / r4)]) (H1 := H6) (k1 := 0) (n1 := 0) (by with_unfolding_all rfl)) ?_
        refine ex_s (st_idiv rfl c14) ?_
        refine ex_s (am_nb (m := 4) (pc1 := 55) (ls1 := [(6, .int ((((x1 / r4) * r4) / r4) - (x0 / r4))), (5, .int ((x1 / r4) * r4)), (4, .int r4), (0, .ref 157), (1, .int x0), (2, .int x1), (3, .int x2)]) (st1 := [.int x1, .int ((x1 / r4) * r4)]) (H1 := H6) (k1 := 0) (n1 := 0) (by with_unfolding_all rfl)) ?_
        refine ex_s (st_icmp rfl) ?_
        by_cases c17 : ((x1 / r4) * r4) = x1
        · have e := (if_pos c17).symm.trans e
          refine ex_pc (if_pos c17) ?_
          refine ex_s (am_nb (m := 2) (pc1 := 75) (ls1 := [(6, .int ((((x1 / r4) * r4) / r4) - (x0 / r4))), (5, .int ((x1 / r4) * r4)), (4, .int r4), (0, .ref 157), (1, .int x0), (2, .int x1), (3, .int x2)]) (st1 := [.int 0]) (H1 := H6) (k1 := 0) (n1 := 0) (by with_unfolding_all rfl)) ?_
          exact le_E (l1 := [(0, .ref 157), (2, .int x1), (3, .int x2), (5, .int ((x1 / r4) * r4)), (6, .int ((((x1 / r4) * r4) / r4) - (x0 / r4)))]) ⟨rfl, rfl, rfl, rfl, rfl, trivial⟩ rfl (tj347_75  s7 e)
        · have e := (if_neg c17).symm.trans e
          refine ex_pc (if_neg c17) ?_
          refine ex_s (am_nb (m := 7) (pc1 := 72) (ls1 := [(6, .int ((((x1 / r4) * r4) / r4) - (x0 / r4))), (5, .int ((x1 / r4) * r4)), (4, .int r4), (0, .ref 157), (1, .int x0), (2, .int x1), (3, .int x2)]) (st1 := [.int 0, .int (x1 - ((x1 / r4) * r4)), .int 17, .int 13, .ref 157]) (H1 := H6) (k1 := 0) (n1 := 0) (by with_unfolding_all rfl)) ?_
          obtain ⟨r40, a41, e39, e⟩ := xb2_some e
          refine ex_cv1 (as := [.int 13, .int 17, .int (x1 - ((x1 / r4) * r4)), .int 0]) (rest := []) rfl rfl rfl rfl (s7.obj rfl (by decide)) rfl (by with_unfolding_all rfl) (by with_unfolding_all rfl) (tf344_eitherOf s7 e39) (fun H37 s38 => ?_)
          exact le_E (l1 := [(0, .ref 157), (2, .int x1), (3, .int x2), (5, .int ((x1 / r4) * r4)), (6, .int ((((x1 / r4) * r4) / r4) - (x0 / r4)))]) ⟨rfl, rfl, rfl, rfl, rfl, trivial⟩ rfl (tj347_75  s38 e)
      · have e := (if_neg c15).symm.trans e
        refine ex_pc (if_neg c15) ?_
        refine ex_s (am_nb (m := 1) (pc1 := 39) (ls1 := [(5, .int ((x1 / r4) * r4)), (4, .int r4), (0, .ref 157), (1, .int x0), (2, .int x1), (3, .int x2)]) (st1 := [.int (-1)]) (H1 := H6) (k1 := 0) (n1 := 0) (by with_unfolding_all rfl)) ?_
        cases e
        exact ex_r (st_iret rfl rfl rfl) s7

set_option maxRecDepth 100000 in
theorem tl346_58 {sL : Nat} {sx : Nat → Int32} {h b N : Nat} {T : List am_C} {R : Option Value} {F : am_H → Prop} {w1 : Int32} {w2 : Int32} {w3 : Int32} {w4 : Int32} {w5 : Int32} {w6 : Int32} {w7 : Int32} {z : Nat × Int32 × xA} (k0 : z.1 = 0 → ∀ H2 : am_H, xS h b T z.2.2 H2 → am_E sL sx am_cs 346 104 [(0, .ref 157), (1, .int w1), (2, .int w2), (3, .int w3), (4, .int w4), (5, .int w5), (6, .int w6), (7, .int w7), (8, .int z.2.1)] [] H2 R F) : ∀ (n : Nat) (v8 : Int32) (v9 : Int32) (a : xA) (H : am_H), xS h b T a H → l346_58 N h b w1 w2 w3 w4 w5 w6 w7 n v8 v9 a = some z → am_E sL sx am_cs 346 58 [(0, .ref 157), (1, .int w1), (2, .int w2), (3, .int w3), (4, .int w4), (5, .int w5), (6, .int w6), (7, .int w7), (8, .int v8), (9, .int v9)] [] H R F := by
  intro n
  induction n with
  | zero =>
    intro v8 v9 a H hS e
    cases e
  | succ n ih =>
    intro v8 v9 a H hS e
    unfold l346_58 at e
    refine ex_s (am_nb (m := 2) (pc1 := 61) (ls1 := [(0, .ref 157), (1, .int w1), (2, .int w2), (3, .int w3), (4, .int w4), (5, .int w5), (6, .int w6), (7, .int w7), (8, .int v8), (9, .int v9)]) (st1 := [.int w2, .int v9]) (H1 := H) (k1 := 0) (n1 := 0) (by with_unfolding_all rfl)) ?_
    refine ex_s (st_icmp rfl) ?_
    by_cases c15 : w2 ≤ v9
    · have e := (if_pos c15).symm.trans e
      refine ex_pc (if_pos c15) ?_
      cases e
      exact le_E (l1 := [(0, .ref 157), (1, .int w1), (2, .int w2), (3, .int w3), (4, .int w4), (5, .int w5), (6, .int w6), (7, .int w7), (8, .int v8)]) ⟨rfl, rfl, rfl, rfl, rfl, rfl, rfl, rfl, rfl, trivial⟩ rfl (k0 rfl H hS)
    · have e := (if_neg c15).symm.trans e
      refine ex_pc (if_neg c15) ?_
      refine ex_s (am_nb (m := 1) (pc1 := 66) (ls1 := [(0, .ref 157), (1, .int w1), (2, .int w2), (3, .int w3), (4, .int w4), (5, .int w5), (6, .int w6), (7, .int w7), (8, .int v8), (9, .int v9)]) (st1 := [.int v8]) (H1 := H) (k1 := 0) (n1 := 0) (by with_unfolding_all rfl)) ?_
      refine ex_s (st_if rfl) ?_
      by_cases c16 : v8 = 0
      · have e := (if_pos c16).symm.trans e
        refine ex_pc (if_pos c16) ?_
        cases e
        exact le_E (l1 := [(0, .ref 157), (1, .int w1), (2, .int w2), (3, .int w3), (4, .int w4), (5, .int w5), (6, .int w6), (7, .int w7), (8, .int v8)]) ⟨rfl, rfl, rfl, rfl, rfl, rfl, rfl, rfl, rfl, trivial⟩ rfl (k0 rfl H hS)
      · have e := (if_neg c16).symm.trans e
        refine ex_pc (if_neg c16) ?_
        refine ex_s (am_nb (m := 1) (pc1 := 70) (ls1 := [(0, .ref 157), (1, .int w1), (2, .int w2), (3, .int w3), (4, .int w4), (5, .int w5), (6, .int w6), (7, .int w7), (8, .int v8), (9, .int v9)]) (st1 := [.ref 157]) (H1 := H) (k1 := 0) (n1 := 0) (by with_unfolding_all rfl)) ?_
        refine xe_get (v := .ref 183) hS rfl rfl (by decide) rfl ?_
        refine ex_s (am_nb (m := 5) (pc1 := 80) (ls1 := [(0, .ref 157), (1, .int w1), (2, .int w2), (3, .int w3), (4, .int w4), (5, .int w5), (6, .int w6), (7, .int w7), (8, .int v8), (9, .int v9)]) (st1 := [.int ((80 * w3) + v9), .ref 183]) (H1 := H) (k1 := 0) (n1 := 0) (by with_unfolding_all rfl)) ?_
        obtain ⟨g17, e⟩ := xg_some e
        refine xe_iald hS rfl rfl g17 ?_
        refine ex_s (am_nb (m := 3) (pc1 := 85) (ls1 := [(0, .ref 157), (1, .int w1), (2, .int w2), (3, .int w3), (4, .int w4), (5, .int w5), (6, .int w6), (7, .int w7), (8, .int v8), (9, .int v9)]) (st1 := [.ref 157, .int ((a 183 (((80 * w3) + v9).toNatClampNeg)) >>> ((8 : Int32) &&& 31))]) (H1 := H) (k1 := 0) (n1 := 0) (by with_unfolding_all rfl)) ?_
        refine xe_get (v := .int (a 157 53)) hS rfl rfl (by decide) rfl ?_
        have kk : am_E sL sx am_cs 346 96 [(0, .ref 157), (1, .int w1), (2, .int w2), (3, .int w3), (4, .int w4), (5, .int w5), (6, .int w6), (7, .int w7), (8, .int v8), (9, .int v9)] [.int (if ((a 183 (((80 * w3) + v9).toNatClampNeg)) >>> ((8 : Int32) &&& 31)) = (a 157 53) then (1 : Int32) else (0 : Int32))] H R F := by
          refine ex_s (am_nb (m := 3) (pc1 := 58) (ls1 := [(9, .int (v9 + 1)), (8, .int (if ((a 183 (((80 * w3) + v9).toNatClampNeg)) >>> ((8 : Int32) &&& 31)) = (a 157 53) then (1 : Int32) else (0 : Int32))), (0, .ref 157), (1, .int w1), (2, .int w2), (3, .int w3), (4, .int w4), (5, .int w5), (6, .int w6), (7, .int w7)]) (st1 := []) (H1 := H) (k1 := 0) (n1 := 0) (by with_unfolding_all rfl)) ?_
          exact le_E (l1 := [(0, .ref 157), (1, .int w1), (2, .int w2), (3, .int w3), (4, .int w4), (5, .int w5), (6, .int w6), (7, .int w7), (8, .int (if ((a 183 (((80 * w3) + v9).toNatClampNeg)) >>> ((8 : Int32) &&& 31)) = (a 157 53) then (1 : Int32) else (0 : Int32))), (9, .int (v9 + 1))]) ⟨rfl, rfl, rfl, rfl, rfl, rfl, rfl, rfl, rfl, rfl, trivial⟩ rfl (ih (if ((a 183 (((80 * w3) + v9).toNatClampNeg)) >>> ((8 : Int32) &&& 31)) = (a 157 53) then (1 : Int32) else (0 : Int32)) (v9 + 1) a H hS e)
        refine ex_s (st_icmp rfl) ?_
        by_cases c18 : ((a 183 (((80 * w3) + v9).toNatClampNeg)) >>> ((8 : Int32) &&& 31)) = (a 157 53)
        · refine ex_pc (if_pos c18) ?_
          refine ex_s (am_nb (m := 2) (pc1 := 96) (ls1 := [(0, .ref 157), (1, .int w1), (2, .int w2), (3, .int w3), (4, .int w4), (5, .int w5), (6, .int w6), (7, .int w7), (8, .int v8), (9, .int v9)]) (st1 := [.int 1]) (H1 := H) (k1 := 0) (n1 := 0) (by with_unfolding_all rfl)) ?_
          rw [if_pos c18] at kk
          exact kk
        · refine ex_pc (if_neg c18) ?_
          refine ex_s (am_nb (m := 1) (pc1 := 96) (ls1 := [(0, .ref 157), (1, .int w1), (2, .int w2), (3, .int w3), (4, .int w4), (5, .int w5), (6, .int w6), (7, .int w7), (8, .int v8), (9, .int v9)]) (st1 := [.int 0]) (H1 := H) (k1 := 0) (n1 := 0) (by with_unfolding_all rfl)) ?_
          rw [if_neg c18] at kk
          exact kk
