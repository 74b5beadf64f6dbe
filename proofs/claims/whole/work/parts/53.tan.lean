/-! The program does what the functions say. -/
set_option maxRecDepth 100000 in
theorem tl298_51 {sL : Nat} {sx : Nat → Int32} {h b N : Nat} {T : List am_C} {R : Option Value} {F : am_H → Prop} {z : Nat × xA} (k0 : z.1 = 0 → ∀ H2 : am_H, xS h b T z.2 H2 → am_E sL sx am_cs 298 80 [(0, .ref 157)] [] H2 R F) : ∀ (n : Nat) (v6 : Int32) (a : xA) (H : am_H), xS h b T a H → l298_51 N h b n v6 a = some z → am_E sL sx am_cs 298 51 [(0, .ref 157), (6, .int v6)] [] H R F := by
  intro n
  induction n with
  | zero =>
    intro v6 a H hS e
    cases e
  | succ n ih =>
    intro v6 a H hS e
    unfold l298_51 at e
    refine ex_s (am_nb (m := 2) (pc1 := 54) (ls1 := [(0, .ref 157), (6, .int v6)]) (st1 := [.ref 157, .int v6]) (H1 := H) (k1 := 0) (n1 := 0) (by with_unfolding_all rfl)) ?_
    refine xe_get (v := .int (a 157 23)) hS rfl rfl (by decide) rfl ?_
    refine ex_s (st_icmp rfl) ?_
    by_cases c24 : (a 157 23) ≤ v6
    · have e := (if_pos c24).symm.trans e
      refine ex_pc (if_pos c24) ?_
      cases e
      exact le_E (l1 := [(0, .ref 157)]) ⟨rfl, trivial⟩ rfl (k0 rfl H hS)
    · have e := (if_neg c24).symm.trans e
      refine ex_pc (if_neg c24) ?_
      refine ex_s (am_nb (m := 1) (pc1 := 61) (ls1 := [(0, .ref 157), (6, .int v6)]) (st1 := [.ref 157]) (H1 := H) (k1 := 0) (n1 := 0) (by with_unfolding_all rfl)) ?_
      refine xe_get (v := .ref 159) hS rfl rfl (by decide) rfl ?_
      refine ex_s (am_nb (m := 2) (pc1 := 67) (ls1 := [(0, .ref 157), (6, .int v6)]) (st1 := [.ref 157, .int v6, .ref 159]) (H1 := H) (k1 := 0) (n1 := 0) (by with_unfolding_all rfl)) ?_
      refine xe_get (v := .ref 168) hS rfl rfl (by decide) rfl ?_
      refine ex_s (am_nb (m := 1) (pc1 := 72) (ls1 := [(0, .ref 157), (6, .int v6)]) (st1 := [.int v6, .ref 168, .int v6, .ref 159]) (H1 := H) (k1 := 0) (n1 := 0) (by with_unfolding_all rfl)) ?_
      obtain ⟨g25, e⟩ := xg_some e
      refine xe_bald hS rfl rfl g25 ?_
      obtain ⟨g29, e⟩ := xg_some e
      obtain ⟨a26, ha26, e⟩ := xw_some e
      refine xe_bast hS rfl rfl g29 (fun H27 s28 => ?_)
      have s28 : xS h b T a26 H27 := by rw [ha26]; exact s28
      refine ex_s (am_nb (m := 2) (pc1 := 51) (ls1 := [(6, .int (v6 + 1)), (0, .ref 157)]) (st1 := []) (H1 := H27) (k1 := 0) (n1 := 0) (by with_unfolding_all rfl)) ?_
      exact le_E (l1 := [(0, .ref 157), (6, .int (v6 + 1))]) ⟨rfl, rfl, trivial⟩ rfl (ih (v6 + 1) a26 H27 s28 e)

set_option maxRecDepth 100000 in
theorem tf298_expand {sL : Nat} {sx : Nat → Int32} {h b N : Nat} {T : List am_C} {r : Int32} {a' : xA} {x0 : Int32} {x1 : Int32} {x2 : Int32} {x3 : Int32} {a : xA} {H : am_H} (hS : xS h b T a H) (e : f298_expand N h b x0 x1 x2 x3 a = some (r, a')) : am_E sL sx am_cs 298 0 [(0, .ref 157), (1, .int x0), (2, .int x1), (3, .int x2), (4, .int x3)] [] H (some (.int r)) (fun H1 => xS h b T a' H1) := by
  unfold f298_expand at e
  refine ex_s (am_nb (m := 2) (pc1 := 2) (ls1 := [(0, .ref 157), (1, .int x0), (2, .int x1), (3, .int x2), (4, .int x3)]) (st1 := [.int 0, .ref 157]) (H1 := H) (k1 := 0) (n1 := 0) (by with_unfolding_all rfl)) ?_
  obtain ⟨a1, ha1, e⟩ := xw_some e
  refine xe_put (w := 0) hS rfl rfl (by decide) rfl rfl rfl rfl (fun H2 s3 => ?_)
  have s3 : xS h b T a1 H2 := by rw [ha1]; exact s3
  refine ex_s (am_nb (m := 1) (pc1 := 6) (ls1 := [(0, .ref 157), (1, .int x0), (2, .int x1), (3, .int x2), (4, .int x3)]) (st1 := [.ref 157]) (H1 := H2) (k1 := 0) (n1 := 0) (by with_unfolding_all rfl)) ?_
  obtain ⟨r7, a8, e6, e⟩ := xb2_some e
  refine ex_cv1 (as := []) (rest := []) rfl rfl rfl rfl (s3.obj rfl (by decide)) rfl (by with_unfolding_all rfl) (by with_unfolding_all rfl) (tf296_asked s3 e6) (fun H4 s5 => ?_)
  refine ex_s (am_nb (m := 3) (pc1 := 15) (ls1 := [(5, .int r7), (0, .ref 157), (1, .int x0), (2, .int x1), (3, .int x2), (4, .int x3)]) (st1 := [.int 6, .int r7]) (H1 := H4) (k1 := 0) (n1 := 0) (by with_unfolding_all rfl)) ?_
  refine ex_s (st_icmp rfl) ?_
  by_cases c10 : r7 < 6
  · have e := (if_pos c10).symm.trans e
    refine ex_pc (if_pos c10) ?_
    refine ex_s (am_nb (m := 1) (pc1 := 28) (ls1 := [(5, .int r7), (0, .ref 157), (1, .int x0), (2, .int x1), (3, .int x2), (4, .int x3)]) (st1 := [.int (-1)]) (H1 := H4) (k1 := 0) (n1 := 0) (by with_unfolding_all rfl)) ?_
    cases e
    exact ex_r (st_iret rfl rfl rfl) s5
  · have e := (if_neg c10).symm.trans e
    refine ex_pc (if_neg c10) ?_
    refine ex_s (am_nb (m := 2) (pc1 := 21) (ls1 := [(5, .int r7), (0, .ref 157), (1, .int x0), (2, .int x1), (3, .int x2), (4, .int x3)]) (st1 := [.int r7, .ref 157]) (H1 := H4) (k1 := 0) (n1 := 0) (by with_unfolding_all rfl)) ?_
    obtain ⟨r14, a15, e13, e⟩ := xb2_some e
    refine ex_cv1 (as := [.int r7]) (rest := []) rfl rfl rfl rfl (s5.obj rfl (by decide)) rfl (by with_unfolding_all rfl) (by with_unfolding_all rfl) (tf297_has s5 e13) (fun H11 s12 => ?_)
    refine ex_s (st_if rfl) ?_
    by_cases c16 : r14 = 0
    · have e := (if_pos c16).symm.trans e
      refine ex_pc (if_pos c16) ?_
      refine ex_s (am_nb (m := 1) (pc1 := 28) (ls1 := [(5, .int r7), (0, .ref 157), (1, .int x0), (2, .int x1), (3, .int x2), (4, .int x3)]) (st1 := [.int (-1)]) (H1 := H11) (k1 := 0) (n1 := 0) (by with_unfolding_all rfl)) ?_
      cases e
      exact ex_r (st_iret rfl rfl rfl) s12
    · have e := (if_neg c16).symm.trans e
      refine ex_pc (if_neg c16) ?_
      refine ex_s (am_nb (m := 6) (pc1 := 37) (ls1 := [(5, .int r7), (0, .ref 157), (1, .int x0), (2, .int x1), (3, .int x2), (4, .int x3)]) (st1 := [.int x3, .int x2, .int x1, .int x0, .int r7, .ref 157]) (H1 := H11) (k1 := 0) (n1 := 0) (by with_unfolding_all rfl)) ?_
      obtain ⟨a20, e19, e⟩ := xb1_some e
      refine ex_cv0 (as := [.int r7, .int x0, .int x1, .int x2, .int x3]) (rest := []) rfl rfl rfl rfl (s12.obj rfl (by decide)) rfl (by with_unfolding_all rfl) (by with_unfolding_all rfl) (tf299_puts s12 e19) (fun H17 s18 => ?_)
      refine ex_s (am_nb (m := 2) (pc1 := 42) (ls1 := [(5, .int r7), (0, .ref 157), (1, .int x0), (2, .int x1), (3, .int x2), (4, .int x3)]) (st1 := [.ref 157, .ref 157]) (H1 := H17) (k1 := 0) (n1 := 0) (by with_unfolding_all rfl)) ?_
      refine xe_get (v := .int (a20 157 23)) s18 rfl rfl (by decide) rfl ?_
      obtain ⟨a21, ha21, e⟩ := xw_some e
      refine xe_put (w := (a20 157 23)) s18 rfl rfl (by decide) rfl rfl rfl rfl (fun H22 s23 => ?_)
      have s23 : xS h b T a21 H22 := by rw [ha21]; exact s23
      refine ex_s (am_nb (m := 2) (pc1 := 51) (ls1 := [(6, .int 0), (5, .int r7), (0, .ref 157), (1, .int x0), (2, .int x1), (3, .int x2), (4, .int x3)]) (st1 := []) (H1 := H22) (k1 := 0) (n1 := 0) (by with_unfolding_all rfl)) ?_
      obtain ⟨z30, e31, e⟩ := Option.bind_eq_some_iff.mp e
      refine le_E (l1 := [(0, .ref 157), (6, .int 0)]) ⟨rfl, rfl, trivial⟩ rfl (tl298_51 (z := z30)  (fun uz30_0 Hz300 sz300 => ?_) N 0 a21 H22 s23 e31)
      refine ex_s (am_nb (m := 1) (pc1 := 81) (ls1 := [(0, .ref 157)]) (st1 := [.ref 157]) (H1 := Hz300) (k1 := 0) (n1 := 0) (by with_unfolding_all rfl)) ?_
      refine xe_get (v := .int (z30.2 157 4)) sz300 rfl rfl (by decide) rfl ?_
      cases e
      exact ex_r (st_iret rfl rfl rfl) sz300

set_option maxRecDepth 100000 in
theorem tl306_8 {sL : Nat} {sx : Nat → Int32} {h b N : Nat} {T : List am_C} {R : Option Value} {F : am_H → Prop} {w1 : Int32} {w2 : Int32} {w3 : Int32} {w4 : Int32} {z : Nat × Int32 × xA} (k0 : z.1 = 0 → ∀ H2 : am_H, xS h b T z.2.2 H2 → am_E sL sx am_cs 306 31 [(0, .ref 157), (1, .int w1), (2, .int w2), (3, .int w3), (4, .int w4), (5, .int z.2.1)] [] H2 R F) : ∀ (n : Nat) (v5 : Int32) (a : xA) (H : am_H), xS h b T a H → l306_8 N h b w1 w2 w3 w4 n v5 a = some z → am_E sL sx am_cs 306 8 [(0, .ref 157), (1, .int w1), (2, .int w2), (3, .int w3), (4, .int w4), (5, .int v5)] [] H R F := by
  intro n
  induction n with
  | zero =>
    intro v5 a H hS e
    cases e
  | succ n ih =>
    intro v5 a H hS e
    unfold l306_8 at e
    refine ex_s (am_nb (m := 2) (pc1 := 12) (ls1 := [(0, .ref 157), (1, .int w1), (2, .int w2), (3, .int w3), (4, .int w4), (5, .int v5)]) (st1 := [.int 8, .int v5]) (H1 := H) (k1 := 0) (n1 := 0) (by with_unfolding_all rfl)) ?_
    refine ex_s (st_icmp rfl) ?_
    by_cases c5 : 8 ≤ v5
    · have e := (if_pos c5).symm.trans e
      refine ex_pc (if_pos c5) ?_
      cases e
      exact le_E (l1 := [(0, .ref 157), (1, .int w1), (2, .int w2), (3, .int w3), (4, .int w4), (5, .int v5)]) ⟨rfl, rfl, rfl, rfl, rfl, rfl, trivial⟩ rfl (k0 rfl H hS)
    · have e := (if_neg c5).symm.trans e
      refine ex_pc (if_neg c5) ?_
      refine ex_s (am_nb (m := 1) (pc1 := 16) (ls1 := [(0, .ref 157), (1, .int w1), (2, .int w2), (3, .int w3), (4, .int w4), (5, .int v5)]) (st1 := [.ref 157]) (H1 := H) (k1 := 0) (n1 := 0) (by with_unfolding_all rfl)) ?_
      refine xe_get (v := .ref 172) hS rfl rfl (by decide) rfl ?_
      refine ex_s (am_nb (m := 1) (pc1 := 21) (ls1 := [(0, .ref 157), (1, .int w1), (2, .int w2), (3, .int w3), (4, .int w4), (5, .int v5)]) (st1 := [.int v5, .ref 172]) (H1 := H) (k1 := 0) (n1 := 0) (by with_unfolding_all rfl)) ?_
      obtain ⟨g6, e⟩ := xg_some e
      refine xe_zald hS rfl rfl g6 ?_
      refine ex_s (st_if rfl) ?_
      by_cases c7 : (a 172 (v5.toNatClampNeg)) = 0
      · have e := (if_pos c7).symm.trans e
        refine ex_pc (if_pos c7) ?_
        cases e
        exact le_E (l1 := [(0, .ref 157), (1, .int w1), (2, .int w2), (3, .int w3), (4, .int w4), (5, .int v5)]) ⟨rfl, rfl, rfl, rfl, rfl, rfl, trivial⟩ rfl (k0 rfl H hS)
      · have e := (if_neg c7).symm.trans e
        refine ex_pc (if_neg c7) ?_
        refine ex_s (am_nb (m := 2) (pc1 := 8) (ls1 := [(5, .int (v5 + 1)), (0, .ref 157), (1, .int w1), (2, .int w2), (3, .int w3), (4, .int w4)]) (st1 := []) (H1 := H) (k1 := 0) (n1 := 0) (by with_unfolding_all rfl)) ?_
        exact le_E (l1 := [(0, .ref 157), (1, .int w1), (2, .int w2), (3, .int w3), (4, .int w4), (5, .int (v5 + 1))]) ⟨rfl, rfl, rfl, rfl, rfl, rfl, trivial⟩ rfl (ih (v5 + 1) a H hS e)

set_option maxRecDepth 100000 in
theorem tl306_193 {sL : Nat} {sx : Nat → Int32} {h b N : Nat} {T : List am_C} {R : Option Value} {F : am_H → Prop} {w5 : Int32} {z : Nat × xA} (k0 : z.1 = 0 → ∀ H2 : am_H, xS h b T z.2 H2 → am_E sL sx am_cs 306 223 [(5, .int w5)] [] H2 R F) : ∀ (n : Nat) (v7 : Int32) (a : xA) (H : am_H), xS h b T a H → l306_193 N h b w5 n v7 a = some z → am_E sL sx am_cs 306 193 [(0, .ref 157), (5, .int w5), (7, .int v7)] [] H R F := by
  intro n
  induction n with
  | zero =>
    intro v7 a H hS e
    cases e
  | succ n ih =>
    intro v7 a H hS e
    unfold l306_193 at e
    refine ex_s (am_nb (m := 2) (pc1 := 198) (ls1 := [(0, .ref 157), (5, .int w5), (7, .int v7)]) (st1 := [.int 1920, .int v7]) (H1 := H) (k1 := 0) (n1 := 0) (by with_unfolding_all rfl)) ?_
    refine ex_s (st_icmp rfl) ?_
    by_cases c40 : 1920 ≤ v7
    · have e := (if_pos c40).symm.trans e
      refine ex_pc (if_pos c40) ?_
      cases e
      exact le_E (l1 := [(5, .int w5)]) ⟨rfl, trivial⟩ rfl (k0 rfl H hS)
    · have e := (if_neg c40).symm.trans e
      refine ex_pc (if_neg c40) ?_
      refine ex_s (am_nb (m := 1) (pc1 := 202) (ls1 := [(0, .ref 157), (5, .int w5), (7, .int v7)]) (st1 := [.ref 157]) (H1 := H) (k1 := 0) (n1 := 0) (by with_unfolding_all rfl)) ?_
      refine xe_get (v := .ref 181) hS rfl rfl (by decide) rfl ?_
      refine ex_s (am_nb (m := 6) (pc1 := 216) (ls1 := [(0, .ref 157), (5, .int w5), (7, .int v7)]) (st1 := [.int 32, .int ((1920 * w5) + v7), .ref 181]) (H1 := H) (k1 := 0) (n1 := 0) (by with_unfolding_all rfl)) ?_
      obtain ⟨g44, e⟩ := xg_some e
      obtain ⟨a41, ha41, e⟩ := xw_some e
      refine xe_iast hS rfl rfl g44 (fun H42 s43 => ?_)
      have s43 : xS h b T a41 H42 := by rw [ha41]; exact s43
      refine ex_s (am_nb (m := 2) (pc1 := 193) (ls1 := [(7, .int (v7 + 1)), (0, .ref 157), (5, .int w5)]) (st1 := []) (H1 := H42) (k1 := 0) (n1 := 0) (by with_unfolding_all rfl)) ?_
      exact le_E (l1 := [(0, .ref 157), (5, .int w5), (7, .int (v7 + 1))]) ⟨rfl, rfl, rfl, trivial⟩ rfl (ih (v7 + 1) a41 H42 s43 e)

set_option maxRecDepth 100000 in
theorem tj306_108 {sL : Nat} {sx : Nat → Int32} {h b N : Nat} {T : List am_C} {r : Int32} {a' : xA} {q1 : Int32} {q2 : Int32} {q3 : Int32} {q4 : Int32} {q5 : Int32} {t0 : Int32} {a : xA} {H : am_H} (hS : xS h b T a H) (e : j306_108 N h b q1 q2 q3 q4 q5 t0 a = some (r, a')) : am_E sL sx am_cs 306 108 [(0, .ref 157), (1, .int q1), (2, .int q2), (3, .int q3), (4, .int q4), (5, .int q5)] [.int t0] H (some (.int r)) (fun H1 => xS h b T a' H1) := by
  unfold j306_108 at e
  refine ex_s (am_nb (m := 2) (pc1 := 112) (ls1 := [(6, .int t0), (0, .ref 157), (1, .int q1), (2, .int q2), (3, .int q3), (4, .int q4), (5, .int q5)]) (st1 := [.int t0]) (H1 := H) (k1 := 0) (n1 := 0) (by with_unfolding_all rfl)) ?_
  refine ex_s (st_if rfl) ?_
  by_cases c11 : t0 = 0
  · have e := (if_pos c11).symm.trans e
    refine ex_pc (if_pos c11) ?_
    refine ex_s (am_nb (m := 1) (pc1 := 116) (ls1 := [(6, .int t0), (0, .ref 157), (1, .int q1), (2, .int q2), (3, .int q3), (4, .int q4), (5, .int q5)]) (st1 := [.int (-1)]) (H1 := H) (k1 := 0) (n1 := 0) (by with_unfolding_all rfl)) ?_
    cases e
    exact ex_r (st_iret rfl rfl rfl) hS
  · have e := (if_neg c11).symm.trans e
    refine ex_pc (if_neg c11) ?_
    refine ex_s (am_nb (m := 1) (pc1 := 118) (ls1 := [(6, .int t0), (0, .ref 157), (1, .int q1), (2, .int q2), (3, .int q3), (4, .int q4), (5, .int q5)]) (st1 := [.ref 157]) (H1 := H) (k1 := 0) (n1 := 0) (by with_unfolding_all rfl)) ?_
    refine xe_get (v := .ref 172) hS rfl rfl (by decide) rfl ?_
    refine ex_s (am_nb (m := 2) (pc1 := 124) (ls1 := [(6, .int t0), (0, .ref 157), (1, .int q1), (2, .int q2), (3, .int q3), (4, .int q4), (5, .int q5)]) (st1 := [.int 1, .int q5, .ref 172]) (H1 := H) (k1 := 0) (n1 := 0) (by with_unfolding_all rfl)) ?_
    obtain ⟨g15, e⟩ := xg_some e
    obtain ⟨a12, ha12, e⟩ := xw_some e
    refine xe_zast hS rfl rfl g15 (fun H13 s14 => ?_)
    have s14 : xS h b T a12 H13 := by rw [ha12]; exact s14
    refine ex_s (am_nb (m := 1) (pc1 := 126) (ls1 := [(6, .int t0), (0, .ref 157), (1, .int q1), (2, .int q2), (3, .int q3), (4, .int q4), (5, .int q5)]) (st1 := [.ref 157]) (H1 := H13) (k1 := 0) (n1 := 0) (by with_unfolding_all rfl)) ?_
    refine xe_get (v := .ref 173) s14 rfl rfl (by decide) rfl ?_
    refine ex_s (am_nb (m := 2) (pc1 := 132) (ls1 := [(6, .int t0), (0, .ref 157), (1, .int q1), (2, .int q2), (3, .int q3), (4, .int q4), (5, .int q5)]) (st1 := [.int q1, .int q5, .ref 173]) (H1 := H13) (k1 := 0) (n1 := 0) (by with_unfolding_all rfl)) ?_
    obtain ⟨a16, ha16, e⟩ := xw_some e
    refine xe_iast s14 rfl rfl g15 (fun H17 s18 => ?_)
    have s18 : xS h b T a16 H17 := by rw [ha16]; exact s18
    refine ex_s (am_nb (m := 1) (pc1 := 134) (ls1 := [(6, .int t0), (0, .ref 157), (1, .int q1), (2, .int q2), (3, .int q3), (4, .int q4), (5, .int q5)]) (st1 := [.ref 157]) (H1 := H17) (k1 := 0) (n1 := 0) (by with_unfolding_all rfl)) ?_
    refine xe_get (v := .ref 174) s18 rfl rfl (by decide) rfl ?_
    refine ex_s (am_nb (m := 2) (pc1 := 140) (ls1 := [(6, .int t0), (0, .ref 157), (1, .int q1), (2, .int q2), (3, .int q3), (4, .int q4), (5, .int q5)]) (st1 := [.int q2, .int q5, .ref 174]) (H1 := H17) (k1 := 0) (n1 := 0) (by with_unfolding_all rfl)) ?_
    obtain ⟨a19, ha19, e⟩ := xw_some e
    refine xe_iast s18 rfl rfl g15 (fun H20 s21 => ?_)
    have s21 : xS h b T a19 H20 := by rw [ha19]; exact s21
    refine ex_s (am_nb (m := 1) (pc1 := 142) (ls1 := [(6, .int t0), (0, .ref 157), (1, .int q1), (2, .int q2), (3, .int q3), (4, .int q4), (5, .int q5)]) (st1 := [.ref 157]) (H1 := H20) (k1 := 0) (n1 := 0) (by with_unfolding_all rfl)) ?_
    refine xe_get (v := .ref 175) s21 rfl rfl (by decide) rfl ?_
    refine ex_s (am_nb (m := 2) (pc1 := 148) (ls1 := [(6, .int t0), (0, .ref 157), (1, .int q1), (2, .int q2), (3, .int q3), (4, .int q4), (5, .int q5)]) (st1 := [.int q3, .int q5, .ref 175]) (H1 := H20) (k1 := 0) (n1 := 0) (by with_unfolding_all rfl)) ?_
    obtain ⟨a22, ha22, e⟩ := xw_some e
    refine xe_iast s21 rfl rfl g15 (fun H23 s24 => ?_)
    have s24 : xS h b T a22 H23 := by rw [ha22]; exact s24
    refine ex_s (am_nb (m := 1) (pc1 := 150) (ls1 := [(6, .int t0), (0, .ref 157), (1, .int q1), (2, .int q2), (3, .int q3), (4, .int q4), (5, .int q5)]) (st1 := [.ref 157]) (H1 := H23) (k1 := 0) (n1 := 0) (by with_unfolding_all rfl)) ?_
    refine xe_get (v := .ref 176) s24 rfl rfl (by decide) rfl ?_
    refine ex_s (am_nb (m := 2) (pc1 := 157) (ls1 := [(6, .int t0), (0, .ref 157), (1, .int q1), (2, .int q2), (3, .int q3), (4, .int q4), (5, .int q5)]) (st1 := [.int q4, .int q5, .ref 176]) (H1 := H23) (k1 := 0) (n1 := 0) (by with_unfolding_all rfl)) ?_
    obtain ⟨a25, ha25, e⟩ := xw_some e
    refine xe_iast s24 rfl rfl g15 (fun H26 s27 => ?_)
    have s27 : xS h b T a25 H26 := by rw [ha25]; exact s27
    refine ex_s (am_nb (m := 1) (pc1 := 159) (ls1 := [(6, .int t0), (0, .ref 157), (1, .int q1), (2, .int q2), (3, .int q3), (4, .int q4), (5, .int q5)]) (st1 := [.ref 157]) (H1 := H26) (k1 := 0) (n1 := 0) (by with_unfolding_all rfl)) ?_
    refine xe_get (v := .ref 177) s27 rfl rfl (by decide) rfl ?_
    refine ex_s (am_nb (m := 2) (pc1 := 165) (ls1 := [(6, .int t0), (0, .ref 157), (1, .int q1), (2, .int q2), (3, .int q3), (4, .int q4), (5, .int q5)]) (st1 := [.int 0, .int q5, .ref 177]) (H1 := H26) (k1 := 0) (n1 := 0) (by with_unfolding_all rfl)) ?_
    obtain ⟨a28, ha28, e⟩ := xw_some e
    refine xe_iast s27 rfl rfl g15 (fun H29 s30 => ?_)
    have s30 : xS h b T a28 H29 := by rw [ha28]; exact s30
    refine ex_s (am_nb (m := 1) (pc1 := 167) (ls1 := [(6, .int t0), (0, .ref 157), (1, .int q1), (2, .int q2), (3, .int q3), (4, .int q4), (5, .int q5)]) (st1 := [.ref 157]) (H1 := H29) (k1 := 0) (n1 := 0) (by with_unfolding_all rfl)) ?_
    refine xe_get (v := .ref 178) s30 rfl rfl (by decide) rfl ?_
    refine ex_s (am_nb (m := 2) (pc1 := 173) (ls1 := [(6, .int t0), (0, .ref 157), (1, .int q1), (2, .int q2), (3, .int q3), (4, .int q4), (5, .int q5)]) (st1 := [.int 0, .int q5, .ref 178]) (H1 := H29) (k1 := 0) (n1 := 0) (by with_unfolding_all rfl)) ?_
    obtain ⟨a31, ha31, e⟩ := xw_some e
    refine xe_iast s30 rfl rfl g15 (fun H32 s33 => ?_)
    have s33 : xS h b T a31 H32 := by rw [ha31]; exact s33
    refine ex_s (am_nb (m := 1) (pc1 := 175) (ls1 := [(6, .int t0), (0, .ref 157), (1, .int q1), (2, .int q2), (3, .int q3), (4, .int q4), (5, .int q5)]) (st1 := [.ref 157]) (H1 := H32) (k1 := 0) (n1 := 0) (by with_unfolding_all rfl)) ?_
    refine xe_get (v := .ref 179) s33 rfl rfl (by decide) rfl ?_
    refine ex_s (am_nb (m := 2) (pc1 := 181) (ls1 := [(6, .int t0), (0, .ref 157), (1, .int q1), (2, .int q2), (3, .int q3), (4, .int q4), (5, .int q5)]) (st1 := [.int 0, .int q5, .ref 179]) (H1 := H32) (k1 := 0) (n1 := 0) (by with_unfolding_all rfl)) ?_
    obtain ⟨a34, ha34, e⟩ := xw_some e
    refine xe_iast s33 rfl rfl g15 (fun H35 s36 => ?_)
    have s36 : xS h b T a34 H35 := by rw [ha34]; exact s36
    refine ex_s (am_nb (m := 1) (pc1 := 183) (ls1 := [(6, .int t0), (0, .ref 157), (1, .int q1), (2, .int q2), (3, .int q3), (4, .int q4), (5, .int q5)]) (st1 := [.ref 157]) (H1 := H35) (k1 := 0) (n1 := 0) (by with_unfolding_all rfl)) ?_
    refine xe_get (v := .ref 180) s36 rfl rfl (by decide) rfl ?_
    refine ex_s (am_nb (m := 2) (pc1 := 189) (ls1 := [(6, .int t0), (0, .ref 157), (1, .int q1), (2, .int q2), (3, .int q3), (4, .int q4), (5, .int q5)]) (st1 := [.int 0, .int q5, .ref 180]) (H1 := H35) (k1 := 0) (n1 := 0) (by with_unfolding_all rfl)) ?_
    obtain ⟨a37, ha37, e⟩ := xw_some e
    refine xe_zast s36 rfl rfl g15 (fun H38 s39 => ?_)
    have s39 : xS h b T a37 H38 := by rw [ha37]; exact s39
    refine ex_s (am_nb (m := 2) (pc1 := 193) (ls1 := [(7, .int 0), (6, .int t0), (0, .ref 157), (1, .int q1), (2, .int q2), (3, .int q3), (4, .int q4), (5, .int q5)]) (st1 := []) (H1 := H38) (k1 := 0) (n1 := 0) (by with_unfolding_all rfl)) ?_
    obtain ⟨z45, e46, e⟩ := Option.bind_eq_some_iff.mp e
    refine le_E (l1 := [(0, .ref 157), (5, .int q5), (7, .int 0)]) ⟨rfl, rfl, rfl, trivial⟩ rfl (tl306_193 (z := z45)  (fun uz45_0 Hz450 sz450 => ?_) N 0 a37 H38 s39 e46)
    refine ex_s (am_nb (m := 1) (pc1 := 225) (ls1 := [(5, .int q5)]) (st1 := [.int q5]) (H1 := Hz450) (k1 := 0) (n1 := 0) (by with_unfolding_all rfl)) ?_
    cases e
    exact ex_r (st_iret rfl rfl rfl) sz450

set_option maxRecDepth 100000 in
theorem tj306_107 {sL : Nat} {sx : Nat → Int32} {h b N : Nat} {T : List am_C} {r : Int32} {a' : xA} {q1 : Int32} {q2 : Int32} {q3 : Int32} {q4 : Int32} {q5 : Int32} {a : xA} {H : am_H} (hS : xS h b T a H) (e : j306_107 N h b q1 q2 q3 q4 q5 a = some (r, a')) : am_E sL sx am_cs 306 107 [(0, .ref 157), (1, .int q1), (2, .int q2), (3, .int q3), (4, .int q4), (5, .int q5)] [] H (some (.int r)) (fun H1 => xS h b T a' H1) := by
  unfold j306_107 at e
  refine ex_s (am_nb (m := 1) (pc1 := 108) (ls1 := [(0, .ref 157), (1, .int q1), (2, .int q2), (3, .int q3), (4, .int q4), (5, .int q5)]) (st1 := [.int 0]) (H1 := H) (k1 := 0) (n1 := 0) (by with_unfolding_all rfl)) ?_
  exact le_E (l1 := [(0, .ref 157), (1, .int q1), (2, .int q2), (3, .int q3), (4, .int q4), (5, .int q5)]) ⟨rfl, rfl, rfl, rfl, rfl, rfl, trivial⟩ rfl (tj306_108  hS e)

set_option maxRecDepth 100000 in
theorem tj306_31 {sL : Nat} {sx : Nat → Int32} {h b N : Nat} {T : List am_C} {r : Int32} {a' : xA} {q1 : Int32} {q2 : Int32} {q3 : Int32} {q4 : Int32} {q5 : Int32} {a : xA} {H : am_H} (hS : xS h b T a H) (e : j306_31 N h b q1 q2 q3 q4 q5 a = some (r, a')) : am_E sL sx am_cs 306 31 [(0, .ref 157), (1, .int q1), (2, .int q2), (3, .int q3), (4, .int q4), (5, .int q5)] [] H (some (.int r)) (fun H1 => xS h b T a' H1) := by
  unfold j306_31 at e
  refine ex_s (am_nb (m := 1) (pc1 := 32) (ls1 := [(0, .ref 157), (1, .int q1), (2, .int q2), (3, .int q3), (4, .int q4), (5, .int q5)]) (st1 := [.ref 157]) (H1 := H) (k1 := 0) (n1 := 0) (by with_unfolding_all rfl)) ?_
  refine xe_get (v := .int (a 157 21)) hS rfl rfl (by decide) rfl ?_
  refine ex_s (am_nb (m := 1) (pc1 := 36) (ls1 := [(0, .ref 157), (1, .int q1), (2, .int q2), (3, .int q3), (4, .int q4), (5, .int q5)]) (st1 := [.int (-1), .int (a 157 21)]) (H1 := H) (k1 := 0) (n1 := 0) (by with_unfolding_all rfl)) ?_
  refine ex_s (st_icmp rfl) ?_
  by_cases c10 : (a 157 21) = (-1)
  · have e := (if_pos c10).symm.trans e
    refine ex_pc (if_pos c10) ?_
    exact le_E (l1 := [(0, .ref 157), (1, .int q1), (2, .int q2), (3, .int q3), (4, .int q4), (5, .int q5)]) ⟨rfl, rfl, rfl, rfl, rfl, rfl, trivial⟩ rfl (tj306_107  hS e)
  · have e := (if_neg c10).symm.trans e
    refine ex_pc (if_neg c10) ?_
    refine ex_s (am_nb (m := 2) (pc1 := 43) (ls1 := [(0, .ref 157), (1, .int q1), (2, .int q2), (3, .int q3), (4, .int q4), (5, .int q5)]) (st1 := [.int 8, .int q5]) (H1 := H) (k1 := 0) (n1 := 0) (by with_unfolding_all rfl)) ?_
    refine ex_s (st_icmp rfl) ?_
    by_cases c47 : 8 ≤ q5
    · have e := (if_pos c47).symm.trans e
      refine ex_pc (if_pos c47) ?_
      exact le_E (l1 := [(0, .ref 157), (1, .int q1), (2, .int q2), (3, .int q3), (4, .int q4), (5, .int q5)]) ⟨rfl, rfl, rfl, rfl, rfl, rfl, trivial⟩ rfl (tj306_107  hS e)
    · have e := (if_neg c47).symm.trans e
      refine ex_pc (if_neg c47) ?_
      refine ex_s (am_nb (m := 2) (pc1 := 48) (ls1 := [(0, .ref 157), (1, .int q1), (2, .int q2), (3, .int q3), (4, .int q4), (5, .int q5)]) (st1 := [.int 1, .int q3]) (H1 := H) (k1 := 0) (n1 := 0) (by with_unfolding_all rfl)) ?_
      refine ex_s (st_icmp rfl) ?_
      by_cases c56 : q3 < 1
      · have e := (if_pos c56).symm.trans e
        refine ex_pc (if_pos c56) ?_
        exact le_E (l1 := [(0, .ref 157), (1, .int q1), (2, .int q2), (3, .int q3), (4, .int q4), (5, .int q5)]) ⟨rfl, rfl, rfl, rfl, rfl, rfl, trivial⟩ rfl (tj306_107  hS e)
      · have e := (if_neg c56).symm.trans e
        refine ex_pc (if_neg c56) ?_
        refine ex_s (am_nb (m := 2) (pc1 := 54) (ls1 := [(0, .ref 157), (1, .int q1), (2, .int q2), (3, .int q3), (4, .int q4), (5, .int q5)]) (st1 := [.int 1, .int q4]) (H1 := H) (k1 := 0) (n1 := 0) (by with_unfolding_all rfl)) ?_
        refine ex_s (st_icmp rfl) ?_
        by_cases c64 : q4 < 1
        · have e := (if_pos c64).symm.trans e
          refine ex_pc (if_pos c64) ?_
          exact le_E (l1 := [(0, .ref 157), (1, .int q1), (2, .int q2), (3, .int q3), (4, .int q4), (5, .int q5)]) ⟨rfl, rfl, rfl, rfl, rfl, rfl, trivial⟩ rfl (tj306_107  hS e)
        · have e := (if_neg c64).symm.trans e
          refine ex_pc (if_neg c64) ?_
          refine ex_s (am_nb (m := 1) (pc1 := 58) (ls1 := [(0, .ref 157), (1, .int q1), (2, .int q2), (3, .int q3), (4, .int q4), (5, .int q5)]) (st1 := [.int q1]) (H1 := H) (k1 := 0) (n1 := 0) (by with_unfolding_all rfl)) ?_
          refine ex_s (st_if rfl) ?_
          by_cases c71 : q1 < 0
          · have e := (if_pos c71).symm.trans e
            refine ex_pc (if_pos c71) ?_
            exact le_E (l1 := [(0, .ref 157), (1, .int q1), (2, .int q2), (3, .int q3), (4, .int q4), (5, .int q5)]) ⟨rfl, rfl, rfl, rfl, rfl, rfl, trivial⟩ rfl (tj306_107  hS e)
          · have e := (if_neg c71).symm.trans e
            refine ex_pc (if_neg c71) ?_
            refine ex_s (am_nb (m := 1) (pc1 := 62) (ls1 := [(0, .ref 157), (1, .int q1), (2, .int q2), (3, .int q3), (4, .int q4), (5, .int q5)]) (st1 := [.int q2]) (H1 := H) (k1 := 0) (n1 := 0) (by with_unfolding_all rfl)) ?_
            refine ex_s (st_if rfl) ?_
            by_cases c77 : q2 < 0
            · have e := (if_pos c77).symm.trans e
              refine ex_pc (if_pos c77) ?_
              exact le_E (l1 := [(0, .ref 157), (1, .int q1), (2, .int q2), (3, .int q3), (4, .int q4), (5, .int q5)]) ⟨rfl, rfl, rfl, rfl, rfl, rfl, trivial⟩ rfl (tj306_107  hS e)
            · have e := (if_neg c77).symm.trans e
              refine ex_pc (if_neg c77) ?_
              refine ex_s (am_nb (m := 2) (pc1 := 67) (ls1 := [(0, .ref 157), (1, .int q1), (2, .int q2), (3, .int q3), (4, .int q4), (5, .int q5)]) (st1 := [.ref 157, .int q3]) (H1 := H) (k1 := 0) (n1 := 0) (by with_unfolding_all rfl)) ?_
              refine xe_get (v := .int (a 157 27)) hS rfl rfl (by decide) rfl ?_
              refine ex_s (st_icmp rfl) ?_
              by_cases c82 : (a 157 27) < q3
              · have e := (if_pos c82).symm.trans e
                refine ex_pc (if_pos c82) ?_
                exact le_E (l1 := [(0, .ref 157), (1, .int q1), (2, .int q2), (3, .int q3), (4, .int q4), (5, .int q5)]) ⟨rfl, rfl, rfl, rfl, rfl, rfl, trivial⟩ rfl (tj306_107  hS e)
              · have e := (if_neg c82).symm.trans e
                refine ex_pc (if_neg c82) ?_
                refine ex_s (am_nb (m := 2) (pc1 := 76) (ls1 := [(0, .ref 157), (1, .int q1), (2, .int q2), (3, .int q3), (4, .int q4), (5, .int q5)]) (st1 := [.ref 157, .int q4]) (H1 := H) (k1 := 0) (n1 := 0) (by with_unfolding_all rfl)) ?_
                refine xe_get (v := .int (a 157 26)) hS rfl rfl (by decide) rfl ?_
                refine ex_s (st_icmp rfl) ?_
                by_cases c86 : (a 157 26) < q4
                · have e := (if_pos c86).symm.trans e
                  refine ex_pc (if_pos c86) ?_
                  exact le_E (l1 := [(0, .ref 157), (1, .int q1), (2, .int q2), (3, .int q3), (4, .int q4), (5, .int q5)]) ⟨rfl, rfl, rfl, rfl, rfl, rfl, trivial⟩ rfl (tj306_107  hS e)
                · have e := (if_neg c86).symm.trans e
                  refine ex_pc (if_neg c86) ?_
                  refine ex_s (am_nb (m := 2) (pc1 := 84) (ls1 := [(0, .ref 157), (1, .int q1), (2, .int q2), (3, .int q3), (4, .int q4), (5, .int q5)]) (st1 := [.ref 157, .int q1]) (H1 := H) (k1 := 0) (n1 := 0) (by with_unfolding_all rfl)) ?_
                  refine xe_get (v := .int (a 157 27)) hS rfl rfl (by decide) rfl ?_
                  refine ex_s (am_nb (m := 2) (pc1 := 89) (ls1 := [(0, .ref 157), (1, .int q1), (2, .int q2), (3, .int q3), (4, .int q4), (5, .int q5)]) (st1 := [.int ((a 157 27) - q3), .int q1]) (H1 := H) (k1 := 0) (n1 := 0) (by with_unfolding_all rfl)) ?_
                  refine ex_s (st_icmp rfl) ?_
                  by_cases c89 : ((a 157 27) - q3) < q1
                  · have e := (if_pos c89).symm.trans e
                    refine ex_pc (if_pos c89) ?_
                    exact le_E (l1 := [(0, .ref 157), (1, .int q1), (2, .int q2), (3, .int q3), (4, .int q4), (5, .int q5)]) ⟨rfl, rfl, rfl, rfl, rfl, rfl, trivial⟩ rfl (tj306_107  hS e)
                  · have e := (if_neg c89).symm.trans e
                    refine ex_pc (if_neg c89) ?_
                    refine ex_s (am_nb (m := 2) (pc1 := 94) (ls1 := [(0, .ref 157), (1, .int q1), (2, .int q2), (3, .int q3), (4, .int q4), (5, .int q5)]) (st1 := [.ref 157, .int q2]) (H1 := H) (k1 := 0) (n1 := 0) (by with_unfolding_all rfl)) ?_
                    refine xe_get (v := .int (a 157 26)) hS rfl rfl (by decide) rfl ?_
                    refine ex_s (am_nb (m := 2) (pc1 := 100) (ls1 := [(0, .ref 157), (1, .int q1), (2, .int q2), (3, .int q3), (4, .int q4), (5, .int q5)]) (st1 := [.int ((a 157 26) - q4), .int q2]) (H1 := H) (k1 := 0) (n1 := 0) (by with_unfolding_all rfl)) ?_
                    have kk : am_E sL sx am_cs 306 108 [(0, .ref 157), (1, .int q1), (2, .int q2), (3, .int q3), (4, .int q4), (5, .int q5)] [.int (if ((a 157 26) - q4) < q2 then (0 : Int32) else (1 : Int32))] H (some (.int r)) (fun H1 => xS h b T a' H1) := by
                      refine ex_s (am_nb (m := 2) (pc1 := 112) (ls1 := [(6, .int (if ((a 157 26) - q4) < q2 then (0 : Int32) else (1 : Int32))), (0, .ref 157), (1, .int q1), (2, .int q2), (3, .int q3), (4, .int q4), (5, .int q5)]) (st1 := [.int (if ((a 157 26) - q4) < q2 then (0 : Int32) else (1 : Int32))]) (H1 := H) (k1 := 0) (n1 := 0) (by with_unfolding_all rfl)) ?_
                      refine ex_s (st_if rfl) ?_
                      by_cases c91 : (if ((a 157 26) - q4) < q2 then (0 : Int32) else (1 : Int32)) = 0
                      · have e := (if_pos c91).symm.trans e
                        refine ex_pc (if_pos c91) ?_
                        refine ex_s (am_nb (m := 1) (pc1 := 116) (ls1 := [(6, .int (if ((a 157 26) - q4) < q2 then (0 : Int32) else (1 : Int32))), (0, .ref 157), (1, .int q1), (2, .int q2), (3, .int q3), (4, .int q4), (5, .int q5)]) (st1 := [.int (-1)]) (H1 := H) (k1 := 0) (n1 := 0) (by with_unfolding_all rfl)) ?_
                        cases e
                        exact ex_r (st_iret rfl rfl rfl) hS
                      · have e := (if_neg c91).symm.trans e
                        refine ex_pc (if_neg c91) ?_
                        refine ex_s (am_nb (m := 1) (pc1 := 118) (ls1 := [(6, .int (if ((a 157 26) - q4) < q2 then (0 : Int32) else (1 : Int32))), (0, .ref 157), (1, .int q1), (2, .int q2), (3, .int q3), (4, .int q4), (5, .int q5)]) (st1 := [.ref 157]) (H1 := H) (k1 := 0) (n1 := 0) (by with_unfolding_all rfl)) ?_
                        refine xe_get (v := .ref 172) hS rfl rfl (by decide) rfl ?_
                        refine ex_s (am_nb (m := 2) (pc1 := 124) (ls1 := [(6, .int (if ((a 157 26) - q4) < q2 then (0 : Int32) else (1 : Int32))), (0, .ref 157), (1, .int q1), (2, .int q2), (3, .int q3), (4, .int q4), (5, .int q5)]) (st1 := [.int 1, .int q5, .ref 172]) (H1 := H) (k1 := 0) (n1 := 0) (by with_unfolding_all rfl)) ?_
                        obtain ⟨g95, e⟩ := xg_some e
                        obtain ⟨a92, ha92, e⟩ := xw_some e
                        refine xe_zast hS rfl rfl g95 (fun H93 s94 => ?_)
                        have s94 : xS h b T a92 H93 := by rw [ha92]; exact s94
                        refine ex_s (am_nb (m := 1) (pc1 := 126) (ls1 := [(6, .int (if ((a 157 26) - q4) < q2 then (0 : Int32) else (1 : Int32))), (0, .ref 157), (1, .int q1), (2, .int q2), (3, .int q3), (4, .int q4), (5, .int q5)]) (st1 := [.ref 157]) (H1 := H93) (k1 := 0) (n1 := 0) (by with_unfolding_all rfl)) ?_
                        refine xe_get (v := .ref 173) s94 rfl rfl (by decide) rfl ?_
                        refine ex_s (am_nb (m := 2) (pc1 := 132) (ls1 := [(6, .int (if ((a 157 26) - q4) < q2 then (0 : Int32) else (1 : Int32))), (0, .ref 157), (1, .int q1), (2, .int q2), (3, .int q3), (4, .int q4), (5, .int q5)]) (st1 := [.int q1, .int q5, .ref 173]) (H1 := H93) (k1 := 0) (n1 := 0) (by with_unfolding_all rfl)) ?_
                        obtain ⟨a96, ha96, e⟩ := xw_some e
                        refine xe_iast s94 rfl rfl g95 (fun H97 s98 => ?_)
                        have s98 : xS h b T a96 H97 := by rw [ha96]; exact s98
                        refine ex_s (am_nb (m := 1) (pc1 := 134) (ls1 := [(6, .int (if ((a 157 26) - q4) < q2 then (0 : Int32) else (1 : Int32))), (0, .ref 157), (1, .int q1), (2, .int q2), (3, .int q3), (4, .int q4), (5, .int q5)]) (st1 := [.ref 157]) (H1 := H97) (k1 := 0) (n1 := 0) (by with_unfolding_all rfl)) ?_
                        refine xe_get (v := .ref 174) s98 rfl rfl (by decide) rfl ?_
                        refine ex_s (am_nb (m := 2) (pc1 := 140) (ls1 := [(6, .int (if ((a 157 26) - q4) < q2 then (0 : Int32) else (1 : Int32))), (0, .ref 157), (1, .int q1), (2, .int q2), (3, .int q3), (4, .int q4), (5, .int q5)]) (st1 := [.int q2, .int q5, .ref 174]) (H1 := H97) (k1 := 0) (n1 := 0) (by with_unfolding_all rfl)) ?_
                        obtain ⟨a99, ha99, e⟩ := xw_some e
                        refine xe_iast s98 rfl rfl g95 (fun H100 s101 => ?_)
                        have s101 : xS h b T a99 H100 := by rw [ha99]; exact s101
                        refine ex_s (am_nb (m := 1) (pc1 := 142) (ls1 := [(6, .int (if ((a 157 26) - q4) < q2 then (0 : Int32) else (1 : Int32))), (0, .ref 157), (1, .int q1), (2, .int q2), (3, .int q3), (4, .int q4), (5, .int q5)]) (st1 := [.ref 157]) (H1 := H100) (k1 := 0) (n1 := 0) (by with_unfolding_all rfl)) ?_
                        refine xe_get (v := .ref 175) s101 rfl rfl (by decide) rfl ?_
                        refine ex_s (am_nb (m := 2) (pc1 := 148) (ls1 := [(6, .int (if ((a 157 26) - q4) < q2 then (0 : Int32) else (1 : Int32))), (0, .ref 157), (1, .int q1), (2, .int q2), (3, .int q3), (4, .int q4), (5, .int q5)]) (st1 := [.int q3, .int q5, .ref 175]) (H1 := H100) (k1 := 0) (n1 := 0) (by with_unfolding_all rfl)) ?_
                        obtain ⟨a102, ha102, e⟩ := xw_some e
                        refine xe_iast s101 rfl rfl g95 (fun H103 s104 => ?_)
                        have s104 : xS h b T a102 H103 := by rw [ha102]; exact s104
                        refine ex_s (am_nb (m := 1) (pc1 := 150) (ls1 := [(6, .int (if ((a 157 26) - q4) < q2 then (0 : Int32) else (1 : Int32))), (0, .ref 157), (1, .int q1), (2, .int q2), (3, .int q3), (4, .int q4), (5, .int q5)]) (st1 := [.ref 157]) (H1 := H103) (k1 := 0) (n1 := 0) (by with_unfolding_all rfl)) ?_
                        refine xe_get (v := .ref 176) s104 rfl rfl (by decide) rfl ?_
                        refine ex_s (am_nb (m := 2) (pc1 := 157) (ls1 := [(6, .int (if ((a 157 26) - q4) < q2 then (0 : Int32) else (1 : Int32))), (0, .ref 157), (1, .int q1), (2, .int q2), (3, .int q3), (4, .int q4), (5, .int q5)]) (st1 := [.int q4, .int q5, .ref 176]) (H1 := H103) (k1 := 0) (n1 := 0) (by with_unfolding_all rfl)) ?_
                        obtain ⟨a105, ha105, e⟩ := xw_some e
                        refine xe_iast s104 rfl rfl g95 (fun H106 s107 => ?_)
                        have s107 : xS h b T a105 H106 := by rw [ha105]; exact s107
                        refine ex_s (am_nb (m := 1) (pc1 := 159) (ls1 := [(6, .int (if ((a 157 26) - q4) < q2 then (0 : Int32) else (1 : Int32))), (0, .ref 157), (1, .int q1), (2, .int q2), (3, .int q3), (4, .int q4), (5, .int q5)]) (st1 := [.ref 157]) (H1 := H106) (k1 := 0) (n1 := 0) (by with_unfolding_all rfl)) ?_
                        refine xe_get (v := .ref 177) s107 rfl rfl (by decide) rfl ?_
                        refine ex_s (am_nb (m := 2) (pc1 := 165) (ls1 := [(6, .int (if ((a 157 26) - q4) < q2 then (0 : Int32) else (1 : Int32))), (0, .ref 157), (1, .int q1), (2, .int q2), (3, .int q3), (4, .int q4), (5, .int q5)]) (st1 := [.int 0, .int q5, .ref 177]) (H1 := H106) (k1 := 0) (n1 := 0) (by with_unfolding_all rfl)) ?_
                        obtain ⟨a108, ha108, e⟩ := xw_some e
                        refine xe_iast s107 rfl rfl g95 (fun H109 s110 => ?_)
                        have s110 : xS h b T a108 H109 := by rw [ha108]; exact s110
                        refine ex_s (am_nb (m := 1) (pc1 := 167) (ls1 := [(6, .int (if ((a 157 26) - q4) < q2 then (0 : Int32) else (1 : Int32))), (0, .ref 157), (1, .int q1), (2, .int q2), (3, .int q3), (4, .int q4), (5, .int q5)]) (st1 := [.ref 157]) (H1 := H109) (k1 := 0) (n1 := 0) (by with_unfolding_all rfl)) ?_
                        refine xe_get (v := .ref 178) s110 rfl rfl (by decide) rfl ?_
                        refine ex_s (am_nb (m := 2) (pc1 := 173) (ls1 := [(6, .int (if ((a 157 26) - q4) < q2 then (0 : Int32) else (1 : Int32))), (0, .ref 157), (1, .int q1), (2, .int q2), (3, .int q3), (4, .int q4), (5, .int q5)]) (st1 := [.int 0, .int q5, .ref 178]) (H1 := H109) (k1 := 0) (n1 := 0) (by with_unfolding_all rfl)) ?_
                        obtain ⟨a111, ha111, e⟩ := xw_some e
                        refine xe_iast s110 rfl rfl g95 (fun H112 s113 => ?_)
                        have s113 : xS h b T a111 H112 := by rw [ha111]; exact s113
                        refine ex_s (am_nb (m := 1) (pc1 := 175) (ls1 := [(6, .int (if ((a 157 26) - q4) < q2 then (0 : Int32) else (1 : Int32))), (0, .ref 157), (1, .int q1), (2, .int q2), (3, .int q3), (4, .int q4), (5, .int q5)]) (st1 := [.ref 157]) (H1 := H112) (k1 := 0) (n1 := 0) (by with_unfolding_all rfl)) ?_
                        refine xe_get (v := .ref 179) s113 rfl rfl (by decide) rfl ?_
                        refine ex_s (am_nb (m := 2) (pc1 := 181) (ls1 := [(6, .int (if ((a 157 26) - q4) < q2 then (0 : Int32) else (1 : Int32))), (0, .ref 157), (1, .int q1), (2, .int q2), (3, .int q3), (4, .int q4), (5, .int q5)]) (st1 := [.int 0, .int q5, .ref 179]) (H1 := H112) (k1 := 0) (n1 := 0) (by with_unfolding_all rfl)) ?_
                        obtain ⟨a114, ha114, e⟩ := xw_some e
                        refine xe_iast s113 rfl rfl g95 (fun H115 s116 => ?_)
                        have s116 : xS h b T a114 H115 := by rw [ha114]; exact s116
                        refine ex_s (am_nb (m := 1) (pc1 := 183) (ls1 := [(6, .int (if ((a 157 26) - q4) < q2 then (0 : Int32) else (1 : Int32))), (0, .ref 157), (1, .int q1), (2, .int q2), (3, .int q3), (4, .int q4), (5, .int q5)]) (st1 := [.ref 157]) (H1 := H115) (k1 := 0) (n1 := 0) (by with_unfolding_all rfl)) ?_
                        refine xe_get (v := .ref 180) s116 rfl rfl (by decide) rfl ?_
                        refine ex_s (am_nb (m := 2) (pc1 := 189) (ls1 := [(6, .int (if ((a 157 26) - q4) < q2 then (0 : Int32) else (1 : Int32))), (0, .ref 157), (1, .int q1), (2, .int q2), (3, .int q3), (4, .int q4), (5, .int q5)]) (st1 := [.int 0, .int q5, .ref 180]) (H1 := H115) (k1 := 0) (n1 := 0) (by with_unfolding_all rfl)) ?_
                        obtain ⟨a117, ha117, e⟩ := xw_some e
                        refine xe_zast s116 rfl rfl g95 (fun H118 s119 => ?_)
                        have s119 : xS h b T a117 H118 := by rw [ha117]; exact s119
                        refine ex_s (am_nb (m := 2) (pc1 := 193) (ls1 := [(7, .int 0), (6, .int (if ((a 157 26) - q4) < q2 then (0 : Int32) else (1 : Int32))), (0, .ref 157), (1, .int q1), (2, .int q2), (3, .int q3), (4, .int q4), (5, .int q5)]) (st1 := []) (H1 := H118) (k1 := 0) (n1 := 0) (by with_unfolding_all rfl)) ?_
                        obtain ⟨z120, e121, e⟩ := Option.bind_eq_some_iff.mp e
                        refine le_E (l1 := [(0, .ref 157), (5, .int q5), (7, .int 0)]) ⟨rfl, rfl, rfl, trivial⟩ rfl (tl306_193 (z := z120)  (fun uz120_0 Hz1200 sz1200 => ?_) N 0 a117 H118 s119 e121)
                        refine ex_s (am_nb (m := 1) (pc1 := 225) (ls1 := [(5, .int q5)]) (st1 := [.int q5]) (H1 := Hz1200) (k1 := 0) (n1 := 0) (by with_unfolding_all rfl)) ?_
                        cases e
                        exact ex_r (st_iret rfl rfl rfl) sz1200
                    refine ex_s (st_icmp rfl) ?_
                    by_cases c90 : ((a 157 26) - q4) < q2
                    · refine ex_pc (if_pos c90) ?_
                      refine ex_s (am_nb (m := 1) (pc1 := 108) (ls1 := [(0, .ref 157), (1, .int q1), (2, .int q2), (3, .int q3), (4, .int q4), (5, .int q5)]) (st1 := [.int 0]) (H1 := H) (k1 := 0) (n1 := 0) (by with_unfolding_all rfl)) ?_
                      rw [if_pos c90] at kk
                      exact kk
                    · refine ex_pc (if_neg c90) ?_
                      refine ex_s (am_nb (m := 2) (pc1 := 108) (ls1 := [(0, .ref 157), (1, .int q1), (2, .int q2), (3, .int q3), (4, .int q4), (5, .int q5)]) (st1 := [.int 1]) (H1 := H) (k1 := 0) (n1 := 0) (by with_unfolding_all rfl)) ?_
                      rw [if_neg c90] at kk
                      exact kk

set_option maxRecDepth 100000 in
theorem tf306_open {sL : Nat} {sx : Nat → Int32} {h b N : Nat} {T : List am_C} {r : Int32} {a' : xA} {x0 : Int32} {x1 : Int32} {x2 : Int32} {x3 : Int32} {a : xA} {H : am_H} (hS : xS h b T a H) (e : f306_open N h b x0 x1 x2 x3 a = some (r, a')) : am_E sL sx am_cs 306 0 [(0, .ref 157), (1, .int x0), (2, .int x1), (3, .int x2), (4, .int x3)] [] H (some (.int r)) (fun H1 => xS h b T a' H1) := by
  unfold f306_open at e
  refine ex_s (am_nb (m := 2) (pc1 := 2) (ls1 := [(0, .ref 157), (1, .int x0), (2, .int x1), (3, .int x2), (4, .int x3)]) (st1 := [.int 0, .ref 157]) (H1 := H) (k1 := 0) (n1 := 0) (by with_unfolding_all rfl)) ?_
  obtain ⟨a1, ha1, e⟩ := xw_some e
  refine xe_put (w := 0) hS rfl rfl (by decide) rfl rfl rfl rfl (fun H2 s3 => ?_)
  have s3 : xS h b T a1 H2 := by rw [ha1]; exact s3
  refine ex_s (am_nb (m := 2) (pc1 := 8) (ls1 := [(5, .int 0), (0, .ref 157), (1, .int x0), (2, .int x1), (3, .int x2), (4, .int x3)]) (st1 := []) (H1 := H2) (k1 := 0) (n1 := 0) (by with_unfolding_all rfl)) ?_
  obtain ⟨z8, e9, e⟩ := Option.bind_eq_some_iff.mp e
  refine le_E (l1 := [(0, .ref 157), (1, .int x0), (2, .int x1), (3, .int x2), (4, .int x3), (5, .int 0)]) ⟨rfl, rfl, rfl, rfl, rfl, rfl, trivial⟩ rfl (tl306_8 (z := z8)  (fun uz8_0 Hz80 sz80 => ?_) N 0 a1 H2 s3 e9)
  exact le_E (l1 := [(0, .ref 157), (1, .int x0), (2, .int x1), (3, .int x2), (4, .int x3), (5, .int z8.2.1)]) ⟨rfl, rfl, rfl, rfl, rfl, rfl, trivial⟩ rfl (tj306_31  sz80 e)

set_option maxRecDepth 100000 in
theorem tf308_is {sL : Nat} {sx : Nat → Int32} {h b N : Nat} {T : List am_C} {r : Int32} {a' : xA} {x0 : Int32} {a : xA} {H : am_H} (hS : xS h b T a H) (e : f308_is N h b x0 a = some (r, a')) : am_E sL sx am_cs 308 0 [(0, .ref 157), (1, .int x0)] [] H (some (.int r)) (fun H1 => xS h b T a' H1) := by
  unfold f308_is at e
  refine ex_s (am_nb (m := 1) (pc1 := 1) (ls1 := [(0, .ref 157), (1, .int x0)]) (st1 := [.int x0]) (H1 := H) (k1 := 0) (n1 := 0) (by with_unfolding_all rfl)) ?_
  refine ex_s (st_if rfl) ?_
  by_cases c3 : x0 < 0
  · have e := (if_pos c3).symm.trans e
    refine ex_pc (if_pos c3) ?_
    refine ex_s (am_nb (m := 1) (pc1 := 24) (ls1 := [(0, .ref 157), (1, .int x0)]) (st1 := [.int 0]) (H1 := H) (k1 := 0) (n1 := 0) (by with_unfolding_all rfl)) ?_
    cases e
    exact ex_r (st_iret rfl rfl rfl) hS
  · have e := (if_neg c3).symm.trans e
    refine ex_pc (if_neg c3) ?_
    refine ex_s (am_nb (m := 2) (pc1 := 7) (ls1 := [(0, .ref 157), (1, .int x0)]) (st1 := [.int 8, .int x0]) (H1 := H) (k1 := 0) (n1 := 0) (by with_unfolding_all rfl)) ?_
    refine ex_s (st_icmp rfl) ?_
    by_cases c5 : 8 ≤ x0
    · have e := (if_pos c5).symm.trans e
      refine ex_pc (if_pos c5) ?_
      refine ex_s (am_nb (m := 1) (pc1 := 24) (ls1 := [(0, .ref 157), (1, .int x0)]) (st1 := [.int 0]) (H1 := H) (k1 := 0) (n1 := 0) (by with_unfolding_all rfl)) ?_
      cases e
      exact ex_r (st_iret rfl rfl rfl) hS
    · have e := (if_neg c5).symm.trans e
      refine ex_pc (if_neg c5) ?_
      refine ex_s (am_nb (m := 1) (pc1 := 11) (ls1 := [(0, .ref 157), (1, .int x0)]) (st1 := [.ref 157]) (H1 := H) (k1 := 0) (n1 := 0) (by with_unfolding_all rfl)) ?_
      refine xe_get (v := .ref 172) hS rfl rfl (by decide) rfl ?_
      refine ex_s (am_nb (m := 1) (pc1 := 15) (ls1 := [(0, .ref 157), (1, .int x0)]) (st1 := [.int x0, .ref 172]) (H1 := H) (k1 := 0) (n1 := 0) (by with_unfolding_all rfl)) ?_
      obtain ⟨g6, e⟩ := xg_some e
      refine xe_zald hS rfl rfl g6 ?_
      have kk : am_E sL sx am_cs 308 24 [(0, .ref 157), (1, .int x0)] [.int (if (a 172 (x0.toNatClampNeg)) = 0 then (0 : Int32) else (1 : Int32))] H (some (.int r)) (fun H1 => xS h b T a' H1) := by
        obtain ⟨g8, e⟩ := xg_some e
        cases e
        exact ex_r (st_iret rfl rfl (xnar_z g8)) hS
      refine ex_s (st_if rfl) ?_
      by_cases c7 : (a 172 (x0.toNatClampNeg)) = 0
      · refine ex_pc (if_pos c7) ?_
        refine ex_s (am_nb (m := 1) (pc1 := 24) (ls1 := [(0, .ref 157), (1, .int x0)]) (st1 := [.int 0]) (H1 := H) (k1 := 0) (n1 := 0) (by with_unfolding_all rfl)) ?_
        rw [if_pos c7] at kk
        exact kk
      · refine ex_pc (if_neg c7) ?_
        refine ex_s (am_nb (m := 2) (pc1 := 24) (ls1 := [(0, .ref 157), (1, .int x0)]) (st1 := [.int 1]) (H1 := H) (k1 := 0) (n1 := 0) (by with_unfolding_all rfl)) ?_
        rw [if_neg c7] at kk
        exact kk

set_option maxRecDepth 100000 in
theorem tf307_close {sL : Nat} {sx : Nat → Int32} {h b N : Nat} {T : List am_C} {r : Int32} {a' : xA} {x0 : Int32} {a : xA} {H : am_H} (hS : xS h b T a H) (e : f307_close N h b x0 a = some (r, a')) : am_E sL sx am_cs 307 0 [(0, .ref 157), (1, .int x0)] [] H (some (.int r)) (fun H1 => xS h b T a' H1) := by
  unfold f307_close at e
  refine ex_s (am_nb (m := 2) (pc1 := 2) (ls1 := [(0, .ref 157), (1, .int x0)]) (st1 := [.int 0, .ref 157]) (H1 := H) (k1 := 0) (n1 := 0) (by with_unfolding_all rfl)) ?_
  obtain ⟨a1, ha1, e⟩ := xw_some e
  refine xe_put (w := 0) hS rfl rfl (by decide) rfl rfl rfl rfl (fun H2 s3 => ?_)
  have s3 : xS h b T a1 H2 := by rw [ha1]; exact s3
  refine ex_s (am_nb (m := 2) (pc1 := 7) (ls1 := [(0, .ref 157), (1, .int x0)]) (st1 := [.int x0, .ref 157]) (H1 := H2) (k1 := 0) (n1 := 0) (by with_unfolding_all rfl)) ?_
  obtain ⟨r7, a8, e6, e⟩ := xb2_some e
  refine ex_cv1 (as := [.int x0]) (rest := []) rfl rfl rfl rfl (s3.obj rfl (by decide)) rfl (by with_unfolding_all rfl) (by with_unfolding_all rfl) (tf308_is s3 e6) (fun H4 s5 => ?_)
  refine ex_s (st_if rfl) ?_
  by_cases c9 : r7 = 0
  · have e := (if_pos c9).symm.trans e
    refine ex_pc (if_pos c9) ?_
    refine ex_s (am_nb (m := 1) (pc1 := 14) (ls1 := [(0, .ref 157), (1, .int x0)]) (st1 := [.int 0]) (H1 := H4) (k1 := 0) (n1 := 0) (by with_unfolding_all rfl)) ?_
    cases e
    exact ex_r (st_iret rfl rfl rfl) s5
  · have e := (if_neg c9).symm.trans e
    refine ex_pc (if_neg c9) ?_
    refine ex_s (am_nb (m := 1) (pc1 := 16) (ls1 := [(0, .ref 157), (1, .int x0)]) (st1 := [.ref 157]) (H1 := H4) (k1 := 0) (n1 := 0) (by with_unfolding_all rfl)) ?_
    refine xe_get (v := .ref 172) s5 rfl rfl (by decide) rfl ?_
    refine ex_s (am_nb (m := 2) (pc1 := 21) (ls1 := [(0, .ref 157), (1, .int x0)]) (st1 := [.int 0, .int x0, .ref 172]) (H1 := H4) (k1 := 0) (n1 := 0) (by with_unfolding_all rfl)) ?_
    obtain ⟨g13, e⟩ := xg_some e
    obtain ⟨a10, ha10, e⟩ := xw_some e
    refine xe_zast s5 rfl rfl g13 (fun H11 s12 => ?_)
    have s12 : xS h b T a10 H11 := by rw [ha10]; exact s12
    refine ex_s (am_nb (m := 1) (pc1 := 23) (ls1 := [(0, .ref 157), (1, .int x0)]) (st1 := [.int 1]) (H1 := H11) (k1 := 0) (n1 := 0) (by with_unfolding_all rfl)) ?_
    cases e
    exact ex_r (st_iret rfl rfl rfl) s12

set_option maxRecDepth 100000 in
theorem tf309_at {sL : Nat} {sx : Nat → Int32} {h b N : Nat} {T : List am_C} {r : Int32} {a' : xA} {x0 : Int32} {x1 : Int32} {x2 : Int32} {a : xA} {H : am_H} (hS : xS h b T a H) (e : f309_at N h b x0 x1 x2 a = some (r, a')) : am_E sL sx am_cs 309 0 [(0, .ref 157), (1, .int x0), (2, .int x1), (3, .int x2)] [] H (some (.int r)) (fun H1 => xS h b T a' H1) := by
  unfold f309_at at e
  refine ex_s (am_nb (m := 2) (pc1 := 2) (ls1 := [(0, .ref 157), (1, .int x0), (2, .int x1), (3, .int x2)]) (st1 := [.int 0, .ref 157]) (H1 := H) (k1 := 0) (n1 := 0) (by with_unfolding_all rfl)) ?_
  obtain ⟨a1, ha1, e⟩ := xw_some e
  refine xe_put (w := 0) hS rfl rfl (by decide) rfl rfl rfl rfl (fun H2 s3 => ?_)
  have s3 : xS h b T a1 H2 := by rw [ha1]; exact s3
  refine ex_s (am_nb (m := 2) (pc1 := 7) (ls1 := [(0, .ref 157), (1, .int x0), (2, .int x1), (3, .int x2)]) (st1 := [.int x0, .ref 157]) (H1 := H2) (k1 := 0) (n1 := 0) (by with_unfolding_all rfl)) ?_
  obtain ⟨r7, a8, e6, e⟩ := xb2_some e
  refine ex_cv1 (as := [.int x0]) (rest := []) rfl rfl rfl rfl (s3.obj rfl (by decide)) rfl (by with_unfolding_all rfl) (by with_unfolding_all rfl) (tf308_is s3 e6) (fun H4 s5 => ?_)
  refine ex_s (st_if rfl) ?_
  by_cases c12 : r7 = 0
  · have e := (if_pos c12).symm.trans e
    refine ex_pc (if_pos c12) ?_
    refine ex_s (am_nb (m := 1) (pc1 := 42) (ls1 := [(0, .ref 157), (1, .int x0), (2, .int x1), (3, .int x2)]) (st1 := [.int 0]) (H1 := H4) (k1 := 0) (n1 := 0) (by with_unfolding_all rfl)) ?_
    cases e
    exact ex_r (st_iret rfl rfl rfl) s5
  · have e := (if_neg c12).symm.trans e
    refine ex_pc (if_neg c12) ?_
    refine ex_s (am_nb (m := 1) (pc1 := 14) (ls1 := [(0, .ref 157), (1, .int x0), (2, .int x1), (3, .int x2)]) (st1 := [.int x1]) (H1 := H4) (k1 := 0) (n1 := 0) (by with_unfolding_all rfl)) ?_
    refine ex_s (st_if rfl) ?_
    by_cases c15 : x1 < 0
    · have e := (if_pos c15).symm.trans e
      refine ex_pc (if_pos c15) ?_
      refine ex_s (am_nb (m := 1) (pc1 := 42) (ls1 := [(0, .ref 157), (1, .int x0), (2, .int x1), (3, .int x2)]) (st1 := [.int 0]) (H1 := H4) (k1 := 0) (n1 := 0) (by with_unfolding_all rfl)) ?_
      cases e
      exact ex_r (st_iret rfl rfl rfl) s5
    · have e := (if_neg c15).symm.trans e
      refine ex_pc (if_neg c15) ?_
      refine ex_s (am_nb (m := 1) (pc1 := 18) (ls1 := [(0, .ref 157), (1, .int x0), (2, .int x1), (3, .int x2)]) (st1 := [.int x2]) (H1 := H4) (k1 := 0) (n1 := 0) (by with_unfolding_all rfl)) ?_
      refine ex_s (st_if rfl) ?_
      by_cases c17 : x2 < 0
      · have e := (if_pos c17).symm.trans e
        refine ex_pc (if_pos c17) ?_
        refine ex_s (am_nb (m := 1) (pc1 := 42) (ls1 := [(0, .ref 157), (1, .int x0), (2, .int x1), (3, .int x2)]) (st1 := [.int 0]) (H1 := H4) (k1 := 0) (n1 := 0) (by with_unfolding_all rfl)) ?_
        cases e
        exact ex_r (st_iret rfl rfl rfl) s5
      · have e := (if_neg c17).symm.trans e
        refine ex_pc (if_neg c17) ?_
        refine ex_s (am_nb (m := 2) (pc1 := 23) (ls1 := [(0, .ref 157), (1, .int x0), (2, .int x1), (3, .int x2)]) (st1 := [.ref 157, .int x1]) (H1 := H4) (k1 := 0) (n1 := 0) (by with_unfolding_all rfl)) ?_
        refine xe_get (v := .ref 175) s5 rfl rfl (by decide) rfl ?_
        refine ex_s (am_nb (m := 1) (pc1 := 27) (ls1 := [(0, .ref 157), (1, .int x0), (2, .int x1), (3, .int x2)]) (st1 := [.int x0, .ref 175, .int x1]) (H1 := H4) (k1 := 0) (n1 := 0) (by with_unfolding_all rfl)) ?_
        obtain ⟨g18, e⟩ := xg_some e
        refine xe_iald s5 rfl rfl g18 ?_
        refine ex_s (st_icmp rfl) ?_
        by_cases c20 : (a8 175 (x0.toNatClampNeg)) ≤ x1
        · have e := (if_pos c20).symm.trans e
          refine ex_pc (if_pos c20) ?_
          refine ex_s (am_nb (m := 1) (pc1 := 42) (ls1 := [(0, .ref 157), (1, .int x0), (2, .int x1), (3, .int x2)]) (st1 := [.int 0]) (H1 := H4) (k1 := 0) (n1 := 0) (by with_unfolding_all rfl)) ?_
          cases e
          exact ex_r (st_iret rfl rfl rfl) s5
        · have e := (if_neg c20).symm.trans e
          refine ex_pc (if_neg c20) ?_
          refine ex_s (am_nb (m := 2) (pc1 := 33) (ls1 := [(0, .ref 157), (1, .int x0), (2, .int x1), (3, .int x2)]) (st1 := [.ref 157, .int x2]) (H1 := H4) (k1 := 0) (n1 := 0) (by with_unfolding_all rfl)) ?_
          refine xe_get (v := .ref 176) s5 rfl rfl (by decide) rfl ?_
          refine ex_s (am_nb (m := 1) (pc1 := 37) (ls1 := [(0, .ref 157), (1, .int x0), (2, .int x1), (3, .int x2)]) (st1 := [.int x0, .ref 176, .int x2]) (H1 := H4) (k1 := 0) (n1 := 0) (by with_unfolding_all rfl)) ?_
          refine xe_iald s5 rfl rfl g18 ?_
          refine ex_s (st_icmp rfl) ?_
          by_cases c21 : x2 < (a8 176 (x0.toNatClampNeg))
          · have e := (if_pos c21).symm.trans e
            refine ex_pc (if_pos c21) ?_
            refine ex_s (am_nb (m := 1) (pc1 := 44) (ls1 := [(0, .ref 157), (1, .int x0), (2, .int x1), (3, .int x2)]) (st1 := [.ref 157]) (H1 := H4) (k1 := 0) (n1 := 0) (by with_unfolding_all rfl)) ?_
            refine xe_get (v := .ref 177) s5 rfl rfl (by decide) rfl ?_
            refine ex_s (am_nb (m := 2) (pc1 := 49) (ls1 := [(0, .ref 157), (1, .int x0), (2, .int x1), (3, .int x2)]) (st1 := [.int x1, .int x0, .ref 177]) (H1 := H4) (k1 := 0) (n1 := 0) (by with_unfolding_all rfl)) ?_
            obtain ⟨a22, ha22, e⟩ := xw_some e
            refine xe_iast s5 rfl rfl g18 (fun H23 s24 => ?_)
            have s24 : xS h b T a22 H23 := by rw [ha22]; exact s24
            refine ex_s (am_nb (m := 1) (pc1 := 51) (ls1 := [(0, .ref 157), (1, .int x0), (2, .int x1), (3, .int x2)]) (st1 := [.ref 157]) (H1 := H23) (k1 := 0) (n1 := 0) (by with_unfolding_all rfl)) ?_
            refine xe_get (v := .ref 178) s24 rfl rfl (by decide) rfl ?_
            refine ex_s (am_nb (m := 2) (pc1 := 56) (ls1 := [(0, .ref 157), (1, .int x0), (2, .int x1), (3, .int x2)]) (st1 := [.int x2, .int x0, .ref 178]) (H1 := H23) (k1 := 0) (n1 := 0) (by with_unfolding_all rfl)) ?_
            obtain ⟨a25, ha25, e⟩ := xw_some e
            refine xe_iast s24 rfl rfl g18 (fun H26 s27 => ?_)
            have s27 : xS h b T a25 H26 := by rw [ha25]; exact s27
            refine ex_s (am_nb (m := 1) (pc1 := 58) (ls1 := [(0, .ref 157), (1, .int x0), (2, .int x1), (3, .int x2)]) (st1 := [.int 1]) (H1 := H26) (k1 := 0) (n1 := 0) (by with_unfolding_all rfl)) ?_
            cases e
            exact ex_r (st_iret rfl rfl rfl) s27
          · have e := (if_neg c21).symm.trans e
            refine ex_pc (if_neg c21) ?_
            refine ex_s (am_nb (m := 1) (pc1 := 42) (ls1 := [(0, .ref 157), (1, .int x0), (2, .int x1), (3, .int x2)]) (st1 := [.int 0]) (H1 := H4) (k1 := 0) (n1 := 0) (by with_unfolding_all rfl)) ?_
            cases e
            exact ex_r (st_iret rfl rfl rfl) s5

set_option maxRecDepth 100000 in
theorem tf310_dress {sL : Nat} {sx : Nat → Int32} {h b N : Nat} {T : List am_C} {r : Int32} {a' : xA} {x0 : Int32} {x1 : Int32} {a : xA} {H : am_H} (hS : xS h b T a H) (e : f310_dress N h b x0 x1 a = some (r, a')) : am_E sL sx am_cs 310 0 [(0, .ref 157), (1, .int x0), (2, .int x1)] [] H (some (.int r)) (fun H1 => xS h b T a' H1) := by
  unfold f310_dress at e
  refine ex_s (am_nb (m := 2) (pc1 := 2) (ls1 := [(0, .ref 157), (1, .int x0), (2, .int x1)]) (st1 := [.int 0, .ref 157]) (H1 := H) (k1 := 0) (n1 := 0) (by with_unfolding_all rfl)) ?_
  obtain ⟨a1, ha1, e⟩ := xw_some e
  refine xe_put (w := 0) hS rfl rfl (by decide) rfl rfl rfl rfl (fun H2 s3 => ?_)
  have s3 : xS h b T a1 H2 := by rw [ha1]; exact s3
  refine ex_s (am_nb (m := 2) (pc1 := 7) (ls1 := [(0, .ref 157), (1, .int x0), (2, .int x1)]) (st1 := [.int x0, .ref 157]) (H1 := H2) (k1 := 0) (n1 := 0) (by with_unfolding_all rfl)) ?_
  obtain ⟨r7, a8, e6, e⟩ := xb2_some e
  refine ex_cv1 (as := [.int x0]) (rest := []) rfl rfl rfl rfl (s3.obj rfl (by decide)) rfl (by with_unfolding_all rfl) (by with_unfolding_all rfl) (tf308_is s3 e6) (fun H4 s5 => ?_)
  refine ex_s (st_if rfl) ?_
  by_cases c12 : r7 = 0
  · have e := (if_pos c12).symm.trans e
    refine ex_pc (if_pos c12) ?_
    refine ex_s (am_nb (m := 1) (pc1 := 24) (ls1 := [(0, .ref 157), (1, .int x0), (2, .int x1)]) (st1 := [.int 0]) (H1 := H4) (k1 := 0) (n1 := 0) (by with_unfolding_all rfl)) ?_
    cases e
    exact ex_r (st_iret rfl rfl rfl) s5
  · have e := (if_neg c12).symm.trans e
    refine ex_pc (if_neg c12) ?_
    refine ex_s (am_nb (m := 1) (pc1 := 14) (ls1 := [(0, .ref 157), (1, .int x0), (2, .int x1)]) (st1 := [.int x1]) (H1 := H4) (k1 := 0) (n1 := 0) (by with_unfolding_all rfl)) ?_
    refine ex_s (st_if rfl) ?_
    by_cases c15 : x1 < 0
    · have e := (if_pos c15).symm.trans e
      refine ex_pc (if_pos c15) ?_
      refine ex_s (am_nb (m := 1) (pc1 := 24) (ls1 := [(0, .ref 157), (1, .int x0), (2, .int x1)]) (st1 := [.int 0]) (H1 := H4) (k1 := 0) (n1 := 0) (by with_unfolding_all rfl)) ?_
      cases e
      exact ex_r (st_iret rfl rfl rfl) s5
    · have e := (if_neg c15).symm.trans e
      refine ex_pc (if_neg c15) ?_
      refine ex_s (am_nb (m := 2) (pc1 := 20) (ls1 := [(0, .ref 157), (1, .int x0), (2, .int x1)]) (st1 := [.int 15, .int x1]) (H1 := H4) (k1 := 0) (n1 := 0) (by with_unfolding_all rfl)) ?_
      refine ex_s (st_icmp rfl) ?_
      by_cases c16 : x1 ≤ 15
      · have e := (if_pos c16).symm.trans e
        refine ex_pc (if_pos c16) ?_
        refine ex_s (am_nb (m := 1) (pc1 := 26) (ls1 := [(0, .ref 157), (1, .int x0), (2, .int x1)]) (st1 := [.ref 157]) (H1 := H4) (k1 := 0) (n1 := 0) (by with_unfolding_all rfl)) ?_
        refine xe_get (v := .ref 179) s5 rfl rfl (by decide) rfl ?_
        refine ex_s (am_nb (m := 2) (pc1 := 31) (ls1 := [(0, .ref 157), (1, .int x0), (2, .int x1)]) (st1 := [.int x1, .int x0, .ref 179]) (H1 := H4) (k1 := 0) (n1 := 0) (by with_unfolding_all rfl)) ?_
        obtain ⟨g20, e⟩ := xg_some e
        obtain ⟨a17, ha17, e⟩ := xw_some e
        refine xe_iast s5 rfl rfl g20 (fun H18 s19 => ?_)
        have s19 : xS h b T a17 H18 := by rw [ha17]; exact s19
        refine ex_s (am_nb (m := 1) (pc1 := 33) (ls1 := [(0, .ref 157), (1, .int x0), (2, .int x1)]) (st1 := [.int 1]) (H1 := H18) (k1 := 0) (n1 := 0) (by with_unfolding_all rfl)) ?_
        cases e
        exact ex_r (st_iret rfl rfl rfl) s19
      · have e := (if_neg c16).symm.trans e
        refine ex_pc (if_neg c16) ?_
        refine ex_s (am_nb (m := 1) (pc1 := 24) (ls1 := [(0, .ref 157), (1, .int x0), (2, .int x1)]) (st1 := [.int 0]) (H1 := H4) (k1 := 0) (n1 := 0) (by with_unfolding_all rfl)) ?_
        cases e
        exact ex_r (st_iret rfl rfl rfl) s5

set_option maxRecDepth 100000 in
theorem tf311_scrolls {sL : Nat} {sx : Nat → Int32} {h b N : Nat} {T : List am_C} {r : Int32} {a' : xA} {x0 : Int32} {x1 : Int32} {a : xA} {H : am_H} (hS : xS h b T a H) (e : f311_scrolls N h b x0 x1 a = some (r, a')) : am_E sL sx am_cs 311 0 [(0, .ref 157), (1, .int x0), (2, .int x1)] [] H (some (.int r)) (fun H1 => xS h b T a' H1) := by
  unfold f311_scrolls at e
  refine ex_s (am_nb (m := 2) (pc1 := 2) (ls1 := [(0, .ref 157), (1, .int x0), (2, .int x1)]) (st1 := [.int 0, .ref 157]) (H1 := H) (k1 := 0) (n1 := 0) (by with_unfolding_all rfl)) ?_
  obtain ⟨a1, ha1, e⟩ := xw_some e
  refine xe_put (w := 0) hS rfl rfl (by decide) rfl rfl rfl rfl (fun H2 s3 => ?_)
  have s3 : xS h b T a1 H2 := by rw [ha1]; exact s3
  refine ex_s (am_nb (m := 2) (pc1 := 7) (ls1 := [(0, .ref 157), (1, .int x0), (2, .int x1)]) (st1 := [.int x0, .ref 157]) (H1 := H2) (k1 := 0) (n1 := 0) (by with_unfolding_all rfl)) ?_
  obtain ⟨r7, a8, e6, e⟩ := xb2_some e
  refine ex_cv1 (as := [.int x0]) (rest := []) rfl rfl rfl rfl (s3.obj rfl (by decide)) rfl (by with_unfolding_all rfl) (by with_unfolding_all rfl) (tf308_is s3 e6) (fun H4 s5 => ?_)
  refine ex_s (st_if rfl) ?_
  by_cases c9 : r7 = 0
  · have e := (if_pos c9).symm.trans e
    refine ex_pc (if_pos c9) ?_
    refine ex_s (am_nb (m := 1) (pc1 := 14) (ls1 := [(0, .ref 157), (1, .int x0), (2, .int x1)]) (st1 := [.int 0]) (H1 := H4) (k1 := 0) (n1 := 0) (by with_unfolding_all rfl)) ?_
    cases e
    exact ex_r (st_iret rfl rfl rfl) s5
  · have e := (if_neg c9).symm.trans e
    refine ex_pc (if_neg c9) ?_
    refine ex_s (am_nb (m := 1) (pc1 := 16) (ls1 := [(0, .ref 157), (1, .int x0), (2, .int x1)]) (st1 := [.ref 157]) (H1 := H4) (k1 := 0) (n1 := 0) (by with_unfolding_all rfl)) ?_
    refine xe_get (v := .ref 180) s5 rfl rfl (by decide) rfl ?_
    refine ex_s (am_nb (m := 2) (pc1 := 21) (ls1 := [(0, .ref 157), (1, .int x0), (2, .int x1)]) (st1 := [.int x1, .int x0, .ref 180]) (H1 := H4) (k1 := 0) (n1 := 0) (by with_unfolding_all rfl)) ?_
    obtain ⟨g13, e⟩ := xg_some e
    obtain ⟨a10, ha10, e⟩ := xw_some e
    refine xe_zast s5 rfl rfl g13 (fun H11 s12 => ?_)
    have s12 : xS h b T a10 H11 := by rw [ha10]; exact s12
    refine ex_s (am_nb (m := 1) (pc1 := 23) (ls1 := [(0, .ref 157), (1, .int x0), (2, .int x1)]) (st1 := [.int 1]) (H1 := H11) (k1 := 0) (n1 := 0) (by with_unfolding_all rfl)) ?_
    cases e
    exact ex_r (st_iret rfl rfl rfl) s12

set_option maxRecDepth 100000 in
theorem tf314_cellAt {sL : Nat} {sx : Nat → Int32} {h b N : Nat} {T : List am_C} {r : Int32} {a' : xA} {x0 : Int32} {x1 : Int32} {x2 : Int32} {a : xA} {H : am_H} (hS : xS h b T a H) (e : f314_cellAt N h b x0 x1 x2 a = some (r, a')) : am_E sL sx am_cs 314 0 [(0, .ref 157), (1, .int x0), (2, .int x1), (3, .int x2)] [] H (some (.int r)) (fun H1 => xS h b T a' H1) := by
  unfold f314_cellAt at e
  refine ex_s (am_nb (m := 9) (pc1 := 12) (ls1 := [(0, .ref 157), (1, .int x0), (2, .int x1), (3, .int x2)]) (st1 := [.int (((1920 * x0) + (80 * x1)) + x2)]) (H1 := H) (k1 := 0) (n1 := 0) (by with_unfolding_all rfl)) ?_
  cases e
  exact ex_r (st_iret rfl rfl rfl) hS

set_option maxRecDepth 100000 in
theorem tj316_70 {sL : Nat} {sx : Nat → Int32} {h b N : Nat} {T : List am_C} {R : Option Value} {F : am_H → Prop} {w1 : Int32} {w3 : Int32} {z : Nat × xA} {rc : Int32 → xA → Option (Nat × xA)} (k0 : z.1 = 0 → ∀ H2 : am_H, xS h b T z.2 H2 → am_E sL sx am_cs 316 77 [(0, .ref 157), (1, .int w1), (3, .int w3)] [] H2 R F) (ih : ∀ (v4 : Int32) (a : xA) (H : am_H), xS h b T a H → rc v4 a = some z → am_E sL sx am_cs 316 15 [(0, .ref 157), (1, .int w1), (3, .int w3), (4, .int v4)] [] H R F) {q4 : Int32} {t0 : Int32} {t1 : Int32} {a : xA} {H : am_H} (hS : xS h b T a H) (e : j316_70 N h b rc w1 w3 q4 t0 t1 a = some z) : am_E sL sx am_cs 316 70 [(0, .ref 157), (1, .int w1), (3, .int w3), (4, .int q4)] [.int t0, .int t1, .ref 181] H R F := by
  unfold j316_70 at e
  obtain ⟨g15, e⟩ := xg_some e
  obtain ⟨a12, ha12, e⟩ := xw_some e
  refine xe_iast hS rfl rfl g15 (fun H13 s14 => ?_)
  have s14 : xS h b T a12 H13 := by rw [ha12]; exact s14
  refine ex_s (am_nb (m := 2) (pc1 := 15) (ls1 := [(4, .int (q4 + 1)), (0, .ref 157), (1, .int w1), (3, .int w3)]) (st1 := []) (H1 := H13) (k1 := 0) (n1 := 0) (by with_unfolding_all rfl)) ?_
  exact le_E (l1 := [(0, .ref 157), (1, .int w1), (3, .int w3), (4, .int (q4 + 1))]) ⟨rfl, rfl, rfl, rfl, trivial⟩ rfl (ih (q4 + 1) a12 H13 s14 e)

set_option maxRecDepth 100000 in
theorem tl316_15 {sL : Nat} {sx : Nat → Int32} {h b N : Nat} {T : List am_C} {R : Option Value} {F : am_H → Prop} {w1 : Int32} {w3 : Int32} {z : Nat × xA} (k0 : z.1 = 0 → ∀ H2 : am_H, xS h b T z.2 H2 → am_E sL sx am_cs 316 77 [(0, .ref 157), (1, .int w1), (3, .int w3)] [] H2 R F) : ∀ (n : Nat) (v4 : Int32) (a : xA) (H : am_H), xS h b T a H → l316_15 N h b w1 w3 n v4 a = some z → am_E sL sx am_cs 316 15 [(0, .ref 157), (1, .int w1), (3, .int w3), (4, .int v4)] [] H R F := by
  intro n
  induction n with
  | zero =>
    intro v4 a H hS e
    cases e
  | succ n ih =>
    intro v4 a H hS e
    unfold l316_15 at e
    refine ex_s (am_nb (m := 2) (pc1 := 18) (ls1 := [(0, .ref 157), (1, .int w1), (3, .int w3), (4, .int v4)]) (st1 := [.ref 157, .int v4]) (H1 := H) (k1 := 0) (n1 := 0) (by with_unfolding_all rfl)) ?_
    refine xe_get (v := .ref 176) hS rfl rfl (by decide) rfl ?_
    refine ex_s (am_nb (m := 1) (pc1 := 22) (ls1 := [(0, .ref 157), (1, .int w1), (3, .int w3), (4, .int v4)]) (st1 := [.int w1, .ref 176, .int v4]) (H1 := H) (k1 := 0) (n1 := 0) (by with_unfolding_all rfl)) ?_
    obtain ⟨g3, e⟩ := xg_some e
    refine xe_iald hS rfl rfl g3 ?_
    refine ex_s (st_icmp rfl) ?_
    by_cases c4 : (a 176 (w1.toNatClampNeg)) ≤ v4
    · have e := (if_pos c4).symm.trans e
      refine ex_pc (if_pos c4) ?_
      cases e
      exact le_E (l1 := [(0, .ref 157), (1, .int w1), (3, .int w3)]) ⟨rfl, rfl, rfl, trivial⟩ rfl (k0 rfl H hS)
    · have e := (if_neg c4).symm.trans e
      refine ex_pc (if_neg c4) ?_
      refine ex_s (am_nb (m := 1) (pc1 := 27) (ls1 := [(0, .ref 157), (1, .int w1), (3, .int w3), (4, .int v4)]) (st1 := [.ref 157]) (H1 := H) (k1 := 0) (n1 := 0) (by with_unfolding_all rfl)) ?_
      refine xe_get (v := .ref 181) hS rfl rfl (by decide) rfl ?_
      refine ex_s (am_nb (m := 4) (pc1 := 35) (ls1 := [(0, .ref 157), (1, .int w1), (3, .int w3), (4, .int v4)]) (st1 := [.int v4, .int w3, .int w1, .ref 157, .ref 181]) (H1 := H) (k1 := 0) (n1 := 0) (by with_unfolding_all rfl)) ?_
      obtain ⟨r8, a9, e7, e⟩ := xb2_some e
      refine ex_cv1 (as := [.int w1, .int w3, .int v4]) (rest := [.ref 181]) rfl rfl rfl rfl (hS.obj rfl (by decide)) rfl (by with_unfolding_all rfl) (by with_unfolding_all rfl) (tf314_cellAt hS e7) (fun H5 s6 => ?_)
      refine ex_s (am_nb (m := 4) (pc1 := 42) (ls1 := [(0, .ref 157), (1, .int w1), (3, .int w3), (4, .int v4)]) (st1 := [.ref 157, .int (w3 + 1), .int r8, .ref 181]) (H1 := H5) (k1 := 0) (n1 := 0) (by with_unfolding_all rfl)) ?_
      refine xe_get (v := .ref 175) s6 rfl rfl (by decide) rfl ?_
      refine ex_s (am_nb (m := 1) (pc1 := 46) (ls1 := [(0, .ref 157), (1, .int w1), (3, .int w3), (4, .int v4)]) (st1 := [.int w1, .ref 175, .int (w3 + 1), .int r8, .ref 181]) (H1 := H5) (k1 := 0) (n1 := 0) (by with_unfolding_all rfl)) ?_
      refine xe_iald s6 rfl rfl g3 ?_
      refine ex_s (st_icmp rfl) ?_
      by_cases c11 : (a9 175 (w1.toNatClampNeg)) ≤ (w3 + 1)
      · have e := (if_pos c11).symm.trans e
        refine ex_pc (if_pos c11) ?_
        refine ex_s (am_nb (m := 1) (pc1 := 70) (ls1 := [(0, .ref 157), (1, .int w1), (3, .int w3), (4, .int v4)]) (st1 := [.int 32, .int r8, .ref 181]) (H1 := H5) (k1 := 0) (n1 := 0) (by with_unfolding_all rfl)) ?_
        exact le_E (l1 := [(0, .ref 157), (1, .int w1), (3, .int w3), (4, .int v4)]) ⟨rfl, rfl, rfl, rfl, trivial⟩ rfl (tj316_70 k0 ih  s6 e)
      · have e := (if_neg c11).symm.trans e
        refine ex_pc (if_neg c11) ?_
        refine ex_s (am_nb (m := 1) (pc1 := 51) (ls1 := [(0, .ref 157), (1, .int w1), (3, .int w3), (4, .int v4)]) (st1 := [.ref 157, .int r8, .ref 181]) (H1 := H5) (k1 := 0) (n1 := 0) (by with_unfolding_all rfl)) ?_
        refine xe_get (v := .ref 181) s6 rfl rfl (by decide) rfl ?_
        refine ex_s (am_nb (m := 6) (pc1 := 61) (ls1 := [(0, .ref 157), (1, .int w1), (3, .int w3), (4, .int v4)]) (st1 := [.int v4, .int (w3 + 1), .int w1, .ref 157, .ref 181, .int r8, .ref 181]) (H1 := H5) (k1 := 0) (n1 := 0) (by with_unfolding_all rfl)) ?_
        obtain ⟨r19, a20, e18, e⟩ := xb2_some e
        refine ex_cv1 (as := [.int w1, .int (w3 + 1), .int v4]) (rest := [.ref 181, .int r8, .ref 181]) rfl rfl rfl rfl (s6.obj rfl (by decide)) rfl (by with_unfolding_all rfl) (by with_unfolding_all rfl) (tf314_cellAt s6 e18) (fun H16 s17 => ?_)
        obtain ⟨g21, e⟩ := xg_some e
        refine xe_iald s17 rfl rfl g21 ?_
        refine ex_s (am_nb (m := 1) (pc1 := 70) (ls1 := [(0, .ref 157), (1, .int w1), (3, .int w3), (4, .int v4)]) (st1 := [.int (a20 181 (r19.toNatClampNeg)), .int r8, .ref 181]) (H1 := H16) (k1 := 0) (n1 := 0) (by with_unfolding_all rfl)) ?_
        exact le_E (l1 := [(0, .ref 157), (1, .int w1), (3, .int w3), (4, .int v4)]) ⟨rfl, rfl, rfl, rfl, trivial⟩ rfl (tj316_70 k0 ih  s17 e)

set_option maxRecDepth 100000 in
theorem tl316_2 {sL : Nat} {sx : Nat → Int32} {h b N : Nat} {T : List am_C} {R : Option Value} {F : am_H → Prop} {w1 : Int32} {z : Nat × xA} (k0 : z.1 = 0 → ∀ H2 : am_H, xS h b T z.2 H2 → am_E sL sx am_cs 316 83 [] [] H2 R F) : ∀ (n : Nat) (v3 : Int32) (a : xA) (H : am_H), xS h b T a H → l316_2 N h b w1 n v3 a = some z → am_E sL sx am_cs 316 2 [(0, .ref 157), (1, .int w1), (3, .int v3)] [] H R F := by
  intro n
  induction n with
  | zero =>
    intro v3 a H hS e
    cases e
  | succ n ih =>
    intro v3 a H hS e
    unfold l316_2 at e
    refine ex_s (am_nb (m := 2) (pc1 := 4) (ls1 := [(0, .ref 157), (1, .int w1), (3, .int v3)]) (st1 := [.ref 157, .int v3]) (H1 := H) (k1 := 0) (n1 := 0) (by with_unfolding_all rfl)) ?_
    refine xe_get (v := .ref 175) hS rfl rfl (by decide) rfl ?_
    refine ex_s (am_nb (m := 1) (pc1 := 8) (ls1 := [(0, .ref 157), (1, .int w1), (3, .int v3)]) (st1 := [.int w1, .ref 175, .int v3]) (H1 := H) (k1 := 0) (n1 := 0) (by with_unfolding_all rfl)) ?_
    obtain ⟨g1, e⟩ := xg_some e
    refine xe_iald hS rfl rfl g1 ?_
    refine ex_s (st_icmp rfl) ?_
    by_cases c2 : (a 175 (w1.toNatClampNeg)) ≤ v3
    · have e := (if_pos c2).symm.trans e
      refine ex_pc (if_pos c2) ?_
      cases e
      exact le_E (l1 := []) trivial rfl (k0 rfl H hS)
    · have e := (if_neg c2).symm.trans e
      refine ex_pc (if_neg c2) ?_
      refine ex_s (am_nb (m := 2) (pc1 := 15) (ls1 := [(4, .int 0), (0, .ref 157), (1, .int w1), (3, .int v3)]) (st1 := []) (H1 := H) (k1 := 0) (n1 := 0) (by with_unfolding_all rfl)) ?_
      obtain ⟨z22, e23, e⟩ := Option.bind_eq_some_iff.mp e
      refine le_E (l1 := [(0, .ref 157), (1, .int w1), (3, .int v3), (4, .int 0)]) ⟨rfl, rfl, rfl, rfl, trivial⟩ rfl (tl316_15 (z := z22)  (fun uz22_0 Hz220 sz220 => ?_) N 0 a H hS e23)
      refine ex_s (am_nb (m := 2) (pc1 := 2) (ls1 := [(3, .int (v3 + 1)), (0, .ref 157), (1, .int w1)]) (st1 := []) (H1 := Hz220) (k1 := 0) (n1 := 0) (by with_unfolding_all rfl)) ?_
      exact le_E (l1 := [(0, .ref 157), (1, .int w1), (3, .int (v3 + 1))]) ⟨rfl, rfl, rfl, trivial⟩ rfl (ih (v3 + 1) z22.2 Hz220 sz220 e)

set_option maxRecDepth 100000 in
theorem tf316_up {sL : Nat} {sx : Nat → Int32} {h b N : Nat} {T : List am_C} {a' : xA} {x0 : Int32} {x1 : Int32} {a : xA} {H : am_H} (hS : xS h b T a H) (e : f316_up N h b x0 x1 a = some a') : am_E sL sx am_cs 316 0 [(0, .ref 157), (1, .int x0), (2, .int x1)] [] H none (fun H1 => xS h b T a' H1) := by
  unfold f316_up at e
  refine ex_s (am_nb (m := 2) (pc1 := 2) (ls1 := [(3, .int x1), (0, .ref 157), (1, .int x0), (2, .int x1)]) (st1 := []) (H1 := H) (k1 := 0) (n1 := 0) (by with_unfolding_all rfl)) ?_
  obtain ⟨z24, e25, e⟩ := Option.bind_eq_some_iff.mp e
  refine le_E (l1 := [(0, .ref 157), (1, .int x0), (3, .int x1)]) ⟨rfl, rfl, rfl, trivial⟩ rfl (tl316_2 (z := z24)  (fun uz24_0 Hz240 sz240 => ?_) N x1 a H hS e25)
  cases e
  exact ex_r (st_vret rfl rfl) sz240

set_option maxRecDepth 100000 in
theorem tj315_64 {sL : Nat} {sx : Nat → Int32} {h b N : Nat} {T : List am_C} {r : Int32} {a' : xA} {q1 : Int32} {a : xA} {H : am_H} (hS : xS h b T a H) (e : j315_64 N h b q1 a = some (r, a')) : am_E sL sx am_cs 315 64 [(0, .ref 157), (1, .int q1)] [] H (some (.int r)) (fun H1 => xS h b T a' H1) := by
  unfold j315_64 at e
  refine ex_s (am_nb (m := 1) (pc1 := 65) (ls1 := [(0, .ref 157), (1, .int q1)]) (st1 := [.ref 157]) (H1 := H) (k1 := 0) (n1 := 0) (by with_unfolding_all rfl)) ?_
  refine xe_get (v := .ref 178) hS rfl rfl (by decide) rfl ?_
  refine ex_s (am_nb (m := 2) (pc1 := 70) (ls1 := [(0, .ref 157), (1, .int q1)]) (st1 := [.int 0, .int q1, .ref 178]) (H1 := H) (k1 := 0) (n1 := 0) (by with_unfolding_all rfl)) ?_
  obtain ⟨g15, e⟩ := xg_some e
  obtain ⟨a12, ha12, e⟩ := xw_some e
  refine xe_iast hS rfl rfl g15 (fun H13 s14 => ?_)
  have s14 : xS h b T a12 H13 := by rw [ha12]; exact s14
  refine ex_s (am_nb (m := 1) (pc1 := 72) (ls1 := [(0, .ref 157), (1, .int q1)]) (st1 := [.int 1]) (H1 := H13) (k1 := 0) (n1 := 0) (by with_unfolding_all rfl)) ?_
  cases e
  exact ex_r (st_iret rfl rfl rfl) s14

set_option maxRecDepth 100000 in
theorem tj315_28 {sL : Nat} {sx : Nat → Int32} {h b N : Nat} {T : List am_C} {r : Int32} {a' : xA} {q1 : Int32} {a : xA} {H : am_H} (hS : xS h b T a H) (e : j315_28 N h b q1 a = some (r, a')) : am_E sL sx am_cs 315 28 [(0, .ref 157), (1, .int q1)] [] H (some (.int r)) (fun H1 => xS h b T a' H1) := by
  unfold j315_28 at e
  refine ex_s (am_nb (m := 1) (pc1 := 29) (ls1 := [(0, .ref 157), (1, .int q1)]) (st1 := [.ref 157]) (H1 := H) (k1 := 0) (n1 := 0) (by with_unfolding_all rfl)) ?_
  refine xe_get (v := .ref 177) hS rfl rfl (by decide) rfl ?_
  refine ex_s (am_nb (m := 1) (pc1 := 33) (ls1 := [(0, .ref 157), (1, .int q1)]) (st1 := [.int q1, .ref 177]) (H1 := H) (k1 := 0) (n1 := 0) (by with_unfolding_all rfl)) ?_
  obtain ⟨g5, e⟩ := xg_some e
  refine xe_iald hS rfl rfl g5 ?_
  refine ex_s (am_nb (m := 1) (pc1 := 35) (ls1 := [(0, .ref 157), (1, .int q1)]) (st1 := [.ref 157, .int (a 177 (q1.toNatClampNeg))]) (H1 := H) (k1 := 0) (n1 := 0) (by with_unfolding_all rfl)) ?_
  refine xe_get (v := .ref 175) hS rfl rfl (by decide) rfl ?_
  refine ex_s (am_nb (m := 1) (pc1 := 39) (ls1 := [(0, .ref 157), (1, .int q1)]) (st1 := [.int q1, .ref 175, .int (a 177 (q1.toNatClampNeg))]) (H1 := H) (k1 := 0) (n1 := 0) (by with_unfolding_all rfl)) ?_
  refine xe_iald hS rfl rfl g5 ?_
  refine ex_s (am_nb (m := 2) (pc1 := 42) (ls1 := [(0, .ref 157), (1, .int q1)]) (st1 := [.int ((a 175 (q1.toNatClampNeg)) - 1), .int (a 177 (q1.toNatClampNeg))]) (H1 := H) (k1 := 0) (n1 := 0) (by with_unfolding_all rfl)) ?_
  refine ex_s (st_icmp rfl) ?_
  by_cases c7 : (a 177 (q1.toNatClampNeg)) = ((a 175 (q1.toNatClampNeg)) - 1)
  · have e := (if_pos c7).symm.trans e
    refine ex_pc (if_pos c7) ?_
    refine ex_s (am_nb (m := 3) (pc1 := 48) (ls1 := [(0, .ref 157), (1, .int q1)]) (st1 := [.int 0, .int q1, .ref 157]) (H1 := H) (k1 := 0) (n1 := 0) (by with_unfolding_all rfl)) ?_
    obtain ⟨a11, e10, e⟩ := xb1_some e
    refine ex_cv0 (as := [.int q1, .int 0]) (rest := []) rfl rfl rfl rfl (hS.obj rfl (by decide)) rfl (by with_unfolding_all rfl) (by with_unfolding_all rfl) (tf316_up hS e10) (fun H8 s9 => ?_)
    refine ex_s (am_nb (m := 1) (pc1 := 64) (ls1 := [(0, .ref 157), (1, .int q1)]) (st1 := []) (H1 := H8) (k1 := 0) (n1 := 0) (by with_unfolding_all rfl)) ?_
    exact le_E (l1 := [(0, .ref 157), (1, .int q1)]) ⟨rfl, rfl, trivial⟩ rfl (tj315_64  s9 e)
  · have e := (if_neg c7).symm.trans e
    refine ex_pc (if_neg c7) ?_
    refine ex_s (am_nb (m := 1) (pc1 := 55) (ls1 := [(0, .ref 157), (1, .int q1)]) (st1 := [.ref 157]) (H1 := H) (k1 := 0) (n1 := 0) (by with_unfolding_all rfl)) ?_
    refine xe_get (v := .ref 177) hS rfl rfl (by decide) rfl ?_
    refine ex_s (am_nb (m := 2) (pc1 := 60) (ls1 := [(0, .ref 157), (1, .int q1)]) (st1 := [.int q1, .ref 177, .int q1, .ref 177]) (H1 := H) (k1 := 0) (n1 := 0) (by with_unfolding_all rfl)) ?_
    refine xe_iald hS rfl rfl g5 ?_
    refine ex_s (am_nb (m := 2) (pc1 := 63) (ls1 := [(0, .ref 157), (1, .int q1)]) (st1 := [.int ((a 177 (q1.toNatClampNeg)) + 1), .int q1, .ref 177]) (H1 := H) (k1 := 0) (n1 := 0) (by with_unfolding_all rfl)) ?_
    obtain ⟨a16, ha16, e⟩ := xw_some e
    refine xe_iast hS rfl rfl g5 (fun H17 s18 => ?_)
    have s18 : xS h b T a16 H17 := by rw [ha16]; exact s18
    exact le_E (l1 := [(0, .ref 157), (1, .int q1)]) ⟨rfl, rfl, trivial⟩ rfl (tj315_64  s18 e)

set_option maxRecDepth 100000 in
theorem tf315_nextRow {sL : Nat} {sx : Nat → Int32} {h b N : Nat} {T : List am_C} {r : Int32} {a' : xA} {x0 : Int32} {a : xA} {H : am_H} (hS : xS h b T a H) (e : f315_nextRow N h b x0 a = some (r, a')) : am_E sL sx am_cs 315 0 [(0, .ref 157), (1, .int x0)] [] H (some (.int r)) (fun H1 => xS h b T a' H1) := by
  unfold f315_nextRow at e
  refine ex_s (am_nb (m := 1) (pc1 := 1) (ls1 := [(0, .ref 157), (1, .int x0)]) (st1 := [.ref 157]) (H1 := H) (k1 := 0) (n1 := 0) (by with_unfolding_all rfl)) ?_
  refine xe_get (v := .ref 177) hS rfl rfl (by decide) rfl ?_
  refine ex_s (am_nb (m := 1) (pc1 := 5) (ls1 := [(0, .ref 157), (1, .int x0)]) (st1 := [.int x0, .ref 177]) (H1 := H) (k1 := 0) (n1 := 0) (by with_unfolding_all rfl)) ?_
  obtain ⟨g1, e⟩ := xg_some e
  refine xe_iald hS rfl rfl g1 ?_
  refine ex_s (am_nb (m := 1) (pc1 := 7) (ls1 := [(0, .ref 157), (1, .int x0)]) (st1 := [.ref 157, .int (a 177 (x0.toNatClampNeg))]) (H1 := H) (k1 := 0) (n1 := 0) (by with_unfolding_all rfl)) ?_
  refine xe_get (v := .ref 175) hS rfl rfl (by decide) rfl ?_
  refine ex_s (am_nb (m := 1) (pc1 := 11) (ls1 := [(0, .ref 157), (1, .int x0)]) (st1 := [.int x0, .ref 175, .int (a 177 (x0.toNatClampNeg))]) (H1 := H) (k1 := 0) (n1 := 0) (by with_unfolding_all rfl)) ?_
  refine xe_iald hS rfl rfl g1 ?_
  refine ex_s (am_nb (m := 2) (pc1 := 14) (ls1 := [(0, .ref 157), (1, .int x0)]) (st1 := [.int ((a 175 (x0.toNatClampNeg)) - 1), .int (a 177 (x0.toNatClampNeg))]) (H1 := H) (k1 := 0) (n1 := 0) (by with_unfolding_all rfl)) ?_
  refine ex_s (st_icmp rfl) ?_
  by_cases c3 : (a 177 (x0.toNatClampNeg)) = ((a 175 (x0.toNatClampNeg)) - 1)
  · have e := (if_pos c3).symm.trans e
    refine ex_pc (if_pos c3) ?_
    refine ex_s (am_nb (m := 1) (pc1 := 18) (ls1 := [(0, .ref 157), (1, .int x0)]) (st1 := [.ref 157]) (H1 := H) (k1 := 0) (n1 := 0) (by with_unfolding_all rfl)) ?_
    refine xe_get (v := .ref 180) hS rfl rfl (by decide) rfl ?_
    refine ex_s (am_nb (m := 1) (pc1 := 22) (ls1 := [(0, .ref 157), (1, .int x0)]) (st1 := [.int x0, .ref 180]) (H1 := H) (k1 := 0) (n1 := 0) (by with_unfolding_all rfl)) ?_
    refine xe_zald hS rfl rfl g1 ?_
    refine ex_s (st_if rfl) ?_
    by_cases c4 : (a 180 (x0.toNatClampNeg)) = 0
    · have e := (if_pos c4).symm.trans e
      refine ex_pc (if_pos c4) ?_
      refine ex_s (am_nb (m := 1) (pc1 := 27) (ls1 := [(0, .ref 157), (1, .int x0)]) (st1 := [.int 0]) (H1 := H) (k1 := 0) (n1 := 0) (by with_unfolding_all rfl)) ?_
      cases e
      exact ex_r (st_iret rfl rfl rfl) hS
    · have e := (if_neg c4).symm.trans e
      refine ex_pc (if_neg c4) ?_
      exact le_E (l1 := [(0, .ref 157), (1, .int x0)]) ⟨rfl, rfl, trivial⟩ rfl (tj315_28  hS e)
  · have e := (if_neg c3).symm.trans e
    refine ex_pc (if_neg c3) ?_
    exact le_E (l1 := [(0, .ref 157), (1, .int x0)]) ⟨rfl, rfl, trivial⟩ rfl (tj315_28  hS e)

set_option maxRecDepth 100000 in
theorem tf313_letter {sL : Nat} {sx : Nat → Int32} {h b N : Nat} {T : List am_C} {r : Int32} {a' : xA} {x0 : Int32} {x1 : Int32} {a : xA} {H : am_H} (hS : xS h b T a H) (e : f313_letter N h b x0 x1 a = some (r, a')) : am_E sL sx am_cs 313 0 [(0, .ref 157), (1, .int x0), (2, .int x1)] [] H (some (.int r)) (fun H1 => xS h b T a' H1) := by
  unfold f313_letter at e
  refine ex_s (am_nb (m := 1) (pc1 := 1) (ls1 := [(0, .ref 157), (1, .int x0), (2, .int x1)]) (st1 := [.ref 157]) (H1 := H) (k1 := 0) (n1 := 0) (by with_unfolding_all rfl)) ?_
  refine xe_get (v := .ref 181) hS rfl rfl (by decide) rfl ?_
  refine ex_s (am_nb (m := 3) (pc1 := 7) (ls1 := [(0, .ref 157), (1, .int x0), (2, .int x1)]) (st1 := [.ref 157, .int x0, .ref 157, .ref 181]) (H1 := H) (k1 := 0) (n1 := 0) (by with_unfolding_all rfl)) ?_
  refine xe_get (v := .ref 177) hS rfl rfl (by decide) rfl ?_
  refine ex_s (am_nb (m := 1) (pc1 := 11) (ls1 := [(0, .ref 157), (1, .int x0), (2, .int x1)]) (st1 := [.int x0, .ref 177, .int x0, .ref 157, .ref 181]) (H1 := H) (k1 := 0) (n1 := 0) (by with_unfolding_all rfl)) ?_
  obtain ⟨g1, e⟩ := xg_some e
  refine xe_iald hS rfl rfl g1 ?_
  refine ex_s (am_nb (m := 1) (pc1 := 13) (ls1 := [(0, .ref 157), (1, .int x0), (2, .int x1)]) (st1 := [.ref 157, .int (a 177 (x0.toNatClampNeg)), .int x0, .ref 157, .ref 181]) (H1 := H) (k1 := 0) (n1 := 0) (by with_unfolding_all rfl)) ?_
  refine xe_get (v := .ref 178) hS rfl rfl (by decide) rfl ?_
  refine ex_s (am_nb (m := 1) (pc1 := 17) (ls1 := [(0, .ref 157), (1, .int x0), (2, .int x1)]) (st1 := [.int x0, .ref 178, .int (a 177 (x0.toNatClampNeg)), .int x0, .ref 157, .ref 181]) (H1 := H) (k1 := 0) (n1 := 0) (by with_unfolding_all rfl)) ?_
  refine xe_iald hS rfl rfl g1 ?_
  obtain ⟨r5, a6, e4, e⟩ := xb2_some e
  refine ex_cv1 (as := [.int x0, .int (a 177 (x0.toNatClampNeg)), .int (a 178 (x0.toNatClampNeg))]) (rest := [.ref 181]) rfl rfl rfl rfl (hS.obj rfl (by decide)) rfl (by with_unfolding_all rfl) (by with_unfolding_all rfl) (tf314_cellAt hS e4) (fun H2 s3 => ?_)
  refine ex_s (am_nb (m := 3) (pc1 := 26) (ls1 := [(0, .ref 157), (1, .int x0), (2, .int x1)]) (st1 := [.ref 157, .int 256, .int x1, .int r5, .ref 181]) (H1 := H2) (k1 := 0) (n1 := 0) (by with_unfolding_all rfl)) ?_
  refine xe_get (v := .ref 179) s3 rfl rfl (by decide) rfl ?_
  refine ex_s (am_nb (m := 1) (pc1 := 30) (ls1 := [(0, .ref 157), (1, .int x0), (2, .int x1)]) (st1 := [.int x0, .ref 179, .int 256, .int x1, .int r5, .ref 181]) (H1 := H2) (k1 := 0) (n1 := 0) (by with_unfolding_all rfl)) ?_
  refine xe_iald s3 rfl rfl g1 ?_
  refine ex_s (am_nb (m := 2) (pc1 := 33) (ls1 := [(0, .ref 157), (1, .int x0), (2, .int x1)]) (st1 := [.int (x1 + (256 * (a6 179 (x0.toNatClampNeg)))), .int r5, .ref 181]) (H1 := H2) (k1 := 0) (n1 := 0) (by with_unfolding_all rfl)) ?_
  obtain ⟨g10, e⟩ := xg_some e
  obtain ⟨a7, ha7, e⟩ := xw_some e
  refine xe_iast s3 rfl rfl g10 (fun H8 s9 => ?_)
  have s9 : xS h b T a7 H8 := by rw [ha7]; exact s9
  refine ex_s (am_nb (m := 1) (pc1 := 35) (ls1 := [(0, .ref 157), (1, .int x0), (2, .int x1)]) (st1 := [.ref 157]) (H1 := H8) (k1 := 0) (n1 := 0) (by with_unfolding_all rfl)) ?_
  refine xe_get (v := .ref 178) s9 rfl rfl (by decide) rfl ?_
  refine ex_s (am_nb (m := 1) (pc1 := 39) (ls1 := [(0, .ref 157), (1, .int x0), (2, .int x1)]) (st1 := [.int x0, .ref 178]) (H1 := H8) (k1 := 0) (n1 := 0) (by with_unfolding_all rfl)) ?_
  refine xe_iald s9 rfl rfl g1 ?_
  refine ex_s (am_nb (m := 1) (pc1 := 41) (ls1 := [(0, .ref 157), (1, .int x0), (2, .int x1)]) (st1 := [.ref 157, .int (a7 178 (x0.toNatClampNeg))]) (H1 := H8) (k1 := 0) (n1 := 0) (by with_unfolding_all rfl)) ?_
  refine xe_get (v := .ref 176) s9 rfl rfl (by decide) rfl ?_
  refine ex_s (am_nb (m := 1) (pc1 := 45) (ls1 := [(0, .ref 157), (1, .int x0), (2, .int x1)]) (st1 := [.int x0, .ref 176, .int (a7 178 (x0.toNatClampNeg))]) (H1 := H8) (k1 := 0) (n1 := 0) (by with_unfolding_all rfl)) ?_
  refine xe_iald s9 rfl rfl g1 ?_
  refine ex_s (am_nb (m := 2) (pc1 := 48) (ls1 := [(0, .ref 157), (1, .int x0), (2, .int x1)]) (st1 := [.int ((a7 176 (x0.toNatClampNeg)) - 1), .int (a7 178 (x0.toNatClampNeg))]) (H1 := H8) (k1 := 0) (n1 := 0) (by with_unfolding_all rfl)) ?_
  refine ex_s (st_icmp rfl) ?_
  by_cases c11 : ((a7 176 (x0.toNatClampNeg)) - 1) ≤ (a7 178 (x0.toNatClampNeg))
  · have e := (if_pos c11).symm.trans e
    refine ex_pc (if_pos c11) ?_
    refine ex_s (am_nb (m := 2) (pc1 := 65) (ls1 := [(0, .ref 157), (1, .int x0), (2, .int x1)]) (st1 := [.int x0, .ref 157]) (H1 := H8) (k1 := 0) (n1 := 0) (by with_unfolding_all rfl)) ?_
    obtain ⟨r15, a16, e14, e⟩ := xb2_some e
    refine ex_cv1 (as := [.int x0]) (rest := []) rfl rfl rfl rfl (s9.obj rfl (by decide)) rfl (by with_unfolding_all rfl) (by with_unfolding_all rfl) (tf315_nextRow s9 e14) (fun H12 s13 => ?_)
    obtain ⟨g17, e⟩ := xg_some e
    cases e
    exact ex_r (st_iret rfl rfl (xnar_z g17)) s13
  · have e := (if_neg c11).symm.trans e
    refine ex_pc (if_neg c11) ?_
    refine ex_s (am_nb (m := 1) (pc1 := 52) (ls1 := [(0, .ref 157), (1, .int x0), (2, .int x1)]) (st1 := [.ref 157]) (H1 := H8) (k1 := 0) (n1 := 0) (by with_unfolding_all rfl)) ?_
    refine xe_get (v := .ref 178) s9 rfl rfl (by decide) rfl ?_
    refine ex_s (am_nb (m := 2) (pc1 := 57) (ls1 := [(0, .ref 157), (1, .int x0), (2, .int x1)]) (st1 := [.int x0, .ref 178, .int x0, .ref 178]) (H1 := H8) (k1 := 0) (n1 := 0) (by with_unfolding_all rfl)) ?_
    refine xe_iald s9 rfl rfl g1 ?_
    refine ex_s (am_nb (m := 2) (pc1 := 60) (ls1 := [(0, .ref 157), (1, .int x0), (2, .int x1)]) (st1 := [.int ((a7 178 (x0.toNatClampNeg)) + 1), .int x0, .ref 178]) (H1 := H8) (k1 := 0) (n1 := 0) (by with_unfolding_all rfl)) ?_
    obtain ⟨a18, ha18, e⟩ := xw_some e
    refine xe_iast s9 rfl rfl g1 (fun H19 s20 => ?_)
    have s20 : xS h b T a18 H19 := by rw [ha18]; exact s20
    refine ex_s (am_nb (m := 1) (pc1 := 62) (ls1 := [(0, .ref 157), (1, .int x0), (2, .int x1)]) (st1 := [.int 1]) (H1 := H19) (k1 := 0) (n1 := 0) (by with_unfolding_all rfl)) ?_
    cases e
    exact ex_r (st_iret rfl rfl rfl) s20

set_option maxRecDepth 100000 in
theorem tl317_3 {sL : Nat} {sx : Nat → Int32} {h b N : Nat} {T : List am_C} {R : Option Value} {F : am_H → Prop} {w1 : Int32} {w2 : Int32} {w4 : Int32} {z : Nat × xA} (k0 : z.1 = 0 → ∀ H2 : am_H, xS h b T z.2 H2 → am_E sL sx am_cs 317 31 [] [] H2 R F) : ∀ (n : Nat) (v5 : Int32) (a : xA) (H : am_H), xS h b T a H → l317_3 N h b w1 w2 w4 n v5 a = some z → am_E sL sx am_cs 317 3 [(0, .ref 157), (1, .int w1), (2, .int w2), (4, .int w4), (5, .int v5)] [] H R F := by
  intro n
  induction n with
  | zero =>
    intro v5 a H hS e
    cases e
  | succ n ih =>
    intro v5 a H hS e
    unfold l317_3 at e
    refine ex_s (am_nb (m := 2) (pc1 := 7) (ls1 := [(0, .ref 157), (1, .int w1), (2, .int w2), (4, .int w4), (5, .int v5)]) (st1 := [.int w4, .int v5]) (H1 := H) (k1 := 0) (n1 := 0) (by with_unfolding_all rfl)) ?_
    refine ex_s (st_icmp rfl) ?_
    by_cases c1 : w4 ≤ v5
    · have e := (if_pos c1).symm.trans e
      refine ex_pc (if_pos c1) ?_
      cases e
      exact le_E (l1 := []) trivial rfl (k0 rfl H hS)
    · have e := (if_neg c1).symm.trans e
      refine ex_pc (if_neg c1) ?_
      refine ex_s (am_nb (m := 1) (pc1 := 11) (ls1 := [(0, .ref 157), (1, .int w1), (2, .int w2), (4, .int w4), (5, .int v5)]) (st1 := [.ref 157]) (H1 := H) (k1 := 0) (n1 := 0) (by with_unfolding_all rfl)) ?_
      refine xe_get (v := .ref 181) hS rfl rfl (by decide) rfl ?_
      refine ex_s (am_nb (m := 4) (pc1 := 19) (ls1 := [(0, .ref 157), (1, .int w1), (2, .int w2), (4, .int w4), (5, .int v5)]) (st1 := [.int v5, .int w2, .int w1, .ref 157, .ref 181]) (H1 := H) (k1 := 0) (n1 := 0) (by with_unfolding_all rfl)) ?_
      obtain ⟨r5, a6, e4, e⟩ := xb2_some e
      refine ex_cv1 (as := [.int w1, .int w2, .int v5]) (rest := [.ref 181]) rfl rfl rfl rfl (hS.obj rfl (by decide)) rfl (by with_unfolding_all rfl) (by with_unfolding_all rfl) (tf314_cellAt hS e4) (fun H2 s3 => ?_)
      refine ex_s (am_nb (m := 1) (pc1 := 24) (ls1 := [(0, .ref 157), (1, .int w1), (2, .int w2), (4, .int w4), (5, .int v5)]) (st1 := [.int 32, .int r5, .ref 181]) (H1 := H2) (k1 := 0) (n1 := 0) (by with_unfolding_all rfl)) ?_
      obtain ⟨g10, e⟩ := xg_some e
      obtain ⟨a7, ha7, e⟩ := xw_some e
      refine xe_iast s3 rfl rfl g10 (fun H8 s9 => ?_)
      have s9 : xS h b T a7 H8 := by rw [ha7]; exact s9
      refine ex_s (am_nb (m := 2) (pc1 := 3) (ls1 := [(5, .int (v5 + 1)), (0, .ref 157), (1, .int w1), (2, .int w2), (4, .int w4)]) (st1 := []) (H1 := H8) (k1 := 0) (n1 := 0) (by with_unfolding_all rfl)) ?_
      exact le_E (l1 := [(0, .ref 157), (1, .int w1), (2, .int w2), (4, .int w4), (5, .int (v5 + 1))]) ⟨rfl, rfl, rfl, rfl, rfl, trivial⟩ rfl (ih (v5 + 1) a7 H8 s9 e)

set_option maxRecDepth 100000 in
theorem tf317_clears {sL : Nat} {sx : Nat → Int32} {h b N : Nat} {T : List am_C} {a' : xA} {x0 : Int32} {x1 : Int32} {x2 : Int32} {x3 : Int32} {a : xA} {H : am_H} (hS : xS h b T a H) (e : f317_clears N h b x0 x1 x2 x3 a = some a') : am_E sL sx am_cs 317 0 [(0, .ref 157), (1, .int x0), (2, .int x1), (3, .int x2), (4, .int x3)] [] H none (fun H1 => xS h b T a' H1) := by
  unfold f317_clears at e
  refine ex_s (am_nb (m := 2) (pc1 := 3) (ls1 := [(5, .int x2), (0, .ref 157), (1, .int x0), (2, .int x1), (3, .int x2), (4, .int x3)]) (st1 := []) (H1 := H) (k1 := 0) (n1 := 0) (by with_unfolding_all rfl)) ?_
  obtain ⟨z11, e12, e⟩ := Option.bind_eq_some_iff.mp e
  refine le_E (l1 := [(0, .ref 157), (1, .int x0), (2, .int x1), (4, .int x3), (5, .int x2)]) ⟨rfl, rfl, rfl, rfl, rfl, trivial⟩ rfl (tl317_3 (z := z11)  (fun uz11_0 Hz110 sz110 => ?_) N x2 a H hS e12)
  cases e
  exact ex_r (st_vret rfl rfl) sz110

set_option maxRecDepth 100000 in
theorem tj312_268 {sL : Nat} {sx : Nat → Int32} {h b N : Nat} {T : List am_C} {R : Option Value} {F : am_H → Prop} {w2 : Int32} {w3 : Int32} {z : Nat × Int32 × xA} {rc : Int32 → xA → Option (Nat × Int32 × xA)} (k0 : z.1 = 0 → ∀ H2 : am_H, xS h b T z.2.2 H2 → am_E sL sx am_cs 312 111 [(4, .int z.2.1)] [] H2 R F) (k1 : z.1 = 1 → ∀ H2 : am_H, xS h b T z.2.2 H2 → am_E sL sx am_cs 312 273 [(4, .int z.2.1)] [] H2 R F) (k2 : z.1 = 2 → ∀ H2 : am_H, xS h b T z.2.2 H2 → am_E sL sx am_cs 312 284 [(2, .int w2)] [] H2 R F) (ih : ∀ (v4 : Int32) (a : xA) (H : am_H), xS h b T a H → rc v4 a = some z → am_E sL sx am_cs 312 30 [(0, .ref 157), (2, .int w2), (3, .int w3), (4, .int v4)] [] H R F) {q4 : Int32} {q6 : Int32} {a : xA} {H : am_H} (hS : xS h b T a H) (e : j312_268 N h b rc w2 w3 q4 q6 a = some z) : am_E sL sx am_cs 312 268 [(0, .ref 157), (2, .int w2), (3, .int w3), (4, .int q4), (6, .int q6)] [] H R F := by
  unfold j312_268 at e
  refine ex_s (am_nb (m := 1) (pc1 := 270) (ls1 := [(0, .ref 157), (2, .int w2), (3, .int w3), (4, .int q4), (6, .int q6)]) (st1 := [.int q6]) (H1 := H) (k1 := 0) (n1 := 0) (by with_unfolding_all rfl)) ?_
  refine ex_s (st_if rfl) ?_
  by_cases c33 : q6 = 0
  · have e := (if_pos c33).symm.trans e
    refine ex_pc (if_pos c33) ?_
    cases e
    exact le_E (l1 := [(4, .int q4)]) ⟨rfl, trivial⟩ rfl (k1 rfl H hS)
  · have e := (if_neg c33).symm.trans e
    refine ex_pc (if_neg c33) ?_
    refine ex_s (am_nb (m := 2) (pc1 := 30) (ls1 := [(4, .int (q4 + 1)), (0, .ref 157), (2, .int w2), (3, .int w3), (6, .int q6)]) (st1 := []) (H1 := H) (k1 := 0) (n1 := 0) (by with_unfolding_all rfl)) ?_
    exact le_E (l1 := [(0, .ref 157), (2, .int w2), (3, .int w3), (4, .int (q4 + 1))]) ⟨rfl, rfl, rfl, rfl, trivial⟩ rfl (ih (q4 + 1) a H hS e)

set_option maxRecDepth 100000 in
theorem tj312_114 {sL : Nat} {sx : Nat → Int32} {h b N : Nat} {T : List am_C} {R : Option Value} {F : am_H → Prop} {w2 : Int32} {w3 : Int32} {z : Nat × Int32 × xA} {rc : Int32 → xA → Option (Nat × Int32 × xA)} (k0 : z.1 = 0 → ∀ H2 : am_H, xS h b T z.2.2 H2 → am_E sL sx am_cs 312 111 [(4, .int z.2.1)] [] H2 R F) (k1 : z.1 = 1 → ∀ H2 : am_H, xS h b T z.2.2 H2 → am_E sL sx am_cs 312 273 [(4, .int z.2.1)] [] H2 R F) (k2 : z.1 = 2 → ∀ H2 : am_H, xS h b T z.2.2 H2 → am_E sL sx am_cs 312 284 [(2, .int w2)] [] H2 R F) (ih : ∀ (v4 : Int32) (a : xA) (H : am_H), xS h b T a H → rc v4 a = some z → am_E sL sx am_cs 312 30 [(0, .ref 157), (2, .int w2), (3, .int w3), (4, .int v4)] [] H R F) {q4 : Int32} {q6 : Int32} {a : xA} {H : am_H} (hS : xS h b T a H) (e : j312_114 N h b rc w2 w3 q4 q6 a = some z) : am_E sL sx am_cs 312 114 [(0, .ref 157), (2, .int w2), (3, .int w3), (4, .int q4), (6, .int q6)] [] H R F := by
  unfold j312_114 at e
  refine ex_s (am_nb (m := 3) (pc1 := 117) (ls1 := [(0, .ref 157), (2, .int w2), (3, .int w3), (4, .int q4), (6, .int q6)]) (st1 := [.ref 157, .int w3, .ref 157]) (H1 := H) (k1 := 0) (n1 := 0) (by with_unfolding_all rfl)) ?_
  refine xe_get (v := .ref 177) hS rfl rfl (by decide) rfl ?_
  refine ex_s (am_nb (m := 1) (pc1 := 121) (ls1 := [(0, .ref 157), (2, .int w2), (3, .int w3), (4, .int q4), (6, .int q6)]) (st1 := [.int w3, .ref 177, .int w3, .ref 157]) (H1 := H) (k1 := 0) (n1 := 0) (by with_unfolding_all rfl)) ?_
  obtain ⟨g23, e⟩ := xg_some e
  refine xe_iald hS rfl rfl g23 ?_
  refine ex_s (am_nb (m := 1) (pc1 := 123) (ls1 := [(0, .ref 157), (2, .int w2), (3, .int w3), (4, .int q4), (6, .int q6)]) (st1 := [.ref 157, .int (a 177 (w3.toNatClampNeg)), .int w3, .ref 157]) (H1 := H) (k1 := 0) (n1 := 0) (by with_unfolding_all rfl)) ?_
  refine xe_get (v := .ref 178) hS rfl rfl (by decide) rfl ?_
  refine ex_s (am_nb (m := 1) (pc1 := 127) (ls1 := [(0, .ref 157), (2, .int w2), (3, .int w3), (4, .int q4), (6, .int q6)]) (st1 := [.int w3, .ref 178, .int (a 177 (w3.toNatClampNeg)), .int w3, .ref 157]) (H1 := H) (k1 := 0) (n1 := 0) (by with_unfolding_all rfl)) ?_
  refine xe_iald hS rfl rfl g23 ?_
  refine ex_s (am_nb (m := 1) (pc1 := 129) (ls1 := [(0, .ref 157), (2, .int w2), (3, .int w3), (4, .int q4), (6, .int q6)]) (st1 := [.ref 157, .int (a 178 (w3.toNatClampNeg)), .int (a 177 (w3.toNatClampNeg)), .int w3, .ref 157]) (H1 := H) (k1 := 0) (n1 := 0) (by with_unfolding_all rfl)) ?_
  refine xe_get (v := .ref 176) hS rfl rfl (by decide) rfl ?_
  refine ex_s (am_nb (m := 1) (pc1 := 133) (ls1 := [(0, .ref 157), (2, .int w2), (3, .int w3), (4, .int q4), (6, .int q6)]) (st1 := [.int w3, .ref 176, .int (a 178 (w3.toNatClampNeg)), .int (a 177 (w3.toNatClampNeg)), .int w3, .ref 157]) (H1 := H) (k1 := 0) (n1 := 0) (by with_unfolding_all rfl)) ?_
  refine xe_iald hS rfl rfl g23 ?_
  obtain ⟨a27, e26, e⟩ := xb1_some e
  refine ex_cv0 (as := [.int w3, .int (a 177 (w3.toNatClampNeg)), .int (a 178 (w3.toNatClampNeg)), .int (a 176 (w3.toNatClampNeg))]) (rest := []) rfl rfl rfl rfl (hS.obj rfl (by decide)) rfl (by with_unfolding_all rfl) (by with_unfolding_all rfl) (tf317_clears hS e26) (fun H24 s25 => ?_)
  refine ex_s (am_nb (m := 2) (pc1 := 139) (ls1 := [(0, .ref 157), (2, .int w2), (3, .int w3), (4, .int q4), (6, .int q6)]) (st1 := [.int w3, .ref 157]) (H1 := H24) (k1 := 0) (n1 := 0) (by with_unfolding_all rfl)) ?_
  obtain ⟨r31, a32, e30, e⟩ := xb2_some e
  refine ex_cv1 (as := [.int w3]) (rest := []) rfl rfl rfl rfl (s25.obj rfl (by decide)) rfl (by with_unfolding_all rfl) (by with_unfolding_all rfl) (tf315_nextRow s25 e30) (fun H28 s29 => ?_)
  refine ex_s (am_nb (m := 2) (pc1 := 268) (ls1 := [(0, .ref 157), (2, .int w2), (3, .int w3), (4, .int q4), (6, .int q6)]) (st1 := []) (H1 := H28) (k1 := 0) (n1 := 0) (by with_unfolding_all rfl)) ?_
  exact le_E (l1 := [(0, .ref 157), (2, .int w2), (3, .int w3), (4, .int q4), (6, .int q6)]) ⟨rfl, rfl, rfl, rfl, rfl, trivial⟩ rfl (tj312_268 k0 k1 k2 ih  s29 e)

set_option maxRecDepth 100000 in
theorem tl312_183 {sL : Nat} {sx : Nat → Int32} {h b N : Nat} {T : List am_C} {R : Option Value} {F : am_H → Prop} {w2 : Int32} {w3 : Int32} {w4 : Int32} {z : Nat × Int32 × xA} (k0 : z.1 = 0 → ∀ H2 : am_H, xS h b T z.2.2 H2 → am_E sL sx am_cs 312 208 [(0, .ref 157), (2, .int w2), (3, .int w3), (4, .int w4), (6, .int z.2.1)] [] H2 R F) : ∀ (n : Nat) (v6 : Int32) (v7 : Int32) (a : xA) (H : am_H), xS h b T a H → l312_183 N h b w2 w3 w4 n v6 v7 a = some z → am_E sL sx am_cs 312 183 [(0, .ref 157), (2, .int w2), (3, .int w3), (4, .int w4), (6, .int v6), (7, .int v7)] [] H R F := by
  intro n
  induction n with
  | zero =>
    intro v6 v7 a H hS e
    cases e
  | succ n ih =>
    intro v6 v7 a H hS e
    unfold l312_183 at e
    refine ex_s (am_nb (m := 1) (pc1 := 185) (ls1 := [(0, .ref 157), (2, .int w2), (3, .int w3), (4, .int w4), (6, .int v6), (7, .int v7)]) (st1 := [.int v7]) (H1 := H) (k1 := 0) (n1 := 0) (by with_unfolding_all rfl)) ?_
    refine ex_s (st_if rfl) ?_
    by_cases c38 : v7 ≤ 0
    · have e := (if_pos c38).symm.trans e
      refine ex_pc (if_pos c38) ?_
      cases e
      exact le_E (l1 := [(0, .ref 157), (2, .int w2), (3, .int w3), (4, .int w4), (6, .int v6)]) ⟨rfl, rfl, rfl, rfl, rfl, trivial⟩ rfl (k0 rfl H hS)
    · have e := (if_neg c38).symm.trans e
      refine ex_pc (if_neg c38) ?_
      refine ex_s (am_nb (m := 1) (pc1 := 190) (ls1 := [(0, .ref 157), (2, .int w2), (3, .int w3), (4, .int w4), (6, .int v6), (7, .int v7)]) (st1 := [.int v6]) (H1 := H) (k1 := 0) (n1 := 0) (by with_unfolding_all rfl)) ?_
      refine ex_s (st_if rfl) ?_
      by_cases c39 : v6 = 0
      · have e := (if_pos c39).symm.trans e
        refine ex_pc (if_pos c39) ?_
        cases e
        exact le_E (l1 := [(0, .ref 157), (2, .int w2), (3, .int w3), (4, .int w4), (6, .int v6)]) ⟨rfl, rfl, rfl, rfl, rfl, trivial⟩ rfl (k0 rfl H hS)
      · have e := (if_neg c39).symm.trans e
        refine ex_pc (if_neg c39) ?_
        refine ex_s (am_nb (m := 3) (pc1 := 197) (ls1 := [(0, .ref 157), (2, .int w2), (3, .int w3), (4, .int w4), (6, .int v6), (7, .int v7)]) (st1 := [.int 32, .int w3, .ref 157]) (H1 := H) (k1 := 0) (n1 := 0) (by with_unfolding_all rfl)) ?_
        obtain ⟨r43, a44, e42, e⟩ := xb2_some e
        refine ex_cv1 (as := [.int w3, .int 32]) (rest := []) rfl rfl rfl rfl (hS.obj rfl (by decide)) rfl (by with_unfolding_all rfl) (by with_unfolding_all rfl) (tf313_letter hS e42) (fun H40 s41 => ?_)
        refine ex_s (am_nb (m := 3) (pc1 := 183) (ls1 := [(7, .int (v7 + (-1))), (6, .int r43), (0, .ref 157), (2, .int w2), (3, .int w3), (4, .int w4)]) (st1 := []) (H1 := H40) (k1 := 0) (n1 := 0) (by with_unfolding_all rfl)) ?_
        exact le_E (l1 := [(0, .ref 157), (2, .int w2), (3, .int w3), (4, .int w4), (6, .int r43), (7, .int (v7 + (-1)))]) ⟨rfl, rfl, rfl, rfl, rfl, rfl, trivial⟩ rfl (ih r43 (v7 + (-1)) a44 H40 s41 e)

set_option maxRecDepth 100000 in
theorem tj312_208 {sL : Nat} {sx : Nat → Int32} {h b N : Nat} {T : List am_C} {R : Option Value} {F : am_H → Prop} {w2 : Int32} {w3 : Int32} {z : Nat × Int32 × xA} {rc : Int32 → xA → Option (Nat × Int32 × xA)} (k0 : z.1 = 0 → ∀ H2 : am_H, xS h b T z.2.2 H2 → am_E sL sx am_cs 312 111 [(4, .int z.2.1)] [] H2 R F) (k1 : z.1 = 1 → ∀ H2 : am_H, xS h b T z.2.2 H2 → am_E sL sx am_cs 312 273 [(4, .int z.2.1)] [] H2 R F) (k2 : z.1 = 2 → ∀ H2 : am_H, xS h b T z.2.2 H2 → am_E sL sx am_cs 312 284 [(2, .int w2)] [] H2 R F) (ih : ∀ (v4 : Int32) (a : xA) (H : am_H), xS h b T a H → rc v4 a = some z → am_E sL sx am_cs 312 30 [(0, .ref 157), (2, .int w2), (3, .int w3), (4, .int v4)] [] H R F) {q4 : Int32} {q6 : Int32} {a : xA} {H : am_H} (hS : xS h b T a H) (e : j312_208 N h b rc w2 w3 q4 q6 a = some z) : am_E sL sx am_cs 312 208 [(0, .ref 157), (2, .int w2), (3, .int w3), (4, .int q4), (6, .int q6)] [] H R F := by
  unfold j312_208 at e
  refine ex_s (am_nb (m := 1) (pc1 := 268) (ls1 := [(0, .ref 157), (2, .int w2), (3, .int w3), (4, .int q4), (6, .int q6)]) (st1 := []) (H1 := H) (k1 := 0) (n1 := 0) (by with_unfolding_all rfl)) ?_
  exact le_E (l1 := [(0, .ref 157), (2, .int w2), (3, .int w3), (4, .int q4), (6, .int q6)]) ⟨rfl, rfl, rfl, rfl, rfl, trivial⟩ rfl (tj312_268 k0 k1 k2 ih  hS e)

set_option maxRecDepth 100000 in
theorem tj312_78 {sL : Nat} {sx : Nat → Int32} {h b N : Nat} {T : List am_C} {R : Option Value} {F : am_H → Prop} {w2 : Int32} {w3 : Int32} {z : Nat × Int32 × xA} {rc : Int32 → xA → Option (Nat × Int32 × xA)} (k0 : z.1 = 0 → ∀ H2 : am_H, xS h b T z.2.2 H2 → am_E sL sx am_cs 312 111 [(4, .int z.2.1)] [] H2 R F) (k1 : z.1 = 1 → ∀ H2 : am_H, xS h b T z.2.2 H2 → am_E sL sx am_cs 312 273 [(4, .int z.2.1)] [] H2 R F) (k2 : z.1 = 2 → ∀ H2 : am_H, xS h b T z.2.2 H2 → am_E sL sx am_cs 312 284 [(2, .int w2)] [] H2 R F) (ih : ∀ (v4 : Int32) (a : xA) (H : am_H), xS h b T a H → rc v4 a = some z → am_E sL sx am_cs 312 30 [(0, .ref 157), (2, .int w2), (3, .int w3), (4, .int v4)] [] H R F) {q4 : Int32} {q5 : Int32} {q6 : Int32} {a : xA} {H : am_H} (hS : xS h b T a H) (e : j312_78 N h b rc w2 w3 q4 q5 q6 a = some z) : am_E sL sx am_cs 312 78 [(0, .ref 157), (2, .int w2), (3, .int w3), (4, .int q4), (5, .int q5), (6, .int q6)] [] H R F := by
  unfold j312_78 at e
  refine ex_s (am_nb (m := 2) (pc1 := 82) (ls1 := [(0, .ref 157), (2, .int w2), (3, .int w3), (4, .int q4), (5, .int q5), (6, .int q6)]) (st1 := [.int 10, .int q5]) (H1 := H) (k1 := 0) (n1 := 0) (by with_unfolding_all rfl)) ?_
  refine ex_s (st_icmp rfl) ?_
  by_cases c18 : q5 = 10
  · have e := (if_pos c18).symm.trans e
    refine ex_pc (if_pos c18) ?_
    refine ex_s (am_nb (m := 1) (pc1 := 86) (ls1 := [(0, .ref 157), (2, .int w2), (3, .int w3), (4, .int q4), (5, .int q5), (6, .int q6)]) (st1 := [.ref 157]) (H1 := H) (k1 := 0) (n1 := 0) (by with_unfolding_all rfl)) ?_
    refine xe_get (v := .ref 177) hS rfl rfl (by decide) rfl ?_
    refine ex_s (am_nb (m := 1) (pc1 := 90) (ls1 := [(0, .ref 157), (2, .int w2), (3, .int w3), (4, .int q4), (5, .int q5), (6, .int q6)]) (st1 := [.int w3, .ref 177]) (H1 := H) (k1 := 0) (n1 := 0) (by with_unfolding_all rfl)) ?_
    obtain ⟨g19, e⟩ := xg_some e
    refine xe_iald hS rfl rfl g19 ?_
    refine ex_s (am_nb (m := 1) (pc1 := 92) (ls1 := [(0, .ref 157), (2, .int w2), (3, .int w3), (4, .int q4), (5, .int q5), (6, .int q6)]) (st1 := [.ref 157, .int (a 177 (w3.toNatClampNeg))]) (H1 := H) (k1 := 0) (n1 := 0) (by with_unfolding_all rfl)) ?_
    refine xe_get (v := .ref 175) hS rfl rfl (by decide) rfl ?_
    refine ex_s (am_nb (m := 1) (pc1 := 96) (ls1 := [(0, .ref 157), (2, .int w2), (3, .int w3), (4, .int q4), (5, .int q5), (6, .int q6)]) (st1 := [.int w3, .ref 175, .int (a 177 (w3.toNatClampNeg))]) (H1 := H) (k1 := 0) (n1 := 0) (by with_unfolding_all rfl)) ?_
    refine xe_iald hS rfl rfl g19 ?_
    refine ex_s (am_nb (m := 2) (pc1 := 99) (ls1 := [(0, .ref 157), (2, .int w2), (3, .int w3), (4, .int q4), (5, .int q5), (6, .int q6)]) (st1 := [.int ((a 175 (w3.toNatClampNeg)) - 1), .int (a 177 (w3.toNatClampNeg))]) (H1 := H) (k1 := 0) (n1 := 0) (by with_unfolding_all rfl)) ?_
    refine ex_s (st_icmp rfl) ?_
    by_cases c21 : (a 177 (w3.toNatClampNeg)) = ((a 175 (w3.toNatClampNeg)) - 1)
    · have e := (if_pos c21).symm.trans e
      refine ex_pc (if_pos c21) ?_
      refine ex_s (am_nb (m := 1) (pc1 := 103) (ls1 := [(0, .ref 157), (2, .int w2), (3, .int w3), (4, .int q4), (5, .int q5), (6, .int q6)]) (st1 := [.ref 157]) (H1 := H) (k1 := 0) (n1 := 0) (by with_unfolding_all rfl)) ?_
      refine xe_get (v := .ref 180) hS rfl rfl (by decide) rfl ?_
      refine ex_s (am_nb (m := 1) (pc1 := 107) (ls1 := [(0, .ref 157), (2, .int w2), (3, .int w3), (4, .int q4), (5, .int q5), (6, .int q6)]) (st1 := [.int w3, .ref 180]) (H1 := H) (k1 := 0) (n1 := 0) (by with_unfolding_all rfl)) ?_
      refine xe_zald hS rfl rfl g19 ?_
      refine ex_s (st_if rfl) ?_
      by_cases c22 : (a 180 (w3.toNatClampNeg)) = 0
      · have e := (if_pos c22).symm.trans e
        refine ex_pc (if_pos c22) ?_
        cases e
        exact le_E (l1 := [(4, .int q4)]) ⟨rfl, trivial⟩ rfl (k0 rfl H hS)
      · have e := (if_neg c22).symm.trans e
        refine ex_pc (if_neg c22) ?_
        exact le_E (l1 := [(0, .ref 157), (2, .int w2), (3, .int w3), (4, .int q4), (6, .int q6)]) ⟨rfl, rfl, rfl, rfl, rfl, trivial⟩ rfl (tj312_114 k0 k1 k2 ih  hS e)
    · have e := (if_neg c21).symm.trans e
      refine ex_pc (if_neg c21) ?_
      exact le_E (l1 := [(0, .ref 157), (2, .int w2), (3, .int w3), (4, .int q4), (6, .int q6)]) ⟨rfl, rfl, rfl, rfl, rfl, trivial⟩ rfl (tj312_114 k0 k1 k2 ih  hS e)
  · have e := (if_neg c18).symm.trans e
    refine ex_pc (if_neg c18) ?_
    refine ex_s (am_nb (m := 2) (pc1 := 150) (ls1 := [(0, .ref 157), (2, .int w2), (3, .int w3), (4, .int q4), (5, .int q5), (6, .int q6)]) (st1 := [.int 9, .int q5]) (H1 := H) (k1 := 0) (n1 := 0) (by with_unfolding_all rfl)) ?_
    refine ex_s (st_icmp rfl) ?_
    by_cases c34 : q5 = 9
    · have e := (if_pos c34).symm.trans e
      refine ex_pc (if_pos c34) ?_
      refine ex_s (am_nb (m := 2) (pc1 := 156) (ls1 := [(0, .ref 157), (2, .int w2), (3, .int w3), (4, .int q4), (5, .int q5), (6, .int q6)]) (st1 := [.ref 157, .int 8]) (H1 := H) (k1 := 0) (n1 := 0) (by with_unfolding_all rfl)) ?_
      refine xe_get (v := .ref 178) hS rfl rfl (by decide) rfl ?_
      refine ex_s (am_nb (m := 1) (pc1 := 160) (ls1 := [(0, .ref 157), (2, .int w2), (3, .int w3), (4, .int q4), (5, .int q5), (6, .int q6)]) (st1 := [.int w3, .ref 178, .int 8]) (H1 := H) (k1 := 0) (n1 := 0) (by with_unfolding_all rfl)) ?_
      obtain ⟨g35, e⟩ := xg_some e
      refine xe_iald hS rfl rfl g35 ?_
      refine ex_s (am_nb (m := 4) (pc1 := 166) (ls1 := [(0, .ref 157), (2, .int w2), (3, .int w3), (4, .int q4), (5, .int q5), (6, .int q6)]) (st1 := [.ref 157, .int (8 - ((a 178 (w3.toNatClampNeg)) - (a 178 (w3.toNatClampNeg)) / 8 * 8))]) (H1 := H) (k1 := 0) (n1 := 0) (by with_unfolding_all rfl)) ?_
      refine xe_get (v := .ref 176) hS rfl rfl (by decide) rfl ?_
      refine ex_s (am_nb (m := 1) (pc1 := 170) (ls1 := [(0, .ref 157), (2, .int w2), (3, .int w3), (4, .int q4), (5, .int q5), (6, .int q6)]) (st1 := [.int w3, .ref 176, .int (8 - ((a 178 (w3.toNatClampNeg)) - (a 178 (w3.toNatClampNeg)) / 8 * 8))]) (H1 := H) (k1 := 0) (n1 := 0) (by with_unfolding_all rfl)) ?_
      refine xe_iald hS rfl rfl g35 ?_
      refine ex_s (am_nb (m := 1) (pc1 := 172) (ls1 := [(0, .ref 157), (2, .int w2), (3, .int w3), (4, .int q4), (5, .int q5), (6, .int q6)]) (st1 := [.ref 157, .int (a 176 (w3.toNatClampNeg)), .int (8 - ((a 178 (w3.toNatClampNeg)) - (a 178 (w3.toNatClampNeg)) / 8 * 8))]) (H1 := H) (k1 := 0) (n1 := 0) (by with_unfolding_all rfl)) ?_
      refine xe_get (v := .ref 178) hS rfl rfl (by decide) rfl ?_
      refine ex_s (am_nb (m := 1) (pc1 := 176) (ls1 := [(0, .ref 157), (2, .int w2), (3, .int w3), (4, .int q4), (5, .int q5), (6, .int q6)]) (st1 := [.int w3, .ref 178, .int (a 176 (w3.toNatClampNeg)), .int (8 - ((a 178 (w3.toNatClampNeg)) - (a 178 (w3.toNatClampNeg)) / 8 * 8))]) (H1 := H) (k1 := 0) (n1 := 0) (by with_unfolding_all rfl)) ?_
      refine xe_iald hS rfl rfl g35 ?_
      refine ex_s (am_nb (m := 3) (pc1 := 183) (ls1 := [(7, .int (xmin (8 - ((a 178 (w3.toNatClampNeg)) - (a 178 (w3.toNatClampNeg)) / 8 * 8)) ((a 176 (w3.toNatClampNeg)) - (a 178 (w3.toNatClampNeg))))), (0, .ref 157), (2, .int w2), (3, .int w3), (4, .int q4), (5, .int q5), (6, .int q6)]) (st1 := []) (H1 := H) (k1 := 0) (n1 := 0) (by with_unfolding_all rfl)) ?_
      obtain ⟨z45, e46, e⟩ := Option.bind_eq_some_iff.mp e
      refine le_E (l1 := [(0, .ref 157), (2, .int w2), (3, .int w3), (4, .int q4), (6, .int q6), (7, .int (xmin (8 - ((a 178 (w3.toNatClampNeg)) - (a 178 (w3.toNatClampNeg)) / 8 * 8)) ((a 176 (w3.toNatClampNeg)) - (a 178 (w3.toNatClampNeg)))))]) ⟨rfl, rfl, rfl, rfl, rfl, rfl, trivial⟩ rfl (tl312_183 (z := z45)  (fun uz45_0 Hz450 sz450 => ?_) N q6 (xmin (8 - ((a 178 (w3.toNatClampNeg)) - (a 178 (w3.toNatClampNeg)) / 8 * 8)) ((a 176 (w3.toNatClampNeg)) - (a 178 (w3.toNatClampNeg)))) a H hS e46)
      exact le_E (l1 := [(0, .ref 157), (2, .int w2), (3, .int w3), (4, .int q4), (6, .int z45.2.1)]) ⟨rfl, rfl, rfl, rfl, rfl, trivial⟩ rfl (tj312_208 k0 k1 k2 ih  sz450 e)
    · have e := (if_neg c34).symm.trans e
      refine ex_pc (if_neg c34) ?_
      refine ex_s (am_nb (m := 2) (pc1 := 215) (ls1 := [(0, .ref 157), (2, .int w2), (3, .int w3), (4, .int q4), (5, .int q5), (6, .int q6)]) (st1 := [.int 13, .int q5]) (H1 := H) (k1 := 0) (n1 := 0) (by with_unfolding_all rfl)) ?_
      refine ex_s (st_icmp rfl) ?_
      by_cases c48 : q5 = 13
      · have e := (if_pos c48).symm.trans e
        refine ex_pc (if_pos c48) ?_
        refine ex_s (am_nb (m := 1) (pc1 := 219) (ls1 := [(0, .ref 157), (2, .int w2), (3, .int w3), (4, .int q4), (5, .int q5), (6, .int q6)]) (st1 := [.ref 157]) (H1 := H) (k1 := 0) (n1 := 0) (by with_unfolding_all rfl)) ?_
        refine xe_get (v := .ref 178) hS rfl rfl (by decide) rfl ?_
        refine ex_s (am_nb (m := 2) (pc1 := 224) (ls1 := [(0, .ref 157), (2, .int w2), (3, .int w3), (4, .int q4), (5, .int q5), (6, .int q6)]) (st1 := [.int 0, .int w3, .ref 178]) (H1 := H) (k1 := 0) (n1 := 0) (by with_unfolding_all rfl)) ?_
        obtain ⟨g52, e⟩ := xg_some e
        obtain ⟨a49, ha49, e⟩ := xw_some e
        refine xe_iast hS rfl rfl g52 (fun H50 s51 => ?_)
        have s51 : xS h b T a49 H50 := by rw [ha49]; exact s51
        refine ex_s (am_nb (m := 1) (pc1 := 268) (ls1 := [(0, .ref 157), (2, .int w2), (3, .int w3), (4, .int q4), (5, .int q5), (6, .int q6)]) (st1 := []) (H1 := H50) (k1 := 0) (n1 := 0) (by with_unfolding_all rfl)) ?_
        exact le_E (l1 := [(0, .ref 157), (2, .int w2), (3, .int w3), (4, .int q4), (6, .int q6)]) ⟨rfl, rfl, rfl, rfl, rfl, trivial⟩ rfl (tj312_268 k0 k1 k2 ih  s51 e)
      · have e := (if_neg c48).symm.trans e
        refine ex_pc (if_neg c48) ?_
        refine ex_s (am_nb (m := 2) (pc1 := 232) (ls1 := [(0, .ref 157), (2, .int w2), (3, .int w3), (4, .int q4), (5, .int q5), (6, .int q6)]) (st1 := [.int 8, .int q5]) (H1 := H) (k1 := 0) (n1 := 0) (by with_unfolding_all rfl)) ?_
        refine ex_s (st_icmp rfl) ?_
        by_cases c54 : q5 = 8
        · have e := (if_pos c54).symm.trans e
          refine ex_pc (if_pos c54) ?_
          refine ex_s (am_nb (m := 1) (pc1 := 236) (ls1 := [(0, .ref 157), (2, .int w2), (3, .int w3), (4, .int q4), (5, .int q5), (6, .int q6)]) (st1 := [.ref 157]) (H1 := H) (k1 := 0) (n1 := 0) (by with_unfolding_all rfl)) ?_
          refine xe_get (v := .ref 178) hS rfl rfl (by decide) rfl ?_
          refine ex_s (am_nb (m := 3) (pc1 := 242) (ls1 := [(0, .ref 157), (2, .int w2), (3, .int w3), (4, .int q4), (5, .int q5), (6, .int q6)]) (st1 := [.ref 157, .int 0, .int w3, .ref 178]) (H1 := H) (k1 := 0) (n1 := 0) (by with_unfolding_all rfl)) ?_
          refine xe_get (v := .ref 178) hS rfl rfl (by decide) rfl ?_
          refine ex_s (am_nb (m := 1) (pc1 := 246) (ls1 := [(0, .ref 157), (2, .int w2), (3, .int w3), (4, .int q4), (5, .int q5), (6, .int q6)]) (st1 := [.int w3, .ref 178, .int 0, .int w3, .ref 178]) (H1 := H) (k1 := 0) (n1 := 0) (by with_unfolding_all rfl)) ?_
          obtain ⟨g55, e⟩ := xg_some e
          refine xe_iald hS rfl rfl g55 ?_
          refine ex_s (am_nb (m := 3) (pc1 := 252) (ls1 := [(0, .ref 157), (2, .int w2), (3, .int w3), (4, .int q4), (5, .int q5), (6, .int q6)]) (st1 := [.int (xmax 0 ((a 178 (w3.toNatClampNeg)) - 1)), .int w3, .ref 178]) (H1 := H) (k1 := 0) (n1 := 0) (by with_unfolding_all rfl)) ?_
          obtain ⟨a56, ha56, e⟩ := xw_some e
          refine xe_iast hS rfl rfl g55 (fun H57 s58 => ?_)
          have s58 : xS h b T a56 H57 := by rw [ha56]; exact s58
          refine ex_s (am_nb (m := 1) (pc1 := 268) (ls1 := [(0, .ref 157), (2, .int w2), (3, .int w3), (4, .int q4), (5, .int q5), (6, .int q6)]) (st1 := []) (H1 := H57) (k1 := 0) (n1 := 0) (by with_unfolding_all rfl)) ?_
          exact le_E (l1 := [(0, .ref 157), (2, .int w2), (3, .int w3), (4, .int q4), (6, .int q6)]) ⟨rfl, rfl, rfl, rfl, rfl, trivial⟩ rfl (tj312_268 k0 k1 k2 ih  s58 e)
        · have e := (if_neg c54).symm.trans e
          refine ex_pc (if_neg c54) ?_
          refine ex_s (am_nb (m := 2) (pc1 := 260) (ls1 := [(0, .ref 157), (2, .int w2), (3, .int w3), (4, .int q4), (5, .int q5), (6, .int q6)]) (st1 := [.int 7, .int q5]) (H1 := H) (k1 := 0) (n1 := 0) (by with_unfolding_all rfl)) ?_
          refine ex_s (st_icmp rfl) ?_
          by_cases c60 : q5 = 7
          · have e := (if_pos c60).symm.trans e
            refine ex_pc (if_pos c60) ?_
            refine ex_s (am_nb (m := 2) (pc1 := 265) (ls1 := [(0, .ref 157), (2, .int w2), (3, .int w3), (4, .int q4), (5, .int q5), (6, .int q6)]) (st1 := [.int 1, .ref 157]) (H1 := H) (k1 := 0) (n1 := 0) (by with_unfolding_all rfl)) ?_
            obtain ⟨a61, ha61, e⟩ := xw_some e
            refine xe_put (w := 1) hS rfl rfl (by decide) rfl rfl rfl rfl (fun H62 s63 => ?_)
            have s63 : xS h b T a61 H62 := by rw [ha61]; exact s63
            exact le_E (l1 := [(0, .ref 157), (2, .int w2), (3, .int w3), (4, .int q4), (6, .int q6)]) ⟨rfl, rfl, rfl, rfl, rfl, trivial⟩ rfl (tj312_268 k0 k1 k2 ih  s63 e)
          · have e := (if_neg c60).symm.trans e
            refine ex_pc (if_neg c60) ?_
            exact le_E (l1 := [(0, .ref 157), (2, .int w2), (3, .int w3), (4, .int q4), (6, .int q6)]) ⟨rfl, rfl, rfl, rfl, rfl, trivial⟩ rfl (tj312_268 k0 k1 k2 ih  hS e)

set_option maxRecDepth 100000 in
theorem tl312_30 {sL : Nat} {sx : Nat → Int32} {h b N : Nat} {T : List am_C} {R : Option Value} {F : am_H → Prop} {w2 : Int32} {w3 : Int32} {z : Nat × Int32 × xA} (k0 : z.1 = 0 → ∀ H2 : am_H, xS h b T z.2.2 H2 → am_E sL sx am_cs 312 111 [(4, .int z.2.1)] [] H2 R F) (k1 : z.1 = 1 → ∀ H2 : am_H, xS h b T z.2.2 H2 → am_E sL sx am_cs 312 273 [(4, .int z.2.1)] [] H2 R F) (k2 : z.1 = 2 → ∀ H2 : am_H, xS h b T z.2.2 H2 → am_E sL sx am_cs 312 284 [(2, .int w2)] [] H2 R F) : ∀ (n : Nat) (v4 : Int32) (a : xA) (H : am_H), xS h b T a H → l312_30 N h b w2 w3 n v4 a = some z → am_E sL sx am_cs 312 30 [(0, .ref 157), (2, .int w2), (3, .int w3), (4, .int v4)] [] H R F := by
  intro n
  induction n with
  | zero =>
    intro v4 a H hS e
    cases e
  | succ n ih =>
    intro v4 a H hS e
    unfold l312_30 at e
    refine ex_s (am_nb (m := 2) (pc1 := 33) (ls1 := [(0, .ref 157), (2, .int w2), (3, .int w3), (4, .int v4)]) (st1 := [.int w2, .int v4]) (H1 := H) (k1 := 0) (n1 := 0) (by with_unfolding_all rfl)) ?_
    refine ex_s (st_icmp rfl) ?_
    by_cases c13 : w2 ≤ v4
    · have e := (if_pos c13).symm.trans e
      refine ex_pc (if_pos c13) ?_
      cases e
      exact le_E (l1 := [(2, .int w2)]) ⟨rfl, trivial⟩ rfl (k2 rfl H hS)
    · have e := (if_neg c13).symm.trans e
      refine ex_pc (if_neg c13) ?_
      refine ex_s (am_nb (m := 1) (pc1 := 37) (ls1 := [(0, .ref 157), (2, .int w2), (3, .int w3), (4, .int v4)]) (st1 := [.ref 157]) (H1 := H) (k1 := 0) (n1 := 0) (by with_unfolding_all rfl)) ?_
      refine xe_get (v := .ref 158) hS rfl rfl (by decide) rfl ?_
      refine ex_s (am_nb (m := 1) (pc1 := 42) (ls1 := [(0, .ref 157), (2, .int w2), (3, .int w3), (4, .int v4)]) (st1 := [.int v4, .ref 158]) (H1 := H) (k1 := 0) (n1 := 0) (by with_unfolding_all rfl)) ?_
      obtain ⟨g14, e⟩ := xg_some e
      refine xe_bald hS rfl rfl g14 ?_
      refine ex_s (am_nb (m := 7) (pc1 := 56) (ls1 := [(6, .int 1), (5, .int ((a 158 (v4.toNatClampNeg)) &&& 255)), (0, .ref 157), (2, .int w2), (3, .int w3), (4, .int v4)]) (st1 := [.int 32, .int ((a 158 (v4.toNatClampNeg)) &&& 255)]) (H1 := H) (k1 := 0) (n1 := 0) (by with_unfolding_all rfl)) ?_
      refine ex_s (st_icmp rfl) ?_
      by_cases c17 : ((a 158 (v4.toNatClampNeg)) &&& 255) < 32
      · have e := (if_pos c17).symm.trans e
        refine ex_pc (if_pos c17) ?_
        exact le_E (l1 := [(0, .ref 157), (2, .int w2), (3, .int w3), (4, .int v4), (5, .int ((a 158 (v4.toNatClampNeg)) &&& 255)), (6, .int 1)]) ⟨rfl, rfl, rfl, rfl, rfl, rfl, trivial⟩ rfl (tj312_78 k0 k1 k2 ih  hS e)
      · have e := (if_neg c17).symm.trans e
        refine ex_pc (if_neg c17) ?_
        refine ex_s (am_nb (m := 2) (pc1 := 63) (ls1 := [(6, .int 1), (5, .int ((a 158 (v4.toNatClampNeg)) &&& 255)), (0, .ref 157), (2, .int w2), (3, .int w3), (4, .int v4)]) (st1 := [.int 126, .int ((a 158 (v4.toNatClampNeg)) &&& 255)]) (H1 := H) (k1 := 0) (n1 := 0) (by with_unfolding_all rfl)) ?_
        refine ex_s (st_icmp rfl) ?_
        by_cases c64 : 126 < ((a 158 (v4.toNatClampNeg)) &&& 255)
        · have e := (if_pos c64).symm.trans e
          refine ex_pc (if_pos c64) ?_
          exact le_E (l1 := [(0, .ref 157), (2, .int w2), (3, .int w3), (4, .int v4), (5, .int ((a 158 (v4.toNatClampNeg)) &&& 255)), (6, .int 1)]) ⟨rfl, rfl, rfl, rfl, rfl, rfl, trivial⟩ rfl (tj312_78 k0 k1 k2 ih  hS e)
        · have e := (if_neg c64).symm.trans e
          refine ex_pc (if_neg c64) ?_
          refine ex_s (am_nb (m := 3) (pc1 := 70) (ls1 := [(6, .int 1), (5, .int ((a 158 (v4.toNatClampNeg)) &&& 255)), (0, .ref 157), (2, .int w2), (3, .int w3), (4, .int v4)]) (st1 := [.int ((a 158 (v4.toNatClampNeg)) &&& 255), .int w3, .ref 157]) (H1 := H) (k1 := 0) (n1 := 0) (by with_unfolding_all rfl)) ?_
          obtain ⟨r68, a69, e67, e⟩ := xb2_some e
          refine ex_cv1 (as := [.int w3, .int ((a 158 (v4.toNatClampNeg)) &&& 255)]) (rest := []) rfl rfl rfl rfl (hS.obj rfl (by decide)) rfl (by with_unfolding_all rfl) (by with_unfolding_all rfl) (tf313_letter hS e67) (fun H65 s66 => ?_)
          refine ex_s (am_nb (m := 2) (pc1 := 268) (ls1 := [(6, .int r68), (5, .int ((a 158 (v4.toNatClampNeg)) &&& 255)), (0, .ref 157), (2, .int w2), (3, .int w3), (4, .int v4)]) (st1 := []) (H1 := H65) (k1 := 0) (n1 := 0) (by with_unfolding_all rfl)) ?_
          exact le_E (l1 := [(0, .ref 157), (2, .int w2), (3, .int w3), (4, .int v4), (6, .int r68)]) ⟨rfl, rfl, rfl, rfl, rfl, trivial⟩ rfl (tj312_268 k0 k1 k2 ih  s66 e)

set_option maxRecDepth 100000 in
theorem tf312_say {sL : Nat} {sx : Nat → Int32} {h b N : Nat} {T : List am_C} {r : Int32} {a' : xA} {x0 : Int32} {a : xA} {H : am_H} (hS : xS h b T a H) (e : f312_say N h b x0 a = some (r, a')) : am_E sL sx am_cs 312 0 [(0, .ref 157), (1, .int x0)] [] H (some (.int r)) (fun H1 => xS h b T a' H1) := by
  unfold f312_say at e
  refine ex_s (am_nb (m := 2) (pc1 := 2) (ls1 := [(0, .ref 157), (1, .int x0)]) (st1 := [.int 0, .ref 157]) (H1 := H) (k1 := 0) (n1 := 0) (by with_unfolding_all rfl)) ?_
  obtain ⟨a1, ha1, e⟩ := xw_some e
  refine xe_put (w := 0) hS rfl rfl (by decide) rfl rfl rfl rfl (fun H2 s3 => ?_)
  have s3 : xS h b T a1 H2 := by rw [ha1]; exact s3
  refine ex_s (am_nb (m := 1) (pc1 := 6) (ls1 := [(0, .ref 157), (1, .int x0)]) (st1 := [.ref 157]) (H1 := H2) (k1 := 0) (n1 := 0) (by with_unfolding_all rfl)) ?_
  refine xe_get (v := .int (a1 157 2)) s3 rfl rfl (by decide) rfl ?_
  refine ex_s (am_nb (m := 3) (pc1 := 12) (ls1 := [(2, .int (a1 157 2)), (0, .ref 157), (1, .int x0)]) (st1 := [.int 0, .ref 157]) (H1 := H2) (k1 := 0) (n1 := 0) (by with_unfolding_all rfl)) ?_
  obtain ⟨a4, ha4, e⟩ := xw_some e
  refine xe_put (w := 0) s3 rfl rfl (by decide) rfl rfl rfl rfl (fun H5 s6 => ?_)
  have s6 : xS h b T a4 H5 := by rw [ha4]; exact s6
  refine ex_s (am_nb (m := 2) (pc1 := 17) (ls1 := [(2, .int (a1 157 2)), (0, .ref 157), (1, .int x0)]) (st1 := [.int x0, .ref 157]) (H1 := H5) (k1 := 0) (n1 := 0) (by with_unfolding_all rfl)) ?_
  obtain ⟨r10, a11, e9, e⟩ := xb2_some e
  refine ex_cv1 (as := [.int x0]) (rest := []) rfl rfl rfl rfl (s6.obj rfl (by decide)) rfl (by with_unfolding_all rfl) (by with_unfolding_all rfl) (tf308_is s6 e9) (fun H7 s8 => ?_)
  refine ex_s (st_if rfl) ?_
  by_cases c12 : r10 = 0
  · have e := (if_pos c12).symm.trans e
    refine ex_pc (if_pos c12) ?_
    refine ex_s (am_nb (m := 1) (pc1 := 24) (ls1 := [(2, .int (a1 157 2)), (0, .ref 157), (1, .int x0)]) (st1 := [.int (-1)]) (H1 := H7) (k1 := 0) (n1 := 0) (by with_unfolding_all rfl)) ?_
    cases e
    exact ex_r (st_iret rfl rfl rfl) s8
  · have e := (if_neg c12).symm.trans e
    refine ex_pc (if_neg c12) ?_
    refine ex_s (am_nb (m := 4) (pc1 := 30) (ls1 := [(4, .int 0), (3, .int x0), (2, .int (a1 157 2)), (0, .ref 157), (1, .int x0)]) (st1 := []) (H1 := H7) (k1 := 0) (n1 := 0) (by with_unfolding_all rfl)) ?_
    obtain ⟨z70, e71, e⟩ := Option.bind_eq_some_iff.mp e
    refine le_E (l1 := [(0, .ref 157), (2, .int (a1 157 2)), (3, .int x0), (4, .int 0)]) ⟨rfl, rfl, rfl, rfl, trivial⟩ rfl (tl312_30 (z := z70)  (fun uz70_0 Hz700 sz700 => ?_) (fun uz70_1 Hz701 sz701 => ?_) (fun uz70_2 Hz702 sz702 => ?_) N 0 a11 H7 s8 e71)
    · have e := (if_pos uz70_0).symm.trans e
      refine ex_s (am_nb (m := 1) (pc1 := 113) (ls1 := [(4, .int z70.2.1)]) (st1 := [.int z70.2.1]) (H1 := Hz700) (k1 := 0) (n1 := 0) (by with_unfolding_all rfl)) ?_
      cases e
      exact ex_r (st_iret rfl rfl rfl) sz700
    · have e := (if_neg (show ¬ z70.1 = 0 by rw [uz70_1]; decide)).symm.trans e
      have e := (if_pos uz70_1).symm.trans e
      refine ex_s (am_nb (m := 3) (pc1 := 277) (ls1 := [(4, .int z70.2.1)]) (st1 := [.int (z70.2.1 + 1)]) (H1 := Hz701) (k1 := 0) (n1 := 0) (by with_unfolding_all rfl)) ?_
      cases e
      exact ex_r (st_iret rfl rfl rfl) sz701
    · have e := (if_neg (show ¬ z70.1 = 0 by rw [uz70_2]; decide)).symm.trans e
      have e := (if_neg (show ¬ z70.1 = 1 by rw [uz70_2]; decide)).symm.trans e
      refine ex_s (am_nb (m := 1) (pc1 := 285) (ls1 := [(2, .int (a1 157 2))]) (st1 := [.int (a1 157 2)]) (H1 := Hz702) (k1 := 0) (n1 := 0) (by with_unfolding_all rfl)) ?_
      cases e
      exact ex_r (st_iret rfl rfl rfl) sz702

set_option maxRecDepth 100000 in
theorem tl318_71 {sL : Nat} {sx : Nat → Int32} {h b N : Nat} {T : List am_C} {R : Option Value} {F : am_H → Prop} {w2 : Int32} {w3 : Int32} {z : Nat × xA} (k0 : z.1 = 0 → ∀ H2 : am_H, xS h b T z.2 H2 → am_E sL sx am_cs 318 107 [(0, .ref 157), (2, .int w2), (3, .int w3)] [] H2 R F) : ∀ (n : Nat) (v4 : Int32) (a : xA) (H : am_H), xS h b T a H → l318_71 N h b w2 w3 n v4 a = some z → am_E sL sx am_cs 318 71 [(0, .ref 157), (2, .int w2), (3, .int w3), (4, .int v4)] [] H R F := by
  intro n
  induction n with
  | zero =>
    intro v4 a H hS e
    cases e
  | succ n ih =>
    intro v4 a H hS e
    unfold l318_71 at e
    refine ex_s (am_nb (m := 2) (pc1 := 74) (ls1 := [(0, .ref 157), (2, .int w2), (3, .int w3), (4, .int v4)]) (st1 := [.ref 157, .int v4]) (H1 := H) (k1 := 0) (n1 := 0) (by with_unfolding_all rfl)) ?_
    refine xe_get (v := .ref 175) hS rfl rfl (by decide) rfl ?_
    refine ex_s (am_nb (m := 1) (pc1 := 78) (ls1 := [(0, .ref 157), (2, .int w2), (3, .int w3), (4, .int v4)]) (st1 := [.int w3, .ref 175, .int v4]) (H1 := H) (k1 := 0) (n1 := 0) (by with_unfolding_all rfl)) ?_
    obtain ⟨g21, e⟩ := xg_some e
    refine xe_iald hS rfl rfl g21 ?_
    refine ex_s (st_icmp rfl) ?_
    by_cases c24 : (a 175 (w3.toNatClampNeg)) ≤ v4
    · have e := (if_pos c24).symm.trans e
      refine ex_pc (if_pos c24) ?_
      cases e
      exact le_E (l1 := [(0, .ref 157), (2, .int w2), (3, .int w3)]) ⟨rfl, rfl, rfl, trivial⟩ rfl (k0 rfl H hS)
    · have e := (if_neg c24).symm.trans e
      refine ex_pc (if_neg c24) ?_
      refine ex_s (am_nb (m := 2) (pc1 := 84) (ls1 := [(0, .ref 157), (2, .int w2), (3, .int w3), (4, .int v4)]) (st1 := [.int 2, .int w2]) (H1 := H) (k1 := 0) (n1 := 0) (by with_unfolding_all rfl)) ?_
      refine ex_s (st_icmp rfl) ?_
      by_cases c25 : 2 ≤ w2
      · have e := (if_pos c25).symm.trans e
        refine ex_pc (if_pos c25) ?_
        cases e
        exact le_E (l1 := [(0, .ref 157), (2, .int w2), (3, .int w3)]) ⟨rfl, rfl, rfl, trivial⟩ rfl (k0 rfl H hS)
      · have e := (if_neg c25).symm.trans e
        refine ex_pc (if_neg c25) ?_
        refine ex_s (am_nb (m := 5) (pc1 := 93) (ls1 := [(0, .ref 157), (2, .int w2), (3, .int w3), (4, .int v4)]) (st1 := [.ref 157, .int 0, .int v4, .int w3, .ref 157]) (H1 := H) (k1 := 0) (n1 := 0) (by with_unfolding_all rfl)) ?_
        refine xe_get (v := .ref 176) hS rfl rfl (by decide) rfl ?_
        refine ex_s (am_nb (m := 1) (pc1 := 97) (ls1 := [(0, .ref 157), (2, .int w2), (3, .int w3), (4, .int v4)]) (st1 := [.int w3, .ref 176, .int 0, .int v4, .int w3, .ref 157]) (H1 := H) (k1 := 0) (n1 := 0) (by with_unfolding_all rfl)) ?_
        refine xe_iald hS rfl rfl g21 ?_
        obtain ⟨a29, e28, e⟩ := xb1_some e
        refine ex_cv0 (as := [.int w3, .int v4, .int 0, .int (a 176 (w3.toNatClampNeg))]) (rest := []) rfl rfl rfl rfl (hS.obj rfl (by decide)) rfl (by with_unfolding_all rfl) (by with_unfolding_all rfl) (tf317_clears hS e28) (fun H26 s27 => ?_)
        refine ex_s (am_nb (m := 2) (pc1 := 71) (ls1 := [(4, .int (v4 + 1)), (0, .ref 157), (2, .int w2), (3, .int w3)]) (st1 := []) (H1 := H26) (k1 := 0) (n1 := 0) (by with_unfolding_all rfl)) ?_
        exact le_E (l1 := [(0, .ref 157), (2, .int w2), (3, .int w3), (4, .int (v4 + 1))]) ⟨rfl, rfl, rfl, rfl, trivial⟩ rfl (ih (v4 + 1) a29 H26 s27 e)

set_option maxRecDepth 100000 in
theorem tj318_107 {sL : Nat} {sx : Nat → Int32} {h b N : Nat} {T : List am_C} {r : Int32} {a' : xA} {q2 : Int32} {q3 : Int32} {a : xA} {H : am_H} (hS : xS h b T a H) (e : j318_107 N h b q2 q3 a = some (r, a')) : am_E sL sx am_cs 318 107 [(0, .ref 157), (2, .int q2), (3, .int q3)] [] H (some (.int r)) (fun H1 => xS h b T a' H1) := by
  unfold j318_107 at e
  refine ex_s (am_nb (m := 1) (pc1 := 108) (ls1 := [(0, .ref 157), (2, .int q2), (3, .int q3)]) (st1 := [.int q2]) (H1 := H) (k1 := 0) (n1 := 0) (by with_unfolding_all rfl)) ?_
  refine ex_s (st_if rfl) ?_
  by_cases c33 : q2 = 0
  · have e := (if_pos c33).symm.trans e
    refine ex_pc (if_pos c33) ?_
    refine ex_s (am_nb (m := 1) (pc1 := 112) (ls1 := [(0, .ref 157), (2, .int q2), (3, .int q3)]) (st1 := [.ref 157]) (H1 := H) (k1 := 0) (n1 := 0) (by with_unfolding_all rfl)) ?_
    refine xe_get (v := .ref 177) hS rfl rfl (by decide) rfl ?_
    refine ex_s (am_nb (m := 2) (pc1 := 117) (ls1 := [(0, .ref 157), (2, .int q2), (3, .int q3)]) (st1 := [.int 0, .int q3, .ref 177]) (H1 := H) (k1 := 0) (n1 := 0) (by with_unfolding_all rfl)) ?_
    obtain ⟨g37, e⟩ := xg_some e
    obtain ⟨a34, ha34, e⟩ := xw_some e
    refine xe_iast hS rfl rfl g37 (fun H35 s36 => ?_)
    have s36 : xS h b T a34 H35 := by rw [ha34]; exact s36
    refine ex_s (am_nb (m := 1) (pc1 := 119) (ls1 := [(0, .ref 157), (2, .int q2), (3, .int q3)]) (st1 := [.ref 157]) (H1 := H35) (k1 := 0) (n1 := 0) (by with_unfolding_all rfl)) ?_
    refine xe_get (v := .ref 178) s36 rfl rfl (by decide) rfl ?_
    refine ex_s (am_nb (m := 2) (pc1 := 124) (ls1 := [(0, .ref 157), (2, .int q2), (3, .int q3)]) (st1 := [.int 0, .int q3, .ref 178]) (H1 := H35) (k1 := 0) (n1 := 0) (by with_unfolding_all rfl)) ?_
    obtain ⟨a38, ha38, e⟩ := xw_some e
    refine xe_iast s36 rfl rfl g37 (fun H39 s40 => ?_)
    have s40 : xS h b T a38 H39 := by rw [ha38]; exact s40
    refine ex_s (am_nb (m := 1) (pc1 := 126) (ls1 := [(0, .ref 157), (2, .int q2), (3, .int q3)]) (st1 := [.int 1]) (H1 := H39) (k1 := 0) (n1 := 0) (by with_unfolding_all rfl)) ?_
    cases e
    exact ex_r (st_iret rfl rfl rfl) s40
  · have e := (if_neg c33).symm.trans e
    refine ex_pc (if_neg c33) ?_
    refine ex_s (am_nb (m := 1) (pc1 := 126) (ls1 := [(0, .ref 157), (2, .int q2), (3, .int q3)]) (st1 := [.int 1]) (H1 := H) (k1 := 0) (n1 := 0) (by with_unfolding_all rfl)) ?_
    cases e
    exact ex_r (st_iret rfl rfl rfl) hS

set_option maxRecDepth 100000 in
theorem tj318_69 {sL : Nat} {sx : Nat → Int32} {h b N : Nat} {T : List am_C} {r : Int32} {a' : xA} {q2 : Int32} {q3 : Int32} {t0 : Int32} {a : xA} {H : am_H} (hS : xS h b T a H) (e : j318_69 N h b q2 q3 t0 a = some (r, a')) : am_E sL sx am_cs 318 69 [(0, .ref 157), (2, .int q2), (3, .int q3)] [.int t0] H (some (.int r)) (fun H1 => xS h b T a' H1) := by
  unfold j318_69 at e
  refine ex_s (am_nb (m := 1) (pc1 := 71) (ls1 := [(4, .int t0), (0, .ref 157), (2, .int q2), (3, .int q3)]) (st1 := []) (H1 := H) (k1 := 0) (n1 := 0) (by with_unfolding_all rfl)) ?_
  obtain ⟨z30, e31, e⟩ := Option.bind_eq_some_iff.mp e
  refine le_E (l1 := [(0, .ref 157), (2, .int q2), (3, .int q3), (4, .int t0)]) ⟨rfl, rfl, rfl, rfl, trivial⟩ rfl (tl318_71 (z := z30)  (fun uz30_0 Hz300 sz300 => ?_) N t0 a H hS e31)
  exact le_E (l1 := [(0, .ref 157), (2, .int q2), (3, .int q3)]) ⟨rfl, rfl, rfl, trivial⟩ rfl (tj318_107  sz300 e)

set_option maxRecDepth 100000 in
theorem tj318_53 {sL : Nat} {sx : Nat → Int32} {h b N : Nat} {T : List am_C} {r : Int32} {a' : xA} {q2 : Int32} {q3 : Int32} {a : xA} {H : am_H} (hS : xS h b T a H) (e : j318_53 N h b q2 q3 a = some (r, a')) : am_E sL sx am_cs 318 53 [(0, .ref 157), (2, .int q2), (3, .int q3)] [] H (some (.int r)) (fun H1 => xS h b T a' H1) := by
  unfold j318_53 at e
  refine ex_s (am_nb (m := 1) (pc1 := 54) (ls1 := [(0, .ref 157), (2, .int q2), (3, .int q3)]) (st1 := [.int q2]) (H1 := H) (k1 := 0) (n1 := 0) (by with_unfolding_all rfl)) ?_
  refine ex_s (st_if rfl) ?_
  by_cases c20 : q2 = 0
  · have e := (if_pos c20).symm.trans e
    refine ex_pc (if_pos c20) ?_
    refine ex_s (am_nb (m := 2) (pc1 := 69) (ls1 := [(0, .ref 157), (2, .int q2), (3, .int q3)]) (st1 := [.int 0]) (H1 := H) (k1 := 0) (n1 := 0) (by with_unfolding_all rfl)) ?_
    exact le_E (l1 := [(0, .ref 157), (2, .int q2), (3, .int q3)]) ⟨rfl, rfl, rfl, trivial⟩ rfl (tj318_69  hS e)
  · have e := (if_neg c20).symm.trans e
    refine ex_pc (if_neg c20) ?_
    refine ex_s (am_nb (m := 1) (pc1 := 62) (ls1 := [(0, .ref 157), (2, .int q2), (3, .int q3)]) (st1 := [.ref 157]) (H1 := H) (k1 := 0) (n1 := 0) (by with_unfolding_all rfl)) ?_
    refine xe_get (v := .ref 177) hS rfl rfl (by decide) rfl ?_
    refine ex_s (am_nb (m := 1) (pc1 := 66) (ls1 := [(0, .ref 157), (2, .int q2), (3, .int q3)]) (st1 := [.int q3, .ref 177]) (H1 := H) (k1 := 0) (n1 := 0) (by with_unfolding_all rfl)) ?_
    obtain ⟨g41, e⟩ := xg_some e
    refine xe_iald hS rfl rfl g41 ?_
    refine ex_s (am_nb (m := 2) (pc1 := 69) (ls1 := [(0, .ref 157), (2, .int q2), (3, .int q3)]) (st1 := [.int ((a 177 (q3.toNatClampNeg)) + 1)]) (H1 := H) (k1 := 0) (n1 := 0) (by with_unfolding_all rfl)) ?_
    exact le_E (l1 := [(0, .ref 157), (2, .int q2), (3, .int q3)]) ⟨rfl, rfl, rfl, trivial⟩ rfl (tj318_69  hS e)

set_option maxRecDepth 100000 in
theorem tf318_erase {sL : Nat} {sx : Nat → Int32} {h b N : Nat} {T : List am_C} {r : Int32} {a' : xA} {x0 : Int32} {x1 : Int32} {a : xA} {H : am_H} (hS : xS h b T a H) (e : f318_erase N h b x0 x1 a = some (r, a')) : am_E sL sx am_cs 318 0 [(0, .ref 157), (1, .int x0), (2, .int x1)] [] H (some (.int r)) (fun H1 => xS h b T a' H1) := by
  unfold f318_erase at e
  refine ex_s (am_nb (m := 2) (pc1 := 2) (ls1 := [(0, .ref 157), (1, .int x0), (2, .int x1)]) (st1 := [.int 0, .ref 157]) (H1 := H) (k1 := 0) (n1 := 0) (by with_unfolding_all rfl)) ?_
  obtain ⟨a1, ha1, e⟩ := xw_some e
  refine xe_put (w := 0) hS rfl rfl (by decide) rfl rfl rfl rfl (fun H2 s3 => ?_)
  have s3 : xS h b T a1 H2 := by rw [ha1]; exact s3
  refine ex_s (am_nb (m := 2) (pc1 := 7) (ls1 := [(0, .ref 157), (1, .int x0), (2, .int x1)]) (st1 := [.int x0, .ref 157]) (H1 := H2) (k1 := 0) (n1 := 0) (by with_unfolding_all rfl)) ?_
  obtain ⟨r7, a8, e6, e⟩ := xb2_some e
  refine ex_cv1 (as := [.int x0]) (rest := []) rfl rfl rfl rfl (s3.obj rfl (by decide)) rfl (by with_unfolding_all rfl) (by with_unfolding_all rfl) (tf308_is s3 e6) (fun H4 s5 => ?_)
  refine ex_s (st_if rfl) ?_
  by_cases c12 : r7 = 0
  · have e := (if_pos c12).symm.trans e
    refine ex_pc (if_pos c12) ?_
    refine ex_s (am_nb (m := 1) (pc1 := 23) (ls1 := [(0, .ref 157), (1, .int x0), (2, .int x1)]) (st1 := [.int 0]) (H1 := H4) (k1 := 0) (n1 := 0) (by with_unfolding_all rfl)) ?_
    cases e
    exact ex_r (st_iret rfl rfl rfl) s5
  · have e := (if_neg c12).symm.trans e
    refine ex_pc (if_neg c12) ?_
    refine ex_s (am_nb (m := 1) (pc1 := 14) (ls1 := [(0, .ref 157), (1, .int x0), (2, .int x1)]) (st1 := [.int x1]) (H1 := H4) (k1 := 0) (n1 := 0) (by with_unfolding_all rfl)) ?_
    refine ex_s (st_if rfl) ?_
    by_cases c15 : x1 < 0
    · have e := (if_pos c15).symm.trans e
      refine ex_pc (if_pos c15) ?_
      refine ex_s (am_nb (m := 1) (pc1 := 23) (ls1 := [(0, .ref 157), (1, .int x0), (2, .int x1)]) (st1 := [.int 0]) (H1 := H4) (k1 := 0) (n1 := 0) (by with_unfolding_all rfl)) ?_
      cases e
      exact ex_r (st_iret rfl rfl rfl) s5
    · have e := (if_neg c15).symm.trans e
      refine ex_pc (if_neg c15) ?_
      refine ex_s (am_nb (m := 2) (pc1 := 19) (ls1 := [(0, .ref 157), (1, .int x0), (2, .int x1)]) (st1 := [.int 2, .int x1]) (H1 := H4) (k1 := 0) (n1 := 0) (by with_unfolding_all rfl)) ?_
      refine ex_s (st_icmp rfl) ?_
      by_cases c16 : x1 ≤ 2
      · have e := (if_pos c16).symm.trans e
        refine ex_pc (if_pos c16) ?_
        refine ex_s (am_nb (m := 3) (pc1 := 27) (ls1 := [(3, .int x0), (0, .ref 157), (1, .int x0), (2, .int x1)]) (st1 := [.int x1]) (H1 := H4) (k1 := 0) (n1 := 0) (by with_unfolding_all rfl)) ?_
        refine ex_s (st_if rfl) ?_
        by_cases c18 : x1 ≤ 0
        · have e := (if_pos c18).symm.trans e
          refine ex_pc (if_pos c18) ?_
          exact le_E (l1 := [(0, .ref 157), (2, .int x1), (3, .int x0)]) ⟨rfl, rfl, rfl, trivial⟩ rfl (tj318_53  s5 e)
        · have e := (if_neg c18).symm.trans e
          refine ex_pc (if_neg c18) ?_
          refine ex_s (am_nb (m := 3) (pc1 := 33) (ls1 := [(3, .int x0), (0, .ref 157), (1, .int x0), (2, .int x1)]) (st1 := [.ref 157, .int x0, .ref 157]) (H1 := H4) (k1 := 0) (n1 := 0) (by with_unfolding_all rfl)) ?_
          refine xe_get (v := .ref 177) s5 rfl rfl (by decide) rfl ?_
          refine ex_s (am_nb (m := 1) (pc1 := 37) (ls1 := [(3, .int x0), (0, .ref 157), (1, .int x0), (2, .int x1)]) (st1 := [.int x0, .ref 177, .int x0, .ref 157]) (H1 := H4) (k1 := 0) (n1 := 0) (by with_unfolding_all rfl)) ?_
          obtain ⟨g42, e⟩ := xg_some e
          refine xe_iald s5 rfl rfl g42 ?_
          refine ex_s (am_nb (m := 1) (pc1 := 39) (ls1 := [(3, .int x0), (0, .ref 157), (1, .int x0), (2, .int x1)]) (st1 := [.ref 157, .int (a8 177 (x0.toNatClampNeg)), .int x0, .ref 157]) (H1 := H4) (k1 := 0) (n1 := 0) (by with_unfolding_all rfl)) ?_
          refine xe_get (v := .ref 178) s5 rfl rfl (by decide) rfl ?_
          refine ex_s (am_nb (m := 1) (pc1 := 43) (ls1 := [(3, .int x0), (0, .ref 157), (1, .int x0), (2, .int x1)]) (st1 := [.int x0, .ref 178, .int (a8 177 (x0.toNatClampNeg)), .int x0, .ref 157]) (H1 := H4) (k1 := 0) (n1 := 0) (by with_unfolding_all rfl)) ?_
          refine xe_iald s5 rfl rfl g42 ?_
          refine ex_s (am_nb (m := 1) (pc1 := 45) (ls1 := [(3, .int x0), (0, .ref 157), (1, .int x0), (2, .int x1)]) (st1 := [.ref 157, .int (a8 178 (x0.toNatClampNeg)), .int (a8 177 (x0.toNatClampNeg)), .int x0, .ref 157]) (H1 := H4) (k1 := 0) (n1 := 0) (by with_unfolding_all rfl)) ?_
          refine xe_get (v := .ref 176) s5 rfl rfl (by decide) rfl ?_
          refine ex_s (am_nb (m := 1) (pc1 := 49) (ls1 := [(3, .int x0), (0, .ref 157), (1, .int x0), (2, .int x1)]) (st1 := [.int x0, .ref 176, .int (a8 178 (x0.toNatClampNeg)), .int (a8 177 (x0.toNatClampNeg)), .int x0, .ref 157]) (H1 := H4) (k1 := 0) (n1 := 0) (by with_unfolding_all rfl)) ?_
          refine xe_iald s5 rfl rfl g42 ?_
          obtain ⟨a46, e45, e⟩ := xb1_some e
          refine ex_cv0 (as := [.int x0, .int (a8 177 (x0.toNatClampNeg)), .int (a8 178 (x0.toNatClampNeg)), .int (a8 176 (x0.toNatClampNeg))]) (rest := []) rfl rfl rfl rfl (s5.obj rfl (by decide)) rfl (by with_unfolding_all rfl) (by with_unfolding_all rfl) (tf317_clears s5 e45) (fun H43 s44 => ?_)
          exact le_E (l1 := [(0, .ref 157), (2, .int x1), (3, .int x0)]) ⟨rfl, rfl, rfl, trivial⟩ rfl (tj318_53  s44 e)
      · have e := (if_neg c16).symm.trans e
        refine ex_pc (if_neg c16) ?_
        refine ex_s (am_nb (m := 1) (pc1 := 23) (ls1 := [(0, .ref 157), (1, .int x0), (2, .int x1)]) (st1 := [.int 0]) (H1 := H4) (k1 := 0) (n1 := 0) (by with_unfolding_all rfl)) ?_
        cases e
        exact ex_r (st_iret rfl rfl rfl) s5

set_option maxRecDepth 100000 in
theorem tj320_65 {sL : Nat} {sx : Nat → Int32} {h b N : Nat} {T : List am_C} {R : Option Value} {F : am_H → Prop} {w1 : Int32} {w2 : Int32} {w3 : Int32} {z : Nat × xA} {rc : Int32 → xA → Option (Nat × xA)} (k0 : z.1 = 0 → ∀ H2 : am_H, xS h b T z.2 H2 → am_E sL sx am_cs 320 72 [(0, .ref 157), (1, .int w1), (2, .int w2), (3, .int w3)] [] H2 R F) (ih : ∀ (v4 : Int32) (a : xA) (H : am_H), xS h b T a H → rc v4 a = some z → am_E sL sx am_cs 320 17 [(0, .ref 157), (1, .int w1), (2, .int w2), (3, .int w3), (4, .int v4)] [] H R F) {q4 : Int32} {t0 : Int32} {t1 : Int32} {a : xA} {H : am_H} (hS : xS h b T a H) (e : j320_65 N h b rc w1 w2 w3 q4 t0 t1 a = some z) : am_E sL sx am_cs 320 65 [(0, .ref 157), (1, .int w1), (2, .int w2), (3, .int w3), (4, .int q4)] [.int t0, .int t1, .ref 181] H R F := by
  unfold j320_65 at e
  obtain ⟨g15, e⟩ := xg_some e
  obtain ⟨a12, ha12, e⟩ := xw_some e
  refine xe_iast hS rfl rfl g15 (fun H13 s14 => ?_)
  have s14 : xS h b T a12 H13 := by rw [ha12]; exact s14
  refine ex_s (am_nb (m := 2) (pc1 := 17) (ls1 := [(4, .int (q4 + 1)), (0, .ref 157), (1, .int w1), (2, .int w2), (3, .int w3)]) (st1 := []) (H1 := H13) (k1 := 0) (n1 := 0) (by with_unfolding_all rfl)) ?_
  exact le_E (l1 := [(0, .ref 157), (1, .int w1), (2, .int w2), (3, .int w3), (4, .int (q4 + 1))]) ⟨rfl, rfl, rfl, rfl, rfl, trivial⟩ rfl (ih (q4 + 1) a12 H13 s14 e)

set_option maxRecDepth 100000 in
theorem tl320_17 {sL : Nat} {sx : Nat → Int32} {h b N : Nat} {T : List am_C} {R : Option Value} {F : am_H → Prop} {w1 : Int32} {w2 : Int32} {w3 : Int32} {z : Nat × xA} (k0 : z.1 = 0 → ∀ H2 : am_H, xS h b T z.2 H2 → am_E sL sx am_cs 320 72 [(0, .ref 157), (1, .int w1), (2, .int w2), (3, .int w3)] [] H2 R F) : ∀ (n : Nat) (v4 : Int32) (a : xA) (H : am_H), xS h b T a H → l320_17 N h b w1 w2 w3 n v4 a = some z → am_E sL sx am_cs 320 17 [(0, .ref 157), (1, .int w1), (2, .int w2), (3, .int w3), (4, .int v4)] [] H R F := by
  intro n
  induction n with
  | zero =>
    intro v4 a H hS e
    cases e
  | succ n ih =>
    intro v4 a H hS e
    unfold l320_17 at e
    refine ex_s (am_nb (m := 2) (pc1 := 20) (ls1 := [(0, .ref 157), (1, .int w1), (2, .int w2), (3, .int w3), (4, .int v4)]) (st1 := [.ref 157, .int v4]) (H1 := H) (k1 := 0) (n1 := 0) (by with_unfolding_all rfl)) ?_
    refine xe_get (v := .ref 176) hS rfl rfl (by decide) rfl ?_
    refine ex_s (am_nb (m := 1) (pc1 := 24) (ls1 := [(0, .ref 157), (1, .int w1), (2, .int w2), (3, .int w3), (4, .int v4)]) (st1 := [.int w1, .ref 176, .int v4]) (H1 := H) (k1 := 0) (n1 := 0) (by with_unfolding_all rfl)) ?_
    obtain ⟨g3, e⟩ := xg_some e
    refine xe_iald hS rfl rfl g3 ?_
    refine ex_s (st_icmp rfl) ?_
    by_cases c4 : (a 176 (w1.toNatClampNeg)) ≤ v4
    · have e := (if_pos c4).symm.trans e
      refine ex_pc (if_pos c4) ?_
      cases e
      exact le_E (l1 := [(0, .ref 157), (1, .int w1), (2, .int w2), (3, .int w3)]) ⟨rfl, rfl, rfl, rfl, trivial⟩ rfl (k0 rfl H hS)
    · have e := (if_neg c4).symm.trans e
      refine ex_pc (if_neg c4) ?_
      refine ex_s (am_nb (m := 1) (pc1 := 29) (ls1 := [(0, .ref 157), (1, .int w1), (2, .int w2), (3, .int w3), (4, .int v4)]) (st1 := [.ref 157]) (H1 := H) (k1 := 0) (n1 := 0) (by with_unfolding_all rfl)) ?_
      refine xe_get (v := .ref 181) hS rfl rfl (by decide) rfl ?_
      refine ex_s (am_nb (m := 4) (pc1 := 37) (ls1 := [(0, .ref 157), (1, .int w1), (2, .int w2), (3, .int w3), (4, .int v4)]) (st1 := [.int v4, .int w3, .int w1, .ref 157, .ref 181]) (H1 := H) (k1 := 0) (n1 := 0) (by with_unfolding_all rfl)) ?_
      obtain ⟨r8, a9, e7, e⟩ := xb2_some e
      refine ex_cv1 (as := [.int w1, .int w3, .int v4]) (rest := [.ref 181]) rfl rfl rfl rfl (hS.obj rfl (by decide)) rfl (by with_unfolding_all rfl) (by with_unfolding_all rfl) (tf314_cellAt hS e7) (fun H5 s6 => ?_)
      refine ex_s (am_nb (m := 2) (pc1 := 42) (ls1 := [(0, .ref 157), (1, .int w1), (2, .int w2), (3, .int w3), (4, .int v4)]) (st1 := [.int w2, .int w3, .int r8, .ref 181]) (H1 := H5) (k1 := 0) (n1 := 0) (by with_unfolding_all rfl)) ?_
      refine ex_s (st_icmp rfl) ?_
      by_cases c11 : w3 ≤ w2
      · have e := (if_pos c11).symm.trans e
        refine ex_pc (if_pos c11) ?_
        refine ex_s (am_nb (m := 1) (pc1 := 65) (ls1 := [(0, .ref 157), (1, .int w1), (2, .int w2), (3, .int w3), (4, .int v4)]) (st1 := [.int 32, .int r8, .ref 181]) (H1 := H5) (k1 := 0) (n1 := 0) (by with_unfolding_all rfl)) ?_
        exact le_E (l1 := [(0, .ref 157), (1, .int w1), (2, .int w2), (3, .int w3), (4, .int v4)]) ⟨rfl, rfl, rfl, rfl, rfl, trivial⟩ rfl (tj320_65 k0 ih  s6 e)
      · have e := (if_neg c11).symm.trans e
        refine ex_pc (if_neg c11) ?_
        refine ex_s (am_nb (m := 1) (pc1 := 46) (ls1 := [(0, .ref 157), (1, .int w1), (2, .int w2), (3, .int w3), (4, .int v4)]) (st1 := [.ref 157, .int r8, .ref 181]) (H1 := H5) (k1 := 0) (n1 := 0) (by with_unfolding_all rfl)) ?_
        refine xe_get (v := .ref 181) s6 rfl rfl (by decide) rfl ?_
        refine ex_s (am_nb (m := 6) (pc1 := 56) (ls1 := [(0, .ref 157), (1, .int w1), (2, .int w2), (3, .int w3), (4, .int v4)]) (st1 := [.int v4, .int (w3 - 1), .int w1, .ref 157, .ref 181, .int r8, .ref 181]) (H1 := H5) (k1 := 0) (n1 := 0) (by with_unfolding_all rfl)) ?_
        obtain ⟨r19, a20, e18, e⟩ := xb2_some e
        refine ex_cv1 (as := [.int w1, .int (w3 - 1), .int v4]) (rest := [.ref 181, .int r8, .ref 181]) rfl rfl rfl rfl (s6.obj rfl (by decide)) rfl (by with_unfolding_all rfl) (by with_unfolding_all rfl) (tf314_cellAt s6 e18) (fun H16 s17 => ?_)
        obtain ⟨g21, e⟩ := xg_some e
        refine xe_iald s17 rfl rfl g21 ?_
        refine ex_s (am_nb (m := 1) (pc1 := 65) (ls1 := [(0, .ref 157), (1, .int w1), (2, .int w2), (3, .int w3), (4, .int v4)]) (st1 := [.int (a20 181 (r19.toNatClampNeg)), .int r8, .ref 181]) (H1 := H16) (k1 := 0) (n1 := 0) (by with_unfolding_all rfl)) ?_
        exact le_E (l1 := [(0, .ref 157), (1, .int w1), (2, .int w2), (3, .int w3), (4, .int v4)]) ⟨rfl, rfl, rfl, rfl, rfl, trivial⟩ rfl (tj320_65 k0 ih  s17 e)

set_option maxRecDepth 100000 in
theorem tl320_9 {sL : Nat} {sx : Nat → Int32} {h b N : Nat} {T : List am_C} {R : Option Value} {F : am_H → Prop} {w1 : Int32} {w2 : Int32} {z : Nat × xA} (k0 : z.1 = 0 → ∀ H2 : am_H, xS h b T z.2 H2 → am_E sL sx am_cs 320 78 [] [] H2 R F) : ∀ (n : Nat) (v3 : Int32) (a : xA) (H : am_H), xS h b T a H → l320_9 N h b w1 w2 n v3 a = some z → am_E sL sx am_cs 320 9 [(0, .ref 157), (1, .int w1), (2, .int w2), (3, .int v3)] [] H R F := by
  intro n
  induction n with
  | zero =>
    intro v3 a H hS e
    cases e
  | succ n ih =>
    intro v3 a H hS e
    unfold l320_9 at e
    refine ex_s (am_nb (m := 2) (pc1 := 11) (ls1 := [(0, .ref 157), (1, .int w1), (2, .int w2), (3, .int v3)]) (st1 := [.int w2, .int v3]) (H1 := H) (k1 := 0) (n1 := 0) (by with_unfolding_all rfl)) ?_
    refine ex_s (st_icmp rfl) ?_
    by_cases c2 : v3 < w2
    · have e := (if_pos c2).symm.trans e
      refine ex_pc (if_pos c2) ?_
      cases e
      exact le_E (l1 := []) trivial rfl (k0 rfl H hS)
    · have e := (if_neg c2).symm.trans e
      refine ex_pc (if_neg c2) ?_
      refine ex_s (am_nb (m := 2) (pc1 := 17) (ls1 := [(4, .int 0), (0, .ref 157), (1, .int w1), (2, .int w2), (3, .int v3)]) (st1 := []) (H1 := H) (k1 := 0) (n1 := 0) (by with_unfolding_all rfl)) ?_
      obtain ⟨z22, e23, e⟩ := Option.bind_eq_some_iff.mp e
      refine le_E (l1 := [(0, .ref 157), (1, .int w1), (2, .int w2), (3, .int v3), (4, .int 0)]) ⟨rfl, rfl, rfl, rfl, rfl, trivial⟩ rfl (tl320_17 (z := z22)  (fun uz22_0 Hz220 sz220 => ?_) N 0 a H hS e23)
      refine ex_s (am_nb (m := 2) (pc1 := 9) (ls1 := [(3, .int (v3 + (-1))), (0, .ref 157), (1, .int w1), (2, .int w2)]) (st1 := []) (H1 := Hz220) (k1 := 0) (n1 := 0) (by with_unfolding_all rfl)) ?_
      exact le_E (l1 := [(0, .ref 157), (1, .int w1), (2, .int w2), (3, .int (v3 + (-1)))]) ⟨rfl, rfl, rfl, rfl, trivial⟩ rfl (ih (v3 + (-1)) z22.2 Hz220 sz220 e)

set_option maxRecDepth 100000 in
theorem tf320_down {sL : Nat} {sx : Nat → Int32} {h b N : Nat} {T : List am_C} {a' : xA} {x0 : Int32} {x1 : Int32} {a : xA} {H : am_H} (hS : xS h b T a H) (e : f320_down N h b x0 x1 a = some a') : am_E sL sx am_cs 320 0 [(0, .ref 157), (1, .int x0), (2, .int x1)] [] H none (fun H1 => xS h b T a' H1) := by
  unfold f320_down at e
  refine ex_s (am_nb (m := 1) (pc1 := 1) (ls1 := [(0, .ref 157), (1, .int x0), (2, .int x1)]) (st1 := [.ref 157]) (H1 := H) (k1 := 0) (n1 := 0) (by with_unfolding_all rfl)) ?_
  refine xe_get (v := .ref 175) hS rfl rfl (by decide) rfl ?_
  refine ex_s (am_nb (m := 1) (pc1 := 5) (ls1 := [(0, .ref 157), (1, .int x0), (2, .int x1)]) (st1 := [.int x0, .ref 175]) (H1 := H) (k1 := 0) (n1 := 0) (by with_unfolding_all rfl)) ?_
  obtain ⟨g1, e⟩ := xg_some e
  refine xe_iald hS rfl rfl g1 ?_
  refine ex_s (am_nb (m := 3) (pc1 := 9) (ls1 := [(3, .int ((a 175 (x0.toNatClampNeg)) - 1)), (0, .ref 157), (1, .int x0), (2, .int x1)]) (st1 := []) (H1 := H) (k1 := 0) (n1 := 0) (by with_unfolding_all rfl)) ?_
  obtain ⟨z24, e25, e⟩ := Option.bind_eq_some_iff.mp e
  refine le_E (l1 := [(0, .ref 157), (1, .int x0), (2, .int x1), (3, .int ((a 175 (x0.toNatClampNeg)) - 1))]) ⟨rfl, rfl, rfl, rfl, trivial⟩ rfl (tl320_9 (z := z24)  (fun uz24_0 Hz240 sz240 => ?_) N ((a 175 (x0.toNatClampNeg)) - 1) a H hS e25)
  cases e
  exact ex_r (st_vret rfl rfl) sz240

set_option maxRecDepth 100000 in
theorem tj319_66 {sL : Nat} {sx : Nat → Int32} {h b N : Nat} {T : List am_C} {R : Option Value} {F : am_H → Prop} {w1 : Int32} {w2 : Int32} {w3 : Int32} {z : Nat × xA} {rc : Int32 → xA → Option (Nat × xA)} (k0 : z.1 = 0 → ∀ H2 : am_H, xS h b T z.2 H2 → am_E sL sx am_cs 319 72 [] [] H2 R F) (ih : ∀ (v4 : Int32) (a : xA) (H : am_H), xS h b T a H → rc v4 a = some z → am_E sL sx am_cs 319 31 [(0, .ref 157), (1, .int w1), (2, .int w2), (3, .int w3), (4, .int v4)] [] H R F) {q4 : Int32} {a : xA} {H : am_H} (hS : xS h b T a H) (e : j319_66 N h b rc w1 w2 w3 q4 a = some z) : am_E sL sx am_cs 319 66 [(0, .ref 157), (1, .int w1), (2, .int w2), (3, .int w3), (4, .int q4)] [] H R F := by
  unfold j319_66 at e
  refine ex_s (am_nb (m := 2) (pc1 := 31) (ls1 := [(4, .int (q4 + 1)), (0, .ref 157), (1, .int w1), (2, .int w2), (3, .int w3)]) (st1 := []) (H1 := H) (k1 := 0) (n1 := 0) (by with_unfolding_all rfl)) ?_
  exact le_E (l1 := [(0, .ref 157), (1, .int w1), (2, .int w2), (3, .int w3), (4, .int (q4 + 1))]) ⟨rfl, rfl, rfl, rfl, rfl, trivial⟩ rfl (ih (q4 + 1) a H hS e)

set_option maxRecDepth 100000 in
theorem tl319_31 {sL : Nat} {sx : Nat → Int32} {h b N : Nat} {T : List am_C} {R : Option Value} {F : am_H → Prop} {w1 : Int32} {w2 : Int32} {w3 : Int32} {z : Nat × xA} (k0 : z.1 = 0 → ∀ H2 : am_H, xS h b T z.2 H2 → am_E sL sx am_cs 319 72 [] [] H2 R F) : ∀ (n : Nat) (v4 : Int32) (a : xA) (H : am_H), xS h b T a H → l319_31 N h b w1 w2 w3 n v4 a = some z → am_E sL sx am_cs 319 31 [(0, .ref 157), (1, .int w1), (2, .int w2), (3, .int w3), (4, .int v4)] [] H R F := by
  intro n
  induction n with
  | zero =>
    intro v4 a H hS e
    cases e
  | succ n ih =>
    intro v4 a H hS e
    unfold l319_31 at e
    refine ex_s (am_nb (m := 2) (pc1 := 34) (ls1 := [(0, .ref 157), (1, .int w1), (2, .int w2), (3, .int w3), (4, .int v4)]) (st1 := [.int w3, .int v4]) (H1 := H) (k1 := 0) (n1 := 0) (by with_unfolding_all rfl)) ?_
    refine ex_s (st_icmp rfl) ?_
    by_cases c10 : w3 ≤ v4
    · have e := (if_pos c10).symm.trans e
      refine ex_pc (if_pos c10) ?_
      cases e
      exact le_E (l1 := []) trivial rfl (k0 rfl H hS)
    · have e := (if_neg c10).symm.trans e
      refine ex_pc (if_neg c10) ?_
      refine ex_s (am_nb (m := 1) (pc1 := 38) (ls1 := [(0, .ref 157), (1, .int w1), (2, .int w2), (3, .int w3), (4, .int v4)]) (st1 := [.int w2]) (H1 := H) (k1 := 0) (n1 := 0) (by with_unfolding_all rfl)) ?_
      refine ex_s (st_if rfl) ?_
      by_cases c12 : w2 ≤ 0
      · have e := (if_pos c12).symm.trans e
        refine ex_pc (if_pos c12) ?_
        refine ex_s (am_nb (m := 3) (pc1 := 58) (ls1 := [(0, .ref 157), (1, .int w1), (2, .int w2), (3, .int w3), (4, .int v4)]) (st1 := [.ref 157, .int w1, .ref 157]) (H1 := H) (k1 := 0) (n1 := 0) (by with_unfolding_all rfl)) ?_
        refine xe_get (v := .ref 177) hS rfl rfl (by decide) rfl ?_
        refine ex_s (am_nb (m := 1) (pc1 := 62) (ls1 := [(0, .ref 157), (1, .int w1), (2, .int w2), (3, .int w3), (4, .int v4)]) (st1 := [.int w1, .ref 177, .int w1, .ref 157]) (H1 := H) (k1 := 0) (n1 := 0) (by with_unfolding_all rfl)) ?_
        obtain ⟨g13, e⟩ := xg_some e
        refine xe_iald hS rfl rfl g13 ?_
        obtain ⟨a17, e16, e⟩ := xb1_some e
        refine ex_cv0 (as := [.int w1, .int (a 177 (w1.toNatClampNeg))]) (rest := []) rfl rfl rfl rfl (hS.obj rfl (by decide)) rfl (by with_unfolding_all rfl) (by with_unfolding_all rfl) (tf316_up hS e16) (fun H14 s15 => ?_)
        exact le_E (l1 := [(0, .ref 157), (1, .int w1), (2, .int w2), (3, .int w3), (4, .int v4)]) ⟨rfl, rfl, rfl, rfl, rfl, trivial⟩ rfl (tj319_66 k0 ih  s15 e)
      · have e := (if_neg c12).symm.trans e
        refine ex_pc (if_neg c12) ?_
        refine ex_s (am_nb (m := 3) (pc1 := 44) (ls1 := [(0, .ref 157), (1, .int w1), (2, .int w2), (3, .int w3), (4, .int v4)]) (st1 := [.ref 157, .int w1, .ref 157]) (H1 := H) (k1 := 0) (n1 := 0) (by with_unfolding_all rfl)) ?_
        refine xe_get (v := .ref 177) hS rfl rfl (by decide) rfl ?_
        refine ex_s (am_nb (m := 1) (pc1 := 48) (ls1 := [(0, .ref 157), (1, .int w1), (2, .int w2), (3, .int w3), (4, .int v4)]) (st1 := [.int w1, .ref 177, .int w1, .ref 157]) (H1 := H) (k1 := 0) (n1 := 0) (by with_unfolding_all rfl)) ?_
        obtain ⟨g18, e⟩ := xg_some e
        refine xe_iald hS rfl rfl g18 ?_
        obtain ⟨a22, e21, e⟩ := xb1_some e
        refine ex_cv0 (as := [.int w1, .int (a 177 (w1.toNatClampNeg))]) (rest := []) rfl rfl rfl rfl (hS.obj rfl (by decide)) rfl (by with_unfolding_all rfl) (by with_unfolding_all rfl) (tf320_down hS e21) (fun H19 s20 => ?_)
        refine ex_s (am_nb (m := 1) (pc1 := 66) (ls1 := [(0, .ref 157), (1, .int w1), (2, .int w2), (3, .int w3), (4, .int v4)]) (st1 := []) (H1 := H19) (k1 := 0) (n1 := 0) (by with_unfolding_all rfl)) ?_
        exact le_E (l1 := [(0, .ref 157), (1, .int w1), (2, .int w2), (3, .int w3), (4, .int v4)]) ⟨rfl, rfl, rfl, rfl, rfl, trivial⟩ rfl (tj319_66 k0 ih  s20 e)

set_option maxRecDepth 100000 in
theorem tf319_rows {sL : Nat} {sx : Nat → Int32} {h b N : Nat} {T : List am_C} {r : Int32} {a' : xA} {x0 : Int32} {x1 : Int32} {a : xA} {H : am_H} (hS : xS h b T a H) (e : f319_rows N h b x0 x1 a = some (r, a')) : am_E sL sx am_cs 319 0 [(0, .ref 157), (1, .int x0), (2, .int x1)] [] H (some (.int r)) (fun H1 => xS h b T a' H1) := by
  unfold f319_rows at e
  refine ex_s (am_nb (m := 2) (pc1 := 2) (ls1 := [(0, .ref 157), (1, .int x0), (2, .int x1)]) (st1 := [.int 0, .ref 157]) (H1 := H) (k1 := 0) (n1 := 0) (by with_unfolding_all rfl)) ?_
  obtain ⟨a1, ha1, e⟩ := xw_some e
  refine xe_put (w := 0) hS rfl rfl (by decide) rfl rfl rfl rfl (fun H2 s3 => ?_)
  have s3 : xS h b T a1 H2 := by rw [ha1]; exact s3
  refine ex_s (am_nb (m := 2) (pc1 := 7) (ls1 := [(0, .ref 157), (1, .int x0), (2, .int x1)]) (st1 := [.int x0, .ref 157]) (H1 := H2) (k1 := 0) (n1 := 0) (by with_unfolding_all rfl)) ?_
  obtain ⟨r7, a8, e6, e⟩ := xb2_some e
  refine ex_cv1 (as := [.int x0]) (rest := []) rfl rfl rfl rfl (s3.obj rfl (by decide)) rfl (by with_unfolding_all rfl) (by with_unfolding_all rfl) (tf308_is s3 e6) (fun H4 s5 => ?_)
  refine ex_s (st_if rfl) ?_
  by_cases c9 : r7 = 0
  · have e := (if_pos c9).symm.trans e
    refine ex_pc (if_pos c9) ?_
    refine ex_s (am_nb (m := 1) (pc1 := 14) (ls1 := [(0, .ref 157), (1, .int x0), (2, .int x1)]) (st1 := [.int 0]) (H1 := H4) (k1 := 0) (n1 := 0) (by with_unfolding_all rfl)) ?_
    cases e
    exact ex_r (st_iret rfl rfl rfl) s5
  · have e := (if_neg c9).symm.trans e
    refine ex_pc (if_neg c9) ?_
    refine ex_s (am_nb (m := 9) (pc1 := 31) (ls1 := [(4, .int 0), (3, .int ((xminl (xabsl x1.toInt64) 24).toInt32)), (0, .ref 157), (1, .int x0), (2, .int x1)]) (st1 := []) (H1 := H4) (k1 := 0) (n1 := 0) (by with_unfolding_all rfl)) ?_
    obtain ⟨z23, e24, e⟩ := Option.bind_eq_some_iff.mp e
    refine le_E (l1 := [(0, .ref 157), (1, .int x0), (2, .int x1), (3, .int ((xminl (xabsl x1.toInt64) 24).toInt32)), (4, .int 0)]) ⟨rfl, rfl, rfl, rfl, rfl, trivial⟩ rfl (tl319_31 (z := z23)  (fun uz23_0 Hz230 sz230 => ?_) N 0 a8 H4 s5 e24)
    refine ex_s (am_nb (m := 1) (pc1 := 73) (ls1 := []) (st1 := [.int 1]) (H1 := Hz230) (k1 := 0) (n1 := 0) (by with_unfolding_all rfl)) ?_
    cases e
    exact ex_r (st_iret rfl rfl rfl) sz230

set_option maxRecDepth 100000 in
theorem tl321_125 {sL : Nat} {sx : Nat → Int32} {h b N : Nat} {T : List am_C} {R : Option Value} {F : am_H → Prop} {w2 : Int32} {w4 : Int32} {w5 : Int32} {w6 : Int32} {w7 : Int32} {z : Nat × xA} (k0 : z.1 = 0 → ∀ H2 : am_H, xS h b T z.2 H2 → am_E sL sx am_cs 321 156 [(0, .ref 157), (2, .int w2), (4, .int w4), (5, .int w5), (6, .int w6), (7, .int w7)] [] H2 R F) : ∀ (n : Nat) (v8 : Int32) (a : xA) (H : am_H), xS h b T a H → l321_125 N h b w2 w4 w5 w6 w7 n v8 a = some z → am_E sL sx am_cs 321 125 [(0, .ref 157), (2, .int w2), (4, .int w4), (5, .int w5), (6, .int w6), (7, .int w7), (8, .int v8)] [] H R F := by
  intro n
  induction n with
  | zero =>
    intro v8 a H hS e
    cases e
  | succ n ih =>
    intro v8 a H hS e
    unfold l321_125 at e
    refine ex_s (am_nb (m := 4) (pc1 := 131) (ls1 := [(0, .ref 157), (2, .int w2), (4, .int w4), (5, .int w5), (6, .int w6), (7, .int w7), (8, .int v8)]) (st1 := [.int (w6 - 1), .int v8]) (H1 := H) (k1 := 0) (n1 := 0) (by with_unfolding_all rfl)) ?_
    refine ex_s (st_icmp rfl) ?_
    by_cases c23 : (w6 - 1) ≤ v8
    · have e := (if_pos c23).symm.trans e
      refine ex_pc (if_pos c23) ?_
      cases e
      exact le_E (l1 := [(0, .ref 157), (2, .int w2), (4, .int w4), (5, .int w5), (6, .int w6), (7, .int w7)]) ⟨rfl, rfl, rfl, rfl, rfl, rfl, trivial⟩ rfl (k0 rfl H hS)
    · have e := (if_neg c23).symm.trans e
      refine ex_pc (if_neg c23) ?_
      refine ex_s (am_nb (m := 1) (pc1 := 135) (ls1 := [(0, .ref 157), (2, .int w2), (4, .int w4), (5, .int w5), (6, .int w6), (7, .int w7), (8, .int v8)]) (st1 := [.ref 157]) (H1 := H) (k1 := 0) (n1 := 0) (by with_unfolding_all rfl)) ?_
      refine xe_get (v := .ref 181) hS rfl rfl (by decide) rfl ?_
      refine ex_s (am_nb (m := 2) (pc1 := 141) (ls1 := [(0, .ref 157), (2, .int w2), (4, .int w4), (5, .int w5), (6, .int w6), (7, .int w7), (8, .int v8)]) (st1 := [.ref 157, .int v8, .ref 181]) (H1 := H) (k1 := 0) (n1 := 0) (by with_unfolding_all rfl)) ?_
      refine xe_get (v := .ref 181) hS rfl rfl (by decide) rfl ?_
      refine ex_s (am_nb (m := 3) (pc1 := 148) (ls1 := [(0, .ref 157), (2, .int w2), (4, .int w4), (5, .int w5), (6, .int w6), (7, .int w7), (8, .int v8)]) (st1 := [.int (v8 + 1), .ref 181, .int v8, .ref 181]) (H1 := H) (k1 := 0) (n1 := 0) (by with_unfolding_all rfl)) ?_
      obtain ⟨g24, e⟩ := xg_some e
      refine xe_iald hS rfl rfl g24 ?_
      obtain ⟨g28, e⟩ := xg_some e
      obtain ⟨a25, ha25, e⟩ := xw_some e
      refine xe_iast hS rfl rfl g28 (fun H26 s27 => ?_)
      have s27 : xS h b T a25 H26 := by rw [ha25]; exact s27
      refine ex_s (am_nb (m := 2) (pc1 := 125) (ls1 := [(8, .int (v8 + 1)), (0, .ref 157), (2, .int w2), (4, .int w4), (5, .int w5), (6, .int w6), (7, .int w7)]) (st1 := []) (H1 := H26) (k1 := 0) (n1 := 0) (by with_unfolding_all rfl)) ?_
      exact le_E (l1 := [(0, .ref 157), (2, .int w2), (4, .int w4), (5, .int w5), (6, .int w6), (7, .int w7), (8, .int (v8 + 1))]) ⟨rfl, rfl, rfl, rfl, rfl, rfl, rfl, trivial⟩ rfl (ih (v8 + 1) a25 H26 s27 e)

set_option maxRecDepth 100000 in
theorem tj321_156 {sL : Nat} {sx : Nat → Int32} {h b N : Nat} {T : List am_C} {R : Option Value} {F : am_H → Prop} {w2 : Int32} {w4 : Int32} {w5 : Int32} {w6 : Int32} {z : Nat × xA} {rc : Int32 → xA → Option (Nat × xA)} (k0 : z.1 = 0 → ∀ H2 : am_H, xS h b T z.2 H2 → am_E sL sx am_cs 321 182 [] [] H2 R F) (ih : ∀ (v7 : Int32) (a : xA) (H : am_H), xS h b T a H → rc v7 a = some z → am_E sL sx am_cs 321 72 [(0, .ref 157), (2, .int w2), (4, .int w4), (5, .int w5), (6, .int w6), (7, .int v7)] [] H R F) {q7 : Int32} {a : xA} {H : am_H} (hS : xS h b T a H) (e : j321_156 N h b rc w2 w4 w5 w6 q7 a = some z) : am_E sL sx am_cs 321 156 [(0, .ref 157), (2, .int w2), (4, .int w4), (5, .int w5), (6, .int w6), (7, .int q7)] [] H R F := by
  unfold j321_156 at e
  refine ex_s (am_nb (m := 1) (pc1 := 157) (ls1 := [(0, .ref 157), (2, .int w2), (4, .int w4), (5, .int w5), (6, .int w6), (7, .int q7)]) (st1 := [.ref 157]) (H1 := H) (k1 := 0) (n1 := 0) (by with_unfolding_all rfl)) ?_
  refine xe_get (v := .ref 181) hS rfl rfl (by decide) rfl ?_
  refine ex_s (am_nb (m := 1) (pc1 := 161) (ls1 := [(0, .ref 157), (2, .int w2), (4, .int w4), (5, .int w5), (6, .int w6), (7, .int q7)]) (st1 := [.int w2, .ref 181]) (H1 := H) (k1 := 0) (n1 := 0) (by with_unfolding_all rfl)) ?_
  have kk : am_E sL sx am_cs 321 173 [(0, .ref 157), (2, .int w2), (4, .int w4), (5, .int w5), (6, .int w6), (7, .int q7)] [.int (if w2 ≤ 0 then (w6 - 1) else (w5)), .ref 181] H R F := by
    refine ex_s (am_nb (m := 1) (pc1 := 175) (ls1 := [(0, .ref 157), (2, .int w2), (4, .int w4), (5, .int w5), (6, .int w6), (7, .int q7)]) (st1 := [.int 32, .int (if w2 ≤ 0 then (w6 - 1) else (w5)), .ref 181]) (H1 := H) (k1 := 0) (n1 := 0) (by with_unfolding_all rfl)) ?_
    obtain ⟨g35, e⟩ := xg_some e
    obtain ⟨a32, ha32, e⟩ := xw_some e
    refine xe_iast hS rfl rfl g35 (fun H33 s34 => ?_)
    have s34 : xS h b T a32 H33 := by rw [ha32]; exact s34
    refine ex_s (am_nb (m := 2) (pc1 := 72) (ls1 := [(7, .int (q7 + 1)), (0, .ref 157), (2, .int w2), (4, .int w4), (5, .int w5), (6, .int w6)]) (st1 := []) (H1 := H33) (k1 := 0) (n1 := 0) (by with_unfolding_all rfl)) ?_
    exact le_E (l1 := [(0, .ref 157), (2, .int w2), (4, .int w4), (5, .int w5), (6, .int w6), (7, .int (q7 + 1))]) ⟨rfl, rfl, rfl, rfl, rfl, rfl, trivial⟩ rfl (ih (q7 + 1) a32 H33 s34 e)
  refine ex_s (st_if rfl) ?_
  by_cases c31 : w2 ≤ 0
  · refine ex_pc (if_pos c31) ?_
    refine ex_s (am_nb (m := 3) (pc1 := 173) (ls1 := [(0, .ref 157), (2, .int w2), (4, .int w4), (5, .int w5), (6, .int w6), (7, .int q7)]) (st1 := [.int (w6 - 1), .ref 181]) (H1 := H) (k1 := 0) (n1 := 0) (by with_unfolding_all rfl)) ?_
    rw [if_pos c31] at kk
    exact kk
  · refine ex_pc (if_neg c31) ?_
    refine ex_s (am_nb (m := 2) (pc1 := 173) (ls1 := [(0, .ref 157), (2, .int w2), (4, .int w4), (5, .int w5), (6, .int w6), (7, .int q7)]) (st1 := [.int w5, .ref 181]) (H1 := H) (k1 := 0) (n1 := 0) (by with_unfolding_all rfl)) ?_
    rw [if_neg c31] at kk
    exact kk

set_option maxRecDepth 100000 in
theorem tl321_89 {sL : Nat} {sx : Nat → Int32} {h b N : Nat} {T : List am_C} {R : Option Value} {F : am_H → Prop} {w2 : Int32} {w4 : Int32} {w5 : Int32} {w6 : Int32} {w7 : Int32} {z : Nat × xA} (k0 : z.1 = 0 → ∀ H2 : am_H, xS h b T z.2 H2 → am_E sL sx am_cs 321 118 [(0, .ref 157), (2, .int w2), (4, .int w4), (5, .int w5), (6, .int w6), (7, .int w7)] [] H2 R F) : ∀ (n : Nat) (v8 : Int32) (a : xA) (H : am_H), xS h b T a H → l321_89 N h b w2 w4 w5 w6 w7 n v8 a = some z → am_E sL sx am_cs 321 89 [(0, .ref 157), (2, .int w2), (4, .int w4), (5, .int w5), (6, .int w6), (7, .int w7), (8, .int v8)] [] H R F := by
  intro n
  induction n with
  | zero =>
    intro v8 a H hS e
    cases e
  | succ n ih =>
    intro v8 a H hS e
    unfold l321_89 at e
    refine ex_s (am_nb (m := 2) (pc1 := 93) (ls1 := [(0, .ref 157), (2, .int w2), (4, .int w4), (5, .int w5), (6, .int w6), (7, .int w7), (8, .int v8)]) (st1 := [.int w5, .int v8]) (H1 := H) (k1 := 0) (n1 := 0) (by with_unfolding_all rfl)) ?_
    refine ex_s (st_icmp rfl) ?_
    by_cases c36 : v8 ≤ w5
    · have e := (if_pos c36).symm.trans e
      refine ex_pc (if_pos c36) ?_
      cases e
      exact le_E (l1 := [(0, .ref 157), (2, .int w2), (4, .int w4), (5, .int w5), (6, .int w6), (7, .int w7)]) ⟨rfl, rfl, rfl, rfl, rfl, rfl, trivial⟩ rfl (k0 rfl H hS)
    · have e := (if_neg c36).symm.trans e
      refine ex_pc (if_neg c36) ?_
      refine ex_s (am_nb (m := 1) (pc1 := 97) (ls1 := [(0, .ref 157), (2, .int w2), (4, .int w4), (5, .int w5), (6, .int w6), (7, .int w7), (8, .int v8)]) (st1 := [.ref 157]) (H1 := H) (k1 := 0) (n1 := 0) (by with_unfolding_all rfl)) ?_
      refine xe_get (v := .ref 181) hS rfl rfl (by decide) rfl ?_
      refine ex_s (am_nb (m := 2) (pc1 := 103) (ls1 := [(0, .ref 157), (2, .int w2), (4, .int w4), (5, .int w5), (6, .int w6), (7, .int w7), (8, .int v8)]) (st1 := [.ref 157, .int v8, .ref 181]) (H1 := H) (k1 := 0) (n1 := 0) (by with_unfolding_all rfl)) ?_
      refine xe_get (v := .ref 181) hS rfl rfl (by decide) rfl ?_
      refine ex_s (am_nb (m := 3) (pc1 := 110) (ls1 := [(0, .ref 157), (2, .int w2), (4, .int w4), (5, .int w5), (6, .int w6), (7, .int w7), (8, .int v8)]) (st1 := [.int (v8 - 1), .ref 181, .int v8, .ref 181]) (H1 := H) (k1 := 0) (n1 := 0) (by with_unfolding_all rfl)) ?_
      obtain ⟨g37, e⟩ := xg_some e
      refine xe_iald hS rfl rfl g37 ?_
      obtain ⟨g41, e⟩ := xg_some e
      obtain ⟨a38, ha38, e⟩ := xw_some e
      refine xe_iast hS rfl rfl g41 (fun H39 s40 => ?_)
      have s40 : xS h b T a38 H39 := by rw [ha38]; exact s40
      refine ex_s (am_nb (m := 2) (pc1 := 89) (ls1 := [(8, .int (v8 + (-1))), (0, .ref 157), (2, .int w2), (4, .int w4), (5, .int w5), (6, .int w6), (7, .int w7)]) (st1 := []) (H1 := H39) (k1 := 0) (n1 := 0) (by with_unfolding_all rfl)) ?_
      exact le_E (l1 := [(0, .ref 157), (2, .int w2), (4, .int w4), (5, .int w5), (6, .int w6), (7, .int w7), (8, .int (v8 + (-1)))]) ⟨rfl, rfl, rfl, rfl, rfl, rfl, rfl, trivial⟩ rfl (ih (v8 + (-1)) a38 H39 s40 e)

set_option maxRecDepth 100000 in
theorem tl321_72 {sL : Nat} {sx : Nat → Int32} {h b N : Nat} {T : List am_C} {R : Option Value} {F : am_H → Prop} {w2 : Int32} {w4 : Int32} {w5 : Int32} {w6 : Int32} {z : Nat × xA} (k0 : z.1 = 0 → ∀ H2 : am_H, xS h b T z.2 H2 → am_E sL sx am_cs 321 182 [] [] H2 R F) : ∀ (n : Nat) (v7 : Int32) (a : xA) (H : am_H), xS h b T a H → l321_72 N h b w2 w4 w5 w6 n v7 a = some z → am_E sL sx am_cs 321 72 [(0, .ref 157), (2, .int w2), (4, .int w4), (5, .int w5), (6, .int w6), (7, .int v7)] [] H R F := by
  intro n
  induction n with
  | zero =>
    intro v7 a H hS e
    cases e
  | succ n ih =>
    intro v7 a H hS e
    unfold l321_72 at e
    refine ex_s (am_nb (m := 2) (pc1 := 76) (ls1 := [(0, .ref 157), (2, .int w2), (4, .int w4), (5, .int w5), (6, .int w6), (7, .int v7)]) (st1 := [.int w4, .int v7]) (H1 := H) (k1 := 0) (n1 := 0) (by with_unfolding_all rfl)) ?_
    refine ex_s (st_icmp rfl) ?_
    by_cases c21 : w4 ≤ v7
    · have e := (if_pos c21).symm.trans e
      refine ex_pc (if_pos c21) ?_
      cases e
      exact le_E (l1 := []) trivial rfl (k0 rfl H hS)
    · have e := (if_neg c21).symm.trans e
      refine ex_pc (if_neg c21) ?_
      refine ex_s (am_nb (m := 1) (pc1 := 80) (ls1 := [(0, .ref 157), (2, .int w2), (4, .int w4), (5, .int w5), (6, .int w6), (7, .int v7)]) (st1 := [.int w2]) (H1 := H) (k1 := 0) (n1 := 0) (by with_unfolding_all rfl)) ?_
      refine ex_s (st_if rfl) ?_
      by_cases c22 : w2 ≤ 0
      · have e := (if_pos c22).symm.trans e
        refine ex_pc (if_pos c22) ?_
        refine ex_s (am_nb (m := 2) (pc1 := 125) (ls1 := [(8, .int w5), (0, .ref 157), (2, .int w2), (4, .int w4), (5, .int w5), (6, .int w6), (7, .int v7)]) (st1 := []) (H1 := H) (k1 := 0) (n1 := 0) (by with_unfolding_all rfl)) ?_
        obtain ⟨z29, e30, e⟩ := Option.bind_eq_some_iff.mp e
        refine le_E (l1 := [(0, .ref 157), (2, .int w2), (4, .int w4), (5, .int w5), (6, .int w6), (7, .int v7), (8, .int w5)]) ⟨rfl, rfl, rfl, rfl, rfl, rfl, rfl, trivial⟩ rfl (tl321_125 (z := z29)  (fun uz29_0 Hz290 sz290 => ?_) N w5 a H hS e30)
        exact le_E (l1 := [(0, .ref 157), (2, .int w2), (4, .int w4), (5, .int w5), (6, .int w6), (7, .int v7)]) ⟨rfl, rfl, rfl, rfl, rfl, rfl, trivial⟩ rfl (tj321_156 k0 ih  sz290 e)
      · have e := (if_neg c22).symm.trans e
        refine ex_pc (if_neg c22) ?_
        refine ex_s (am_nb (m := 4) (pc1 := 89) (ls1 := [(8, .int (w6 - 1)), (0, .ref 157), (2, .int w2), (4, .int w4), (5, .int w5), (6, .int w6), (7, .int v7)]) (st1 := []) (H1 := H) (k1 := 0) (n1 := 0) (by with_unfolding_all rfl)) ?_
        obtain ⟨z42, e43, e⟩ := Option.bind_eq_some_iff.mp e
        refine le_E (l1 := [(0, .ref 157), (2, .int w2), (4, .int w4), (5, .int w5), (6, .int w6), (7, .int v7), (8, .int (w6 - 1))]) ⟨rfl, rfl, rfl, rfl, rfl, rfl, rfl, trivial⟩ rfl (tl321_89 (z := z42)  (fun uz42_0 Hz420 sz420 => ?_) N (w6 - 1) a H hS e43)
        refine ex_s (am_nb (m := 1) (pc1 := 156) (ls1 := [(0, .ref 157), (2, .int w2), (4, .int w4), (5, .int w5), (6, .int w6), (7, .int v7)]) (st1 := []) (H1 := Hz420) (k1 := 0) (n1 := 0) (by with_unfolding_all rfl)) ?_
        exact le_E (l1 := [(0, .ref 157), (2, .int w2), (4, .int w4), (5, .int w5), (6, .int w6), (7, .int v7)]) ⟨rfl, rfl, rfl, rfl, rfl, rfl, trivial⟩ rfl (tj321_156 k0 ih  sz420 e)
