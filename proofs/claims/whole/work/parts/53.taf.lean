/-! The program does what the functions say. -/
set_option maxRecDepth 100000 in
theorem tj138_71 {sL : Nat} {sx : Nat → Int32} {h b N : Nat} {T : List am_C} {r : Int32} {a' : xA} {q1 : Int32} {q2 : Int32} {q3 : Int32} {q4 : Int32} {a : xA} {H : am_H} (hS : xS h b T a H) (e : j138_71 N h b q1 q2 q3 q4 a = some (r, a')) : am_E sL sx am_cs 138 71 [(0, .ref 97), (1, .int q1), (2, .int q2), (3, .int q3), (4, .int q4)] [] H (some (.int r)) (fun H1 => xS h b T a' H1) := by
  unfold j138_71 at e
  refine ex_s (am_nb (m := 1) (pc1 := 72) (ls1 := [(0, .ref 97), (1, .int q1), (2, .int q2), (3, .int q3), (4, .int q4)]) (st1 := [.ref 97]) (H1 := H) (k1 := 0) (n1 := 0) (by with_unfolding_all rfl)) ?_
  refine xe_get (v := .int (a 97 14)) hS rfl rfl (by decide) rfl ?_
  refine ex_s (st_if rfl) ?_
  by_cases c16 : (a 97 14) = 0
  · have e := (if_pos c16).symm.trans e
    refine ex_pc (if_pos c16) ?_
    exact le_E (l1 := [(0, .ref 97), (1, .int q1), (2, .int q2), (3, .int q3), (4, .int q4)]) ⟨rfl, rfl, rfl, rfl, rfl, trivial⟩ rfl (tj138_114  hS e)
  · have e := (if_neg c16).symm.trans e
    refine ex_pc (if_neg c16) ?_
    refine ex_s (am_nb (m := 1) (pc1 := 79) (ls1 := [(0, .ref 97), (1, .int q1), (2, .int q2), (3, .int q3), (4, .int q4)]) (st1 := [.ref 97]) (H1 := H) (k1 := 0) (n1 := 0) (by with_unfolding_all rfl)) ?_
    refine xe_get (v := .ref 100) hS rfl rfl (by decide) rfl ?_
    refine xe_get (v := .int (a 100 7)) hS rfl rfl (by decide) rfl ?_
    refine ex_s (am_nb (m := 1) (pc1 := 86) (ls1 := [(0, .ref 97), (1, .int q1), (2, .int q2), (3, .int q3), (4, .int q4)]) (st1 := [.int q2, .int (a 100 7)]) (H1 := H) (k1 := 0) (n1 := 0) (by with_unfolding_all rfl)) ?_
    refine ex_s (st_icmp rfl) ?_
    by_cases c49 : (a 100 7) = q2
    · have e := (if_pos c49).symm.trans e
      refine ex_pc (if_pos c49) ?_
      refine ex_s (am_nb (m := 1) (pc1 := 90) (ls1 := [(0, .ref 97), (1, .int q1), (2, .int q2), (3, .int q3), (4, .int q4)]) (st1 := [.ref 97]) (H1 := H) (k1 := 0) (n1 := 0) (by with_unfolding_all rfl)) ?_
      refine xe_get (v := .ref 107) hS rfl rfl (by decide) rfl ?_
      refine ex_s (am_nb (m := 1) (pc1 := 94) (ls1 := [(0, .ref 97), (1, .int q1), (2, .int q2), (3, .int q3), (4, .int q4)]) (st1 := [.int 5, .ref 107]) (H1 := H) (k1 := 0) (n1 := 0) (by with_unfolding_all rfl)) ?_
      refine xe_q107 (i := 5) hS rfl (by decide) ?_
      refine ex_s (am_nb (m := 0) (pc1 := 95) (ls1 := [(0, .ref 97), (1, .int q1), (2, .int q2), (3, .int q3), (4, .int q4)]) (st1 := [.ref 113]) (H1 := H) (k1 := 0) (n1 := 0) (by with_unfolding_all rfl)) ?_
      refine ex_s (am_nb (m := 1) (pc1 := 96) (ls1 := [(0, .ref 97), (1, .int q1), (2, .int q2), (3, .int q3), (4, .int q4)]) (st1 := [.int q1, .ref 113]) (H1 := H) (k1 := 0) (n1 := 0) (by with_unfolding_all rfl)) ?_
      obtain ⟨g50, e⟩ := xg_some e
      refine xe_iald hS rfl rfl g50 ?_
      refine ex_s (am_nb (m := 1) (pc1 := 99) (ls1 := [(0, .ref 97), (1, .int q1), (2, .int q2), (3, .int q3), (4, .int q4)]) (st1 := [.int q4, .int (a 113 (q1.toNatClampNeg))]) (H1 := H) (k1 := 0) (n1 := 0) (by with_unfolding_all rfl)) ?_
      refine ex_s (st_icmp rfl) ?_
      by_cases c52 : q4 ≤ (a 113 (q1.toNatClampNeg))
      · have e := (if_pos c52).symm.trans e
        refine ex_pc (if_pos c52) ?_
        exact le_E (l1 := [(0, .ref 97), (1, .int q1), (2, .int q2), (3, .int q3), (4, .int q4)]) ⟨rfl, rfl, rfl, rfl, rfl, trivial⟩ rfl (tj138_114  hS e)
      · have e := (if_neg c52).symm.trans e
        refine ex_pc (if_neg c52) ?_
        refine ex_s (am_nb (m := 3) (pc1 := 105) (ls1 := [(3, .int 3), (0, .ref 97), (1, .int q1), (2, .int q2), (4, .int q4)]) (st1 := [.ref 97]) (H1 := H) (k1 := 0) (n1 := 0) (by with_unfolding_all rfl)) ?_
        refine xe_get (v := .ref 107) hS rfl rfl (by decide) rfl ?_
        refine ex_s (am_nb (m := 1) (pc1 := 109) (ls1 := [(3, .int 3), (0, .ref 97), (1, .int q1), (2, .int q2), (4, .int q4)]) (st1 := [.int 5, .ref 107]) (H1 := H) (k1 := 0) (n1 := 0) (by with_unfolding_all rfl)) ?_
        refine xe_q107 (i := 5) hS rfl (by decide) ?_
        refine ex_s (am_nb (m := 0) (pc1 := 110) (ls1 := [(3, .int 3), (0, .ref 97), (1, .int q1), (2, .int q2), (4, .int q4)]) (st1 := [.ref 113]) (H1 := H) (k1 := 0) (n1 := 0) (by with_unfolding_all rfl)) ?_
        refine ex_s (am_nb (m := 1) (pc1 := 111) (ls1 := [(3, .int 3), (0, .ref 97), (1, .int q1), (2, .int q2), (4, .int q4)]) (st1 := [.int q1, .ref 113]) (H1 := H) (k1 := 0) (n1 := 0) (by with_unfolding_all rfl)) ?_
        refine xe_iald hS rfl rfl g50 ?_
        refine ex_s (am_nb (m := 1) (pc1 := 114) (ls1 := [(4, .int (a 113 (q1.toNatClampNeg))), (3, .int 3), (0, .ref 97), (1, .int q1), (2, .int q2)]) (st1 := []) (H1 := H) (k1 := 0) (n1 := 0) (by with_unfolding_all rfl)) ?_
        exact le_E (l1 := [(0, .ref 97), (1, .int q1), (2, .int q2), (3, .int 3), (4, .int (a 113 (q1.toNatClampNeg)))]) ⟨rfl, rfl, rfl, rfl, rfl, trivial⟩ rfl (tj138_114  hS e)
    · have e := (if_neg c49).symm.trans e
      refine ex_pc (if_neg c49) ?_
      exact le_E (l1 := [(0, .ref 97), (1, .int q1), (2, .int q2), (3, .int q3), (4, .int q4)]) ⟨rfl, rfl, rfl, rfl, rfl, trivial⟩ rfl (tj138_114  hS e)

set_option maxRecDepth 100000 in
theorem tf138_cheapestWay {sL : Nat} {sx : Nat → Int32} {h b N : Nat} {T : List am_C} {r : Int32} {a' : xA} {x0 : Int32} {x1 : Int32} {a : xA} {H : am_H} (hS : xS h b T a H) (e : f138_cheapestWay N h b x0 x1 a = some (r, a')) : am_E sL sx am_cs 138 0 [(0, .ref 97), (1, .int x0), (2, .int x1)] [] H (some (.int r)) (fun H1 => xS h b T a' H1) := by
  unfold f138_cheapestWay at e
  refine ex_s (am_nb (m := 1) (pc1 := 1) (ls1 := [(0, .ref 97), (1, .int x0), (2, .int x1)]) (st1 := [.ref 97]) (H1 := H) (k1 := 0) (n1 := 0) (by with_unfolding_all rfl)) ?_
  refine xe_get (v := xN (a 97 7)) hS rfl rfl (by decide) rfl ?_
  refine ex_s (am_nb (m := 4) (pc1 := 8) (ls1 := [(0, .ref 97), (1, .int x0), (2, .int x1)]) (st1 := [.int 0, .int 0, .int x1, .int x0, xN (a 97 7)]) (H1 := H) (k1 := 0) (n1 := 0) (by first | with_unfolding_all rfl | (unfold xN; (repeat' split) <;> with_unfolding_all rfl))) ?_
  obtain ⟨g1, e⟩ := xg_some e
  rw [show xN (a 97 7) = .ref 93 by rw [g1]; rfl]
  obtain ⟨a5, e4, e⟩ := xb1_some e
  refine ex_cv0 (as := [.int x0, .int x1, .int 0, .int 0]) (rest := []) rfl rfl rfl rfl (hS.obj rfl (by decide)) rfl (by with_unfolding_all rfl) (by with_unfolding_all rfl) (tf81_setParameters hS e4) (fun H2 s3 => ?_)
  refine ex_s (am_nb (m := 3) (pc1 := 14) (ls1 := [(3, .int 1), (0, .ref 97), (1, .int x0), (2, .int x1)]) (st1 := [.ref 97]) (H1 := H2) (k1 := 0) (n1 := 0) (by with_unfolding_all rfl)) ?_
  refine xe_get (v := xN (a5 97 7)) s3 rfl rfl (by decide) rfl ?_
  refine ex_s (am_nb (m := 1) (pc1 := 18) (ls1 := [(3, .int 1), (0, .ref 97), (1, .int x0), (2, .int x1)]) (st1 := [.ref 97, xN (a5 97 7)]) (H1 := H2) (k1 := 0) (n1 := 0) (by first | with_unfolding_all rfl | (unfold xN; (repeat' split) <;> with_unfolding_all rfl))) ?_
  refine xe_get (v := xN (a5 97 6)) s3 rfl rfl (by decide) rfl ?_
  refine ex_s (am_nb (m := 1) (pc1 := 23) (ls1 := [(3, .int 1), (0, .ref 97), (1, .int x0), (2, .int x1)]) (st1 := [.int 9, xN (a5 97 6), xN (a5 97 7)]) (H1 := H2) (k1 := 0) (n1 := 0) (by first | with_unfolding_all rfl | (unfold xN; (repeat' split) <;> with_unfolding_all rfl))) ?_
  obtain ⟨g6, e⟩ := xg_some e
  rw [show xN (a5 97 6) = .ref ((a5 97 6).toNatClampNeg) from if_neg g6]
  obtain ⟨g7, e⟩ := xg_some e
  rw [show xN (a5 97 7) = .ref 93 by rw [g7]; rfl]
  obtain ⟨r11, a12, e10, e⟩ := xb2_some e
  refine ex_cv1 (as := [.ref ((a5 97 6).toNatClampNeg), .int 9]) (rest := []) rfl rfl rfl rfl (s3.obj rfl (by decide)) rfl (by with_unfolding_all rfl) (by with_unfolding_all rfl) (tf82_putTogether s3 e10) (fun H8 s9 => ?_)
  refine ex_s (am_nb (m := 2) (pc1 := 29) (ls1 := [(4, .int r11), (3, .int 1), (0, .ref 97), (1, .int x0), (2, .int x1)]) (st1 := [.ref 97]) (H1 := H8) (k1 := 0) (n1 := 0) (by with_unfolding_all rfl)) ?_
  refine xe_get (v := .int (a12 97 14)) s9 rfl rfl (by decide) rfl ?_
  refine ex_s (st_if rfl) ?_
  by_cases c14 : (a12 97 14) = 0
  · have e := (if_pos c14).symm.trans e
    refine ex_pc (if_pos c14) ?_
    exact le_E (l1 := [(0, .ref 97), (1, .int x0), (2, .int x1), (3, .int 1), (4, .int r11)]) ⟨rfl, rfl, rfl, rfl, rfl, trivial⟩ rfl (tj138_71  s9 e)
  · have e := (if_neg c14).symm.trans e
    refine ex_pc (if_neg c14) ?_
    refine ex_s (am_nb (m := 1) (pc1 := 36) (ls1 := [(4, .int r11), (3, .int 1), (0, .ref 97), (1, .int x0), (2, .int x1)]) (st1 := [.ref 97]) (H1 := H8) (k1 := 0) (n1 := 0) (by with_unfolding_all rfl)) ?_
    refine xe_get (v := .ref 100) s9 rfl rfl (by decide) rfl ?_
    refine xe_get (v := .int (a12 100 6)) s9 rfl rfl (by decide) rfl ?_
    refine ex_s (am_nb (m := 1) (pc1 := 43) (ls1 := [(4, .int r11), (3, .int 1), (0, .ref 97), (1, .int x0), (2, .int x1)]) (st1 := [.int x0, .int (a12 100 6)]) (H1 := H8) (k1 := 0) (n1 := 0) (by with_unfolding_all rfl)) ?_
    refine ex_s (st_icmp rfl) ?_
    by_cases c54 : (a12 100 6) = x0
    · have e := (if_pos c54).symm.trans e
      refine ex_pc (if_pos c54) ?_
      refine ex_s (am_nb (m := 1) (pc1 := 47) (ls1 := [(4, .int r11), (3, .int 1), (0, .ref 97), (1, .int x0), (2, .int x1)]) (st1 := [.ref 97]) (H1 := H8) (k1 := 0) (n1 := 0) (by with_unfolding_all rfl)) ?_
      refine xe_get (v := .ref 107) s9 rfl rfl (by decide) rfl ?_
      refine ex_s (am_nb (m := 1) (pc1 := 51) (ls1 := [(4, .int r11), (3, .int 1), (0, .ref 97), (1, .int x0), (2, .int x1)]) (st1 := [.int 4, .ref 107]) (H1 := H8) (k1 := 0) (n1 := 0) (by with_unfolding_all rfl)) ?_
      refine xe_q107 (i := 4) s9 rfl (by decide) ?_
      refine ex_s (am_nb (m := 0) (pc1 := 52) (ls1 := [(4, .int r11), (3, .int 1), (0, .ref 97), (1, .int x0), (2, .int x1)]) (st1 := [.ref 112]) (H1 := H8) (k1 := 0) (n1 := 0) (by with_unfolding_all rfl)) ?_
      refine ex_s (am_nb (m := 1) (pc1 := 53) (ls1 := [(4, .int r11), (3, .int 1), (0, .ref 97), (1, .int x0), (2, .int x1)]) (st1 := [.int x1, .ref 112]) (H1 := H8) (k1 := 0) (n1 := 0) (by with_unfolding_all rfl)) ?_
      obtain ⟨g55, e⟩ := xg_some e
      refine xe_iald s9 rfl rfl g55 ?_
      refine ex_s (am_nb (m := 1) (pc1 := 56) (ls1 := [(4, .int r11), (3, .int 1), (0, .ref 97), (1, .int x0), (2, .int x1)]) (st1 := [.int r11, .int (a12 112 (x1.toNatClampNeg))]) (H1 := H8) (k1 := 0) (n1 := 0) (by with_unfolding_all rfl)) ?_
      refine ex_s (st_icmp rfl) ?_
      by_cases c57 : r11 ≤ (a12 112 (x1.toNatClampNeg))
      · have e := (if_pos c57).symm.trans e
        refine ex_pc (if_pos c57) ?_
        exact le_E (l1 := [(0, .ref 97), (1, .int x0), (2, .int x1), (3, .int 1), (4, .int r11)]) ⟨rfl, rfl, rfl, rfl, rfl, trivial⟩ rfl (tj138_71  s9 e)
      · have e := (if_neg c57).symm.trans e
        refine ex_pc (if_neg c57) ?_
        refine ex_s (am_nb (m := 3) (pc1 := 62) (ls1 := [(3, .int 2), (4, .int r11), (0, .ref 97), (1, .int x0), (2, .int x1)]) (st1 := [.ref 97]) (H1 := H8) (k1 := 0) (n1 := 0) (by with_unfolding_all rfl)) ?_
        refine xe_get (v := .ref 107) s9 rfl rfl (by decide) rfl ?_
        refine ex_s (am_nb (m := 1) (pc1 := 66) (ls1 := [(3, .int 2), (4, .int r11), (0, .ref 97), (1, .int x0), (2, .int x1)]) (st1 := [.int 4, .ref 107]) (H1 := H8) (k1 := 0) (n1 := 0) (by with_unfolding_all rfl)) ?_
        refine xe_q107 (i := 4) s9 rfl (by decide) ?_
        refine ex_s (am_nb (m := 0) (pc1 := 67) (ls1 := [(3, .int 2), (4, .int r11), (0, .ref 97), (1, .int x0), (2, .int x1)]) (st1 := [.ref 112]) (H1 := H8) (k1 := 0) (n1 := 0) (by with_unfolding_all rfl)) ?_
        refine ex_s (am_nb (m := 1) (pc1 := 68) (ls1 := [(3, .int 2), (4, .int r11), (0, .ref 97), (1, .int x0), (2, .int x1)]) (st1 := [.int x1, .ref 112]) (H1 := H8) (k1 := 0) (n1 := 0) (by with_unfolding_all rfl)) ?_
        refine xe_iald s9 rfl rfl g55 ?_
        refine ex_s (am_nb (m := 1) (pc1 := 71) (ls1 := [(4, .int (a12 112 (x1.toNatClampNeg))), (3, .int 2), (0, .ref 97), (1, .int x0), (2, .int x1)]) (st1 := []) (H1 := H8) (k1 := 0) (n1 := 0) (by with_unfolding_all rfl)) ?_
        exact le_E (l1 := [(0, .ref 97), (1, .int x0), (2, .int x1), (3, .int 2), (4, .int (a12 112 (x1.toNatClampNeg)))]) ⟨rfl, rfl, rfl, rfl, rfl, trivial⟩ rfl (tj138_71  s9 e)
    · have e := (if_neg c54).symm.trans e
      refine ex_pc (if_neg c54) ?_
      exact le_E (l1 := [(0, .ref 97), (1, .int x0), (2, .int x1), (3, .int 1), (4, .int r11)]) ⟨rfl, rfl, rfl, rfl, rfl, trivial⟩ rfl (tj138_71  s9 e)

set_option maxRecDepth 100000 in
theorem tf147_planStep {sL : Nat} {sx : Nat → Int32} {h b N : Nat} {T : List am_C} {a' : xA} {x0 : Int32} {x1 : Int32} {x2 : Int32} {x3 : Int32} {a : xA} {H : am_H} (hS : xS h b T a H) (e : f147_planStep N h b x0 x1 x2 x3 a = some a') : am_E sL sx am_cs 147 0 [(0, .ref 97), (1, .int x0), (2, .int x1), (3, .int x2), (4, .int x3)] [] H none (fun H1 => xS h b T a' H1) := by
  unfold f147_planStep at e
  refine ex_s (am_nb (m := 1) (pc1 := 1) (ls1 := [(0, .ref 97), (1, .int x0), (2, .int x1), (3, .int x2), (4, .int x3)]) (st1 := [.ref 97]) (H1 := H) (k1 := 0) (n1 := 0) (by with_unfolding_all rfl)) ?_
  refine xe_get (v := .int (a 97 18)) hS rfl rfl (by decide) rfl ?_
  refine ex_s (am_nb (m := 1) (pc1 := 5) (ls1 := [(0, .ref 97), (1, .int x0), (2, .int x1), (3, .int x2), (4, .int x3)]) (st1 := [.int 5, .int (a 97 18)]) (H1 := H) (k1 := 0) (n1 := 0) (by with_unfolding_all rfl)) ?_
  refine ex_s (st_icmp rfl) ?_
  by_cases c1 : (a 97 18) < 5
  · have e := (if_pos c1).symm.trans e
    refine ex_pc (if_pos c1) ?_
    refine ex_s (am_nb (m := 1) (pc1 := 10) (ls1 := [(0, .ref 97), (1, .int x0), (2, .int x1), (3, .int x2), (4, .int x3)]) (st1 := [.ref 97]) (H1 := H) (k1 := 0) (n1 := 0) (by with_unfolding_all rfl)) ?_
    refine xe_get (v := .int (a 97 18)) hS rfl rfl (by decide) rfl ?_
    refine ex_s (am_nb (m := 4) (pc1 := 18) (ls1 := [(5, .int ((a 97 18) * 4)), (0, .ref 97), (1, .int x0), (2, .int x1), (3, .int x2), (4, .int x3)]) (st1 := [.ref 97]) (H1 := H) (k1 := 0) (n1 := 0) (by with_unfolding_all rfl)) ?_
    refine xe_get (v := .ref 114) hS rfl rfl (by decide) rfl ?_
    refine ex_s (am_nb (m := 2) (pc1 := 24) (ls1 := [(5, .int ((a 97 18) * 4)), (0, .ref 97), (1, .int x0), (2, .int x1), (3, .int x2), (4, .int x3)]) (st1 := [.int x0, .int ((a 97 18) * 4), .ref 114]) (H1 := H) (k1 := 0) (n1 := 0) (by with_unfolding_all rfl)) ?_
    obtain ⟨g5, e⟩ := xg_some e
    obtain ⟨a2, ha2, e⟩ := xw_some e
    refine xe_iast hS rfl rfl g5 (fun H3 s4 => ?_)
    have s4 : xS h b T a2 H3 := by rw [ha2]; exact s4
    refine ex_s (am_nb (m := 1) (pc1 := 26) (ls1 := [(5, .int ((a 97 18) * 4)), (0, .ref 97), (1, .int x0), (2, .int x1), (3, .int x2), (4, .int x3)]) (st1 := [.ref 97]) (H1 := H3) (k1 := 0) (n1 := 0) (by with_unfolding_all rfl)) ?_
    refine xe_get (v := .ref 114) s4 rfl rfl (by decide) rfl ?_
    refine ex_s (am_nb (m := 4) (pc1 := 34) (ls1 := [(5, .int ((a 97 18) * 4)), (0, .ref 97), (1, .int x0), (2, .int x1), (3, .int x2), (4, .int x3)]) (st1 := [.int x1, .int (((a 97 18) * 4) + 1), .ref 114]) (H1 := H3) (k1 := 0) (n1 := 0) (by with_unfolding_all rfl)) ?_
    obtain ⟨g9, e⟩ := xg_some e
    obtain ⟨a6, ha6, e⟩ := xw_some e
    refine xe_iast s4 rfl rfl g9 (fun H7 s8 => ?_)
    have s8 : xS h b T a6 H7 := by rw [ha6]; exact s8
    refine ex_s (am_nb (m := 1) (pc1 := 36) (ls1 := [(5, .int ((a 97 18) * 4)), (0, .ref 97), (1, .int x0), (2, .int x1), (3, .int x2), (4, .int x3)]) (st1 := [.ref 97]) (H1 := H7) (k1 := 0) (n1 := 0) (by with_unfolding_all rfl)) ?_
    refine xe_get (v := .ref 114) s8 rfl rfl (by decide) rfl ?_
    refine ex_s (am_nb (m := 4) (pc1 := 44) (ls1 := [(5, .int ((a 97 18) * 4)), (0, .ref 97), (1, .int x0), (2, .int x1), (3, .int x2), (4, .int x3)]) (st1 := [.int x2, .int (((a 97 18) * 4) + 2), .ref 114]) (H1 := H7) (k1 := 0) (n1 := 0) (by with_unfolding_all rfl)) ?_
    obtain ⟨g13, e⟩ := xg_some e
    obtain ⟨a10, ha10, e⟩ := xw_some e
    refine xe_iast s8 rfl rfl g13 (fun H11 s12 => ?_)
    have s12 : xS h b T a10 H11 := by rw [ha10]; exact s12
    refine ex_s (am_nb (m := 1) (pc1 := 46) (ls1 := [(5, .int ((a 97 18) * 4)), (0, .ref 97), (1, .int x0), (2, .int x1), (3, .int x2), (4, .int x3)]) (st1 := [.ref 97]) (H1 := H11) (k1 := 0) (n1 := 0) (by with_unfolding_all rfl)) ?_
    refine xe_get (v := .ref 114) s12 rfl rfl (by decide) rfl ?_
    refine ex_s (am_nb (m := 4) (pc1 := 55) (ls1 := [(5, .int ((a 97 18) * 4)), (0, .ref 97), (1, .int x0), (2, .int x1), (3, .int x2), (4, .int x3)]) (st1 := [.int x3, .int (((a 97 18) * 4) + 3), .ref 114]) (H1 := H11) (k1 := 0) (n1 := 0) (by with_unfolding_all rfl)) ?_
    obtain ⟨g17, e⟩ := xg_some e
    obtain ⟨a14, ha14, e⟩ := xw_some e
    refine xe_iast s12 rfl rfl g17 (fun H15 s16 => ?_)
    have s16 : xS h b T a14 H15 := by rw [ha14]; exact s16
    refine ex_s (am_nb (m := 2) (pc1 := 58) (ls1 := [(5, .int ((a 97 18) * 4)), (0, .ref 97), (1, .int x0), (2, .int x1), (3, .int x2), (4, .int x3)]) (st1 := [.ref 97, .ref 97]) (H1 := H15) (k1 := 0) (n1 := 0) (by with_unfolding_all rfl)) ?_
    refine xe_get (v := .int (a14 97 18)) s16 rfl rfl (by decide) rfl ?_
    refine ex_s (am_nb (m := 2) (pc1 := 63) (ls1 := [(5, .int ((a 97 18) * 4)), (0, .ref 97), (1, .int x0), (2, .int x1), (3, .int x2), (4, .int x3)]) (st1 := [.int ((a14 97 18) + 1), .ref 97]) (H1 := H15) (k1 := 0) (n1 := 0) (by with_unfolding_all rfl)) ?_
    obtain ⟨a18, ha18, e⟩ := xw_some e
    refine xe_put (w := ((a14 97 18) + 1)) s16 rfl rfl (by decide) rfl rfl rfl rfl (fun H19 s20 => ?_)
    have s20 : xS h b T a18 H19 := by rw [ha18]; exact s20
    cases e
    exact ex_r (st_vret rfl rfl) s20
  · have e := (if_neg c1).symm.trans e
    refine ex_pc (if_neg c1) ?_
    cases e
    exact ex_r (st_vret rfl rfl) hS

set_option maxRecDepth 100000 in
theorem tj149_37 {sL : Nat} {sx : Nat → Int32} {h b N : Nat} {T : List am_C} {a' : xA} {q2 : Int32} {q3 : Int32} {a : xA} {H : am_H} (hS : xS h b T a H) (e : j149_37 N h b q2 q3 a = some a') : am_E sL sx am_cs 149 37 [(0, .ref 97), (2, .int q2), (3, .int q3)] [] H none (fun H1 => xS h b T a' H1) := by
  unfold j149_37 at e
  refine ex_s (am_nb (m := 1) (pc1 := 38) (ls1 := [(0, .ref 97), (2, .int q2), (3, .int q3)]) (st1 := [.int q3]) (H1 := H) (k1 := 0) (n1 := 0) (by with_unfolding_all rfl)) ?_
  refine ex_s (st_if rfl) ?_
  by_cases c4 : q3 ≤ 0
  · have e := (if_pos c4).symm.trans e
    refine ex_pc (if_pos c4) ?_
    cases e
    exact ex_r (st_vret rfl rfl) hS
  · have e := (if_neg c4).symm.trans e
    refine ex_pc (if_neg c4) ?_
    refine ex_s (am_nb (m := 5) (pc1 := 46) (ls1 := [(0, .ref 97), (2, .int q2), (3, .int q3)]) (st1 := [.int 0, .int q3, .int 1, .int q2, .ref 97]) (H1 := H) (k1 := 0) (n1 := 0) (by with_unfolding_all rfl)) ?_
    obtain ⟨a8, e7, e⟩ := xb1_some e
    refine ex_cv0 (as := [.int q2, .int 1, .int q3, .int 0]) (rest := []) rfl rfl rfl rfl (hS.obj rfl (by decide)) rfl (by with_unfolding_all rfl) (by with_unfolding_all rfl) (tf147_planStep hS e7) (fun H5 s6 => ?_)
    cases e
    exact ex_r (st_vret rfl rfl) s6

set_option maxRecDepth 100000 in
theorem tf149_planPair {sL : Nat} {sx : Nat → Int32} {h b N : Nat} {T : List am_C} {a' : xA} {x0 : Int32} {x1 : Int32} {x2 : Int32} {a : xA} {H : am_H} (hS : xS h b T a H) (e : f149_planPair N h b x0 x1 x2 a = some a') : am_E sL sx am_cs 149 0 [(0, .ref 97), (1, .int x0), (2, .int x1), (3, .int x2)] [] H none (fun H1 => xS h b T a' H1) := by
  unfold f149_planPair at e
  refine ex_s (am_nb (m := 1) (pc1 := 1) (ls1 := [(0, .ref 97), (1, .int x0), (2, .int x1), (3, .int x2)]) (st1 := [.int x2]) (H1 := H) (k1 := 0) (n1 := 0) (by with_unfolding_all rfl)) ?_
  refine ex_s (st_if rfl) ?_
  by_cases c2 : x2 ≤ 0
  · have e := (if_pos c2).symm.trans e
    refine ex_pc (if_pos c2) ?_
    exact le_E (l1 := [(0, .ref 97), (2, .int x1), (3, .int x2)]) ⟨rfl, rfl, rfl, trivial⟩ rfl (tj149_37  hS e)
  · have e := (if_neg c2).symm.trans e
    refine ex_pc (if_neg c2) ?_
    refine ex_s (am_nb (m := 2) (pc1 := 6) (ls1 := [(0, .ref 97), (1, .int x0), (2, .int x1), (3, .int x2)]) (st1 := [.ref 97, .int x2]) (H1 := H) (k1 := 0) (n1 := 0) (by with_unfolding_all rfl)) ?_
    refine xe_get (v := .ref 106) hS rfl rfl (by decide) rfl ?_
    refine ex_s (am_nb (m := 1) (pc1 := 10) (ls1 := [(0, .ref 97), (1, .int x0), (2, .int x1), (3, .int x2)]) (st1 := [.int x0, .ref 106, .int x2]) (H1 := H) (k1 := 0) (n1 := 0) (by with_unfolding_all rfl)) ?_
    obtain ⟨g9, e⟩ := xg_some e
    refine xe_iald hS rfl rfl g9 ?_
    refine ex_s (am_nb (m := 2) (pc1 := 13) (ls1 := [(0, .ref 97), (1, .int x0), (2, .int x1), (3, .int x2)]) (st1 := [.ref 97, .int (x2 * (a 106 (x0.toNatClampNeg)))]) (H1 := H) (k1 := 0) (n1 := 0) (by with_unfolding_all rfl)) ?_
    refine xe_get (v := .ref 107) hS rfl rfl (by decide) rfl ?_
    refine ex_s (am_nb (m := 3) (pc1 := 20) (ls1 := [(0, .ref 97), (1, .int x0), (2, .int x1), (3, .int x2)]) (st1 := [.int (x1 - 14), .ref 107, .int (x2 * (a 106 (x0.toNatClampNeg)))]) (H1 := H) (k1 := 0) (n1 := 0) (by with_unfolding_all rfl)) ?_
    obtain ⟨g10, e⟩ := xg_some e
    refine xe_q107 hS rfl g10 ?_
    refine ex_s (am_nb (m := 1) (pc1 := 22) (ls1 := [(0, .ref 97), (1, .int x0), (2, .int x1), (3, .int x2)]) (st1 := [.int x2, .ref (108 + (x1 - 14).toNatClampNeg), .int (x2 * (a 106 (x0.toNatClampNeg)))]) (H1 := H) (k1 := 0) (n1 := 0) (by with_unfolding_all rfl)) ?_
    obtain ⟨g11, e⟩ := xg_some e
    refine xe_iald hS rfl (xkq107 g10) g11 ?_
    refine ex_s (st_icmp rfl) ?_
    by_cases c14 : (a (108 + (x1 - 14).toNatClampNeg) (x2.toNatClampNeg)) < (x2 * (a 106 (x0.toNatClampNeg)))
    · have e := (if_pos c14).symm.trans e
      refine ex_pc (if_pos c14) ?_
      exact le_E (l1 := [(0, .ref 97), (2, .int x1), (3, .int x2)]) ⟨rfl, rfl, rfl, trivial⟩ rfl (tj149_37  hS e)
    · have e := (if_neg c14).symm.trans e
      refine ex_pc (if_neg c14) ?_
      refine ex_s (am_nb (m := 5) (pc1 := 31) (ls1 := [(0, .ref 97), (1, .int x0), (2, .int x1), (3, .int x2)]) (st1 := [.int 0, .int 0, .int x2, .int x0, .ref 97]) (H1 := H) (k1 := 0) (n1 := 0) (by with_unfolding_all rfl)) ?_
      obtain ⟨a18, e17, e⟩ := xb1_some e
      refine ex_cv0 (as := [.int x0, .int x2, .int 0, .int 0]) (rest := []) rfl rfl rfl rfl (hS.obj rfl (by decide)) rfl (by with_unfolding_all rfl) (by with_unfolding_all rfl) (tf147_planStep hS e17) (fun H15 s16 => ?_)
      refine ex_s (am_nb (m := 1) (pc1 := 49) (ls1 := [(0, .ref 97), (1, .int x0), (2, .int x1), (3, .int x2)]) (st1 := []) (H1 := H15) (k1 := 0) (n1 := 0) (by with_unfolding_all rfl)) ?_
      cases e
      exact ex_r (st_vret rfl rfl) s16

set_option maxRecDepth 100000 in
theorem tf148_planDown {sL : Nat} {sx : Nat → Int32} {h b N : Nat} {T : List am_C} {a' : xA} {x0 : Int32} {x1 : Int32} {a : xA} {H : am_H} (hS : xS h b T a H) (e : f148_planDown N h b x0 x1 a = some a') : am_E sL sx am_cs 148 0 [(0, .ref 97), (1, .int x0), (2, .int x1)] [] H none (fun H1 => xS h b T a' H1) := by
  unfold f148_planDown at e
  refine ex_s (am_nb (m := 2) (pc1 := 2) (ls1 := [(0, .ref 97), (1, .int x0), (2, .int x1)]) (st1 := [.int x0, .int x1]) (H1 := H) (k1 := 0) (n1 := 0) (by with_unfolding_all rfl)) ?_
  refine ex_s (st_icmp rfl) ?_
  by_cases c2 : x1 < x0
  · have e := (if_pos c2).symm.trans e
    refine ex_pc (if_pos c2) ?_
    refine ex_s (am_nb (m := 6) (pc1 := 27) (ls1 := [(0, .ref 97), (1, .int x0), (2, .int x1)]) (st1 := [.int (x0 - x1), .int 14, .int 10, .ref 97]) (H1 := H) (k1 := 0) (n1 := 0) (by with_unfolding_all rfl)) ?_
    obtain ⟨a6, e5, e⟩ := xb1_some e
    refine ex_cv0 (as := [.int 10, .int 14, .int (x0 - x1)]) (rest := []) rfl rfl rfl rfl (hS.obj rfl (by decide)) rfl (by with_unfolding_all rfl) (by with_unfolding_all rfl) (tf149_planPair hS e5) (fun H3 s4 => ?_)
    cases e
    exact ex_r (st_vret rfl rfl) s4
  · have e := (if_neg c2).symm.trans e
    refine ex_pc (if_neg c2) ?_
    refine ex_s (am_nb (m := 6) (pc1 := 13) (ls1 := [(0, .ref 97), (1, .int x0), (2, .int x1)]) (st1 := [.int (x1 - x0), .int 15, .int 11, .ref 97]) (H1 := H) (k1 := 0) (n1 := 0) (by with_unfolding_all rfl)) ?_
    obtain ⟨a10, e9, e⟩ := xb1_some e
    refine ex_cv0 (as := [.int 11, .int 15, .int (x1 - x0)]) (rest := []) rfl rfl rfl rfl (hS.obj rfl (by decide)) rfl (by with_unfolding_all rfl) (by with_unfolding_all rfl) (tf149_planPair hS e9) (fun H7 s8 => ?_)
    refine ex_s (am_nb (m := 1) (pc1 := 30) (ls1 := [(0, .ref 97), (1, .int x0), (2, .int x1)]) (st1 := []) (H1 := H7) (k1 := 0) (n1 := 0) (by with_unfolding_all rfl)) ?_
    cases e
    exact ex_r (st_vret rfl rfl) s8

set_option maxRecDepth 100000 in
theorem tj150_75 {sL : Nat} {sx : Nat → Int32} {h b N : Nat} {T : List am_C} {a' : xA} {q1 : Int32} {q2 : Int32} {q5 : Int32} {q6 : Int32} {a : xA} {H : am_H} (hS : xS h b T a H) (e : j150_75 N h b q1 q2 q5 q6 a = some a') : am_E sL sx am_cs 150 75 [(0, .ref 97), (1, .int q1), (2, .int q2), (5, .int q5), (6, .int q6)] [] H none (fun H1 => xS h b T a' H1) := by
  unfold j150_75 at e
  refine ex_s (am_nb (m := 2) (pc1 := 79) (ls1 := [(0, .ref 97), (1, .int q1), (2, .int q2), (5, .int q5), (6, .int q6)]) (st1 := [.int q6, .int q5]) (H1 := H) (k1 := 0) (n1 := 0) (by with_unfolding_all rfl)) ?_
  refine ex_s (st_icmp rfl) ?_
  by_cases c21 : q6 < q5
  · have e := (if_pos c21).symm.trans e
    refine ex_pc (if_pos c21) ?_
    refine ex_s (am_nb (m := 5) (pc1 := 125) (ls1 := [(0, .ref 97), (1, .int q1), (2, .int q2), (5, .int q5), (6, .int q6)]) (st1 := [.int q2, .int q1, .int 1, .int (-1), .ref 97]) (H1 := H) (k1 := 0) (n1 := 0) (by with_unfolding_all rfl)) ?_
    obtain ⟨a25, e24, e⟩ := xb1_some e
    refine ex_cv0 (as := [.int (-1), .int 1, .int q1, .int q2]) (rest := []) rfl rfl rfl rfl (hS.obj rfl (by decide)) rfl (by with_unfolding_all rfl) (by with_unfolding_all rfl) (tf147_planStep hS e24) (fun H22 s23 => ?_)
    cases e
    exact ex_r (st_vret rfl rfl) s23
  · have e := (if_neg c21).symm.trans e
    refine ex_pc (if_neg c21) ?_
    refine ex_s (am_nb (m := 3) (pc1 := 85) (ls1 := [(0, .ref 97), (1, .int q1), (2, .int q2), (5, .int q5), (6, .int q6)]) (st1 := [.int q2, .int q1, .ref 97]) (H1 := H) (k1 := 0) (n1 := 0) (by with_unfolding_all rfl)) ?_
    obtain ⟨r29, a30, e28, e⟩ := xb2_some e
    refine ex_cv1 (as := [.int q1, .int q2]) (rest := []) rfl rfl rfl rfl (hS.obj rfl (by decide)) rfl (by with_unfolding_all rfl) (by with_unfolding_all rfl) (tf143_lastStop hS e28) (fun H26 s27 => ?_)
    refine ex_s (am_nb (m := 6) (pc1 := 97) (ls1 := [(7, .int r29), (0, .ref 97), (1, .int q1), (2, .int q2), (5, .int q5), (6, .int q6)]) (st1 := [.int r29, .int q1, .ref 97, .int 21, .ref 97]) (H1 := H26) (k1 := 0) (n1 := 0) (by with_unfolding_all rfl)) ?_
    obtain ⟨r34, a35, e33, e⟩ := xb2_some e
    refine ex_cv1 (as := [.int q1, .int r29]) (rest := [.int 21, .ref 97]) rfl rfl rfl rfl (s27.obj rfl (by decide)) rfl (by with_unfolding_all rfl) (by with_unfolding_all rfl) (tf144_tabsBetween s27 e33) (fun H31 s32 => ?_)
    refine ex_s (am_nb (m := 2) (pc1 := 102) (ls1 := [(7, .int r29), (0, .ref 97), (1, .int q1), (2, .int q2), (5, .int q5), (6, .int q6)]) (st1 := [.int 0, .int 0, .int r34, .int 21, .ref 97]) (H1 := H31) (k1 := 0) (n1 := 0) (by with_unfolding_all rfl)) ?_
    obtain ⟨a39, e38, e⟩ := xb1_some e
    refine ex_cv0 (as := [.int 21, .int r34, .int 0, .int 0]) (rest := []) rfl rfl rfl rfl (s32.obj rfl (by decide)) rfl (by with_unfolding_all rfl) (by with_unfolding_all rfl) (tf147_planStep s32 e38) (fun H36 s37 => ?_)
    refine ex_s (am_nb (m := 6) (pc1 := 114) (ls1 := [(7, .int r29), (0, .ref 97), (1, .int q1), (2, .int q2), (5, .int q5), (6, .int q6)]) (st1 := [.int (q2 - r29), .int 17, .int 13, .ref 97]) (H1 := H36) (k1 := 0) (n1 := 0) (by with_unfolding_all rfl)) ?_
    obtain ⟨a43, e42, e⟩ := xb1_some e
    refine ex_cv0 (as := [.int 13, .int 17, .int (q2 - r29)]) (rest := []) rfl rfl rfl rfl (s37.obj rfl (by decide)) rfl (by with_unfolding_all rfl) (by with_unfolding_all rfl) (tf149_planPair s37 e42) (fun H40 s41 => ?_)
    refine ex_s (am_nb (m := 1) (pc1 := 128) (ls1 := [(7, .int r29), (0, .ref 97), (1, .int q1), (2, .int q2), (5, .int q5), (6, .int q6)]) (st1 := []) (H1 := H40) (k1 := 0) (n1 := 0) (by with_unfolding_all rfl)) ?_
    cases e
    exact ex_r (st_vret rfl rfl) s41

set_option maxRecDepth 100000 in
theorem tf150_planAcross {sL : Nat} {sx : Nat → Int32} {h b N : Nat} {T : List am_C} {a' : xA} {x0 : Int32} {x1 : Int32} {x2 : Int32} {a : xA} {H : am_H} (hS : xS h b T a H) (e : f150_planAcross N h b x0 x1 x2 a = some a') : am_E sL sx am_cs 150 0 [(0, .ref 97), (1, .int x0), (2, .int x1), (3, .int x2)] [] H none (fun H1 => xS h b T a' H1) := by
  unfold f150_planAcross at e
  refine ex_s (am_nb (m := 2) (pc1 := 2) (ls1 := [(0, .ref 97), (1, .int x0), (2, .int x1), (3, .int x2)]) (st1 := [.int x0, .int x1]) (H1 := H) (k1 := 0) (n1 := 0) (by with_unfolding_all rfl)) ?_
  refine ex_s (st_icmp rfl) ?_
  by_cases c1 : x0 < x1
  · have e := (if_pos c1).symm.trans e
    refine ex_pc (if_pos c1) ?_
    refine ex_s (am_nb (m := 6) (pc1 := 25) (ls1 := [(0, .ref 97), (1, .int x0), (2, .int x1), (3, .int x2)]) (st1 := [.int (x1 - x0), .int 17, .int 13, .ref 97]) (H1 := H) (k1 := 0) (n1 := 0) (by with_unfolding_all rfl)) ?_
    obtain ⟨r5, a6, e4, e⟩ := xb2_some e
    refine ex_cv1 (as := [.int 13, .int 17, .int (x1 - x0)]) (rest := []) rfl rfl rfl rfl (hS.obj rfl (by decide)) rfl (by with_unfolding_all rfl) (by with_unfolding_all rfl) (tf140_pairLength hS e4) (fun H2 s3 => ?_)
    refine ex_s (am_nb (m := 4) (pc1 := 33) (ls1 := [(4, .int r5), (0, .ref 97), (1, .int x0), (2, .int x1), (3, .int x2)]) (st1 := [.int x1, .int x0, .ref 97]) (H1 := H2) (k1 := 0) (n1 := 0) (by with_unfolding_all rfl)) ?_
    obtain ⟨r10, a11, e9, e⟩ := xb2_some e
    refine ex_cv1 (as := [.int x0, .int x1]) (rest := []) rfl rfl rfl rfl (s3.obj rfl (by decide)) rfl (by with_unfolding_all rfl) (by with_unfolding_all rfl) (tf142_tabsLength s3 e9) (fun H7 s8 => ?_)
    refine ex_s (am_nb (m := 5) (pc1 := 42) (ls1 := [(5, .int r10), (4, .int r5), (0, .ref 97), (1, .int x0), (2, .int x1), (3, .int x2)]) (st1 := [.int x1, .int x0, .int x2, .ref 97]) (H1 := H7) (k1 := 0) (n1 := 0) (by with_unfolding_all rfl)) ?_
    obtain ⟨r15, a16, e14, e⟩ := xb2_some e
    refine ex_cv1 (as := [.int x2, .int x0, .int x1]) (rest := []) rfl rfl rfl rfl (s8.obj rfl (by decide)) rfl (by with_unfolding_all rfl) (by with_unfolding_all rfl) (tf145_copyLength s8 e14) (fun H12 s13 => ?_)
    refine ex_s (am_nb (m := 3) (pc1 := 51) (ls1 := [(6, .int r15), (5, .int r10), (4, .int r5), (0, .ref 97), (1, .int x0), (2, .int x1), (3, .int x2)]) (st1 := [.int r10, .int r5]) (H1 := H12) (k1 := 0) (n1 := 0) (by with_unfolding_all rfl)) ?_
    refine ex_s (st_icmp rfl) ?_
    by_cases c19 : r10 < r5
    · have e := (if_pos c19).symm.trans e
      refine ex_pc (if_pos c19) ?_
      exact le_E (l1 := [(0, .ref 97), (1, .int x0), (2, .int x1), (5, .int r10), (6, .int r15)]) ⟨rfl, rfl, rfl, rfl, rfl, trivial⟩ rfl (tj150_75  s13 e)
    · have e := (if_neg c19).symm.trans e
      refine ex_pc (if_neg c19) ?_
      refine ex_s (am_nb (m := 2) (pc1 := 58) (ls1 := [(6, .int r15), (5, .int r10), (4, .int r5), (0, .ref 97), (1, .int x0), (2, .int x1), (3, .int x2)]) (st1 := [.int r15, .int r5]) (H1 := H12) (k1 := 0) (n1 := 0) (by with_unfolding_all rfl)) ?_
      refine ex_s (st_icmp rfl) ?_
      by_cases c44 : r15 < r5
      · have e := (if_pos c44).symm.trans e
        refine ex_pc (if_pos c44) ?_
        exact le_E (l1 := [(0, .ref 97), (1, .int x0), (2, .int x1), (5, .int r10), (6, .int r15)]) ⟨rfl, rfl, rfl, rfl, rfl, trivial⟩ rfl (tj150_75  s13 e)
      · have e := (if_neg c44).symm.trans e
        refine ex_pc (if_neg c44) ?_
        refine ex_s (am_nb (m := 6) (pc1 := 69) (ls1 := [(6, .int r15), (5, .int r10), (4, .int r5), (0, .ref 97), (1, .int x0), (2, .int x1), (3, .int x2)]) (st1 := [.int (x1 - x0), .int 17, .int 13, .ref 97]) (H1 := H12) (k1 := 0) (n1 := 0) (by with_unfolding_all rfl)) ?_
        obtain ⟨a48, e47, e⟩ := xb1_some e
        refine ex_cv0 (as := [.int 13, .int 17, .int (x1 - x0)]) (rest := []) rfl rfl rfl rfl (s13.obj rfl (by decide)) rfl (by with_unfolding_all rfl) (by with_unfolding_all rfl) (tf149_planPair s13 e47) (fun H45 s46 => ?_)
        refine ex_s (am_nb (m := 1) (pc1 := 128) (ls1 := [(6, .int r15), (5, .int r10), (4, .int r5), (0, .ref 97), (1, .int x0), (2, .int x1), (3, .int x2)]) (st1 := []) (H1 := H45) (k1 := 0) (n1 := 0) (by with_unfolding_all rfl)) ?_
        cases e
        exact ex_r (st_vret rfl rfl) s46
  · have e := (if_neg c1).symm.trans e
    refine ex_pc (if_neg c1) ?_
    refine ex_s (am_nb (m := 6) (pc1 := 13) (ls1 := [(0, .ref 97), (1, .int x0), (2, .int x1), (3, .int x2)]) (st1 := [.int (x0 - x1), .int 16, .int 12, .ref 97]) (H1 := H) (k1 := 0) (n1 := 0) (by with_unfolding_all rfl)) ?_
    obtain ⟨a52, e51, e⟩ := xb1_some e
    refine ex_cv0 (as := [.int 12, .int 16, .int (x0 - x1)]) (rest := []) rfl rfl rfl rfl (hS.obj rfl (by decide)) rfl (by with_unfolding_all rfl) (by with_unfolding_all rfl) (tf149_planPair hS e51) (fun H49 s50 => ?_)
    cases e
    exact ex_r (st_vret rfl rfl) s50

set_option maxRecDepth 100000 in
theorem tf146_planWay {sL : Nat} {sx : Nat → Int32} {h b N : Nat} {T : List am_C} {a' : xA} {x0 : Int32} {x1 : Int32} {x2 : Int32} {a : xA} {H : am_H} (hS : xS h b T a H) (e : f146_planWay N h b x0 x1 x2 a = some a') : am_E sL sx am_cs 146 0 [(0, .ref 97), (1, .int x0), (2, .int x1), (3, .int x2)] [] H none (fun H1 => xS h b T a' H1) := by
  unfold f146_planWay at e
  refine ex_s (am_nb (m := 2) (pc1 := 2) (ls1 := [(0, .ref 97), (1, .int x0), (2, .int x1), (3, .int x2)]) (st1 := [.int 0, .ref 97]) (H1 := H) (k1 := 0) (n1 := 0) (by with_unfolding_all rfl)) ?_
  obtain ⟨a1, ha1, e⟩ := xw_some e
  refine xe_put (w := 0) hS rfl rfl (by decide) rfl rfl rfl rfl (fun H2 s3 => ?_)
  have s3 : xS h b T a1 H2 := by rw [ha1]; exact s3
  refine ex_s (am_nb (m := 1) (pc1 := 6) (ls1 := [(0, .ref 97), (1, .int x0), (2, .int x1), (3, .int x2)]) (st1 := [.int x0]) (H1 := H2) (k1 := 0) (n1 := 0) (by with_unfolding_all rfl)) ?_
  refine ex_s (st_tsw rfl) ?_
  by_cases c4 : x0 = 2
  · have e := (if_pos c4).symm.trans e
    refine ex_pc (pc1 := 40) (by rw [c4]; with_unfolding_all rfl) ?_
    refine ex_s (am_nb (m := 5) (pc1 := 46) (ls1 := [(0, .ref 97), (1, .int x0), (2, .int x1), (3, .int x2)]) (st1 := [.int 0, .int x2, .int 1, .int 18, .ref 97]) (H1 := H2) (k1 := 0) (n1 := 0) (by with_unfolding_all rfl)) ?_
    obtain ⟨a8, e7, e⟩ := xb1_some e
    refine ex_cv0 (as := [.int 18, .int 1, .int x2, .int 0]) (rest := []) rfl rfl rfl rfl (s3.obj rfl (by decide)) rfl (by with_unfolding_all rfl) (by with_unfolding_all rfl) (tf147_planStep s3 e7) (fun H5 s6 => ?_)
    refine ex_s (am_nb (m := 1) (pc1 := 157) (ls1 := [(0, .ref 97), (1, .int x0), (2, .int x1), (3, .int x2)]) (st1 := []) (H1 := H5) (k1 := 0) (n1 := 0) (by with_unfolding_all rfl)) ?_
    cases e
    exact ex_r (st_vret rfl rfl) s6
  · have e := (if_neg c4).symm.trans e
    by_cases c9 : x0 = 3
    · have e := (if_pos c9).symm.trans e
      refine ex_pc (pc1 := 52) (by rw [c9]; with_unfolding_all rfl) ?_
      refine ex_s (am_nb (m := 5) (pc1 := 58) (ls1 := [(0, .ref 97), (1, .int x0), (2, .int x1), (3, .int x2)]) (st1 := [.int 0, .int x1, .int 1, .int 19, .ref 97]) (H1 := H2) (k1 := 0) (n1 := 0) (by with_unfolding_all rfl)) ?_
      obtain ⟨a13, e12, e⟩ := xb1_some e
      refine ex_cv0 (as := [.int 19, .int 1, .int x1, .int 0]) (rest := []) rfl rfl rfl rfl (s3.obj rfl (by decide)) rfl (by with_unfolding_all rfl) (by with_unfolding_all rfl) (tf147_planStep s3 e12) (fun H10 s11 => ?_)
      refine ex_s (am_nb (m := 1) (pc1 := 157) (ls1 := [(0, .ref 97), (1, .int x0), (2, .int x1), (3, .int x2)]) (st1 := []) (H1 := H10) (k1 := 0) (n1 := 0) (by with_unfolding_all rfl)) ?_
      cases e
      exact ex_r (st_vret rfl rfl) s11
    · have e := (if_neg c9).symm.trans e
      by_cases c14 : x0 = 4
      · have e := (if_pos c14).symm.trans e
        refine ex_pc (pc1 := 64) (by rw [c14]; with_unfolding_all rfl) ?_
        refine ex_s (am_nb (m := 2) (pc1 := 66) (ls1 := [(0, .ref 97), (1, .int x0), (2, .int x1), (3, .int x2)]) (st1 := [.ref 97, .ref 97]) (H1 := H2) (k1 := 0) (n1 := 0) (by with_unfolding_all rfl)) ?_
        refine xe_get (v := .ref 100) s3 rfl rfl (by decide) rfl ?_
        refine xe_get (v := .int (a1 100 6)) s3 rfl rfl (by decide) rfl ?_
        refine ex_s (am_nb (m := 1) (pc1 := 73) (ls1 := [(0, .ref 97), (1, .int x0), (2, .int x1), (3, .int x2)]) (st1 := [.int x1, .int (a1 100 6), .ref 97]) (H1 := H2) (k1 := 0) (n1 := 0) (by with_unfolding_all rfl)) ?_
        obtain ⟨a18, e17, e⟩ := xb1_some e
        refine ex_cv0 (as := [.int (a1 100 6), .int x1]) (rest := []) rfl rfl rfl rfl (s3.obj rfl (by decide)) rfl (by with_unfolding_all rfl) (by with_unfolding_all rfl) (tf148_planDown s3 e17) (fun H15 s16 => ?_)
        refine ex_s (am_nb (m := 2) (pc1 := 78) (ls1 := [(0, .ref 97), (1, .int x0), (2, .int x1), (3, .int x2)]) (st1 := [.ref 97, .ref 97]) (H1 := H15) (k1 := 0) (n1 := 0) (by with_unfolding_all rfl)) ?_
        refine xe_get (v := .ref 100) s16 rfl rfl (by decide) rfl ?_
        refine xe_get (v := .int (a18 100 7)) s16 rfl rfl (by decide) rfl ?_
        refine ex_s (am_nb (m := 2) (pc1 := 86) (ls1 := [(0, .ref 97), (1, .int x0), (2, .int x1), (3, .int x2)]) (st1 := [.int x1, .int x2, .int (a18 100 7), .ref 97]) (H1 := H15) (k1 := 0) (n1 := 0) (by with_unfolding_all rfl)) ?_
        obtain ⟨a22, e21, e⟩ := xb1_some e
        refine ex_cv0 (as := [.int (a18 100 7), .int x2, .int x1]) (rest := []) rfl rfl rfl rfl (s16.obj rfl (by decide)) rfl (by with_unfolding_all rfl) (by with_unfolding_all rfl) (tf150_planAcross s16 e21) (fun H19 s20 => ?_)
        refine ex_s (am_nb (m := 1) (pc1 := 157) (ls1 := [(0, .ref 97), (1, .int x0), (2, .int x1), (3, .int x2)]) (st1 := []) (H1 := H19) (k1 := 0) (n1 := 0) (by with_unfolding_all rfl)) ?_
        cases e
        exact ex_r (st_vret rfl rfl) s20
      · have e := (if_neg c14).symm.trans e
        by_cases c23 : x0 = 5
        · have e := (if_pos c23).symm.trans e
          refine ex_pc (pc1 := 92) (by rw [c23]; with_unfolding_all rfl) ?_
          refine ex_s (am_nb (m := 5) (pc1 := 98) (ls1 := [(0, .ref 97), (1, .int x0), (2, .int x1), (3, .int x2)]) (st1 := [.int 0, .int 0, .int 1, .int 20, .ref 97]) (H1 := H2) (k1 := 0) (n1 := 0) (by with_unfolding_all rfl)) ?_
          obtain ⟨a27, e26, e⟩ := xb1_some e
          refine ex_cv0 (as := [.int 20, .int 1, .int 0, .int 0]) (rest := []) rfl rfl rfl rfl (s3.obj rfl (by decide)) rfl (by with_unfolding_all rfl) (by with_unfolding_all rfl) (tf147_planStep s3 e26) (fun H24 s25 => ?_)
          refine ex_s (am_nb (m := 2) (pc1 := 103) (ls1 := [(0, .ref 97), (1, .int x0), (2, .int x1), (3, .int x2)]) (st1 := [.ref 97, .ref 97]) (H1 := H24) (k1 := 0) (n1 := 0) (by with_unfolding_all rfl)) ?_
          refine xe_get (v := .ref 100) s25 rfl rfl (by decide) rfl ?_
          refine xe_get (v := .int (a27 100 6)) s25 rfl rfl (by decide) rfl ?_
          refine ex_s (am_nb (m := 1) (pc1 := 110) (ls1 := [(0, .ref 97), (1, .int x0), (2, .int x1), (3, .int x2)]) (st1 := [.int x1, .int (a27 100 6), .ref 97]) (H1 := H24) (k1 := 0) (n1 := 0) (by with_unfolding_all rfl)) ?_
          obtain ⟨a31, e30, e⟩ := xb1_some e
          refine ex_cv0 (as := [.int (a27 100 6), .int x1]) (rest := []) rfl rfl rfl rfl (s25.obj rfl (by decide)) rfl (by with_unfolding_all rfl) (by with_unfolding_all rfl) (tf148_planDown s25 e30) (fun H28 s29 => ?_)
          refine ex_s (am_nb (m := 4) (pc1 := 117) (ls1 := [(0, .ref 97), (1, .int x0), (2, .int x1), (3, .int x2)]) (st1 := [.int x1, .int x2, .int 0, .ref 97]) (H1 := H28) (k1 := 0) (n1 := 0) (by with_unfolding_all rfl)) ?_
          obtain ⟨a35, e34, e⟩ := xb1_some e
          refine ex_cv0 (as := [.int 0, .int x2, .int x1]) (rest := []) rfl rfl rfl rfl (s29.obj rfl (by decide)) rfl (by with_unfolding_all rfl) (by with_unfolding_all rfl) (tf150_planAcross s29 e34) (fun H32 s33 => ?_)
          refine ex_s (am_nb (m := 1) (pc1 := 157) (ls1 := [(0, .ref 97), (1, .int x0), (2, .int x1), (3, .int x2)]) (st1 := []) (H1 := H32) (k1 := 0) (n1 := 0) (by with_unfolding_all rfl)) ?_
          cases e
          exact ex_r (st_vret rfl rfl) s33
        · have e := (if_neg c23).symm.trans e
          by_cases c36 : x0 = 6
          · have e := (if_pos c36).symm.trans e
            refine ex_pc (pc1 := 123) (by rw [c36]; with_unfolding_all rfl) ?_
            refine ex_s (am_nb (m := 5) (pc1 := 129) (ls1 := [(0, .ref 97), (1, .int x0), (2, .int x1), (3, .int x2)]) (st1 := [.int 0, .int 0, .int 1, .int 8, .ref 97]) (H1 := H2) (k1 := 0) (n1 := 0) (by with_unfolding_all rfl)) ?_
            obtain ⟨a40, e39, e⟩ := xb1_some e
            refine ex_cv0 (as := [.int 8, .int 1, .int 0, .int 0]) (rest := []) rfl rfl rfl rfl (s3.obj rfl (by decide)) rfl (by with_unfolding_all rfl) (by with_unfolding_all rfl) (tf147_planStep s3 e39) (fun H37 s38 => ?_)
            refine ex_s (am_nb (m := 3) (pc1 := 135) (ls1 := [(0, .ref 97), (1, .int x0), (2, .int x1), (3, .int x2)]) (st1 := [.int x1, .int 0, .ref 97]) (H1 := H37) (k1 := 0) (n1 := 0) (by with_unfolding_all rfl)) ?_
            obtain ⟨a44, e43, e⟩ := xb1_some e
            refine ex_cv0 (as := [.int 0, .int x1]) (rest := []) rfl rfl rfl rfl (s38.obj rfl (by decide)) rfl (by with_unfolding_all rfl) (by with_unfolding_all rfl) (tf148_planDown s38 e43) (fun H41 s42 => ?_)
            refine ex_s (am_nb (m := 4) (pc1 := 142) (ls1 := [(0, .ref 97), (1, .int x0), (2, .int x1), (3, .int x2)]) (st1 := [.int x1, .int x2, .int 0, .ref 97]) (H1 := H41) (k1 := 0) (n1 := 0) (by with_unfolding_all rfl)) ?_
            obtain ⟨a48, e47, e⟩ := xb1_some e
            refine ex_cv0 (as := [.int 0, .int x2, .int x1]) (rest := []) rfl rfl rfl rfl (s42.obj rfl (by decide)) rfl (by with_unfolding_all rfl) (by with_unfolding_all rfl) (tf150_planAcross s42 e47) (fun H45 s46 => ?_)
            refine ex_s (am_nb (m := 1) (pc1 := 157) (ls1 := [(0, .ref 97), (1, .int x0), (2, .int x1), (3, .int x2)]) (st1 := []) (H1 := H45) (k1 := 0) (n1 := 0) (by with_unfolding_all rfl)) ?_
            cases e
            exact ex_r (st_vret rfl rfl) s46
          · have e := (if_neg c36).symm.trans e
            refine ex_pc (pc1 := 148) (am_sw_n (sw_c (Or.inl c4) (sw_c (Or.inl c9) (sw_c (Or.inl c14) (sw_c (Or.inl c23) (sw_c (Or.inl c36) sw_o)))))) ?_
            refine ex_s (am_nb (m := 5) (pc1 := 154) (ls1 := [(0, .ref 97), (1, .int x0), (2, .int x1), (3, .int x2)]) (st1 := [.int x2, .int x1, .int 1, .int 9, .ref 97]) (H1 := H2) (k1 := 0) (n1 := 0) (by with_unfolding_all rfl)) ?_
            obtain ⟨a52, e51, e⟩ := xb1_some e
            refine ex_cv0 (as := [.int 9, .int 1, .int x1, .int x2]) (rest := []) rfl rfl rfl rfl (s3.obj rfl (by decide)) rfl (by with_unfolding_all rfl) (by with_unfolding_all rfl) (tf147_planStep s3 e51) (fun H49 s50 => ?_)
            cases e
            exact ex_r (st_vret rfl rfl) s50

set_option maxRecDepth 100000 in
theorem tl151_3 {sL : Nat} {sx : Nat → Int32} {h b N : Nat} {T : List am_C} {R : Option Value} {F : am_H → Prop} {w1 : Int32} {w3 : Int32} {z : Nat × xA} (k0 : z.1 = 0 → ∀ H2 : am_H, xS h b T z.2 H2 → am_E sL sx am_cs 151 40 [] [] H2 R F) : ∀ (n : Nat) (v4 : Int32) (a : xA) (H : am_H), xS h b T a H → l151_3 N h b w1 w3 n v4 a = some z → am_E sL sx am_cs 151 3 [(0, .ref 97), (1, .int w1), (3, .int w3), (4, .int v4)] [] H R F := by
  intro n
  induction n with
  | zero =>
    intro v4 a H hS e
    cases e
  | succ n ih =>
    intro v4 a H hS e
    unfold l151_3 at e
    refine ex_s (am_nb (m := 2) (pc1 := 6) (ls1 := [(0, .ref 97), (1, .int w1), (3, .int w3), (4, .int v4)]) (st1 := [.int w3, .int v4]) (H1 := H) (k1 := 0) (n1 := 0) (by with_unfolding_all rfl)) ?_
    refine ex_s (st_icmp rfl) ?_
    by_cases c1 : w3 ≤ v4
    · have e := (if_pos c1).symm.trans e
      refine ex_pc (if_pos c1) ?_
      cases e
      exact le_E (l1 := []) trivial rfl (k0 rfl H hS)
    · have e := (if_neg c1).symm.trans e
      refine ex_pc (if_neg c1) ?_
      refine ex_s (am_nb (m := 2) (pc1 := 11) (ls1 := [(0, .ref 97), (1, .int w1), (3, .int w3), (4, .int v4)]) (st1 := [.ref 97, .ref 97]) (H1 := H) (k1 := 0) (n1 := 0) (by with_unfolding_all rfl)) ?_
      refine xe_get (v := .ref 100) hS rfl rfl (by decide) rfl ?_
      refine xe_get (v := .ref 101) hS rfl rfl (by decide) rfl ?_
      refine ex_s (am_nb (m := 2) (pc1 := 19) (ls1 := [(0, .ref 97), (1, .int w1), (3, .int w3), (4, .int v4)]) (st1 := [.ref 97, .int w1, .ref 101, .ref 97]) (H1 := H) (k1 := 0) (n1 := 0) (by with_unfolding_all rfl)) ?_
      refine xe_get (v := .int (a 97 9)) hS rfl rfl (by decide) rfl ?_
      refine ex_s (am_nb (m := 3) (pc1 := 26) (ls1 := [(0, .ref 97), (1, .int w1), (3, .int w3), (4, .int v4)]) (st1 := [.int ((w1 * (a 97 9)) + v4), .ref 101, .ref 97]) (H1 := H) (k1 := 0) (n1 := 0) (by with_unfolding_all rfl)) ?_
      obtain ⟨g2, e⟩ := xg_some e
      refine xe_iald hS rfl rfl g2 ?_
      refine ex_s (am_nb (m := 2) (pc1 := 31) (ls1 := [(0, .ref 97), (1, .int w1), (3, .int w3), (4, .int v4)]) (st1 := [.int ((a 101 (((w1 * (a 97 9)) + v4).toNatClampNeg)) &&& 255), .ref 97]) (H1 := H) (k1 := 0) (n1 := 0) (by with_unfolding_all rfl)) ?_
      obtain ⟨a6, e5, e⟩ := xb1_some e
      refine ex_cv0 (as := [.int ((a 101 (((w1 * (a 97 9)) + v4).toNatClampNeg)) &&& 255)]) (rest := []) rfl rfl rfl rfl (hS.obj rfl (by decide)) rfl (by with_unfolding_all rfl) (by with_unfolding_all rfl) (tf131_addByte hS e5) (fun H3 s4 => ?_)
      refine ex_s (am_nb (m := 2) (pc1 := 3) (ls1 := [(4, .int (v4 + 1)), (0, .ref 97), (1, .int w1), (3, .int w3)]) (st1 := []) (H1 := H3) (k1 := 0) (n1 := 0) (by with_unfolding_all rfl)) ?_
      exact le_E (l1 := [(0, .ref 97), (1, .int w1), (3, .int w3), (4, .int (v4 + 1))]) ⟨rfl, rfl, rfl, rfl, trivial⟩ rfl (ih (v4 + 1) a6 H3 s4 e)

set_option maxRecDepth 100000 in
theorem tf151_copyKnown {sL : Nat} {sx : Nat → Int32} {h b N : Nat} {T : List am_C} {a' : xA} {x0 : Int32} {x1 : Int32} {x2 : Int32} {a : xA} {H : am_H} (hS : xS h b T a H) (e : f151_copyKnown N h b x0 x1 x2 a = some a') : am_E sL sx am_cs 151 0 [(0, .ref 97), (1, .int x0), (2, .int x1), (3, .int x2)] [] H none (fun H1 => xS h b T a' H1) := by
  unfold f151_copyKnown at e
  refine ex_s (am_nb (m := 2) (pc1 := 3) (ls1 := [(4, .int x1), (0, .ref 97), (1, .int x0), (2, .int x1), (3, .int x2)]) (st1 := []) (H1 := H) (k1 := 0) (n1 := 0) (by with_unfolding_all rfl)) ?_
  obtain ⟨z7, e8, e⟩ := Option.bind_eq_some_iff.mp e
  refine le_E (l1 := [(0, .ref 97), (1, .int x0), (3, .int x2), (4, .int x1)]) ⟨rfl, rfl, rfl, rfl, trivial⟩ rfl (tl151_3 (z := z7)  (fun uz7_0 Hz70 sz70 => ?_) N x1 a H hS e8)
  cases e
  exact ex_r (st_vret rfl rfl) sz70

set_option maxRecDepth 100000 in
theorem tj137_170 {sL : Nat} {sx : Nat → Int32} {h b N : Nat} {T : List am_C} {R : Option Value} {F : am_H → Prop} {w1 : Int32} {w2 : Int32} {z : Nat × xA} {rc : Int32 → xA → Option (Nat × xA)} (k0 : z.1 = 0 → ∀ H2 : am_H, xS h b T z.2 H2 → am_E sL sx am_cs 137 176 [(0, .ref 97), (1, .int w1), (2, .int w2)] [] H2 R F) (ih : ∀ (v3 : Int32) (a : xA) (H : am_H), xS h b T a H → rc v3 a = some z → am_E sL sx am_cs 137 82 [(0, .ref 97), (1, .int w1), (2, .int w2), (3, .int v3)] [] H R F) {q3 : Int32} {a : xA} {H : am_H} (hS : xS h b T a H) (e : j137_170 N h b rc w1 w2 q3 a = some z) : am_E sL sx am_cs 137 170 [(0, .ref 97), (1, .int w1), (2, .int w2), (3, .int q3)] [] H R F := by
  unfold j137_170 at e
  refine ex_s (am_nb (m := 2) (pc1 := 82) (ls1 := [(3, .int (q3 + 1)), (0, .ref 97), (1, .int w1), (2, .int w2)]) (st1 := []) (H1 := H) (k1 := 0) (n1 := 0) (by with_unfolding_all rfl)) ?_
  exact le_E (l1 := [(0, .ref 97), (1, .int w1), (2, .int w2), (3, .int (q3 + 1))]) ⟨rfl, rfl, rfl, rfl, trivial⟩ rfl (ih (q3 + 1) a H hS e)

set_option maxRecDepth 100000 in
theorem tl137_82 {sL : Nat} {sx : Nat → Int32} {h b N : Nat} {T : List am_C} {R : Option Value} {F : am_H → Prop} {w1 : Int32} {w2 : Int32} {z : Nat × xA} (k0 : z.1 = 0 → ∀ H2 : am_H, xS h b T z.2 H2 → am_E sL sx am_cs 137 176 [(0, .ref 97), (1, .int w1), (2, .int w2)] [] H2 R F) : ∀ (n : Nat) (v3 : Int32) (a : xA) (H : am_H), xS h b T a H → l137_82 N h b w1 w2 n v3 a = some z → am_E sL sx am_cs 137 82 [(0, .ref 97), (1, .int w1), (2, .int w2), (3, .int v3)] [] H R F := by
  intro n
  induction n with
  | zero =>
    intro v3 a H hS e
    cases e
  | succ n ih =>
    intro v3 a H hS e
    unfold l137_82 at e
    refine ex_s (am_nb (m := 2) (pc1 := 84) (ls1 := [(0, .ref 97), (1, .int w1), (2, .int w2), (3, .int v3)]) (st1 := [.ref 97, .int v3]) (H1 := H) (k1 := 0) (n1 := 0) (by with_unfolding_all rfl)) ?_
    refine xe_get (v := .int (a 97 18)) hS rfl rfl (by decide) rfl ?_
    refine ex_s (st_icmp rfl) ?_
    by_cases c14 : (a 97 18) ≤ v3
    · have e := (if_pos c14).symm.trans e
      refine ex_pc (if_pos c14) ?_
      cases e
      exact le_E (l1 := [(0, .ref 97), (1, .int w1), (2, .int w2)]) ⟨rfl, rfl, rfl, trivial⟩ rfl (k0 rfl H hS)
    · have e := (if_neg c14).symm.trans e
      refine ex_pc (if_neg c14) ?_
      refine ex_s (am_nb (m := 5) (pc1 := 96) (ls1 := [(4, .int (v3 * 4)), (0, .ref 97), (1, .int w1), (2, .int w2), (3, .int v3)]) (st1 := [.ref 97]) (H1 := H) (k1 := 0) (n1 := 0) (by with_unfolding_all rfl)) ?_
      refine xe_get (v := .ref 114) hS rfl rfl (by decide) rfl ?_
      refine ex_s (am_nb (m := 1) (pc1 := 101) (ls1 := [(4, .int (v3 * 4)), (0, .ref 97), (1, .int w1), (2, .int w2), (3, .int v3)]) (st1 := [.int (v3 * 4), .ref 114]) (H1 := H) (k1 := 0) (n1 := 0) (by with_unfolding_all rfl)) ?_
      obtain ⟨g15, e⟩ := xg_some e
      refine xe_iald hS rfl rfl g15 ?_
      refine ex_s (am_nb (m := 1) (pc1 := 103) (ls1 := [(4, .int (v3 * 4)), (0, .ref 97), (1, .int w1), (2, .int w2), (3, .int v3)]) (st1 := [.int (-1), .int (a 114 ((v3 * 4).toNatClampNeg))]) (H1 := H) (k1 := 0) (n1 := 0) (by with_unfolding_all rfl)) ?_
      refine ex_s (st_icmp rfl) ?_
      by_cases c16 : (a 114 ((v3 * 4).toNatClampNeg)) = (-1)
      · have e := (if_pos c16).symm.trans e
        refine ex_pc (if_pos c16) ?_
        refine ex_s (am_nb (m := 3) (pc1 := 109) (ls1 := [(4, .int (v3 * 4)), (0, .ref 97), (1, .int w1), (2, .int w2), (3, .int v3)]) (st1 := [.ref 97, .int w1, .ref 97]) (H1 := H) (k1 := 0) (n1 := 0) (by with_unfolding_all rfl)) ?_
        refine xe_get (v := .ref 114) hS rfl rfl (by decide) rfl ?_
        refine ex_s (am_nb (m := 3) (pc1 := 116) (ls1 := [(4, .int (v3 * 4)), (0, .ref 97), (1, .int w1), (2, .int w2), (3, .int v3)]) (st1 := [.int ((v3 * 4) + 2), .ref 114, .int w1, .ref 97]) (H1 := H) (k1 := 0) (n1 := 0) (by with_unfolding_all rfl)) ?_
        obtain ⟨g17, e⟩ := xg_some e
        refine xe_iald hS rfl rfl g17 ?_
        refine ex_s (am_nb (m := 1) (pc1 := 118) (ls1 := [(4, .int (v3 * 4)), (0, .ref 97), (1, .int w1), (2, .int w2), (3, .int v3)]) (st1 := [.ref 97, .int (a 114 (((v3 * 4) + 2).toNatClampNeg)), .int w1, .ref 97]) (H1 := H) (k1 := 0) (n1 := 0) (by with_unfolding_all rfl)) ?_
        refine xe_get (v := .ref 114) hS rfl rfl (by decide) rfl ?_
        refine ex_s (am_nb (m := 3) (pc1 := 125) (ls1 := [(4, .int (v3 * 4)), (0, .ref 97), (1, .int w1), (2, .int w2), (3, .int v3)]) (st1 := [.int ((v3 * 4) + 3), .ref 114, .int (a 114 (((v3 * 4) + 2).toNatClampNeg)), .int w1, .ref 97]) (H1 := H) (k1 := 0) (n1 := 0) (by with_unfolding_all rfl)) ?_
        obtain ⟨g18, e⟩ := xg_some e
        refine xe_iald hS rfl rfl g18 ?_
        obtain ⟨a22, e21, e⟩ := xb1_some e
        refine ex_cv0 (as := [.int w1, .int (a 114 (((v3 * 4) + 2).toNatClampNeg)), .int (a 114 (((v3 * 4) + 3).toNatClampNeg))]) (rest := []) rfl rfl rfl rfl (hS.obj rfl (by decide)) rfl (by with_unfolding_all rfl) (by with_unfolding_all rfl) (tf151_copyKnown hS e21) (fun H19 s20 => ?_)
        refine ex_s (am_nb (m := 1) (pc1 := 170) (ls1 := [(4, .int (v3 * 4)), (0, .ref 97), (1, .int w1), (2, .int w2), (3, .int v3)]) (st1 := []) (H1 := H19) (k1 := 0) (n1 := 0) (by with_unfolding_all rfl)) ?_
        exact le_E (l1 := [(0, .ref 97), (1, .int w1), (2, .int w2), (3, .int v3)]) ⟨rfl, rfl, rfl, rfl, trivial⟩ rfl (tj137_170 k0 ih  s20 e)
      · have e := (if_neg c16).symm.trans e
        refine ex_pc (if_neg c16) ?_
        refine ex_s (am_nb (m := 2) (pc1 := 134) (ls1 := [(4, .int (v3 * 4)), (0, .ref 97), (1, .int w1), (2, .int w2), (3, .int v3)]) (st1 := [.ref 97, .ref 97]) (H1 := H) (k1 := 0) (n1 := 0) (by with_unfolding_all rfl)) ?_
        refine xe_get (v := .ref 114) hS rfl rfl (by decide) rfl ?_
        refine ex_s (am_nb (m := 1) (pc1 := 139) (ls1 := [(4, .int (v3 * 4)), (0, .ref 97), (1, .int w1), (2, .int w2), (3, .int v3)]) (st1 := [.int (v3 * 4), .ref 114, .ref 97]) (H1 := H) (k1 := 0) (n1 := 0) (by with_unfolding_all rfl)) ?_
        refine xe_iald hS rfl rfl g15 ?_
        refine ex_s (am_nb (m := 1) (pc1 := 141) (ls1 := [(4, .int (v3 * 4)), (0, .ref 97), (1, .int w1), (2, .int w2), (3, .int v3)]) (st1 := [.ref 97, .int (a 114 ((v3 * 4).toNatClampNeg)), .ref 97]) (H1 := H) (k1 := 0) (n1 := 0) (by with_unfolding_all rfl)) ?_
        refine xe_get (v := .ref 114) hS rfl rfl (by decide) rfl ?_
        refine ex_s (am_nb (m := 3) (pc1 := 148) (ls1 := [(4, .int (v3 * 4)), (0, .ref 97), (1, .int w1), (2, .int w2), (3, .int v3)]) (st1 := [.int ((v3 * 4) + 1), .ref 114, .int (a 114 ((v3 * 4).toNatClampNeg)), .ref 97]) (H1 := H) (k1 := 0) (n1 := 0) (by with_unfolding_all rfl)) ?_
        obtain ⟨g23, e⟩ := xg_some e
        refine xe_iald hS rfl rfl g23 ?_
        refine ex_s (am_nb (m := 1) (pc1 := 150) (ls1 := [(4, .int (v3 * 4)), (0, .ref 97), (1, .int w1), (2, .int w2), (3, .int v3)]) (st1 := [.ref 97, .int (a 114 (((v3 * 4) + 1).toNatClampNeg)), .int (a 114 ((v3 * 4).toNatClampNeg)), .ref 97]) (H1 := H) (k1 := 0) (n1 := 0) (by with_unfolding_all rfl)) ?_
        refine xe_get (v := .ref 114) hS rfl rfl (by decide) rfl ?_
        refine ex_s (am_nb (m := 3) (pc1 := 157) (ls1 := [(4, .int (v3 * 4)), (0, .ref 97), (1, .int w1), (2, .int w2), (3, .int v3)]) (st1 := [.int ((v3 * 4) + 2), .ref 114, .int (a 114 (((v3 * 4) + 1).toNatClampNeg)), .int (a 114 ((v3 * 4).toNatClampNeg)), .ref 97]) (H1 := H) (k1 := 0) (n1 := 0) (by with_unfolding_all rfl)) ?_
        obtain ⟨g24, e⟩ := xg_some e
        refine xe_iald hS rfl rfl g24 ?_
        refine ex_s (am_nb (m := 1) (pc1 := 159) (ls1 := [(4, .int (v3 * 4)), (0, .ref 97), (1, .int w1), (2, .int w2), (3, .int v3)]) (st1 := [.ref 97, .int (a 114 (((v3 * 4) + 2).toNatClampNeg)), .int (a 114 (((v3 * 4) + 1).toNatClampNeg)), .int (a 114 ((v3 * 4).toNatClampNeg)), .ref 97]) (H1 := H) (k1 := 0) (n1 := 0) (by with_unfolding_all rfl)) ?_
        refine xe_get (v := .ref 114) hS rfl rfl (by decide) rfl ?_
        refine ex_s (am_nb (m := 3) (pc1 := 166) (ls1 := [(4, .int (v3 * 4)), (0, .ref 97), (1, .int w1), (2, .int w2), (3, .int v3)]) (st1 := [.int ((v3 * 4) + 3), .ref 114, .int (a 114 (((v3 * 4) + 2).toNatClampNeg)), .int (a 114 (((v3 * 4) + 1).toNatClampNeg)), .int (a 114 ((v3 * 4).toNatClampNeg)), .ref 97]) (H1 := H) (k1 := 0) (n1 := 0) (by with_unfolding_all rfl)) ?_
        obtain ⟨g25, e⟩ := xg_some e
        refine xe_iald hS rfl rfl g25 ?_
        obtain ⟨a29, e28, e⟩ := xb1_some e
        refine ex_cv0 (as := [.int (a 114 ((v3 * 4).toNatClampNeg)), .int (a 114 (((v3 * 4) + 1).toNatClampNeg)), .int (a 114 (((v3 * 4) + 2).toNatClampNeg)), .int (a 114 (((v3 * 4) + 3).toNatClampNeg))]) (rest := []) rfl rfl rfl rfl (hS.obj rfl (by decide)) rfl (by with_unfolding_all rfl) (by with_unfolding_all rfl) (tf130_send hS e28) (fun H26 s27 => ?_)
        exact le_E (l1 := [(0, .ref 97), (1, .int w1), (2, .int w2), (3, .int v3)]) ⟨rfl, rfl, rfl, rfl, trivial⟩ rfl (tj137_170 k0 ih  s27 e)

set_option maxRecDepth 100000 in
theorem tj137_68 {sL : Nat} {sx : Nat → Int32} {h b N : Nat} {T : List am_C} {a' : xA} {q1 : Int32} {q2 : Int32} {a : xA} {H : am_H} (hS : xS h b T a H) (e : j137_68 N h b q1 q2 a = some a') : am_E sL sx am_cs 137 68 [(0, .ref 97), (1, .int q1), (2, .int q2)] [] H none (fun H1 => xS h b T a' H1) := by
  unfold j137_68 at e
  refine ex_s (am_nb (m := 4) (pc1 := 72) (ls1 := [(0, .ref 97), (1, .int q1), (2, .int q2)]) (st1 := [.int q2, .int q1, .ref 97, .ref 97]) (H1 := H) (k1 := 0) (n1 := 0) (by with_unfolding_all rfl)) ?_
  obtain ⟨r8, a9, e7, e⟩ := xb2_some e
  refine ex_cv1 (as := [.int q1, .int q2]) (rest := [.ref 97]) rfl rfl rfl rfl (hS.obj rfl (by decide)) rfl (by with_unfolding_all rfl) (by with_unfolding_all rfl) (tf138_cheapestWay hS e7) (fun H5 s6 => ?_)
  refine ex_s (am_nb (m := 2) (pc1 := 77) (ls1 := [(0, .ref 97), (1, .int q1), (2, .int q2)]) (st1 := [.int q2, .int q1, .int r8, .ref 97]) (H1 := H5) (k1 := 0) (n1 := 0) (by with_unfolding_all rfl)) ?_
  obtain ⟨a13, e12, e⟩ := xb1_some e
  refine ex_cv0 (as := [.int r8, .int q1, .int q2]) (rest := []) rfl rfl rfl rfl (s6.obj rfl (by decide)) rfl (by with_unfolding_all rfl) (by with_unfolding_all rfl) (tf146_planWay s6 e12) (fun H10 s11 => ?_)
  refine ex_s (am_nb (m := 2) (pc1 := 82) (ls1 := [(3, .int 0), (0, .ref 97), (1, .int q1), (2, .int q2)]) (st1 := []) (H1 := H10) (k1 := 0) (n1 := 0) (by with_unfolding_all rfl)) ?_
  obtain ⟨z30, e31, e⟩ := Option.bind_eq_some_iff.mp e
  refine le_E (l1 := [(0, .ref 97), (1, .int q1), (2, .int q2), (3, .int 0)]) ⟨rfl, rfl, rfl, rfl, trivial⟩ rfl (tl137_82 (z := z30)  (fun uz30_0 Hz300 sz300 => ?_) N 0 a13 H10 s11 e31)
  refine ex_s (am_nb (m := 1) (pc1 := 177) (ls1 := [(0, .ref 97), (1, .int q1), (2, .int q2)]) (st1 := [.ref 97]) (H1 := Hz300) (k1 := 0) (n1 := 0) (by with_unfolding_all rfl)) ?_
  refine xe_get (v := .ref 100) sz300 rfl rfl (by decide) rfl ?_
  refine ex_s (am_nb (m := 1) (pc1 := 181) (ls1 := [(0, .ref 97), (1, .int q1), (2, .int q2)]) (st1 := [.int q1, .ref 100]) (H1 := Hz300) (k1 := 0) (n1 := 0) (by with_unfolding_all rfl)) ?_
  obtain ⟨a32, ha32, e⟩ := xw_some e
  refine xe_put (w := q1) sz300 rfl rfl (by decide) rfl rfl rfl rfl (fun H33 s34 => ?_)
  have s34 : xS h b T a32 H33 := by rw [ha32]; exact s34
  refine ex_s (am_nb (m := 1) (pc1 := 185) (ls1 := [(0, .ref 97), (1, .int q1), (2, .int q2)]) (st1 := [.ref 97]) (H1 := H33) (k1 := 0) (n1 := 0) (by with_unfolding_all rfl)) ?_
  refine xe_get (v := .ref 100) s34 rfl rfl (by decide) rfl ?_
  refine ex_s (am_nb (m := 1) (pc1 := 189) (ls1 := [(0, .ref 97), (1, .int q1), (2, .int q2)]) (st1 := [.int q2, .ref 100]) (H1 := H33) (k1 := 0) (n1 := 0) (by with_unfolding_all rfl)) ?_
  obtain ⟨a35, ha35, e⟩ := xw_some e
  refine xe_put (w := q2) s34 rfl rfl (by decide) rfl rfl rfl rfl (fun H36 s37 => ?_)
  have s37 : xS h b T a35 H36 := by rw [ha35]; exact s37
  refine ex_s (am_nb (m := 2) (pc1 := 194) (ls1 := [(0, .ref 97), (1, .int q1), (2, .int q2)]) (st1 := [.int 1, .ref 97]) (H1 := H36) (k1 := 0) (n1 := 0) (by with_unfolding_all rfl)) ?_
  obtain ⟨a38, ha38, e⟩ := xw_some e
  refine xe_put (w := 1) s37 rfl rfl (by decide) rfl rfl rfl rfl (fun H39 s40 => ?_)
  have s40 : xS h b T a38 H39 := by rw [ha38]; exact s40
  cases e
  exact ex_r (st_vret rfl rfl) s40

set_option maxRecDepth 100000 in
theorem tj137_30 {sL : Nat} {sx : Nat → Int32} {h b N : Nat} {T : List am_C} {a' : xA} {q1 : Int32} {q2 : Int32} {a : xA} {H : am_H} (hS : xS h b T a H) (e : j137_30 N h b q1 q2 a = some a') : am_E sL sx am_cs 137 30 [(0, .ref 97), (1, .int q1), (2, .int q2)] [] H none (fun H1 => xS h b T a' H1) := by
  unfold j137_30 at e
  refine ex_s (am_nb (m := 1) (pc1 := 31) (ls1 := [(0, .ref 97), (1, .int q1), (2, .int q2)]) (st1 := [.ref 97]) (H1 := H) (k1 := 0) (n1 := 0) (by with_unfolding_all rfl)) ?_
  refine xe_get (v := .ref 100) hS rfl rfl (by decide) rfl ?_
  refine xe_get (v := .int (a 100 8)) hS rfl rfl (by decide) rfl ?_
  refine ex_s (st_if rfl) ?_
  by_cases c4 : (a 100 8) = 0
  · have e := (if_pos c4).symm.trans e
    refine ex_pc (if_pos c4) ?_
    exact le_E (l1 := [(0, .ref 97), (1, .int q1), (2, .int q2)]) ⟨rfl, rfl, rfl, trivial⟩ rfl (tj137_68  hS e)
  · have e := (if_neg c4).symm.trans e
    refine ex_pc (if_neg c4) ?_
    refine ex_s (am_nb (m := 1) (pc1 := 41) (ls1 := [(0, .ref 97), (1, .int q1), (2, .int q2)]) (st1 := [.ref 97]) (H1 := H) (k1 := 0) (n1 := 0) (by with_unfolding_all rfl)) ?_
    refine xe_get (v := xN (a 97 6)) hS rfl rfl (by decide) rfl ?_
    refine ex_s (am_nb (m := 1) (pc1 := 45) (ls1 := [(0, .ref 97), (1, .int q1), (2, .int q2)]) (st1 := [.int 2, xN (a 97 6)]) (H1 := H) (k1 := 0) (n1 := 0) (by first | with_unfolding_all rfl | (unfold xN; (repeat' split) <;> with_unfolding_all rfl))) ?_
    obtain ⟨g41, e⟩ := xg_some e
    rw [show xN (a 97 6) = .ref ((a 97 6).toNatClampNeg) from if_neg g41]
    obtain ⟨g42, e⟩ := xg_some e
    obtain ⟨r46, a47, e45, e⟩ := xb2_some e
    refine ex_cv1 (as := [.int 2]) (rest := []) rfl rfl rfl rfl (hS.obj g42 (by decide)) rfl (by with_unfolding_all rfl) (by with_unfolding_all rfl) (tf74_has hS e45) (fun H43 s44 => ?_)
    refine ex_s (st_if rfl) ?_
    by_cases c49 : r46 = 0
    · have e := (if_pos c49).symm.trans e
      refine ex_pc (if_pos c49) ?_
      refine ex_s (am_nb (m := 5) (pc1 := 57) (ls1 := [(0, .ref 97), (1, .int q1), (2, .int q2)]) (st1 := [.int 0, .int 0, .int 1, .int 25, .ref 97]) (H1 := H43) (k1 := 0) (n1 := 0) (by with_unfolding_all rfl)) ?_
      obtain ⟨a53, e52, e⟩ := xb1_some e
      refine ex_cv0 (as := [.int 25, .int 1, .int 0, .int 0]) (rest := []) rfl rfl rfl rfl (s44.obj rfl (by decide)) rfl (by with_unfolding_all rfl) (by with_unfolding_all rfl) (tf130_send s44 e52) (fun H50 s51 => ?_)
      refine ex_s (am_nb (m := 1) (pc1 := 61) (ls1 := [(0, .ref 97), (1, .int q1), (2, .int q2)]) (st1 := [.ref 97]) (H1 := H50) (k1 := 0) (n1 := 0) (by with_unfolding_all rfl)) ?_
      refine xe_get (v := .ref 100) s51 rfl rfl (by decide) rfl ?_
      refine ex_s (am_nb (m := 1) (pc1 := 65) (ls1 := [(0, .ref 97), (1, .int q1), (2, .int q2)]) (st1 := [.int 0, .ref 100]) (H1 := H50) (k1 := 0) (n1 := 0) (by with_unfolding_all rfl)) ?_
      obtain ⟨a54, ha54, e⟩ := xw_some e
      refine xe_put (w := 0) s51 rfl rfl (by decide) rfl rfl rfl rfl (fun H55 s56 => ?_)
      have s56 : xS h b T a54 H55 := by rw [ha54]; exact s56
      exact le_E (l1 := [(0, .ref 97), (1, .int q1), (2, .int q2)]) ⟨rfl, rfl, rfl, trivial⟩ rfl (tj137_68  s56 e)
    · have e := (if_neg c49).symm.trans e
      refine ex_pc (if_neg c49) ?_
      exact le_E (l1 := [(0, .ref 97), (1, .int q1), (2, .int q2)]) ⟨rfl, rfl, rfl, trivial⟩ rfl (tj137_68  s44 e)

set_option maxRecDepth 100000 in
theorem tf137_moveTo {sL : Nat} {sx : Nat → Int32} {h b N : Nat} {T : List am_C} {a' : xA} {x0 : Int32} {x1 : Int32} {a : xA} {H : am_H} (hS : xS h b T a H) (e : f137_moveTo N h b x0 x1 a = some a') : am_E sL sx am_cs 137 0 [(0, .ref 97), (1, .int x0), (2, .int x1)] [] H none (fun H1 => xS h b T a' H1) := by
  unfold f137_moveTo at e
  refine ex_s (am_nb (m := 1) (pc1 := 1) (ls1 := [(0, .ref 97), (1, .int x0), (2, .int x1)]) (st1 := [.ref 97]) (H1 := H) (k1 := 0) (n1 := 0) (by with_unfolding_all rfl)) ?_
  refine xe_get (v := .int (a 97 14)) hS rfl rfl (by decide) rfl ?_
  refine ex_s (st_if rfl) ?_
  by_cases c2 : (a 97 14) = 0
  · have e := (if_pos c2).symm.trans e
    refine ex_pc (if_pos c2) ?_
    exact le_E (l1 := [(0, .ref 97), (1, .int x0), (2, .int x1)]) ⟨rfl, rfl, rfl, trivial⟩ rfl (tj137_30  hS e)
  · have e := (if_neg c2).symm.trans e
    refine ex_pc (if_neg c2) ?_
    refine ex_s (am_nb (m := 1) (pc1 := 8) (ls1 := [(0, .ref 97), (1, .int x0), (2, .int x1)]) (st1 := [.ref 97]) (H1 := H) (k1 := 0) (n1 := 0) (by with_unfolding_all rfl)) ?_
    refine xe_get (v := .ref 100) hS rfl rfl (by decide) rfl ?_
    refine xe_get (v := .int (a 100 6)) hS rfl rfl (by decide) rfl ?_
    refine ex_s (am_nb (m := 1) (pc1 := 15) (ls1 := [(0, .ref 97), (1, .int x0), (2, .int x1)]) (st1 := [.int x0, .int (a 100 6)]) (H1 := H) (k1 := 0) (n1 := 0) (by with_unfolding_all rfl)) ?_
    refine ex_s (st_icmp rfl) ?_
    by_cases c58 : (a 100 6) = x0
    · have e := (if_pos c58).symm.trans e
      refine ex_pc (if_pos c58) ?_
      refine ex_s (am_nb (m := 1) (pc1 := 19) (ls1 := [(0, .ref 97), (1, .int x0), (2, .int x1)]) (st1 := [.ref 97]) (H1 := H) (k1 := 0) (n1 := 0) (by with_unfolding_all rfl)) ?_
      refine xe_get (v := .ref 100) hS rfl rfl (by decide) rfl ?_
      refine xe_get (v := .int (a 100 7)) hS rfl rfl (by decide) rfl ?_
      refine ex_s (am_nb (m := 1) (pc1 := 26) (ls1 := [(0, .ref 97), (1, .int x0), (2, .int x1)]) (st1 := [.int x1, .int (a 100 7)]) (H1 := H) (k1 := 0) (n1 := 0) (by with_unfolding_all rfl)) ?_
      refine ex_s (st_icmp rfl) ?_
      by_cases c59 : (a 100 7) = x1
      · have e := (if_pos c59).symm.trans e
        refine ex_pc (if_pos c59) ?_
        cases e
        exact ex_r (st_vret rfl rfl) hS
      · have e := (if_neg c59).symm.trans e
        refine ex_pc (if_neg c59) ?_
        exact le_E (l1 := [(0, .ref 97), (1, .int x0), (2, .int x1)]) ⟨rfl, rfl, rfl, trivial⟩ rfl (tj137_30  hS e)
    · have e := (if_neg c58).symm.trans e
      refine ex_pc (if_neg c58) ?_
      exact le_E (l1 := [(0, .ref 97), (1, .int x0), (2, .int x1)]) ⟨rfl, rfl, rfl, trivial⟩ rfl (tj137_30  hS e)

set_option maxRecDepth 100000 in
theorem tj133_50 {sL : Nat} {sx : Nat → Int32} {h b N : Nat} {T : List am_C} {R : Option Value} {F : am_H → Prop} {z : Nat × Int32 × xA} {rc : Int32 → Int32 → Int32 → xA → Option (Nat × Int32 × xA)} (k0 : z.1 = 0 → ∀ H2 : am_H, xS h b T z.2.2 H2 → am_E sL sx am_cs 133 56 [(0, .ref 97), (1, .int z.2.1)] [] H2 R F) (ih : ∀ (v1 : Int32) (v2 : Int32) (v3 : Int32) (a : xA) (H : am_H), xS h b T a H → rc v1 v2 v3 a = some z → am_E sL sx am_cs 133 24 [(0, .ref 97), (1, .int v1), (2, .int v2), (3, .int v3)] [] H R F) {q1 : Int32} {q2 : Int32} {q3 : Int32} {a : xA} {H : am_H} (hS : xS h b T a H) (e : j133_50 N h b rc q1 q2 q3 a = some z) : am_E sL sx am_cs 133 50 [(0, .ref 97), (1, .int q1), (2, .int q2), (3, .int q3)] [] H R F := by
  unfold j133_50 at e
  refine ex_s (am_nb (m := 2) (pc1 := 24) (ls1 := [(3, .int (q3 + 1)), (0, .ref 97), (1, .int q1), (2, .int q2)]) (st1 := []) (H1 := H) (k1 := 0) (n1 := 0) (by with_unfolding_all rfl)) ?_
  exact le_E (l1 := [(0, .ref 97), (1, .int q1), (2, .int q2), (3, .int (q3 + 1))]) ⟨rfl, rfl, rfl, rfl, trivial⟩ rfl (ih q1 q2 (q3 + 1) a H hS e)

set_option maxRecDepth 100000 in
theorem tl133_24 {sL : Nat} {sx : Nat → Int32} {h b N : Nat} {T : List am_C} {R : Option Value} {F : am_H → Prop} {z : Nat × Int32 × xA} (k0 : z.1 = 0 → ∀ H2 : am_H, xS h b T z.2.2 H2 → am_E sL sx am_cs 133 56 [(0, .ref 97), (1, .int z.2.1)] [] H2 R F) : ∀ (n : Nat) (v1 : Int32) (v2 : Int32) (v3 : Int32) (a : xA) (H : am_H), xS h b T a H → l133_24 N h b n v1 v2 v3 a = some z → am_E sL sx am_cs 133 24 [(0, .ref 97), (1, .int v1), (2, .int v2), (3, .int v3)] [] H R F := by
  intro n
  induction n with
  | zero =>
    intro v1 v2 v3 a H hS e
    cases e
  | succ n ih =>
    intro v1 v2 v3 a H hS e
    unfold l133_24 at e
    refine ex_s (am_nb (m := 2) (pc1 := 26) (ls1 := [(0, .ref 97), (1, .int v1), (2, .int v2), (3, .int v3)]) (st1 := [.ref 97, .int v3]) (H1 := H) (k1 := 0) (n1 := 0) (by with_unfolding_all rfl)) ?_
    refine xe_get (v := .int (a 97 8)) hS rfl rfl (by decide) rfl ?_
    refine ex_s (st_icmp rfl) ?_
    by_cases c9 : (a 97 8) ≤ v3
    · have e := (if_pos c9).symm.trans e
      refine ex_pc (if_pos c9) ?_
      cases e
      exact le_E (l1 := [(0, .ref 97), (1, .int v1)]) ⟨rfl, rfl, trivial⟩ rfl (k0 rfl H hS)
    · have e := (if_neg c9).symm.trans e
      refine ex_pc (if_neg c9) ?_
      refine ex_s (am_nb (m := 2) (pc1 := 34) (ls1 := [(0, .ref 97), (1, .int v1), (2, .int v2), (3, .int v3)]) (st1 := [.int v3, .ref 97]) (H1 := H) (k1 := 0) (n1 := 0) (by with_unfolding_all rfl)) ?_
      obtain ⟨r13, a14, e12, e⟩ := xb2_some e
      refine ex_cv1 (as := [.int v3]) (rest := []) rfl rfl rfl rfl (hS.obj rfl (by decide)) rfl (by with_unfolding_all rfl) (by with_unfolding_all rfl) (tf134_rowsUnlike hS e12) (fun H10 s11 => ?_)
      refine ex_s (am_nb (m := 3) (pc1 := 42) (ls1 := [(4, .int r13), (0, .ref 97), (1, .int v1), (2, .int v2), (3, .int v3)]) (st1 := [.int v2, .int r13]) (H1 := H10) (k1 := 0) (n1 := 0) (by with_unfolding_all rfl)) ?_
      refine ex_s (st_icmp rfl) ?_
      by_cases c16 : v2 ≤ r13
      · have e := (if_pos c16).symm.trans e
        refine ex_pc (if_pos c16) ?_
        exact le_E (l1 := [(0, .ref 97), (1, .int v1), (2, .int v2), (3, .int v3)]) ⟨rfl, rfl, rfl, rfl, trivial⟩ rfl (tj133_50 k0 ih  s11 e)
      · have e := (if_neg c16).symm.trans e
        refine ex_pc (if_neg c16) ?_
        refine ex_s (am_nb (m := 4) (pc1 := 50) (ls1 := [(1, .int v3), (2, .int r13), (4, .int r13), (0, .ref 97), (3, .int v3)]) (st1 := []) (H1 := H10) (k1 := 0) (n1 := 0) (by with_unfolding_all rfl)) ?_
        exact le_E (l1 := [(0, .ref 97), (1, .int v3), (2, .int r13), (3, .int v3)]) ⟨rfl, rfl, rfl, rfl, trivial⟩ rfl (tj133_50 k0 ih  s11 e)

set_option maxRecDepth 100000 in
theorem tf133_rollUp {sL : Nat} {sx : Nat → Int32} {h b N : Nat} {T : List am_C} {a' : xA} {a : xA} {H : am_H} (hS : xS h b T a H) (e : f133_rollUp N h b a = some a') : am_E sL sx am_cs 133 0 [(0, .ref 97)] [] H none (fun H1 => xS h b T a' H1) := by
  unfold f133_rollUp at e
  refine ex_s (am_nb (m := 1) (pc1 := 1) (ls1 := [(0, .ref 97)]) (st1 := [.ref 97]) (H1 := H) (k1 := 0) (n1 := 0) (by with_unfolding_all rfl)) ?_
  refine xe_get (v := xN (a 97 6)) hS rfl rfl (by decide) rfl ?_
  refine ex_s (am_nb (m := 1) (pc1 := 6) (ls1 := [(0, .ref 97)]) (st1 := [.int 22, xN (a 97 6)]) (H1 := H) (k1 := 0) (n1 := 0) (by first | with_unfolding_all rfl | (unfold xN; (repeat' split) <;> with_unfolding_all rfl))) ?_
  obtain ⟨g1, e⟩ := xg_some e
  rw [show xN (a 97 6) = .ref ((a 97 6).toNatClampNeg) from if_neg g1]
  obtain ⟨g2, e⟩ := xg_some e
  obtain ⟨r6, a7, e5, e⟩ := xb2_some e
  refine ex_cv1 (as := [.int 22]) (rest := []) rfl rfl rfl rfl (hS.obj g2 (by decide)) rfl (by with_unfolding_all rfl) (by with_unfolding_all rfl) (tf74_has hS e5) (fun H3 s4 => ?_)
  refine ex_s (st_if rfl) ?_
  by_cases c8 : r6 = 0
  · have e := (if_pos c8).symm.trans e
    refine ex_pc (if_pos c8) ?_
    cases e
    exact ex_r (st_vret rfl rfl) s4
  · have e := (if_neg c8).symm.trans e
    refine ex_pc (if_neg c8) ?_
    refine ex_s (am_nb (m := 3) (pc1 := 16) (ls1 := [(1, .int 0), (0, .ref 97)]) (st1 := [.ref 97]) (H1 := H3) (k1 := 0) (n1 := 0) (by with_unfolding_all rfl)) ?_
    refine xe_get (v := .int (a7 97 8)) s4 rfl rfl (by decide) rfl ?_
    refine ex_s (am_nb (m := 5) (pc1 := 24) (ls1 := [(3, .int 0), (2, .int ((a7 97 8) + 1)), (1, .int 0), (0, .ref 97)]) (st1 := []) (H1 := H3) (k1 := 0) (n1 := 0) (by with_unfolding_all rfl)) ?_
    obtain ⟨z17, e18, e⟩ := Option.bind_eq_some_iff.mp e
    refine le_E (l1 := [(0, .ref 97), (1, .int 0), (2, .int ((a7 97 8) + 1)), (3, .int 0)]) ⟨rfl, rfl, rfl, rfl, trivial⟩ rfl (tl133_24 (z := z17)  (fun uz17_0 Hz170 sz170 => ?_) N 0 ((a7 97 8) + 1) 0 a7 H3 s4 e18)
    refine ex_s (am_nb (m := 1) (pc1 := 57) (ls1 := [(0, .ref 97), (1, .int z17.2.1)]) (st1 := [.int z17.2.1]) (H1 := Hz170) (k1 := 0) (n1 := 0) (by with_unfolding_all rfl)) ?_
    refine ex_s (st_if rfl) ?_
    by_cases c20 : z17.2.1 ≤ 0
    · have e := (if_pos c20).symm.trans e
      refine ex_pc (if_pos c20) ?_
      cases e
      exact ex_r (st_vret rfl rfl) sz170
    · have e := (if_neg c20).symm.trans e
      refine ex_pc (if_neg c20) ?_
      refine ex_s (am_nb (m := 2) (pc1 := 62) (ls1 := [(0, .ref 97), (1, .int z17.2.1)]) (st1 := [.ref 97, .ref 97]) (H1 := Hz170) (k1 := 0) (n1 := 0) (by with_unfolding_all rfl)) ?_
      refine xe_get (v := .int (z17.2.2 97 8)) sz170 rfl rfl (by decide) rfl ?_
      refine ex_s (am_nb (m := 3) (pc1 := 68) (ls1 := [(0, .ref 97), (1, .int z17.2.1)]) (st1 := [.int 0, .int ((z17.2.2 97 8) - 1), .ref 97]) (H1 := Hz170) (k1 := 0) (n1 := 0) (by with_unfolding_all rfl)) ?_
      obtain ⟨a24, e23, e⟩ := xb1_some e
      refine ex_cv0 (as := [.int ((z17.2.2 97 8) - 1), .int 0]) (rest := []) rfl rfl rfl rfl (sz170.obj rfl (by decide)) rfl (by with_unfolding_all rfl) (by with_unfolding_all rfl) (tf137_moveTo sz170 e23) (fun H21 s22 => ?_)
      refine ex_s (am_nb (m := 5) (pc1 := 77) (ls1 := [(0, .ref 97), (1, .int z17.2.1)]) (st1 := [.int 0, .int 0, .int z17.2.1, .int 22, .ref 97]) (H1 := H21) (k1 := 0) (n1 := 0) (by with_unfolding_all rfl)) ?_
      obtain ⟨a28, e27, e⟩ := xb1_some e
      refine ex_cv0 (as := [.int 22, .int z17.2.1, .int 0, .int 0]) (rest := []) rfl rfl rfl rfl (s22.obj rfl (by decide)) rfl (by with_unfolding_all rfl) (by with_unfolding_all rfl) (tf130_send s22 e27) (fun H25 s26 => ?_)
      refine ex_s (am_nb (m := 1) (pc1 := 81) (ls1 := [(0, .ref 97), (1, .int z17.2.1)]) (st1 := [.ref 97]) (H1 := H25) (k1 := 0) (n1 := 0) (by with_unfolding_all rfl)) ?_
      refine xe_get (v := .ref 100) s26 rfl rfl (by decide) rfl ?_
      refine ex_s (am_nb (m := 3) (pc1 := 87) (ls1 := [(0, .ref 97), (1, .int z17.2.1)]) (st1 := [.int (-z17.2.1), .int 0, .ref 100]) (H1 := H25) (k1 := 0) (n1 := 0) (by with_unfolding_all rfl)) ?_
      obtain ⟨a32, e31, e⟩ := xb1_some e
      refine ex_cv0 (as := [.int 0, .int (-z17.2.1)]) (rest := []) rfl rfl rfl rfl (s26.obj rfl (by decide)) rfl (by with_unfolding_all rfl) (by with_unfolding_all rfl) (tf107_slideRows s26 e31) (fun H29 s30 => ?_)
      cases e
      exact ex_r (st_vret rfl rfl) s30

set_option maxRecDepth 100000 in
theorem tl153_5 {sL : Nat} {sx : Nat → Int32} {h b N : Nat} {T : List am_C} {R : Option Value} {F : am_H → Prop} {w1 : Int32} {z : Nat × Int32 × xA} (k0 : z.1 = 0 → ∀ H2 : am_H, xS h b T z.2.2 H2 → am_E sL sx am_cs 153 24 [(2, .int z.2.1)] [] H2 R F) (k1 : z.1 = 1 → ∀ H2 : am_H, xS h b T z.2.2 H2 → am_E sL sx am_cs 153 32 [] [] H2 R F) : ∀ (n : Nat) (v2 : Int32) (a : xA) (H : am_H), xS h b T a H → l153_5 N h b w1 n v2 a = some z → am_E sL sx am_cs 153 5 [(0, .ref 97), (1, .int w1), (2, .int v2)] [] H R F := by
  intro n
  induction n with
  | zero =>
    intro v2 a H hS e
    cases e
  | succ n ih =>
    intro v2 a H hS e
    unfold l153_5 at e
    refine ex_s (am_nb (m := 1) (pc1 := 6) (ls1 := [(0, .ref 97), (1, .int w1), (2, .int v2)]) (st1 := [.int v2]) (H1 := H) (k1 := 0) (n1 := 0) (by with_unfolding_all rfl)) ?_
    refine ex_s (st_if rfl) ?_
    by_cases c1 : v2 ≤ 0
    · have e := (if_pos c1).symm.trans e
      refine ex_pc (if_pos c1) ?_
      cases e
      exact le_E (l1 := []) trivial rfl (k1 rfl H hS)
    · have e := (if_neg c1).symm.trans e
      refine ex_pc (if_neg c1) ?_
      refine ex_s (am_nb (m := 1) (pc1 := 10) (ls1 := [(0, .ref 97), (1, .int w1), (2, .int v2)]) (st1 := [.ref 97]) (H1 := H) (k1 := 0) (n1 := 0) (by with_unfolding_all rfl)) ?_
      refine xe_get (v := .ref 104) hS rfl rfl (by decide) rfl ?_
      refine ex_s (am_nb (m := 5) (pc1 := 18) (ls1 := [(0, .ref 97), (1, .int w1), (2, .int v2)]) (st1 := [.int ((w1 + v2) - 1), .ref 104]) (H1 := H) (k1 := 0) (n1 := 0) (by with_unfolding_all rfl)) ?_
      obtain ⟨g2, e⟩ := xg_some e
      refine xe_iald hS rfl rfl g2 ?_
      refine ex_s (am_nb (m := 1) (pc1 := 21) (ls1 := [(0, .ref 97), (1, .int w1), (2, .int v2)]) (st1 := [.int 32, .int (a 104 (((w1 + v2) - 1).toNatClampNeg))]) (H1 := H) (k1 := 0) (n1 := 0) (by with_unfolding_all rfl)) ?_
      refine ex_s (st_icmp rfl) ?_
      by_cases c3 : (a 104 (((w1 + v2) - 1).toNatClampNeg)) = 32
      · have e := (if_pos c3).symm.trans e
        refine ex_pc (if_pos c3) ?_
        refine ex_s (am_nb (m := 2) (pc1 := 5) (ls1 := [(2, .int (v2 + (-1))), (0, .ref 97), (1, .int w1)]) (st1 := []) (H1 := H) (k1 := 0) (n1 := 0) (by with_unfolding_all rfl)) ?_
        exact le_E (l1 := [(0, .ref 97), (1, .int w1), (2, .int (v2 + (-1)))]) ⟨rfl, rfl, rfl, trivial⟩ rfl (ih (v2 + (-1)) a H hS e)
      · have e := (if_neg c3).symm.trans e
        refine ex_pc (if_neg c3) ?_
        cases e
        exact le_E (l1 := [(2, .int v2)]) ⟨rfl, trivial⟩ rfl (k0 rfl H hS)

set_option maxRecDepth 100000 in
theorem tf153_behindLastSign {sL : Nat} {sx : Nat → Int32} {h b N : Nat} {T : List am_C} {r : Int32} {a' : xA} {x0 : Int32} {a : xA} {H : am_H} (hS : xS h b T a H) (e : f153_behindLastSign N h b x0 a = some (r, a')) : am_E sL sx am_cs 153 0 [(0, .ref 97), (1, .int x0)] [] H (some (.int r)) (fun H1 => xS h b T a' H1) := by
  unfold f153_behindLastSign at e
  refine ex_s (am_nb (m := 1) (pc1 := 1) (ls1 := [(0, .ref 97), (1, .int x0)]) (st1 := [.ref 97]) (H1 := H) (k1 := 0) (n1 := 0) (by with_unfolding_all rfl)) ?_
  refine xe_get (v := .int (a 97 9)) hS rfl rfl (by decide) rfl ?_
  refine ex_s (am_nb (m := 1) (pc1 := 5) (ls1 := [(2, .int (a 97 9)), (0, .ref 97), (1, .int x0)]) (st1 := []) (H1 := H) (k1 := 0) (n1 := 0) (by with_unfolding_all rfl)) ?_
  obtain ⟨z4, e5, e⟩ := Option.bind_eq_some_iff.mp e
  refine le_E (l1 := [(0, .ref 97), (1, .int x0), (2, .int (a 97 9))]) ⟨rfl, rfl, rfl, trivial⟩ rfl (tl153_5 (z := z4)  (fun uz4_0 Hz40 sz40 => ?_) (fun uz4_1 Hz41 sz41 => ?_) N (a 97 9) a H hS e5)
  · have e := (if_pos uz4_0).symm.trans e
    refine ex_s (am_nb (m := 1) (pc1 := 25) (ls1 := [(2, .int z4.2.1)]) (st1 := [.int z4.2.1]) (H1 := Hz40) (k1 := 0) (n1 := 0) (by with_unfolding_all rfl)) ?_
    cases e
    exact ex_r (st_iret rfl rfl rfl) sz40
  · have e := (if_neg (show ¬ z4.1 = 0 by rw [uz4_1]; decide)).symm.trans e
    refine ex_s (am_nb (m := 1) (pc1 := 33) (ls1 := []) (st1 := [.int 0]) (H1 := Hz41) (k1 := 0) (n1 := 0) (by with_unfolding_all rfl)) ?_
    cases e
    exact ex_r (st_iret rfl rfl rfl) sz41

set_option maxRecDepth 100000 in
theorem tj154_84 {sL : Nat} {sx : Nat → Int32} {h b N : Nat} {T : List am_C} {R : Option Value} {F : am_H → Prop} {w1 : Int32} {z : Nat × xA} {rc : Int32 → xA → Option (Nat × xA)} (k0 : z.1 = 0 → ∀ H2 : am_H, xS h b T z.2 H2 → am_E sL sx am_cs 154 90 [] [] H2 R F) (ih : ∀ (v2 : Int32) (a : xA) (H : am_H), xS h b T a H → rc v2 a = some z → am_E sL sx am_cs 154 33 [(0, .ref 97), (1, .int w1), (2, .int v2)] [] H R F) {q2 : Int32} {a : xA} {H : am_H} (hS : xS h b T a H) (e : j154_84 N h b rc w1 q2 a = some z) : am_E sL sx am_cs 154 84 [(0, .ref 97), (1, .int w1), (2, .int q2)] [] H R F := by
  unfold j154_84 at e
  refine ex_s (am_nb (m := 2) (pc1 := 33) (ls1 := [(2, .int (q2 + 1)), (0, .ref 97), (1, .int w1)]) (st1 := []) (H1 := H) (k1 := 0) (n1 := 0) (by with_unfolding_all rfl)) ?_
  exact le_E (l1 := [(0, .ref 97), (1, .int w1), (2, .int (q2 + 1))]) ⟨rfl, rfl, rfl, trivial⟩ rfl (ih (q2 + 1) a H hS e)

set_option maxRecDepth 100000 in
theorem tl154_33 {sL : Nat} {sx : Nat → Int32} {h b N : Nat} {T : List am_C} {R : Option Value} {F : am_H → Prop} {w1 : Int32} {z : Nat × xA} (k0 : z.1 = 0 → ∀ H2 : am_H, xS h b T z.2 H2 → am_E sL sx am_cs 154 90 [] [] H2 R F) : ∀ (n : Nat) (v2 : Int32) (a : xA) (H : am_H), xS h b T a H → l154_33 N h b w1 n v2 a = some z → am_E sL sx am_cs 154 33 [(0, .ref 97), (1, .int w1), (2, .int v2)] [] H R F := by
  intro n
  induction n with
  | zero =>
    intro v2 a H hS e
    cases e
  | succ n ih =>
    intro v2 a H hS e
    unfold l154_33 at e
    refine ex_s (am_nb (m := 2) (pc1 := 35) (ls1 := [(0, .ref 97), (1, .int w1), (2, .int v2)]) (st1 := [.int 4, .int v2]) (H1 := H) (k1 := 0) (n1 := 0) (by with_unfolding_all rfl)) ?_
    refine ex_s (st_icmp rfl) ?_
    by_cases c3 : 4 ≤ v2
    · have e := (if_pos c3).symm.trans e
      refine ex_pc (if_pos c3) ?_
      cases e
      exact le_E (l1 := []) trivial rfl (k0 rfl H hS)
    · have e := (if_neg c3).symm.trans e
      refine ex_pc (if_neg c3) ?_
      refine ex_s (am_nb (m := 7) (pc1 := 45) (ls1 := [(3, .int ((1 : Int32) <<< (v2 &&& 31))), (0, .ref 97), (1, .int w1), (2, .int v2)]) (st1 := [.int (w1 &&& ((1 : Int32) <<< (v2 &&& 31)))]) (H1 := H) (k1 := 0) (n1 := 0) (by with_unfolding_all rfl)) ?_
      refine ex_s (st_if rfl) ?_
      by_cases c5 : (w1 &&& ((1 : Int32) <<< (v2 &&& 31))) = 0
      · have e := (if_pos c5).symm.trans e
        refine ex_pc (if_pos c5) ?_
        exact le_E (l1 := [(0, .ref 97), (1, .int w1), (2, .int v2)]) ⟨rfl, rfl, rfl, trivial⟩ rfl (tj154_84 k0 ih  hS e)
      · have e := (if_neg c5).symm.trans e
        refine ex_pc (if_neg c5) ?_
        refine ex_s (am_nb (m := 1) (pc1 := 49) (ls1 := [(3, .int ((1 : Int32) <<< (v2 &&& 31))), (0, .ref 97), (1, .int w1), (2, .int v2)]) (st1 := [.ref 97]) (H1 := H) (k1 := 0) (n1 := 0) (by with_unfolding_all rfl)) ?_
        refine xe_get (v := .ref 100) hS rfl rfl (by decide) rfl ?_
        refine xe_get (v := .int (a 100 8)) hS rfl rfl (by decide) rfl ?_
        refine ex_s (am_nb (m := 2) (pc1 := 57) (ls1 := [(3, .int ((1 : Int32) <<< (v2 &&& 31))), (0, .ref 97), (1, .int w1), (2, .int v2)]) (st1 := [.int ((a 100 8) &&& ((1 : Int32) <<< (v2 &&& 31)))]) (H1 := H) (k1 := 0) (n1 := 0) (by with_unfolding_all rfl)) ?_
        refine ex_s (st_if rfl) ?_
        by_cases c7 : ((a 100 8) &&& ((1 : Int32) <<< (v2 &&& 31))) = 0
        · have e := (if_pos c7).symm.trans e
          refine ex_pc (if_pos c7) ?_
          refine ex_s (am_nb (m := 7) (pc1 := 68) (ls1 := [(3, .int ((1 : Int32) <<< (v2 &&& 31))), (0, .ref 97), (1, .int w1), (2, .int v2)]) (st1 := [.int 0, .int 0, .int 1, .int (26 + v2), .ref 97]) (H1 := H) (k1 := 0) (n1 := 0) (by with_unfolding_all rfl)) ?_
          obtain ⟨a11, e10, e⟩ := xb1_some e
          refine ex_cv0 (as := [.int (26 + v2), .int 1, .int 0, .int 0]) (rest := []) rfl rfl rfl rfl (hS.obj rfl (by decide)) rfl (by with_unfolding_all rfl) (by with_unfolding_all rfl) (tf130_send hS e10) (fun H8 s9 => ?_)
          refine ex_s (am_nb (m := 1) (pc1 := 72) (ls1 := [(3, .int ((1 : Int32) <<< (v2 &&& 31))), (0, .ref 97), (1, .int w1), (2, .int v2)]) (st1 := [.ref 97]) (H1 := H8) (k1 := 0) (n1 := 0) (by with_unfolding_all rfl)) ?_
          refine xe_get (v := .ref 100) s9 rfl rfl (by decide) rfl ?_
          refine ex_s (am_nb (m := 1) (pc1 := 76) (ls1 := [(3, .int ((1 : Int32) <<< (v2 &&& 31))), (0, .ref 97), (1, .int w1), (2, .int v2)]) (st1 := [.ref 100, .ref 100]) (H1 := H8) (k1 := 0) (n1 := 0) (by with_unfolding_all rfl)) ?_
          refine xe_get (v := .int (a11 100 8)) s9 rfl rfl (by decide) rfl ?_
          refine ex_s (am_nb (m := 2) (pc1 := 81) (ls1 := [(3, .int ((1 : Int32) <<< (v2 &&& 31))), (0, .ref 97), (1, .int w1), (2, .int v2)]) (st1 := [.int ((a11 100 8) ||| ((1 : Int32) <<< (v2 &&& 31))), .ref 100]) (H1 := H8) (k1 := 0) (n1 := 0) (by with_unfolding_all rfl)) ?_
          obtain ⟨a12, ha12, e⟩ := xw_some e
          refine xe_put (w := ((a11 100 8) ||| ((1 : Int32) <<< (v2 &&& 31)))) s9 rfl rfl (by decide) rfl rfl rfl rfl (fun H13 s14 => ?_)
          have s14 : xS h b T a12 H13 := by rw [ha12]; exact s14
          exact le_E (l1 := [(0, .ref 97), (1, .int w1), (2, .int v2)]) ⟨rfl, rfl, rfl, trivial⟩ rfl (tj154_84 k0 ih  s14 e)
        · have e := (if_neg c7).symm.trans e
          refine ex_pc (if_neg c7) ?_
          exact le_E (l1 := [(0, .ref 97), (1, .int w1), (2, .int v2)]) ⟨rfl, rfl, rfl, trivial⟩ rfl (tj154_84 k0 ih  hS e)

set_option maxRecDepth 100000 in
theorem tj154_31 {sL : Nat} {sx : Nat → Int32} {h b N : Nat} {T : List am_C} {a' : xA} {q1 : Int32} {a : xA} {H : am_H} (hS : xS h b T a H) (e : j154_31 N h b q1 a = some a') : am_E sL sx am_cs 154 31 [(0, .ref 97), (1, .int q1)] [] H none (fun H1 => xS h b T a' H1) := by
  unfold j154_31 at e
  refine ex_s (am_nb (m := 2) (pc1 := 33) (ls1 := [(2, .int 0), (0, .ref 97), (1, .int q1)]) (st1 := []) (H1 := H) (k1 := 0) (n1 := 0) (by with_unfolding_all rfl)) ?_
  obtain ⟨z15, e16, e⟩ := Option.bind_eq_some_iff.mp e
  refine le_E (l1 := [(0, .ref 97), (1, .int q1), (2, .int 0)]) ⟨rfl, rfl, rfl, trivial⟩ rfl (tl154_33 (z := z15)  (fun uz15_0 Hz150 sz150 => ?_) N 0 a H hS e16)
  cases e
  exact ex_r (st_vret rfl rfl) sz150

set_option maxRecDepth 100000 in
theorem tf154_dressAs {sL : Nat} {sx : Nat → Int32} {h b N : Nat} {T : List am_C} {a' : xA} {x0 : Int32} {a : xA} {H : am_H} (hS : xS h b T a H) (e : f154_dressAs N h b x0 a = some a') : am_E sL sx am_cs 154 0 [(0, .ref 97), (1, .int x0)] [] H none (fun H1 => xS h b T a' H1) := by
  unfold f154_dressAs at e
  refine ex_s (am_nb (m := 1) (pc1 := 1) (ls1 := [(0, .ref 97), (1, .int x0)]) (st1 := [.ref 97]) (H1 := H) (k1 := 0) (n1 := 0) (by with_unfolding_all rfl)) ?_
  refine xe_get (v := .ref 100) hS rfl rfl (by decide) rfl ?_
  refine xe_get (v := .int (a 100 8)) hS rfl rfl (by decide) rfl ?_
  refine ex_s (am_nb (m := 4) (pc1 := 11) (ls1 := [(0, .ref 97), (1, .int x0)]) (st1 := [.int ((a 100 8) &&& (x0 ^^^ (-1)))]) (H1 := H) (k1 := 0) (n1 := 0) (by with_unfolding_all rfl)) ?_
  refine ex_s (st_if rfl) ?_
  by_cases c2 : ((a 100 8) &&& (x0 ^^^ (-1))) = 0
  · have e := (if_pos c2).symm.trans e
    refine ex_pc (if_pos c2) ?_
    exact le_E (l1 := [(0, .ref 97), (1, .int x0)]) ⟨rfl, rfl, trivial⟩ rfl (tj154_31  hS e)
  · have e := (if_neg c2).symm.trans e
    refine ex_pc (if_neg c2) ?_
    refine ex_s (am_nb (m := 5) (pc1 := 20) (ls1 := [(0, .ref 97), (1, .int x0)]) (st1 := [.int 0, .int 0, .int 1, .int 25, .ref 97]) (H1 := H) (k1 := 0) (n1 := 0) (by with_unfolding_all rfl)) ?_
    obtain ⟨a20, e19, e⟩ := xb1_some e
    refine ex_cv0 (as := [.int 25, .int 1, .int 0, .int 0]) (rest := []) rfl rfl rfl rfl (hS.obj rfl (by decide)) rfl (by with_unfolding_all rfl) (by with_unfolding_all rfl) (tf130_send hS e19) (fun H17 s18 => ?_)
    refine ex_s (am_nb (m := 1) (pc1 := 24) (ls1 := [(0, .ref 97), (1, .int x0)]) (st1 := [.ref 97]) (H1 := H17) (k1 := 0) (n1 := 0) (by with_unfolding_all rfl)) ?_
    refine xe_get (v := .ref 100) s18 rfl rfl (by decide) rfl ?_
    refine ex_s (am_nb (m := 1) (pc1 := 28) (ls1 := [(0, .ref 97), (1, .int x0)]) (st1 := [.int 0, .ref 100]) (H1 := H17) (k1 := 0) (n1 := 0) (by with_unfolding_all rfl)) ?_
    obtain ⟨a21, ha21, e⟩ := xw_some e
    refine xe_put (w := 0) s18 rfl rfl (by decide) rfl rfl rfl rfl (fun H22 s23 => ?_)
    have s23 : xS h b T a21 H22 := by rw [ha21]; exact s23
    exact le_E (l1 := [(0, .ref 97), (1, .int x0)]) ⟨rfl, rfl, trivial⟩ rfl (tj154_31  s23 e)

set_option maxRecDepth 100000 in
theorem tj155_99 {sL : Nat} {sx : Nat → Int32} {h b N : Nat} {T : List am_C} {a' : xA} {a : xA} {H : am_H} (hS : xS h b T a H) (e : j155_99 N h b a = some a') : am_E sL sx am_cs 155 99 [(0, .ref 97)] [] H none (fun H1 => xS h b T a' H1) := by
  unfold j155_99 at e
  refine ex_s (am_nb (m := 2) (pc1 := 101) (ls1 := [(0, .ref 97)]) (st1 := [.int 0, .ref 97]) (H1 := H) (k1 := 0) (n1 := 0) (by with_unfolding_all rfl)) ?_
  obtain ⟨a36, ha36, e⟩ := xw_some e
  refine xe_put (w := 0) hS rfl rfl (by decide) rfl rfl rfl rfl (fun H37 s38 => ?_)
  have s38 : xS h b T a36 H37 := by rw [ha36]; exact s38
  refine ex_s (am_nb (m := 1) (pc1 := 128) (ls1 := [(0, .ref 97)]) (st1 := []) (H1 := H37) (k1 := 0) (n1 := 0) (by with_unfolding_all rfl)) ?_
  cases e
  exact ex_r (st_vret rfl rfl) s38

set_option maxRecDepth 100000 in
theorem tf155_paintCell {sL : Nat} {sx : Nat → Int32} {h b N : Nat} {T : List am_C} {a' : xA} {x0 : Int32} {a : xA} {H : am_H} (hS : xS h b T a H) (e : f155_paintCell N h b x0 a = some a') : am_E sL sx am_cs 155 0 [(0, .ref 97), (1, .int x0)] [] H none (fun H1 => xS h b T a' H1) := by
  unfold f155_paintCell at e
  refine ex_s (am_nb (m := 2) (pc1 := 2) (ls1 := [(0, .ref 97), (1, .int x0)]) (st1 := [.ref 97, .ref 97]) (H1 := H) (k1 := 0) (n1 := 0) (by with_unfolding_all rfl)) ?_
  refine xe_get (v := .ref 104) hS rfl rfl (by decide) rfl ?_
  refine ex_s (am_nb (m := 1) (pc1 := 6) (ls1 := [(0, .ref 97), (1, .int x0)]) (st1 := [.int x0, .ref 104, .ref 97]) (H1 := H) (k1 := 0) (n1 := 0) (by with_unfolding_all rfl)) ?_
  obtain ⟨g1, e⟩ := xg_some e
  refine xe_iald hS rfl rfl g1 ?_
  refine ex_s (am_nb (m := 2) (pc1 := 11) (ls1 := [(0, .ref 97), (1, .int x0)]) (st1 := [.int ((a 104 (x0.toNatClampNeg)) &&& 255), .ref 97]) (H1 := H) (k1 := 0) (n1 := 0) (by with_unfolding_all rfl)) ?_
  obtain ⟨a5, e4, e⟩ := xb1_some e
  refine ex_cv0 (as := [.int ((a 104 (x0.toNatClampNeg)) &&& 255)]) (rest := []) rfl rfl rfl rfl (hS.obj rfl (by decide)) rfl (by with_unfolding_all rfl) (by with_unfolding_all rfl) (tf131_addByte hS e4) (fun H2 s3 => ?_)
  refine ex_s (am_nb (m := 1) (pc1 := 15) (ls1 := [(0, .ref 97), (1, .int x0)]) (st1 := [.ref 97]) (H1 := H2) (k1 := 0) (n1 := 0) (by with_unfolding_all rfl)) ?_
  refine xe_get (v := .ref 100) s3 rfl rfl (by decide) rfl ?_
  refine xe_get (v := .ref 101) s3 rfl rfl (by decide) rfl ?_
  refine ex_s (am_nb (m := 2) (pc1 := 23) (ls1 := [(0, .ref 97), (1, .int x0)]) (st1 := [.ref 97, .int x0, .ref 101]) (H1 := H2) (k1 := 0) (n1 := 0) (by with_unfolding_all rfl)) ?_
  refine xe_get (v := .ref 104) s3 rfl rfl (by decide) rfl ?_
  refine ex_s (am_nb (m := 1) (pc1 := 27) (ls1 := [(0, .ref 97), (1, .int x0)]) (st1 := [.int x0, .ref 104, .int x0, .ref 101]) (H1 := H2) (k1 := 0) (n1 := 0) (by with_unfolding_all rfl)) ?_
  refine xe_iald s3 rfl rfl g1 ?_
  obtain ⟨a6, ha6, e⟩ := xw_some e
  refine xe_iast s3 rfl rfl g1 (fun H7 s8 => ?_)
  have s8 : xS h b T a6 H7 := by rw [ha6]; exact s8
  refine ex_s (am_nb (m := 1) (pc1 := 30) (ls1 := [(0, .ref 97), (1, .int x0)]) (st1 := [.ref 97]) (H1 := H7) (k1 := 0) (n1 := 0) (by with_unfolding_all rfl)) ?_
  refine xe_get (v := .ref 100) s8 rfl rfl (by decide) rfl ?_
  refine xe_get (v := .int (a6 100 7)) s8 rfl rfl (by decide) rfl ?_
  refine ex_s (am_nb (m := 1) (pc1 := 37) (ls1 := [(0, .ref 97), (1, .int x0)]) (st1 := [.ref 97, .int (a6 100 7)]) (H1 := H7) (k1 := 0) (n1 := 0) (by with_unfolding_all rfl)) ?_
  refine xe_get (v := .int (a6 97 9)) s8 rfl rfl (by decide) rfl ?_
  refine ex_s (am_nb (m := 2) (pc1 := 42) (ls1 := [(0, .ref 97), (1, .int x0)]) (st1 := [.int ((a6 97 9) - 1), .int (a6 100 7)]) (H1 := H7) (k1 := 0) (n1 := 0) (by with_unfolding_all rfl)) ?_
  refine ex_s (st_icmp rfl) ?_
  by_cases c9 : ((a6 97 9) - 1) ≤ (a6 100 7)
  · have e := (if_pos c9).symm.trans e
    refine ex_pc (if_pos c9) ?_
    refine ex_s (am_nb (m := 1) (pc1 := 62) (ls1 := [(0, .ref 97), (1, .int x0)]) (st1 := [.ref 97]) (H1 := H7) (k1 := 0) (n1 := 0) (by with_unfolding_all rfl)) ?_
    refine xe_get (v := xN (a6 97 6)) s8 rfl rfl (by decide) rfl ?_
    refine ex_s (am_nb (m := 1) (pc1 := 66) (ls1 := [(0, .ref 97), (1, .int x0)]) (st1 := [.int 0, xN (a6 97 6)]) (H1 := H7) (k1 := 0) (n1 := 0) (by first | with_unfolding_all rfl | (unfold xN; (repeat' split) <;> with_unfolding_all rfl))) ?_
    obtain ⟨g10, e⟩ := xg_some e
    rw [show xN (a6 97 6) = .ref ((a6 97 6).toNatClampNeg) from if_neg g10]
    obtain ⟨g11, e⟩ := xg_some e
    obtain ⟨r15, a16, e14, e⟩ := xb2_some e
    refine ex_cv1 (as := [.int 0]) (rest := []) rfl rfl rfl rfl (s8.obj g11 (by decide)) rfl (by with_unfolding_all rfl) (by with_unfolding_all rfl) (tf74_has s8 e14) (fun H12 s13 => ?_)
    refine ex_s (st_if rfl) ?_
    by_cases c18 : r15 = 0
    · have e := (if_pos c18).symm.trans e
      refine ex_pc (if_pos c18) ?_
      cases e
      exact ex_r (st_vret rfl rfl) s13
    · have e := (if_neg c18).symm.trans e
      refine ex_pc (if_neg c18) ?_
      refine ex_s (am_nb (m := 1) (pc1 := 73) (ls1 := [(0, .ref 97), (1, .int x0)]) (st1 := [.ref 97]) (H1 := H12) (k1 := 0) (n1 := 0) (by with_unfolding_all rfl)) ?_
      refine xe_get (v := xN (a16 97 6)) s13 rfl rfl (by decide) rfl ?_
      refine ex_s (am_nb (m := 1) (pc1 := 77) (ls1 := [(0, .ref 97), (1, .int x0)]) (st1 := [.int 1, xN (a16 97 6)]) (H1 := H12) (k1 := 0) (n1 := 0) (by first | with_unfolding_all rfl | (unfold xN; (repeat' split) <;> with_unfolding_all rfl))) ?_
      obtain ⟨g19, e⟩ := xg_some e
      rw [show xN (a16 97 6) = .ref ((a16 97 6).toNatClampNeg) from if_neg g19]
      obtain ⟨g20, e⟩ := xg_some e
      obtain ⟨r24, a25, e23, e⟩ := xb2_some e
      refine ex_cv1 (as := [.int 1]) (rest := []) rfl rfl rfl rfl (s13.obj g20 (by decide)) rfl (by with_unfolding_all rfl) (by with_unfolding_all rfl) (tf74_has s13 e23) (fun H21 s22 => ?_)
      refine ex_s (st_if rfl) ?_
      by_cases c27 : r24 = 0
      · have e := (if_pos c27).symm.trans e
        refine ex_pc (if_pos c27) ?_
        refine ex_s (am_nb (m := 1) (pc1 := 84) (ls1 := [(0, .ref 97), (1, .int x0)]) (st1 := [.ref 97]) (H1 := H21) (k1 := 0) (n1 := 0) (by with_unfolding_all rfl)) ?_
        refine xe_get (v := .ref 100) s22 rfl rfl (by decide) rfl ?_
        refine xe_get (v := .int (a25 100 6)) s22 rfl rfl (by decide) rfl ?_
        refine ex_s (am_nb (m := 1) (pc1 := 91) (ls1 := [(0, .ref 97), (1, .int x0)]) (st1 := [.ref 97, .int (a25 100 6)]) (H1 := H21) (k1 := 0) (n1 := 0) (by with_unfolding_all rfl)) ?_
        refine xe_get (v := .int (a25 97 8)) s22 rfl rfl (by decide) rfl ?_
        refine ex_s (am_nb (m := 2) (pc1 := 96) (ls1 := [(0, .ref 97), (1, .int x0)]) (st1 := [.int ((a25 97 8) - 1), .int (a25 100 6)]) (H1 := H21) (k1 := 0) (n1 := 0) (by with_unfolding_all rfl)) ?_
        refine ex_s (st_icmp rfl) ?_
        by_cases c29 : (a25 100 6) < ((a25 97 8) - 1)
        · have e := (if_pos c29).symm.trans e
          refine ex_pc (if_pos c29) ?_
          refine ex_s (am_nb (m := 1) (pc1 := 108) (ls1 := [(0, .ref 97), (1, .int x0)]) (st1 := [.ref 97]) (H1 := H21) (k1 := 0) (n1 := 0) (by with_unfolding_all rfl)) ?_
          refine xe_get (v := .ref 100) s22 rfl rfl (by decide) rfl ?_
          refine ex_s (am_nb (m := 1) (pc1 := 112) (ls1 := [(0, .ref 97), (1, .int x0)]) (st1 := [.ref 100, .ref 100]) (H1 := H21) (k1 := 0) (n1 := 0) (by with_unfolding_all rfl)) ?_
          refine xe_get (v := .int (a25 100 6)) s22 rfl rfl (by decide) rfl ?_
          refine ex_s (am_nb (m := 2) (pc1 := 117) (ls1 := [(0, .ref 97), (1, .int x0)]) (st1 := [.int ((a25 100 6) + 1), .ref 100]) (H1 := H21) (k1 := 0) (n1 := 0) (by with_unfolding_all rfl)) ?_
          obtain ⟨a30, ha30, e⟩ := xw_some e
          refine xe_put (w := ((a25 100 6) + 1)) s22 rfl rfl (by decide) rfl rfl rfl rfl (fun H31 s32 => ?_)
          have s32 : xS h b T a30 H31 := by rw [ha30]; exact s32
          refine ex_s (am_nb (m := 1) (pc1 := 121) (ls1 := [(0, .ref 97), (1, .int x0)]) (st1 := [.ref 97]) (H1 := H31) (k1 := 0) (n1 := 0) (by with_unfolding_all rfl)) ?_
          refine xe_get (v := .ref 100) s32 rfl rfl (by decide) rfl ?_
          refine ex_s (am_nb (m := 1) (pc1 := 125) (ls1 := [(0, .ref 97), (1, .int x0)]) (st1 := [.int 0, .ref 100]) (H1 := H31) (k1 := 0) (n1 := 0) (by with_unfolding_all rfl)) ?_
          obtain ⟨a33, ha33, e⟩ := xw_some e
          refine xe_put (w := 0) s32 rfl rfl (by decide) rfl rfl rfl rfl (fun H34 s35 => ?_)
          have s35 : xS h b T a33 H34 := by rw [ha33]; exact s35
          cases e
          exact ex_r (st_vret rfl rfl) s35
        · have e := (if_neg c29).symm.trans e
          refine ex_pc (if_neg c29) ?_
          exact le_E (l1 := [(0, .ref 97)]) ⟨rfl, trivial⟩ rfl (tj155_99  s22 e)
      · have e := (if_neg c27).symm.trans e
        refine ex_pc (if_neg c27) ?_
        exact le_E (l1 := [(0, .ref 97)]) ⟨rfl, trivial⟩ rfl (tj155_99  s22 e)
  · have e := (if_neg c9).symm.trans e
    refine ex_pc (if_neg c9) ?_
    refine ex_s (am_nb (m := 1) (pc1 := 46) (ls1 := [(0, .ref 97), (1, .int x0)]) (st1 := [.ref 97]) (H1 := H7) (k1 := 0) (n1 := 0) (by with_unfolding_all rfl)) ?_
    refine xe_get (v := .ref 100) s8 rfl rfl (by decide) rfl ?_
    refine ex_s (am_nb (m := 1) (pc1 := 50) (ls1 := [(0, .ref 97), (1, .int x0)]) (st1 := [.ref 100, .ref 100]) (H1 := H7) (k1 := 0) (n1 := 0) (by with_unfolding_all rfl)) ?_
    refine xe_get (v := .int (a6 100 7)) s8 rfl rfl (by decide) rfl ?_
    refine ex_s (am_nb (m := 2) (pc1 := 55) (ls1 := [(0, .ref 97), (1, .int x0)]) (st1 := [.int ((a6 100 7) + 1), .ref 100]) (H1 := H7) (k1 := 0) (n1 := 0) (by with_unfolding_all rfl)) ?_
    obtain ⟨a39, ha39, e⟩ := xw_some e
    refine xe_put (w := ((a6 100 7) + 1)) s8 rfl rfl (by decide) rfl rfl rfl rfl (fun H40 s41 => ?_)
    have s41 : xS h b T a39 H40 := by rw [ha39]; exact s41
    refine ex_s (am_nb (m := 1) (pc1 := 128) (ls1 := [(0, .ref 97), (1, .int x0)]) (st1 := []) (H1 := H40) (k1 := 0) (n1 := 0) (by with_unfolding_all rfl)) ?_
    cases e
    exact ex_r (st_vret rfl rfl) s41

set_option maxRecDepth 100000 in
theorem tj152_69 {sL : Nat} {sx : Nat → Int32} {h b N : Nat} {T : List am_C} {R : Option Value} {F : am_H → Prop} {w1 : Int32} {w2 : Int32} {w5 : Int32} {z : Nat × Int32 × Int32 × xA} {rc : Int32 → Int32 → Int32 → xA → Option (Nat × Int32 × Int32 × xA)} (k0 : z.1 = 0 → ∀ H2 : am_H, xS h b T z.2.2.2 H2 → am_E sL sx am_cs 152 75 [(0, .ref 97), (1, .int w1), (2, .int w2), (3, .int z.2.1), (4, .int z.2.2.1)] [] H2 R F) (ih : ∀ (v3 : Int32) (v4 : Int32) (v6 : Int32) (a : xA) (H : am_H), xS h b T a H → rc v3 v4 v6 a = some z → am_E sL sx am_cs 152 22 [(0, .ref 97), (1, .int w1), (2, .int w2), (3, .int v3), (4, .int v4), (5, .int w5), (6, .int v6)] [] H R F) {q3 : Int32} {q4 : Int32} {q6 : Int32} {a : xA} {H : am_H} (hS : xS h b T a H) (e : j152_69 N h b rc w1 w2 w5 q3 q4 q6 a = some z) : am_E sL sx am_cs 152 69 [(0, .ref 97), (1, .int w1), (2, .int w2), (3, .int q3), (4, .int q4), (5, .int w5), (6, .int q6)] [] H R F := by
  unfold j152_69 at e
  refine ex_s (am_nb (m := 2) (pc1 := 22) (ls1 := [(6, .int (q6 + 1)), (0, .ref 97), (1, .int w1), (2, .int w2), (3, .int q3), (4, .int q4), (5, .int w5)]) (st1 := []) (H1 := H) (k1 := 0) (n1 := 0) (by with_unfolding_all rfl)) ?_
  exact le_E (l1 := [(0, .ref 97), (1, .int w1), (2, .int w2), (3, .int q3), (4, .int q4), (5, .int w5), (6, .int (q6 + 1))]) ⟨rfl, rfl, rfl, rfl, rfl, rfl, rfl, trivial⟩ rfl (ih q3 q4 (q6 + 1) a H hS e)

set_option maxRecDepth 100000 in
theorem tl152_22 {sL : Nat} {sx : Nat → Int32} {h b N : Nat} {T : List am_C} {R : Option Value} {F : am_H → Prop} {w1 : Int32} {w2 : Int32} {w5 : Int32} {z : Nat × Int32 × Int32 × xA} (k0 : z.1 = 0 → ∀ H2 : am_H, xS h b T z.2.2.2 H2 → am_E sL sx am_cs 152 75 [(0, .ref 97), (1, .int w1), (2, .int w2), (3, .int z.2.1), (4, .int z.2.2.1)] [] H2 R F) : ∀ (n : Nat) (v3 : Int32) (v4 : Int32) (v6 : Int32) (a : xA) (H : am_H), xS h b T a H → l152_22 N h b w1 w2 w5 n v3 v4 v6 a = some z → am_E sL sx am_cs 152 22 [(0, .ref 97), (1, .int w1), (2, .int w2), (3, .int v3), (4, .int v4), (5, .int w5), (6, .int v6)] [] H R F := by
  intro n
  induction n with
  | zero =>
    intro v3 v4 v6 a H hS e
    cases e
  | succ n ih =>
    intro v3 v4 v6 a H hS e
    unfold l152_22 at e
    refine ex_s (am_nb (m := 2) (pc1 := 26) (ls1 := [(0, .ref 97), (1, .int w1), (2, .int w2), (3, .int v3), (4, .int v4), (5, .int w5), (6, .int v6)]) (st1 := [.int w5, .int v6]) (H1 := H) (k1 := 0) (n1 := 0) (by with_unfolding_all rfl)) ?_
    refine ex_s (st_icmp rfl) ?_
    by_cases c6 : w5 ≤ v6
    · have e := (if_pos c6).symm.trans e
      refine ex_pc (if_pos c6) ?_
      cases e
      exact le_E (l1 := [(0, .ref 97), (1, .int w1), (2, .int w2), (3, .int v3), (4, .int v4)]) ⟨rfl, rfl, rfl, rfl, rfl, trivial⟩ rfl (k0 rfl H hS)
    · have e := (if_neg c6).symm.trans e
      refine ex_pc (if_neg c6) ?_
      refine ex_s (am_nb (m := 1) (pc1 := 30) (ls1 := [(0, .ref 97), (1, .int w1), (2, .int w2), (3, .int v3), (4, .int v4), (5, .int w5), (6, .int v6)]) (st1 := [.ref 97]) (H1 := H) (k1 := 0) (n1 := 0) (by with_unfolding_all rfl)) ?_
      refine xe_get (v := .ref 104) hS rfl rfl (by decide) rfl ?_
      refine ex_s (am_nb (m := 3) (pc1 := 37) (ls1 := [(0, .ref 97), (1, .int w1), (2, .int w2), (3, .int v3), (4, .int v4), (5, .int w5), (6, .int v6)]) (st1 := [.int (w2 + v6), .ref 104]) (H1 := H) (k1 := 0) (n1 := 0) (by with_unfolding_all rfl)) ?_
      obtain ⟨g7, e⟩ := xg_some e
      refine xe_iald hS rfl rfl g7 ?_
      refine ex_s (am_nb (m := 1) (pc1 := 39) (ls1 := [(0, .ref 97), (1, .int w1), (2, .int w2), (3, .int v3), (4, .int v4), (5, .int w5), (6, .int v6)]) (st1 := [.ref 97, .int (a 104 ((w2 + v6).toNatClampNeg))]) (H1 := H) (k1 := 0) (n1 := 0) (by with_unfolding_all rfl)) ?_
      refine xe_get (v := .ref 100) hS rfl rfl (by decide) rfl ?_
      refine xe_get (v := .ref 101) hS rfl rfl (by decide) rfl ?_
      refine ex_s (am_nb (m := 3) (pc1 := 49) (ls1 := [(0, .ref 97), (1, .int w1), (2, .int w2), (3, .int v3), (4, .int v4), (5, .int w5), (6, .int v6)]) (st1 := [.int (w2 + v6), .ref 101, .int (a 104 ((w2 + v6).toNatClampNeg))]) (H1 := H) (k1 := 0) (n1 := 0) (by with_unfolding_all rfl)) ?_
      refine xe_iald hS rfl rfl g7 ?_
      refine ex_s (st_icmp rfl) ?_
      by_cases c10 : (a 104 ((w2 + v6).toNatClampNeg)) = (a 101 ((w2 + v6).toNatClampNeg))
      · have e := (if_pos c10).symm.trans e
        refine ex_pc (if_pos c10) ?_
        exact le_E (l1 := [(0, .ref 97), (1, .int w1), (2, .int w2), (3, .int v3), (4, .int v4), (5, .int w5), (6, .int v6)]) ⟨rfl, rfl, rfl, rfl, rfl, rfl, rfl, trivial⟩ rfl (tj152_69 k0 ih  hS e)
      · have e := (if_neg c10).symm.trans e
        refine ex_pc (if_neg c10) ?_
        refine ex_s (am_nb (m := 2) (pc1 := 55) (ls1 := [(0, .ref 97), (1, .int w1), (2, .int w2), (3, .int v3), (4, .int v4), (5, .int w5), (6, .int v6)]) (st1 := [.int (-1), .int v3]) (H1 := H) (k1 := 0) (n1 := 0) (by with_unfolding_all rfl)) ?_
        have kk : am_E sL sx am_cs 152 64 [(0, .ref 97), (1, .int w1), (2, .int w2), (3, .int v3), (4, .int v4), (5, .int w5), (6, .int v6)] [.int (if v3 = (-1) then (v6) else (v3))] H R F := by
          refine ex_s (am_nb (m := 3) (pc1 := 69) (ls1 := [(4, .int v6), (3, .int (if v3 = (-1) then (v6) else (v3))), (0, .ref 97), (1, .int w1), (2, .int w2), (5, .int w5), (6, .int v6)]) (st1 := []) (H1 := H) (k1 := 0) (n1 := 0) (by with_unfolding_all rfl)) ?_
          exact le_E (l1 := [(0, .ref 97), (1, .int w1), (2, .int w2), (3, .int (if v3 = (-1) then (v6) else (v3))), (4, .int v6), (5, .int w5), (6, .int v6)]) ⟨rfl, rfl, rfl, rfl, rfl, rfl, rfl, trivial⟩ rfl (tj152_69 k0 ih  hS e)
        refine ex_s (st_icmp rfl) ?_
        by_cases c11 : v3 = (-1)
        · refine ex_pc (if_pos c11) ?_
          refine ex_s (am_nb (m := 2) (pc1 := 64) (ls1 := [(0, .ref 97), (1, .int w1), (2, .int w2), (3, .int v3), (4, .int v4), (5, .int w5), (6, .int v6)]) (st1 := [.int v6]) (H1 := H) (k1 := 0) (n1 := 0) (by with_unfolding_all rfl)) ?_
          rw [if_pos c11] at kk
          exact kk
        · refine ex_pc (if_neg c11) ?_
          refine ex_s (am_nb (m := 1) (pc1 := 64) (ls1 := [(0, .ref 97), (1, .int w1), (2, .int w2), (3, .int v3), (4, .int v4), (5, .int w5), (6, .int v6)]) (st1 := [.int v3]) (H1 := H) (k1 := 0) (n1 := 0) (by with_unfolding_all rfl)) ?_
          rw [if_neg c11] at kk
          exact kk

set_option maxRecDepth 100000 in
theorem tj152_209 {sL : Nat} {sx : Nat → Int32} {h b N : Nat} {T : List am_C} {R : Option Value} {F : am_H → Prop} {w1 : Int32} {w2 : Int32} {w6 : Int32} {w7 : Int32} {w8 : Int32} {z : Nat × xA} {rc : Int32 → xA → Option (Nat × xA)} (k0 : z.1 = 0 → ∀ H2 : am_H, xS h b T z.2 H2 → am_E sL sx am_cs 152 215 [(0, .ref 97), (1, .int w1), (2, .int w2), (6, .int w6), (7, .int w7)] [] H2 R F) (ih : ∀ (v9 : Int32) (a : xA) (H : am_H), xS h b T a H → rc v9 a = some z → am_E sL sx am_cs 152 147 [(0, .ref 97), (1, .int w1), (2, .int w2), (6, .int w6), (7, .int w7), (8, .int w8), (9, .int v9)] [] H R F) {q9 : Int32} {a : xA} {H : am_H} (hS : xS h b T a H) (e : j152_209 N h b rc w1 w2 w6 w7 w8 q9 a = some z) : am_E sL sx am_cs 152 209 [(0, .ref 97), (1, .int w1), (2, .int w2), (6, .int w6), (7, .int w7), (8, .int w8), (9, .int q9)] [] H R F := by
  unfold j152_209 at e
  refine ex_s (am_nb (m := 2) (pc1 := 147) (ls1 := [(9, .int (q9 + 1)), (0, .ref 97), (1, .int w1), (2, .int w2), (6, .int w6), (7, .int w7), (8, .int w8)]) (st1 := []) (H1 := H) (k1 := 0) (n1 := 0) (by with_unfolding_all rfl)) ?_
  exact le_E (l1 := [(0, .ref 97), (1, .int w1), (2, .int w2), (6, .int w6), (7, .int w7), (8, .int w8), (9, .int (q9 + 1))]) ⟨rfl, rfl, rfl, rfl, rfl, rfl, rfl, trivial⟩ rfl (ih (q9 + 1) a H hS e)

set_option maxRecDepth 100000 in
theorem tl152_147 {sL : Nat} {sx : Nat → Int32} {h b N : Nat} {T : List am_C} {R : Option Value} {F : am_H → Prop} {w1 : Int32} {w2 : Int32} {w6 : Int32} {w7 : Int32} {w8 : Int32} {z : Nat × xA} (k0 : z.1 = 0 → ∀ H2 : am_H, xS h b T z.2 H2 → am_E sL sx am_cs 152 215 [(0, .ref 97), (1, .int w1), (2, .int w2), (6, .int w6), (7, .int w7)] [] H2 R F) : ∀ (n : Nat) (v9 : Int32) (a : xA) (H : am_H), xS h b T a H → l152_147 N h b w1 w2 w6 w7 w8 n v9 a = some z → am_E sL sx am_cs 152 147 [(0, .ref 97), (1, .int w1), (2, .int w2), (6, .int w6), (7, .int w7), (8, .int w8), (9, .int v9)] [] H R F := by
  intro n
  induction n with
  | zero =>
    intro v9 a H hS e
    cases e
  | succ n ih =>
    intro v9 a H hS e
    unfold l152_147 at e
    refine ex_s (am_nb (m := 2) (pc1 := 151) (ls1 := [(0, .ref 97), (1, .int w1), (2, .int w2), (6, .int w6), (7, .int w7), (8, .int w8), (9, .int v9)]) (st1 := [.int w8, .int v9]) (H1 := H) (k1 := 0) (n1 := 0) (by with_unfolding_all rfl)) ?_
    refine ex_s (st_icmp rfl) ?_
    by_cases c30 : w8 ≤ v9
    · have e := (if_pos c30).symm.trans e
      refine ex_pc (if_pos c30) ?_
      cases e
      exact le_E (l1 := [(0, .ref 97), (1, .int w1), (2, .int w2), (6, .int w6), (7, .int w7)]) ⟨rfl, rfl, rfl, rfl, rfl, trivial⟩ rfl (k0 rfl H hS)
    · have e := (if_neg c30).symm.trans e
      refine ex_pc (if_neg c30) ?_
      refine ex_s (am_nb (m := 1) (pc1 := 155) (ls1 := [(0, .ref 97), (1, .int w1), (2, .int w2), (6, .int w6), (7, .int w7), (8, .int w8), (9, .int v9)]) (st1 := [.ref 97]) (H1 := H) (k1 := 0) (n1 := 0) (by with_unfolding_all rfl)) ?_
      refine xe_get (v := .ref 104) hS rfl rfl (by decide) rfl ?_
      refine ex_s (am_nb (m := 3) (pc1 := 162) (ls1 := [(0, .ref 97), (1, .int w1), (2, .int w2), (6, .int w6), (7, .int w7), (8, .int w8), (9, .int v9)]) (st1 := [.int (w2 + v9), .ref 104]) (H1 := H) (k1 := 0) (n1 := 0) (by with_unfolding_all rfl)) ?_
      obtain ⟨g31, e⟩ := xg_some e
      refine xe_iald hS rfl rfl g31 ?_
      refine ex_s (am_nb (m := 1) (pc1 := 164) (ls1 := [(0, .ref 97), (1, .int w1), (2, .int w2), (6, .int w6), (7, .int w7), (8, .int w8), (9, .int v9)]) (st1 := [.ref 97, .int (a 104 ((w2 + v9).toNatClampNeg))]) (H1 := H) (k1 := 0) (n1 := 0) (by with_unfolding_all rfl)) ?_
      refine xe_get (v := .ref 100) hS rfl rfl (by decide) rfl ?_
      refine xe_get (v := .ref 101) hS rfl rfl (by decide) rfl ?_
      refine ex_s (am_nb (m := 3) (pc1 := 174) (ls1 := [(0, .ref 97), (1, .int w1), (2, .int w2), (6, .int w6), (7, .int w7), (8, .int w8), (9, .int v9)]) (st1 := [.int (w2 + v9), .ref 101, .int (a 104 ((w2 + v9).toNatClampNeg))]) (H1 := H) (k1 := 0) (n1 := 0) (by with_unfolding_all rfl)) ?_
      refine xe_iald hS rfl rfl g31 ?_
      refine ex_s (st_icmp rfl) ?_
      by_cases c33 : (a 104 ((w2 + v9).toNatClampNeg)) = (a 101 ((w2 + v9).toNatClampNeg))
      · have e := (if_pos c33).symm.trans e
        refine ex_pc (if_pos c33) ?_
        exact le_E (l1 := [(0, .ref 97), (1, .int w1), (2, .int w2), (6, .int w6), (7, .int w7), (8, .int w8), (9, .int v9)]) ⟨rfl, rfl, rfl, rfl, rfl, rfl, rfl, trivial⟩ rfl (tj152_209 k0 ih  hS e)
      · have e := (if_neg c33).symm.trans e
        refine ex_pc (if_neg c33) ?_
        refine ex_s (am_nb (m := 3) (pc1 := 182) (ls1 := [(0, .ref 97), (1, .int w1), (2, .int w2), (6, .int w6), (7, .int w7), (8, .int w8), (9, .int v9)]) (st1 := [.int v9, .int w1, .ref 97]) (H1 := H) (k1 := 0) (n1 := 0) (by with_unfolding_all rfl)) ?_
        obtain ⟨a37, e36, e⟩ := xb1_some e
        refine ex_cv0 (as := [.int w1, .int v9]) (rest := []) rfl rfl rfl rfl (hS.obj rfl (by decide)) rfl (by with_unfolding_all rfl) (by with_unfolding_all rfl) (tf137_moveTo hS e36) (fun H34 s35 => ?_)
        refine ex_s (am_nb (m := 2) (pc1 := 187) (ls1 := [(0, .ref 97), (1, .int w1), (2, .int w2), (6, .int w6), (7, .int w7), (8, .int w8), (9, .int v9)]) (st1 := [.ref 97, .ref 97]) (H1 := H34) (k1 := 0) (n1 := 0) (by with_unfolding_all rfl)) ?_
        refine xe_get (v := .ref 104) s35 rfl rfl (by decide) rfl ?_
        refine ex_s (am_nb (m := 3) (pc1 := 194) (ls1 := [(0, .ref 97), (1, .int w1), (2, .int w2), (6, .int w6), (7, .int w7), (8, .int w8), (9, .int v9)]) (st1 := [.int (w2 + v9), .ref 104, .ref 97]) (H1 := H34) (k1 := 0) (n1 := 0) (by with_unfolding_all rfl)) ?_
        refine xe_iald s35 rfl rfl g31 ?_
        refine ex_s (am_nb (m := 2) (pc1 := 198) (ls1 := [(0, .ref 97), (1, .int w1), (2, .int w2), (6, .int w6), (7, .int w7), (8, .int w8), (9, .int v9)]) (st1 := [.int ((a37 104 ((w2 + v9).toNatClampNeg)) >>> ((8 : Int32) &&& 31)), .ref 97]) (H1 := H34) (k1 := 0) (n1 := 0) (by with_unfolding_all rfl)) ?_
        obtain ⟨a41, e40, e⟩ := xb1_some e
        refine ex_cv0 (as := [.int ((a37 104 ((w2 + v9).toNatClampNeg)) >>> ((8 : Int32) &&& 31))]) (rest := []) rfl rfl rfl rfl (s35.obj rfl (by decide)) rfl (by with_unfolding_all rfl) (by with_unfolding_all rfl) (tf154_dressAs s35 e40) (fun H38 s39 => ?_)
        refine ex_s (am_nb (m := 4) (pc1 := 206) (ls1 := [(0, .ref 97), (1, .int w1), (2, .int w2), (6, .int w6), (7, .int w7), (8, .int w8), (9, .int v9)]) (st1 := [.int (w2 + v9), .ref 97]) (H1 := H38) (k1 := 0) (n1 := 0) (by with_unfolding_all rfl)) ?_
        obtain ⟨a45, e44, e⟩ := xb1_some e
        refine ex_cv0 (as := [.int (w2 + v9)]) (rest := []) rfl rfl rfl rfl (s39.obj rfl (by decide)) rfl (by with_unfolding_all rfl) (by with_unfolding_all rfl) (tf155_paintCell s39 e44) (fun H42 s43 => ?_)
        exact le_E (l1 := [(0, .ref 97), (1, .int w1), (2, .int w2), (6, .int w6), (7, .int w7), (8, .int w8), (9, .int v9)]) ⟨rfl, rfl, rfl, rfl, rfl, rfl, rfl, trivial⟩ rfl (tj152_209 k0 ih  s43 e)

set_option maxRecDepth 100000 in
theorem tj152_126 {sL : Nat} {sx : Nat → Int32} {h b N : Nat} {T : List am_C} {a' : xA} {q1 : Int32} {q2 : Int32} {q3 : Int32} {q4 : Int32} {q6 : Int32} {t0 : Int32} {a : xA} {H : am_H} (hS : xS h b T a H) (e : j152_126 N h b q1 q2 q3 q4 q6 t0 a = some a') : am_E sL sx am_cs 152 126 [(0, .ref 97), (1, .int q1), (2, .int q2), (3, .int q3), (4, .int q4), (6, .int q6)] [.int t0] H none (fun H1 => xS h b T a' H1) := by
  unfold j152_126 at e
  refine ex_s (am_nb (m := 2) (pc1 := 130) (ls1 := [(7, .int t0), (0, .ref 97), (1, .int q1), (2, .int q2), (3, .int q3), (4, .int q4), (6, .int q6)]) (st1 := [.int t0]) (H1 := H) (k1 := 0) (n1 := 0) (by with_unfolding_all rfl)) ?_
  have kk : am_E sL sx am_cs 152 142 [(7, .int t0), (0, .ref 97), (1, .int q1), (2, .int q2), (3, .int q3), (4, .int q4), (6, .int q6)] [.int (if t0 = 0 then (q4 + 1) else (q6))] H none (fun H1 => xS h b T a' H1) := by
    refine ex_s (am_nb (m := 3) (pc1 := 147) (ls1 := [(9, .int q3), (8, .int (if t0 = 0 then (q4 + 1) else (q6))), (7, .int t0), (0, .ref 97), (1, .int q1), (2, .int q2), (3, .int q3), (4, .int q4), (6, .int q6)]) (st1 := []) (H1 := H) (k1 := 0) (n1 := 0) (by with_unfolding_all rfl)) ?_
    obtain ⟨z46, e47, e⟩ := Option.bind_eq_some_iff.mp e
    refine le_E (l1 := [(0, .ref 97), (1, .int q1), (2, .int q2), (6, .int q6), (7, .int t0), (8, .int (if t0 = 0 then (q4 + 1) else (q6))), (9, .int q3)]) ⟨rfl, rfl, rfl, rfl, rfl, rfl, rfl, trivial⟩ rfl (tl152_147 (z := z46)  (fun uz46_0 Hz460 sz460 => ?_) N q3 a H hS e47)
    refine ex_s (am_nb (m := 1) (pc1 := 217) (ls1 := [(0, .ref 97), (1, .int q1), (2, .int q2), (6, .int q6), (7, .int t0)]) (st1 := [.int t0]) (H1 := Hz460) (k1 := 0) (n1 := 0) (by with_unfolding_all rfl)) ?_
    refine ex_s (st_if rfl) ?_
    by_cases c49 : t0 = 0
    · have e := (if_pos c49).symm.trans e
      refine ex_pc (if_pos c49) ?_
      cases e
      exact ex_r (st_vret rfl rfl) sz460
    · have e := (if_neg c49).symm.trans e
      refine ex_pc (if_neg c49) ?_
      refine ex_s (am_nb (m := 3) (pc1 := 224) (ls1 := [(0, .ref 97), (1, .int q1), (2, .int q2), (6, .int q6), (7, .int t0)]) (st1 := [.int q6, .int q1, .ref 97]) (H1 := Hz460) (k1 := 0) (n1 := 0) (by with_unfolding_all rfl)) ?_
      obtain ⟨a53, e52, e⟩ := xb1_some e
      refine ex_cv0 (as := [.int q1, .int q6]) (rest := []) rfl rfl rfl rfl (sz460.obj rfl (by decide)) rfl (by with_unfolding_all rfl) (by with_unfolding_all rfl) (tf137_moveTo sz460 e52) (fun H50 s51 => ?_)
      refine ex_s (am_nb (m := 2) (pc1 := 229) (ls1 := [(0, .ref 97), (1, .int q1), (2, .int q2), (6, .int q6), (7, .int t0)]) (st1 := [.int 0, .ref 97]) (H1 := H50) (k1 := 0) (n1 := 0) (by with_unfolding_all rfl)) ?_
      obtain ⟨a57, e56, e⟩ := xb1_some e
      refine ex_cv0 (as := [.int 0]) (rest := []) rfl rfl rfl rfl (s51.obj rfl (by decide)) rfl (by with_unfolding_all rfl) (by with_unfolding_all rfl) (tf154_dressAs s51 e56) (fun H54 s55 => ?_)
      refine ex_s (am_nb (m := 5) (pc1 := 238) (ls1 := [(0, .ref 97), (1, .int q1), (2, .int q2), (6, .int q6), (7, .int t0)]) (st1 := [.int 0, .int 0, .int 1, .int 24, .ref 97]) (H1 := H54) (k1 := 0) (n1 := 0) (by with_unfolding_all rfl)) ?_
      obtain ⟨a61, e60, e⟩ := xb1_some e
      refine ex_cv0 (as := [.int 24, .int 1, .int 0, .int 0]) (rest := []) rfl rfl rfl rfl (s55.obj rfl (by decide)) rfl (by with_unfolding_all rfl) (by with_unfolding_all rfl) (tf130_send s55 e60) (fun H58 s59 => ?_)
      refine ex_s (am_nb (m := 1) (pc1 := 242) (ls1 := [(0, .ref 97), (1, .int q1), (2, .int q2), (6, .int q6), (7, .int t0)]) (st1 := [.ref 97]) (H1 := H58) (k1 := 0) (n1 := 0) (by with_unfolding_all rfl)) ?_
      refine xe_get (v := .ref 100) s59 rfl rfl (by decide) rfl ?_
      refine xe_get (v := .ref 101) s59 rfl rfl (by decide) rfl ?_
      refine ex_s (am_nb (m := 5) (pc1 := 254) (ls1 := [(0, .ref 97), (1, .int q1), (2, .int q2), (6, .int q6), (7, .int t0)]) (st1 := [.ref 97, .int q2, .int (q2 + q6), .ref 101]) (H1 := H58) (k1 := 0) (n1 := 0) (by with_unfolding_all rfl)) ?_
      refine xe_get (v := .int (a61 97 9)) s59 rfl rfl (by decide) rfl ?_
      refine ex_s (am_nb (m := 2) (pc1 := 260) (ls1 := [(0, .ref 97), (1, .int q1), (2, .int q2), (6, .int q6), (7, .int t0)]) (st1 := [.int 32, .int (q2 + (a61 97 9)), .int (q2 + q6), .ref 101]) (H1 := H58) (k1 := 0) (n1 := 0) (by with_unfolding_all rfl)) ?_
      obtain ⟨a65, e64, e⟩ := xb1_some e
      refine ex_cs0 (as := [.ref 101, .int (q2 + q6), .int (q2 + (a61 97 9)), .int 32]) (rest := []) rfl (by decide) rfl rfl (by with_unfolding_all rfl) (by with_unfolding_all rfl) (tf14_fill s59 e64) (fun H62 s63 => ?_)
      cases e
      exact ex_r (st_vret rfl rfl) s63
  refine ex_s (st_if rfl) ?_
  by_cases c29 : t0 = 0
  · refine ex_pc (if_pos c29) ?_
    refine ex_s (am_nb (m := 3) (pc1 := 142) (ls1 := [(7, .int t0), (0, .ref 97), (1, .int q1), (2, .int q2), (3, .int q3), (4, .int q4), (6, .int q6)]) (st1 := [.int (q4 + 1)]) (H1 := H) (k1 := 0) (n1 := 0) (by with_unfolding_all rfl)) ?_
    rw [if_pos c29] at kk
    exact kk
  · refine ex_pc (if_neg c29) ?_
    refine ex_s (am_nb (m := 2) (pc1 := 142) (ls1 := [(7, .int t0), (0, .ref 97), (1, .int q1), (2, .int q2), (3, .int q3), (4, .int q4), (6, .int q6)]) (st1 := [.int q6]) (H1 := H) (k1 := 0) (n1 := 0) (by with_unfolding_all rfl)) ?_
    rw [if_neg c29] at kk
    exact kk

set_option maxRecDepth 100000 in
theorem tj152_125 {sL : Nat} {sx : Nat → Int32} {h b N : Nat} {T : List am_C} {a' : xA} {q1 : Int32} {q2 : Int32} {q3 : Int32} {q4 : Int32} {q6 : Int32} {a : xA} {H : am_H} (hS : xS h b T a H) (e : j152_125 N h b q1 q2 q3 q4 q6 a = some a') : am_E sL sx am_cs 152 125 [(0, .ref 97), (1, .int q1), (2, .int q2), (3, .int q3), (4, .int q4), (6, .int q6)] [] H none (fun H1 => xS h b T a' H1) := by
  unfold j152_125 at e
  refine ex_s (am_nb (m := 1) (pc1 := 126) (ls1 := [(0, .ref 97), (1, .int q1), (2, .int q2), (3, .int q3), (4, .int q4), (6, .int q6)]) (st1 := [.int 0]) (H1 := H) (k1 := 0) (n1 := 0) (by with_unfolding_all rfl)) ?_
  exact le_E (l1 := [(0, .ref 97), (1, .int q1), (2, .int q2), (3, .int q3), (4, .int q4), (6, .int q6)]) ⟨rfl, rfl, rfl, rfl, rfl, rfl, trivial⟩ rfl (tj152_126  hS e)

set_option maxRecDepth 100000 in
theorem tf152_paintRow {sL : Nat} {sx : Nat → Int32} {h b N : Nat} {T : List am_C} {a' : xA} {x0 : Int32} {a : xA} {H : am_H} (hS : xS h b T a H) (e : f152_paintRow N h b x0 a = some a') : am_E sL sx am_cs 152 0 [(0, .ref 97), (1, .int x0)] [] H none (fun H1 => xS h b T a' H1) := by
  unfold f152_paintRow at e
  refine ex_s (am_nb (m := 2) (pc1 := 2) (ls1 := [(0, .ref 97), (1, .int x0)]) (st1 := [.ref 97, .int x0]) (H1 := H) (k1 := 0) (n1 := 0) (by with_unfolding_all rfl)) ?_
  refine xe_get (v := .int (a 97 9)) hS rfl rfl (by decide) rfl ?_
  refine ex_s (am_nb (m := 8) (pc1 := 14) (ls1 := [(4, .int (-1)), (3, .int (-1)), (2, .int (x0 * (a 97 9))), (0, .ref 97), (1, .int x0)]) (st1 := [.int x0, .ref 97]) (H1 := H) (k1 := 0) (n1 := 0) (by with_unfolding_all rfl)) ?_
  obtain ⟨r4, a5, e3, e⟩ := xb2_some e
  refine ex_cv1 (as := [.int x0]) (rest := []) rfl rfl rfl rfl (hS.obj rfl (by decide)) rfl (by with_unfolding_all rfl) (by with_unfolding_all rfl) (tf136_paintable hS e3) (fun H1 s2 => ?_)
  refine ex_s (am_nb (m := 3) (pc1 := 22) (ls1 := [(6, .int 0), (5, .int r4), (4, .int (-1)), (3, .int (-1)), (2, .int (x0 * (a 97 9))), (0, .ref 97), (1, .int x0)]) (st1 := []) (H1 := H1) (k1 := 0) (n1 := 0) (by with_unfolding_all rfl)) ?_
  obtain ⟨z12, e13, e⟩ := Option.bind_eq_some_iff.mp e
  refine le_E (l1 := [(0, .ref 97), (1, .int x0), (2, .int (x0 * (a 97 9))), (3, .int (-1)), (4, .int (-1)), (5, .int r4), (6, .int 0)]) ⟨rfl, rfl, rfl, rfl, rfl, rfl, rfl, trivial⟩ rfl (tl152_22 (z := z12)  (fun uz12_0 Hz120 sz120 => ?_) N (-1) (-1) 0 a5 H1 s2 e13)
  refine ex_s (am_nb (m := 2) (pc1 := 77) (ls1 := [(0, .ref 97), (1, .int x0), (2, .int (x0 * (a 97 9))), (3, .int z12.2.1), (4, .int z12.2.2.1)]) (st1 := [.int (-1), .int z12.2.1]) (H1 := Hz120) (k1 := 0) (n1 := 0) (by with_unfolding_all rfl)) ?_
  refine ex_s (st_icmp rfl) ?_
  by_cases c14 : z12.2.1 = (-1)
  · have e := (if_pos c14).symm.trans e
    refine ex_pc (if_pos c14) ?_
    cases e
    exact ex_r (st_vret rfl rfl) sz120
  · have e := (if_neg c14).symm.trans e
    refine ex_pc (if_neg c14) ?_
    refine ex_s (am_nb (m := 3) (pc1 := 84) (ls1 := [(0, .ref 97), (1, .int x0), (2, .int (x0 * (a 97 9))), (3, .int z12.2.1), (4, .int z12.2.2.1)]) (st1 := [.int (x0 * (a 97 9)), .ref 97, .int z12.2.1]) (H1 := Hz120) (k1 := 0) (n1 := 0) (by with_unfolding_all rfl)) ?_
    obtain ⟨r18, a19, e17, e⟩ := xb2_some e
    refine ex_cv1 (as := [.int (x0 * (a 97 9))]) (rest := [.int z12.2.1]) rfl rfl rfl rfl (sz120.obj rfl (by decide)) rfl (by with_unfolding_all rfl) (by with_unfolding_all rfl) (tf153_behindLastSign sz120 e17) (fun H15 s16 => ?_)
    refine ex_s (am_nb (m := 3) (pc1 := 93) (ls1 := [(6, .int (xmax z12.2.1 r18)), (0, .ref 97), (1, .int x0), (2, .int (x0 * (a 97 9))), (3, .int z12.2.1), (4, .int z12.2.2.1)]) (st1 := [.ref 97]) (H1 := H15) (k1 := 0) (n1 := 0) (by with_unfolding_all rfl)) ?_
    refine xe_get (v := xN (a19 97 6)) s16 rfl rfl (by decide) rfl ?_
    refine ex_s (am_nb (m := 1) (pc1 := 98) (ls1 := [(6, .int (xmax z12.2.1 r18)), (0, .ref 97), (1, .int x0), (2, .int (x0 * (a 97 9))), (3, .int z12.2.1), (4, .int z12.2.2.1)]) (st1 := [.int 24, xN (a19 97 6)]) (H1 := H15) (k1 := 0) (n1 := 0) (by first | with_unfolding_all rfl | (unfold xN; (repeat' split) <;> with_unfolding_all rfl))) ?_
    obtain ⟨g20, e⟩ := xg_some e
    rw [show xN (a19 97 6) = .ref ((a19 97 6).toNatClampNeg) from if_neg g20]
    obtain ⟨g21, e⟩ := xg_some e
    obtain ⟨r25, a26, e24, e⟩ := xb2_some e
    refine ex_cv1 (as := [.int 24]) (rest := []) rfl rfl rfl rfl (s16.obj g21 (by decide)) rfl (by with_unfolding_all rfl) (by with_unfolding_all rfl) (tf74_has s16 e24) (fun H22 s23 => ?_)
    refine ex_s (st_if rfl) ?_
    by_cases c28 : r25 = 0
    · have e := (if_pos c28).symm.trans e
      refine ex_pc (if_pos c28) ?_
      exact le_E (l1 := [(0, .ref 97), (1, .int x0), (2, .int (x0 * (a 97 9))), (3, .int z12.2.1), (4, .int z12.2.2.1), (6, .int (xmax z12.2.1 r18))]) ⟨rfl, rfl, rfl, rfl, rfl, rfl, trivial⟩ rfl (tj152_125  s23 e)
    · have e := (if_neg c28).symm.trans e
      refine ex_pc (if_neg c28) ?_
      refine ex_s (am_nb (m := 6) (pc1 := 112) (ls1 := [(6, .int (xmax z12.2.1 r18)), (0, .ref 97), (1, .int x0), (2, .int (x0 * (a 97 9))), (3, .int z12.2.1), (4, .int z12.2.2.1)]) (st1 := [.ref 97, .int ((z12.2.2.1 + 1) - (xmax z12.2.1 r18))]) (H1 := H22) (k1 := 0) (n1 := 0) (by with_unfolding_all rfl)) ?_
      refine xe_get (v := .ref 106) s23 rfl rfl (by decide) rfl ?_
      refine ex_s (am_nb (m := 1) (pc1 := 117) (ls1 := [(6, .int (xmax z12.2.1 r18)), (0, .ref 97), (1, .int x0), (2, .int (x0 * (a 97 9))), (3, .int z12.2.1), (4, .int z12.2.2.1)]) (st1 := [.int 24, .ref 106, .int ((z12.2.2.1 + 1) - (xmax z12.2.1 r18))]) (H1 := H22) (k1 := 0) (n1 := 0) (by with_unfolding_all rfl)) ?_
      refine xe_ialdc (v := a26 106 24) s23 rfl rfl (show ¬ ((24 : Int32) < 0 ∨ 39 ≤ ((24 : Int32)).toNatClampNeg) by decide) rfl ?_
      have kk : am_E sL sx am_cs 152 126 [(6, .int (xmax z12.2.1 r18)), (0, .ref 97), (1, .int x0), (2, .int (x0 * (a 97 9))), (3, .int z12.2.1), (4, .int z12.2.2.1)] [.int (if ((z12.2.2.1 + 1) - (xmax z12.2.1 r18)) ≤ (a26 106 24) then (0 : Int32) else (1 : Int32))] H22 none (fun H1 => xS h b T a' H1) := by
        refine ex_s (am_nb (m := 2) (pc1 := 130) (ls1 := [(7, .int (if ((z12.2.2.1 + 1) - (xmax z12.2.1 r18)) ≤ (a26 106 24) then (0 : Int32) else (1 : Int32))), (6, .int (xmax z12.2.1 r18)), (0, .ref 97), (1, .int x0), (2, .int (x0 * (a 97 9))), (3, .int z12.2.1), (4, .int z12.2.2.1)]) (st1 := [.int (if ((z12.2.2.1 + 1) - (xmax z12.2.1 r18)) ≤ (a26 106 24) then (0 : Int32) else (1 : Int32))]) (H1 := H22) (k1 := 0) (n1 := 0) (by with_unfolding_all rfl)) ?_
        have kk : am_E sL sx am_cs 152 142 [(7, .int (if ((z12.2.2.1 + 1) - (xmax z12.2.1 r18)) ≤ (a26 106 24) then (0 : Int32) else (1 : Int32))), (6, .int (xmax z12.2.1 r18)), (0, .ref 97), (1, .int x0), (2, .int (x0 * (a 97 9))), (3, .int z12.2.1), (4, .int z12.2.2.1)] [.int (if (if ((z12.2.2.1 + 1) - (xmax z12.2.1 r18)) ≤ (a26 106 24) then (0 : Int32) else (1 : Int32)) = 0 then (z12.2.2.1 + 1) else (xmax z12.2.1 r18))] H22 none (fun H1 => xS h b T a' H1) := by
          refine ex_s (am_nb (m := 3) (pc1 := 147) (ls1 := [(9, .int z12.2.1), (8, .int (if (if ((z12.2.2.1 + 1) - (xmax z12.2.1 r18)) ≤ (a26 106 24) then (0 : Int32) else (1 : Int32)) = 0 then (z12.2.2.1 + 1) else (xmax z12.2.1 r18))), (7, .int (if ((z12.2.2.1 + 1) - (xmax z12.2.1 r18)) ≤ (a26 106 24) then (0 : Int32) else (1 : Int32))), (6, .int (xmax z12.2.1 r18)), (0, .ref 97), (1, .int x0), (2, .int (x0 * (a 97 9))), (3, .int z12.2.1), (4, .int z12.2.2.1)]) (st1 := []) (H1 := H22) (k1 := 0) (n1 := 0) (by with_unfolding_all rfl)) ?_
          obtain ⟨z68, e69, e⟩ := Option.bind_eq_some_iff.mp e
          refine le_E (l1 := [(0, .ref 97), (1, .int x0), (2, .int (x0 * (a 97 9))), (6, .int (xmax z12.2.1 r18)), (7, .int (if ((z12.2.2.1 + 1) - (xmax z12.2.1 r18)) ≤ (a26 106 24) then (0 : Int32) else (1 : Int32))), (8, .int (if (if ((z12.2.2.1 + 1) - (xmax z12.2.1 r18)) ≤ (a26 106 24) then (0 : Int32) else (1 : Int32)) = 0 then (z12.2.2.1 + 1) else (xmax z12.2.1 r18))), (9, .int z12.2.1)]) ⟨rfl, rfl, rfl, rfl, rfl, rfl, rfl, trivial⟩ rfl (tl152_147 (z := z68)  (fun uz68_0 Hz680 sz680 => ?_) N z12.2.1 a26 H22 s23 e69)
          refine ex_s (am_nb (m := 1) (pc1 := 217) (ls1 := [(0, .ref 97), (1, .int x0), (2, .int (x0 * (a 97 9))), (6, .int (xmax z12.2.1 r18)), (7, .int (if ((z12.2.2.1 + 1) - (xmax z12.2.1 r18)) ≤ (a26 106 24) then (0 : Int32) else (1 : Int32)))]) (st1 := [.int (if ((z12.2.2.1 + 1) - (xmax z12.2.1 r18)) ≤ (a26 106 24) then (0 : Int32) else (1 : Int32))]) (H1 := Hz680) (k1 := 0) (n1 := 0) (by with_unfolding_all rfl)) ?_
          refine ex_s (st_if rfl) ?_
          by_cases c71 : (if ((z12.2.2.1 + 1) - (xmax z12.2.1 r18)) ≤ (a26 106 24) then (0 : Int32) else (1 : Int32)) = 0
          · have e := (if_pos c71).symm.trans e
            refine ex_pc (if_pos c71) ?_
            cases e
            exact ex_r (st_vret rfl rfl) sz680
          · have e := (if_neg c71).symm.trans e
            refine ex_pc (if_neg c71) ?_
            refine ex_s (am_nb (m := 3) (pc1 := 224) (ls1 := [(0, .ref 97), (1, .int x0), (2, .int (x0 * (a 97 9))), (6, .int (xmax z12.2.1 r18)), (7, .int (if ((z12.2.2.1 + 1) - (xmax z12.2.1 r18)) ≤ (a26 106 24) then (0 : Int32) else (1 : Int32)))]) (st1 := [.int (xmax z12.2.1 r18), .int x0, .ref 97]) (H1 := Hz680) (k1 := 0) (n1 := 0) (by with_unfolding_all rfl)) ?_
            obtain ⟨a75, e74, e⟩ := xb1_some e
            refine ex_cv0 (as := [.int x0, .int (xmax z12.2.1 r18)]) (rest := []) rfl rfl rfl rfl (sz680.obj rfl (by decide)) rfl (by with_unfolding_all rfl) (by with_unfolding_all rfl) (tf137_moveTo sz680 e74) (fun H72 s73 => ?_)
            refine ex_s (am_nb (m := 2) (pc1 := 229) (ls1 := [(0, .ref 97), (1, .int x0), (2, .int (x0 * (a 97 9))), (6, .int (xmax z12.2.1 r18)), (7, .int (if ((z12.2.2.1 + 1) - (xmax z12.2.1 r18)) ≤ (a26 106 24) then (0 : Int32) else (1 : Int32)))]) (st1 := [.int 0, .ref 97]) (H1 := H72) (k1 := 0) (n1 := 0) (by with_unfolding_all rfl)) ?_
            obtain ⟨a79, e78, e⟩ := xb1_some e
            refine ex_cv0 (as := [.int 0]) (rest := []) rfl rfl rfl rfl (s73.obj rfl (by decide)) rfl (by with_unfolding_all rfl) (by with_unfolding_all rfl) (tf154_dressAs s73 e78) (fun H76 s77 => ?_)
            refine ex_s (am_nb (m := 5) (pc1 := 238) (ls1 := [(0, .ref 97), (1, .int x0), (2, .int (x0 * (a 97 9))), (6, .int (xmax z12.2.1 r18)), (7, .int (if ((z12.2.2.1 + 1) - (xmax z12.2.1 r18)) ≤ (a26 106 24) then (0 : Int32) else (1 : Int32)))]) (st1 := [.int 0, .int 0, .int 1, .int 24, .ref 97]) (H1 := H76) (k1 := 0) (n1 := 0) (by with_unfolding_all rfl)) ?_
            obtain ⟨a83, e82, e⟩ := xb1_some e
            refine ex_cv0 (as := [.int 24, .int 1, .int 0, .int 0]) (rest := []) rfl rfl rfl rfl (s77.obj rfl (by decide)) rfl (by with_unfolding_all rfl) (by with_unfolding_all rfl) (tf130_send s77 e82) (fun H80 s81 => ?_)
            refine ex_s (am_nb (m := 1) (pc1 := 242) (ls1 := [(0, .ref 97), (1, .int x0), (2, .int (x0 * (a 97 9))), (6, .int (xmax z12.2.1 r18)), (7, .int (if ((z12.2.2.1 + 1) - (xmax z12.2.1 r18)) ≤ (a26 106 24) then (0 : Int32) else (1 : Int32)))]) (st1 := [.ref 97]) (H1 := H80) (k1 := 0) (n1 := 0) (by with_unfolding_all rfl)) ?_
            refine xe_get (v := .ref 100) s81 rfl rfl (by decide) rfl ?_
            refine xe_get (v := .ref 101) s81 rfl rfl (by decide) rfl ?_
            refine ex_s (am_nb (m := 5) (pc1 := 254) (ls1 := [(0, .ref 97), (1, .int x0), (2, .int (x0 * (a 97 9))), (6, .int (xmax z12.2.1 r18)), (7, .int (if ((z12.2.2.1 + 1) - (xmax z12.2.1 r18)) ≤ (a26 106 24) then (0 : Int32) else (1 : Int32)))]) (st1 := [.ref 97, .int (x0 * (a 97 9)), .int ((x0 * (a 97 9)) + (xmax z12.2.1 r18)), .ref 101]) (H1 := H80) (k1 := 0) (n1 := 0) (by with_unfolding_all rfl)) ?_
            refine xe_get (v := .int (a83 97 9)) s81 rfl rfl (by decide) rfl ?_
            refine ex_s (am_nb (m := 2) (pc1 := 260) (ls1 := [(0, .ref 97), (1, .int x0), (2, .int (x0 * (a 97 9))), (6, .int (xmax z12.2.1 r18)), (7, .int (if ((z12.2.2.1 + 1) - (xmax z12.2.1 r18)) ≤ (a26 106 24) then (0 : Int32) else (1 : Int32)))]) (st1 := [.int 32, .int ((x0 * (a 97 9)) + (a83 97 9)), .int ((x0 * (a 97 9)) + (xmax z12.2.1 r18)), .ref 101]) (H1 := H80) (k1 := 0) (n1 := 0) (by with_unfolding_all rfl)) ?_
            obtain ⟨a87, e86, e⟩ := xb1_some e
            refine ex_cs0 (as := [.ref 101, .int ((x0 * (a 97 9)) + (xmax z12.2.1 r18)), .int ((x0 * (a 97 9)) + (a83 97 9)), .int 32]) (rest := []) rfl (by decide) rfl rfl (by with_unfolding_all rfl) (by with_unfolding_all rfl) (tf14_fill s81 e86) (fun H84 s85 => ?_)
            cases e
            exact ex_r (st_vret rfl rfl) s85
        refine ex_s (st_if rfl) ?_
        by_cases c67 : (if ((z12.2.2.1 + 1) - (xmax z12.2.1 r18)) ≤ (a26 106 24) then (0 : Int32) else (1 : Int32)) = 0
        · refine ex_pc (if_pos c67) ?_
          refine ex_s (am_nb (m := 3) (pc1 := 142) (ls1 := [(7, .int (if ((z12.2.2.1 + 1) - (xmax z12.2.1 r18)) ≤ (a26 106 24) then (0 : Int32) else (1 : Int32))), (6, .int (xmax z12.2.1 r18)), (0, .ref 97), (1, .int x0), (2, .int (x0 * (a 97 9))), (3, .int z12.2.1), (4, .int z12.2.2.1)]) (st1 := [.int (z12.2.2.1 + 1)]) (H1 := H22) (k1 := 0) (n1 := 0) (by with_unfolding_all rfl)) ?_
          rw [if_pos c67] at kk
          exact kk
        · refine ex_pc (if_neg c67) ?_
          refine ex_s (am_nb (m := 2) (pc1 := 142) (ls1 := [(7, .int (if ((z12.2.2.1 + 1) - (xmax z12.2.1 r18)) ≤ (a26 106 24) then (0 : Int32) else (1 : Int32))), (6, .int (xmax z12.2.1 r18)), (0, .ref 97), (1, .int x0), (2, .int (x0 * (a 97 9))), (3, .int z12.2.1), (4, .int z12.2.2.1)]) (st1 := [.int (xmax z12.2.1 r18)]) (H1 := H22) (k1 := 0) (n1 := 0) (by with_unfolding_all rfl)) ?_
          rw [if_neg c67] at kk
          exact kk
      refine ex_s (st_icmp rfl) ?_
      by_cases c66 : ((z12.2.2.1 + 1) - (xmax z12.2.1 r18)) ≤ (a26 106 24)
      · refine ex_pc (if_pos c66) ?_
        refine ex_s (am_nb (m := 1) (pc1 := 126) (ls1 := [(6, .int (xmax z12.2.1 r18)), (0, .ref 97), (1, .int x0), (2, .int (x0 * (a 97 9))), (3, .int z12.2.1), (4, .int z12.2.2.1)]) (st1 := [.int 0]) (H1 := H22) (k1 := 0) (n1 := 0) (by with_unfolding_all rfl)) ?_
        rw [if_pos c66] at kk
        exact kk
      · refine ex_pc (if_neg c66) ?_
        refine ex_s (am_nb (m := 2) (pc1 := 126) (ls1 := [(6, .int (xmax z12.2.1 r18)), (0, .ref 97), (1, .int x0), (2, .int (x0 * (a 97 9))), (3, .int z12.2.1), (4, .int z12.2.2.1)]) (st1 := [.int 1]) (H1 := H22) (k1 := 0) (n1 := 0) (by with_unfolding_all rfl)) ?_
        rw [if_neg c66] at kk
        exact kk

set_option maxRecDepth 100000 in
theorem tl127_64 {sL : Nat} {sx : Nat → Int32} {h b N : Nat} {T : List am_C} {R : Option Value} {F : am_H → Prop} {w1 : Int32} {w2 : Int32} {w3 : Int32} {z : Nat × xA} (k0 : z.1 = 0 → ∀ H2 : am_H, xS h b T z.2 H2 → am_E sL sx am_cs 127 85 [(0, .ref 97), (1, .int w1), (2, .int w2), (3, .int w3)] [] H2 R F) : ∀ (n : Nat) (v4 : Int32) (a : xA) (H : am_H), xS h b T a H → l127_64 N h b w1 w2 w3 n v4 a = some z → am_E sL sx am_cs 127 64 [(0, .ref 97), (1, .int w1), (2, .int w2), (3, .int w3), (4, .int v4)] [] H R F := by
  intro n
  induction n with
  | zero =>
    intro v4 a H hS e
    cases e
  | succ n ih =>
    intro v4 a H hS e
    unfold l127_64 at e
    refine ex_s (am_nb (m := 2) (pc1 := 67) (ls1 := [(0, .ref 97), (1, .int w1), (2, .int w2), (3, .int w3), (4, .int v4)]) (st1 := [.ref 97, .int v4]) (H1 := H) (k1 := 0) (n1 := 0) (by with_unfolding_all rfl)) ?_
    refine xe_get (v := .int (a 97 8)) hS rfl rfl (by decide) rfl ?_
    refine ex_s (st_icmp rfl) ?_
    by_cases c20 : (a 97 8) ≤ v4
    · have e := (if_pos c20).symm.trans e
      refine ex_pc (if_pos c20) ?_
      cases e
      exact le_E (l1 := [(0, .ref 97), (1, .int w1), (2, .int w2), (3, .int w3)]) ⟨rfl, rfl, rfl, rfl, trivial⟩ rfl (k0 rfl H hS)
    · have e := (if_neg c20).symm.trans e
      refine ex_pc (if_neg c20) ?_
      refine ex_s (am_nb (m := 2) (pc1 := 76) (ls1 := [(0, .ref 97), (1, .int w1), (2, .int w2), (3, .int w3), (4, .int v4)]) (st1 := [.int v4, .ref 97]) (H1 := H) (k1 := 0) (n1 := 0) (by with_unfolding_all rfl)) ?_
      obtain ⟨a24, e23, e⟩ := xb1_some e
      refine ex_cv0 (as := [.int v4]) (rest := []) rfl rfl rfl rfl (hS.obj rfl (by decide)) rfl (by with_unfolding_all rfl) (by with_unfolding_all rfl) (tf152_paintRow hS e23) (fun H21 s22 => ?_)
      refine ex_s (am_nb (m := 2) (pc1 := 64) (ls1 := [(4, .int (v4 + 1)), (0, .ref 97), (1, .int w1), (2, .int w2), (3, .int w3)]) (st1 := []) (H1 := H21) (k1 := 0) (n1 := 0) (by with_unfolding_all rfl)) ?_
      exact le_E (l1 := [(0, .ref 97), (1, .int w1), (2, .int w2), (3, .int w3), (4, .int (v4 + 1))]) ⟨rfl, rfl, rfl, rfl, rfl, trivial⟩ rfl (ih (v4 + 1) a24 H21 s22 e)

set_option maxRecDepth 100000 in
theorem tj127_126 {sL : Nat} {sx : Nat → Int32} {h b N : Nat} {T : List am_C} {r : Int32} {a' : xA} {q2 : Int32} {q3 : Int32} {a : xA} {H : am_H} (hS : xS h b T a H) (e : j127_126 N h b q2 q3 a = some (r, a')) : am_E sL sx am_cs 127 126 [(0, .ref 97), (2, .int q2), (3, .int q3)] [] H (some (.int r)) (fun H1 => xS h b T a' H1) := by
  unfold j127_126 at e
  refine ex_s (am_nb (m := 1) (pc1 := 127) (ls1 := [(0, .ref 97), (2, .int q2), (3, .int q3)]) (st1 := [.ref 97]) (H1 := H) (k1 := 0) (n1 := 0) (by with_unfolding_all rfl)) ?_
  refine xe_get (v := .ref 100) hS rfl rfl (by decide) rfl ?_
  refine ex_s (am_nb (m := 1) (pc1 := 131) (ls1 := [(0, .ref 97), (2, .int q2), (3, .int q3)]) (st1 := [.ref 97, .ref 100]) (H1 := H) (k1 := 0) (n1 := 0) (by with_unfolding_all rfl)) ?_
  refine xe_get (v := .ref 102) hS rfl rfl (by decide) rfl ?_
  obtain ⟨a41, e40, e⟩ := xb1_some e
  refine ex_cv0 (as := [.ref 102]) (rest := []) rfl rfl rfl rfl (hS.obj rfl (by decide)) rfl (by with_unfolding_all rfl) (by with_unfolding_all rfl) (tf128_become hS e40) (fun H38 s39 => ?_)
  refine ex_s (am_nb (m := 2) (pc1 := 139) (ls1 := [(0, .ref 97), (2, .int q2), (3, .int q3)]) (st1 := [.int q2, .ref 97]) (H1 := H38) (k1 := 0) (n1 := 0) (by with_unfolding_all rfl)) ?_
  obtain ⟨g45, e⟩ := xg_some e
  obtain ⟨a42, ha42, e⟩ := xw_some e
  refine xe_put (w := q2) s39 rfl rfl (by decide) rfl rfl (xfit_z g45) rfl (fun H43 s44 => ?_)
  have s44 : xS h b T a42 H43 := by rw [ha42]; exact s44
  refine ex_s (am_nb (m := 2) (pc1 := 144) (ls1 := [(0, .ref 97), (2, .int q2), (3, .int q3)]) (st1 := [.int q3, .ref 97]) (H1 := H43) (k1 := 0) (n1 := 0) (by with_unfolding_all rfl)) ?_
  obtain ⟨g49, e⟩ := xg_some e
  obtain ⟨a46, ha46, e⟩ := xw_some e
  refine xe_put (w := q3) s44 rfl rfl (by decide) rfl rfl (xfit_z g49) rfl (fun H47 s48 => ?_)
  have s48 : xS h b T a46 H47 := by rw [ha46]; exact s48
  refine ex_s (am_nb (m := 1) (pc1 := 148) (ls1 := [(0, .ref 97), (2, .int q2), (3, .int q3)]) (st1 := [.int (-1)]) (H1 := H47) (k1 := 0) (n1 := 0) (by with_unfolding_all rfl)) ?_
  cases e
  exact ex_r (st_iret rfl rfl rfl) s48

set_option maxRecDepth 100000 in
theorem tj127_57 {sL : Nat} {sx : Nat → Int32} {h b N : Nat} {T : List am_C} {r : Int32} {a' : xA} {q1 : Int32} {q2 : Int32} {q3 : Int32} {a : xA} {H : am_H} (hS : xS h b T a H) (e : j127_57 N h b q1 q2 q3 a = some (r, a')) : am_E sL sx am_cs 127 57 [(0, .ref 97), (1, .int q1), (2, .int q2), (3, .int q3)] [] H (some (.int r)) (fun H1 => xS h b T a' H1) := by
  unfold j127_57 at e
  refine ex_s (am_nb (m := 1) (pc1 := 58) (ls1 := [(0, .ref 97), (1, .int q1), (2, .int q2), (3, .int q3)]) (st1 := [.ref 97]) (H1 := H) (k1 := 0) (n1 := 0) (by with_unfolding_all rfl)) ?_
  obtain ⟨a19, e18, e⟩ := xb1_some e
  refine ex_cv0 (as := []) (rest := []) rfl rfl rfl rfl (hS.obj rfl (by decide)) rfl (by with_unfolding_all rfl) (by with_unfolding_all rfl) (tf133_rollUp hS e18) (fun H16 s17 => ?_)
  refine ex_s (am_nb (m := 2) (pc1 := 64) (ls1 := [(4, .int 0), (0, .ref 97), (1, .int q1), (2, .int q2), (3, .int q3)]) (st1 := []) (H1 := H16) (k1 := 0) (n1 := 0) (by with_unfolding_all rfl)) ?_
  obtain ⟨z25, e26, e⟩ := Option.bind_eq_some_iff.mp e
  refine le_E (l1 := [(0, .ref 97), (1, .int q1), (2, .int q2), (3, .int q3), (4, .int 0)]) ⟨rfl, rfl, rfl, rfl, rfl, trivial⟩ rfl (tl127_64 (z := z25)  (fun uz25_0 Hz250 sz250 => ?_) N 0 a19 H16 s17 e26)
  refine ex_s (am_nb (m := 2) (pc1 := 87) (ls1 := [(0, .ref 97), (1, .int q1), (2, .int q2), (3, .int q3)]) (st1 := [.int 0, .ref 97]) (H1 := Hz250) (k1 := 0) (n1 := 0) (by with_unfolding_all rfl)) ?_
  obtain ⟨a30, e29, e⟩ := xb1_some e
  refine ex_cv0 (as := [.int 0]) (rest := []) rfl rfl rfl rfl (sz250.obj rfl (by decide)) rfl (by with_unfolding_all rfl) (by with_unfolding_all rfl) (tf154_dressAs sz250 e29) (fun H27 s28 => ?_)
  refine ex_s (am_nb (m := 2) (pc1 := 92) (ls1 := [(0, .ref 97), (1, .int q1), (2, .int q2), (3, .int q3)]) (st1 := [.ref 97, .ref 97]) (H1 := H27) (k1 := 0) (n1 := 0) (by with_unfolding_all rfl)) ?_
  refine xe_get (v := .ref 98) s28 rfl rfl (by decide) rfl ?_
  refine xe_get (v := .int (a30 98 6)) s28 rfl rfl (by decide) rfl ?_
  refine ex_s (am_nb (m := 1) (pc1 := 99) (ls1 := [(0, .ref 97), (1, .int q1), (2, .int q2), (3, .int q3)]) (st1 := [.ref 97, .int (a30 98 6), .ref 97]) (H1 := H27) (k1 := 0) (n1 := 0) (by with_unfolding_all rfl)) ?_
  refine xe_get (v := .ref 98) s28 rfl rfl (by decide) rfl ?_
  refine xe_get (v := .int (a30 98 7)) s28 rfl rfl (by decide) rfl ?_
  obtain ⟨a34, e33, e⟩ := xb1_some e
  refine ex_cv0 (as := [.int (a30 98 6), .int (a30 98 7)]) (rest := []) rfl rfl rfl rfl (s28.obj rfl (by decide)) rfl (by with_unfolding_all rfl) (by with_unfolding_all rfl) (tf137_moveTo s28 e33) (fun H31 s32 => ?_)
  refine ex_s (am_nb (m := 1) (pc1 := 109) (ls1 := [(0, .ref 97), (1, .int q1), (2, .int q2), (3, .int q3)]) (st1 := [.ref 97]) (H1 := H31) (k1 := 0) (n1 := 0) (by with_unfolding_all rfl)) ?_
  refine xe_get (v := .int (a34 97 5)) s32 rfl rfl (by decide) rfl ?_
  refine ex_s (am_nb (m := 1) (pc1 := 115) (ls1 := [(0, .ref 97), (1, .int q1), (2, .int q2), (3, .int q3)]) (st1 := [.int 6000, .int (a34 97 5)]) (H1 := H31) (k1 := 0) (n1 := 0) (by with_unfolding_all rfl)) ?_
  refine ex_s (st_icmp rfl) ?_
  by_cases c37 : 6000 < (a34 97 5)
  · have e := (if_pos c37).symm.trans e
    refine ex_pc (if_pos c37) ?_
    exact le_E (l1 := [(0, .ref 97), (2, .int q2), (3, .int q3)]) ⟨rfl, rfl, rfl, trivial⟩ rfl (tj127_126  s32 e)
  · have e := (if_neg c37).symm.trans e
    refine ex_pc (if_neg c37) ?_
    refine ex_s (am_nb (m := 1) (pc1 := 119) (ls1 := [(0, .ref 97), (1, .int q1), (2, .int q2), (3, .int q3)]) (st1 := [.ref 97]) (H1 := H31) (k1 := 0) (n1 := 0) (by with_unfolding_all rfl)) ?_
    refine xe_get (v := .int (a34 97 5)) s32 rfl rfl (by decide) rfl ?_
    refine ex_s (am_nb (m := 1) (pc1 := 123) (ls1 := [(0, .ref 97), (1, .int q1), (2, .int q2), (3, .int q3)]) (st1 := [.int q1, .int (a34 97 5)]) (H1 := H31) (k1 := 0) (n1 := 0) (by with_unfolding_all rfl)) ?_
    refine ex_s (st_icmp rfl) ?_
    by_cases c50 : (a34 97 5) ≤ q1
    · have e := (if_pos c50).symm.trans e
      refine ex_pc (if_pos c50) ?_
      refine ex_s (am_nb (m := 2) (pc1 := 151) (ls1 := [(0, .ref 97), (1, .int q1), (2, .int q2), (3, .int q3)]) (st1 := [.int 0, .ref 97]) (H1 := H31) (k1 := 0) (n1 := 0) (by with_unfolding_all rfl)) ?_
      obtain ⟨a51, ha51, e⟩ := xw_some e
      refine xe_put (w := 0) s32 rfl rfl (by decide) rfl rfl rfl rfl (fun H52 s53 => ?_)
      have s53 : xS h b T a51 H52 := by rw [ha51]; exact s53
      refine ex_s (am_nb (m := 1) (pc1 := 155) (ls1 := [(0, .ref 97), (1, .int q1), (2, .int q2), (3, .int q3)]) (st1 := [.ref 97]) (H1 := H52) (k1 := 0) (n1 := 0) (by with_unfolding_all rfl)) ?_
      refine xe_get (v := .int (a51 97 5)) s53 rfl rfl (by decide) rfl ?_
      cases e
      exact ex_r (st_iret rfl rfl rfl) s53
    · have e := (if_neg c50).symm.trans e
      refine ex_pc (if_neg c50) ?_
      exact le_E (l1 := [(0, .ref 97), (2, .int q2), (3, .int q3)]) ⟨rfl, rfl, rfl, trivial⟩ rfl (tj127_126  s32 e)

set_option maxRecDepth 100000 in
theorem tj127_46 {sL : Nat} {sx : Nat → Int32} {h b N : Nat} {T : List am_C} {r : Int32} {a' : xA} {q1 : Int32} {q2 : Int32} {q3 : Int32} {a : xA} {H : am_H} (hS : xS h b T a H) (e : j127_46 N h b q1 q2 q3 a = some (r, a')) : am_E sL sx am_cs 127 46 [(0, .ref 97), (1, .int q1), (2, .int q2), (3, .int q3)] [] H (some (.int r)) (fun H1 => xS h b T a' H1) := by
  unfold j127_46 at e
  refine ex_s (am_nb (m := 1) (pc1 := 47) (ls1 := [(0, .ref 97), (1, .int q1), (2, .int q2), (3, .int q3)]) (st1 := [.ref 97]) (H1 := H) (k1 := 0) (n1 := 0) (by with_unfolding_all rfl)) ?_
  refine xe_get (v := .int (a 97 13)) hS rfl rfl (by decide) rfl ?_
  refine ex_s (st_if rfl) ?_
  by_cases c15 : (a 97 13) = 0
  · have e := (if_pos c15).symm.trans e
    refine ex_pc (if_pos c15) ?_
    exact le_E (l1 := [(0, .ref 97), (1, .int q1), (2, .int q2), (3, .int q3)]) ⟨rfl, rfl, rfl, rfl, trivial⟩ rfl (tj127_57  hS e)
  · have e := (if_neg c15).symm.trans e
    refine ex_pc (if_neg c15) ?_
    refine ex_s (am_nb (m := 1) (pc1 := 54) (ls1 := [(0, .ref 97), (1, .int q1), (2, .int q2), (3, .int q3)]) (st1 := [.ref 97]) (H1 := H) (k1 := 0) (n1 := 0) (by with_unfolding_all rfl)) ?_
    obtain ⟨a57, e56, e⟩ := xb1_some e
    refine ex_cv0 (as := []) (rest := []) rfl rfl rfl rfl (hS.obj rfl (by decide)) rfl (by with_unfolding_all rfl) (by with_unfolding_all rfl) (tf132_startAnew hS e56) (fun H54 s55 => ?_)
    exact le_E (l1 := [(0, .ref 97), (1, .int q1), (2, .int q2), (3, .int q3)]) ⟨rfl, rfl, rfl, rfl, trivial⟩ rfl (tj127_57  s55 e)

set_option maxRecDepth 100000 in
theorem tf127_paint {sL : Nat} {sx : Nat → Int32} {h b N : Nat} {T : List am_C} {r : Int32} {a' : xA} {x0 : Int32} {a : xA} {H : am_H} (hS : xS h b T a H) (e : f127_paint N h b x0 a = some (r, a')) : am_E sL sx am_cs 127 0 [(0, .ref 97), (1, .int x0)] [] H (some (.int r)) (fun H1 => xS h b T a' H1) := by
  unfold f127_paint at e
  refine ex_s (am_nb (m := 1) (pc1 := 1) (ls1 := [(0, .ref 97), (1, .int x0)]) (st1 := [.ref 97]) (H1 := H) (k1 := 0) (n1 := 0) (by with_unfolding_all rfl)) ?_
  refine xe_get (v := .int (a 97 13)) hS rfl rfl (by decide) rfl ?_
  refine ex_s (am_nb (m := 2) (pc1 := 6) (ls1 := [(2, .int (a 97 13)), (0, .ref 97), (1, .int x0)]) (st1 := [.ref 97]) (H1 := H) (k1 := 0) (n1 := 0) (by with_unfolding_all rfl)) ?_
  refine xe_get (v := .int (a 97 14)) hS rfl rfl (by decide) rfl ?_
  refine ex_s (am_nb (m := 2) (pc1 := 11) (ls1 := [(3, .int (a 97 14)), (2, .int (a 97 13)), (0, .ref 97), (1, .int x0)]) (st1 := [.ref 97]) (H1 := H) (k1 := 0) (n1 := 0) (by with_unfolding_all rfl)) ?_
  refine xe_get (v := .ref 102) hS rfl rfl (by decide) rfl ?_
  refine ex_s (am_nb (m := 1) (pc1 := 15) (ls1 := [(3, .int (a 97 14)), (2, .int (a 97 13)), (0, .ref 97), (1, .int x0)]) (st1 := [.ref 97, .ref 102]) (H1 := H) (k1 := 0) (n1 := 0) (by with_unfolding_all rfl)) ?_
  refine xe_get (v := .ref 100) hS rfl rfl (by decide) rfl ?_
  obtain ⟨a4, e3, e⟩ := xb1_some e
  refine ex_cv0 (as := [.ref 100]) (rest := []) rfl rfl rfl rfl (hS.obj rfl (by decide)) rfl (by with_unfolding_all rfl) (by with_unfolding_all rfl) (tf128_become hS e3) (fun H1 s2 => ?_)
  refine ex_s (am_nb (m := 2) (pc1 := 23) (ls1 := [(3, .int (a 97 14)), (2, .int (a 97 13)), (0, .ref 97), (1, .int x0)]) (st1 := [.int 0, .ref 97]) (H1 := H1) (k1 := 0) (n1 := 0) (by with_unfolding_all rfl)) ?_
  obtain ⟨a5, ha5, e⟩ := xw_some e
  refine xe_put (w := 0) s2 rfl rfl (by decide) rfl rfl rfl rfl (fun H6 s7 => ?_)
  have s7 : xS h b T a5 H6 := by rw [ha5]; exact s7
  refine ex_s (am_nb (m := 1) (pc1 := 27) (ls1 := [(3, .int (a 97 14)), (2, .int (a 97 13)), (0, .ref 97), (1, .int x0)]) (st1 := [.ref 97]) (H1 := H6) (k1 := 0) (n1 := 0) (by with_unfolding_all rfl)) ?_
  obtain ⟨a11, e10, e⟩ := xb1_some e
  refine ex_cv0 (as := []) (rest := []) rfl rfl rfl rfl (s7.obj rfl (by decide)) rfl (by with_unfolding_all rfl) (by with_unfolding_all rfl) (tf129_takeAim s7 e10) (fun H8 s9 => ?_)
  refine ex_s (am_nb (m := 1) (pc1 := 31) (ls1 := [(3, .int (a 97 14)), (2, .int (a 97 13)), (0, .ref 97), (1, .int x0)]) (st1 := [.ref 97]) (H1 := H8) (k1 := 0) (n1 := 0) (by with_unfolding_all rfl)) ?_
  refine xe_get (v := .int (a11 97 12)) s9 rfl rfl (by decide) rfl ?_
  refine ex_s (st_if rfl) ?_
  by_cases c13 : (a11 97 12) = 0
  · have e := (if_pos c13).symm.trans e
    refine ex_pc (if_pos c13) ?_
    exact le_E (l1 := [(0, .ref 97), (1, .int x0), (2, .int (a 97 13)), (3, .int (a 97 14))]) ⟨rfl, rfl, rfl, rfl, trivial⟩ rfl (tj127_46  s9 e)
  · have e := (if_neg c13).symm.trans e
    refine ex_pc (if_neg c13) ?_
    refine ex_s (am_nb (m := 5) (pc1 := 43) (ls1 := [(3, .int (a 97 14)), (2, .int (a 97 13)), (0, .ref 97), (1, .int x0)]) (st1 := [.int 0, .int 0, .int 1, .int 6, .ref 97]) (H1 := H8) (k1 := 0) (n1 := 0) (by with_unfolding_all rfl)) ?_
    obtain ⟨a61, e60, e⟩ := xb1_some e
    refine ex_cv0 (as := [.int 6, .int 1, .int 0, .int 0]) (rest := []) rfl rfl rfl rfl (s9.obj rfl (by decide)) rfl (by with_unfolding_all rfl) (by with_unfolding_all rfl) (tf130_send s9 e60) (fun H58 s59 => ?_)
    exact le_E (l1 := [(0, .ref 97), (1, .int x0), (2, .int (a 97 13)), (3, .int (a 97 14))]) ⟨rfl, rfl, rfl, rfl, trivial⟩ rfl (tj127_46  s59 e)

set_option maxRecDepth 100000 in
theorem tf156_add {sL : Nat} {sx : Nat → Int32} {h b N : Nat} {T : List am_C} {r : Int32} {a' : xA} {o : Nat} {x0 : Int32} {a : xA} {H : am_H} (hS : xS h b T a H) (e : f156_add N h b o x0 a = some (r, a')) : am_E sL sx am_cs 156 0 [(0, .ref o), (1, .int x0)] [] H (some (.int r)) (fun H1 => xS h b T a' H1) := by
  unfold f156_add at e
  obtain ⟨g1, e⟩ := xg_some e
  refine ex_s (am_nb (m := 1) (pc1 := 1) (ls1 := [(0, .ref o), (1, .int x0)]) (st1 := [.ref o]) (H1 := H) (k1 := 0) (n1 := 0) (by with_unfolding_all rfl)) ?_
  refine xe_get (v := .int (a o 2)) hS rfl g1 (by decide) rfl ?_
  refine ex_s (am_nb (m := 1) (pc1 := 5) (ls1 := [(0, .ref o), (1, .int x0)]) (st1 := [.ref o, .int (a o 2)]) (H1 := H) (k1 := 0) (n1 := 0) (by with_unfolding_all rfl)) ?_
  refine xe_get (v := .ref (o + 1)) hS rfl g1 (by decide) rfl ?_
  refine xe_alenc (v := Int32.ofNat (xl h b (o + 1))) hS rfl (xd_0_1 g1) rfl ?_
  refine ex_s (st_icmp rfl) ?_
  by_cases c2 : (a o 2) < (Int32.ofNat (xl h b (o + 1)))
  · have e := (if_pos c2).symm.trans e
    refine ex_pc (if_pos c2) ?_
    refine ex_s (am_nb (m := 1) (pc1 := 15) (ls1 := [(0, .ref o), (1, .int x0)]) (st1 := [.ref o]) (H1 := H) (k1 := 0) (n1 := 0) (by with_unfolding_all rfl)) ?_
    refine xe_get (v := .ref (o + 1)) hS rfl g1 (by decide) rfl ?_
    refine ex_s (am_nb (m := 1) (pc1 := 19) (ls1 := [(0, .ref o), (1, .int x0)]) (st1 := [.ref o, .ref (o + 1)]) (H1 := H) (k1 := 0) (n1 := 0) (by with_unfolding_all rfl)) ?_
    refine xe_get (v := .int (a o 1)) hS rfl g1 (by decide) rfl ?_
    refine ex_s (am_nb (m := 1) (pc1 := 23) (ls1 := [(0, .ref o), (1, .int x0)]) (st1 := [.ref o, .int (a o 1), .ref (o + 1)]) (H1 := H) (k1 := 0) (n1 := 0) (by with_unfolding_all rfl)) ?_
    refine xe_get (v := .int (a o 2)) hS rfl g1 (by decide) rfl ?_
    refine ex_s (am_nb (m := 2) (pc1 := 28) (ls1 := [(0, .ref o), (1, .int x0)]) (st1 := [.ref o, .int ((a o 1) + (a o 2)), .ref (o + 1)]) (H1 := H) (k1 := 0) (n1 := 0) (by with_unfolding_all rfl)) ?_
    refine xe_get (v := .ref (o + 1)) hS rfl g1 (by decide) rfl ?_
    refine xe_alenc (v := Int32.ofNat (xl h b (o + 1))) hS rfl (xd_0_1 g1) rfl ?_
    obtain ⟨g3, e⟩ := xg_some e
    refine ex_s (st_irem rfl g3) ?_
    refine ex_s (am_nb (m := 1) (pc1 := 34) (ls1 := [(0, .ref o), (1, .int x0)]) (st1 := [.int x0, .int (((a o 1) + (a o 2)) - ((a o 1) + (a o 2)) / (Int32.ofNat (xl h b (o + 1))) * (Int32.ofNat (xl h b (o + 1)))), .ref (o + 1)]) (H1 := H) (k1 := 0) (n1 := 0) (by with_unfolding_all rfl)) ?_
    obtain ⟨g7, e⟩ := xg_some e
    obtain ⟨a4, ha4, e⟩ := xw_some e
    refine xe_iast hS rfl (xd_0_1 g1) g7 (fun H5 s6 => ?_)
    have s6 : xS h b T a4 H5 := by rw [ha4]; exact s6
    refine ex_s (am_nb (m := 2) (pc1 := 37) (ls1 := [(0, .ref o), (1, .int x0)]) (st1 := [.ref o, .ref o]) (H1 := H5) (k1 := 0) (n1 := 0) (by with_unfolding_all rfl)) ?_
    refine xe_get (v := .int (a4 o 2)) s6 rfl g1 (by decide) rfl ?_
    refine ex_s (am_nb (m := 2) (pc1 := 42) (ls1 := [(0, .ref o), (1, .int x0)]) (st1 := [.int ((a4 o 2) + 1), .ref o]) (H1 := H5) (k1 := 0) (n1 := 0) (by with_unfolding_all rfl)) ?_
    obtain ⟨a8, ha8, e⟩ := xw_some e
    refine xe_put (w := ((a4 o 2) + 1)) s6 rfl g1 (by decide) rfl rfl rfl rfl (fun H9 s10 => ?_)
    have s10 : xS h b T a8 H9 := by rw [ha8]; exact s10
    refine ex_s (am_nb (m := 1) (pc1 := 46) (ls1 := [(0, .ref o), (1, .int x0)]) (st1 := [.int 1]) (H1 := H9) (k1 := 0) (n1 := 0) (by with_unfolding_all rfl)) ?_
    cases e
    exact ex_r (st_iret rfl rfl rfl) s10
  · have e := (if_neg c2).symm.trans e
    refine ex_pc (if_neg c2) ?_
    refine ex_s (am_nb (m := 1) (pc1 := 13) (ls1 := [(0, .ref o), (1, .int x0)]) (st1 := [.int 0]) (H1 := H) (k1 := 0) (n1 := 0) (by with_unfolding_all rfl)) ?_
    cases e
    exact ex_r (st_iret rfl rfl rfl) hS

set_option maxRecDepth 100000 in
theorem tl125_29 {sL : Nat} {sx : Nat → Int32} {h b N : Nat} {T : List am_C} {R : Option Value} {F : am_H → Prop} {w1 : Int32} {z : Nat × xA} (k0 : z.1 = 0 → ∀ H2 : am_H, xS h b T z.2 H2 → am_E sL sx am_cs 125 60 [(1, .int w1)] [] H2 R F) : ∀ (n : Nat) (v2 : Int32) (a : xA) (H : am_H), xS h b T a H → l125_29 N h b w1 n v2 a = some z → am_E sL sx am_cs 125 29 [(0, .ref 0), (1, .int w1), (2, .int v2)] [] H R F := by
  intro n
  induction n with
  | zero =>
    intro v2 a H hS e
    cases e
  | succ n ih =>
    intro v2 a H hS e
    unfold l125_29 at e
    refine ex_s (am_nb (m := 2) (pc1 := 31) (ls1 := [(0, .ref 0), (1, .int w1), (2, .int v2)]) (st1 := [.int w1, .int v2]) (H1 := H) (k1 := 0) (n1 := 0) (by with_unfolding_all rfl)) ?_
    refine ex_s (st_icmp rfl) ?_
    by_cases c12 : w1 ≤ v2
    · have e := (if_pos c12).symm.trans e
      refine ex_pc (if_pos c12) ?_
      cases e
      exact le_E (l1 := [(1, .int w1)]) ⟨rfl, trivial⟩ rfl (k0 rfl H hS)
    · have e := (if_neg c12).symm.trans e
      refine ex_pc (if_neg c12) ?_
      refine ex_s (am_nb (m := 1) (pc1 := 35) (ls1 := [(0, .ref 0), (1, .int w1), (2, .int v2)]) (st1 := [.ref 0]) (H1 := H) (k1 := 0) (n1 := 0) (by with_unfolding_all rfl)) ?_
      refine xe_get (v := .ref 116) hS rfl rfl (by decide) rfl ?_
      refine xe_get (v := .ref 117) hS rfl rfl (by decide) rfl ?_
      refine ex_s (am_nb (m := 1) (pc1 := 42) (ls1 := [(0, .ref 0), (1, .int w1), (2, .int v2)]) (st1 := [.ref 0, .ref 117]) (H1 := H) (k1 := 0) (n1 := 0) (by with_unfolding_all rfl)) ?_
      refine xe_get (v := .ref 97) hS rfl rfl (by decide) rfl ?_
      refine xe_get (v := .ref 105) hS rfl rfl (by decide) rfl ?_
      refine ex_s (am_nb (m := 1) (pc1 := 49) (ls1 := [(0, .ref 0), (1, .int w1), (2, .int v2)]) (st1 := [.int v2, .ref 105, .ref 117]) (H1 := H) (k1 := 0) (n1 := 0) (by with_unfolding_all rfl)) ?_
      obtain ⟨g13, e⟩ := xg_some e
      refine xe_iald hS rfl rfl g13 ?_
      obtain ⟨r17, a18, e16, e⟩ := xb2_some e
      refine ex_cv1 (as := [.int (a 105 (v2.toNatClampNeg))]) (rest := []) rfl rfl rfl rfl (hS.obj rfl (by decide)) rfl (by with_unfolding_all rfl) (by with_unfolding_all rfl) (tf156_add hS e16) (fun H14 s15 => ?_)
      refine ex_s (am_nb (m := 3) (pc1 := 29) (ls1 := [(2, .int (v2 + 1)), (0, .ref 0), (1, .int w1)]) (st1 := []) (H1 := H14) (k1 := 0) (n1 := 0) (by with_unfolding_all rfl)) ?_
      exact le_E (l1 := [(0, .ref 0), (1, .int w1), (2, .int (v2 + 1))]) ⟨rfl, rfl, rfl, trivial⟩ rfl (ih (v2 + 1) a18 H14 s15 e)

set_option maxRecDepth 100000 in
theorem tf125_update {sL : Nat} {sx : Nat → Int32} {h b N : Nat} {T : List am_C} {r : Int32} {a' : xA} {a : xA} {H : am_H} (hS : xS h b T a H) (e : f125_update N h b a = some (r, a')) : am_E sL sx am_cs 125 0 [(0, .ref 0)] [] H (some (.int r)) (fun H1 => xS h b T a' H1) := by
  unfold f125_update at e
  refine ex_s (am_nb (m := 1) (pc1 := 1) (ls1 := [(0, .ref 0)]) (st1 := [.ref 0]) (H1 := H) (k1 := 0) (n1 := 0) (by with_unfolding_all rfl)) ?_
  refine xe_get (v := xN (a 0 14)) hS rfl rfl (by decide) rfl ?_
  by_cases c1 : (a 0 14) = -1
  · have e := (if_pos c1).symm.trans e
    rw [show xN (a 0 14) = .null from if_pos c1]
    refine ex_s (am_nb (m := 1) (pc1 := 7) (ls1 := [(0, .ref 0)]) (st1 := []) (H1 := H) (k1 := 0) (n1 := 0) (by with_unfolding_all rfl)) ?_
    refine ex_s (am_nb (m := 1) (pc1 := 8) (ls1 := [(0, .ref 0)]) (st1 := [.int (-1)]) (H1 := H) (k1 := 0) (n1 := 0) (by with_unfolding_all rfl)) ?_
    cases e
    exact ex_r (st_iret rfl rfl rfl) hS
  · have e := (if_neg c1).symm.trans e
    rw [show xN (a 0 14) = .ref ((a 0 14).toNatClampNeg) from if_neg c1]
    refine ex_s (am_nb (m := 1) (pc1 := 9) (ls1 := [(0, .ref 0)]) (st1 := []) (H1 := H) (k1 := 0) (n1 := 0) (by with_unfolding_all rfl)) ?_
    refine ex_s (am_nb (m := 1) (pc1 := 10) (ls1 := [(0, .ref 0)]) (st1 := [.ref 0]) (H1 := H) (k1 := 0) (n1 := 0) (by with_unfolding_all rfl)) ?_
    refine xe_get (v := .ref 97) hS rfl rfl (by decide) rfl ?_
    refine ex_s (am_nb (m := 1) (pc1 := 14) (ls1 := [(0, .ref 0)]) (st1 := [.ref 0, .ref 97]) (H1 := H) (k1 := 0) (n1 := 0) (by with_unfolding_all rfl)) ?_
    refine xe_get (v := .ref 116) hS rfl rfl (by decide) rfl ?_
    refine xe_get (v := .ref 117) hS rfl rfl (by decide) rfl ?_
    obtain ⟨r5, a6, e4, e⟩ := xb2_some e
    refine ex_cv1 (as := []) (rest := [.ref 97]) rfl rfl rfl rfl (hS.obj rfl (by decide)) rfl (by with_unfolding_all rfl) (by with_unfolding_all rfl) (tf126_room hS e4) (fun H2 s3 => ?_)
    obtain ⟨r10, a11, e9, e⟩ := xb2_some e
    refine ex_cv1 (as := [.int r5]) (rest := []) rfl rfl rfl rfl (s3.obj rfl (by decide)) rfl (by with_unfolding_all rfl) (by with_unfolding_all rfl) (tf127_paint s3 e9) (fun H7 s8 => ?_)
    refine ex_s (am_nb (m := 3) (pc1 := 29) (ls1 := [(2, .int 0), (1, .int r10), (0, .ref 0)]) (st1 := []) (H1 := H7) (k1 := 0) (n1 := 0) (by with_unfolding_all rfl)) ?_
    obtain ⟨z19, e20, e⟩ := Option.bind_eq_some_iff.mp e
    refine le_E (l1 := [(0, .ref 0), (1, .int r10), (2, .int 0)]) ⟨rfl, rfl, rfl, trivial⟩ rfl (tl125_29 (z := z19)  (fun uz19_0 Hz190 sz190 => ?_) N 0 a11 H7 s8 e20)
    refine ex_s (am_nb (m := 1) (pc1 := 61) (ls1 := [(1, .int r10)]) (st1 := [.int r10]) (H1 := Hz190) (k1 := 0) (n1 := 0) (by with_unfolding_all rfl)) ?_
    cases e
    exact ex_r (st_iret rfl rfl rfl) sz190

set_option maxRecDepth 100000 in
theorem tf157_redraw {sL : Nat} {sx : Nat → Int32} {h b N : Nat} {T : List am_C} {r : Int32} {a' : xA} {a : xA} {H : am_H} (hS : xS h b T a H) (e : f157_redraw N h b a = some (r, a')) : am_E sL sx am_cs 157 0 [(0, .ref 0)] [] H (some (.int r)) (fun H1 => xS h b T a' H1) := by
  unfold f157_redraw at e
  refine ex_s (am_nb (m := 1) (pc1 := 1) (ls1 := [(0, .ref 0)]) (st1 := [.ref 0]) (H1 := H) (k1 := 0) (n1 := 0) (by with_unfolding_all rfl)) ?_
  refine xe_get (v := xN (a 0 14)) hS rfl rfl (by decide) rfl ?_
  by_cases c1 : (a 0 14) = -1
  · have e := (if_pos c1).symm.trans e
    rw [show xN (a 0 14) = .null from if_pos c1]
    refine ex_s (am_nb (m := 1) (pc1 := 7) (ls1 := [(0, .ref 0)]) (st1 := []) (H1 := H) (k1 := 0) (n1 := 0) (by with_unfolding_all rfl)) ?_
    refine ex_s (am_nb (m := 1) (pc1 := 8) (ls1 := [(0, .ref 0)]) (st1 := [.int 0]) (H1 := H) (k1 := 0) (n1 := 0) (by with_unfolding_all rfl)) ?_
    cases e
    exact ex_r (st_iret rfl rfl rfl) hS
  · have e := (if_neg c1).symm.trans e
    rw [show xN (a 0 14) = .ref ((a 0 14).toNatClampNeg) from if_neg c1]
    refine ex_s (am_nb (m := 1) (pc1 := 9) (ls1 := [(0, .ref 0)]) (st1 := []) (H1 := H) (k1 := 0) (n1 := 0) (by with_unfolding_all rfl)) ?_
    refine ex_s (am_nb (m := 1) (pc1 := 10) (ls1 := [(0, .ref 0)]) (st1 := [.ref 0]) (H1 := H) (k1 := 0) (n1 := 0) (by with_unfolding_all rfl)) ?_
    refine xe_get (v := .ref 97) hS rfl rfl (by decide) rfl ?_
    refine ex_s (am_nb (m := 1) (pc1 := 14) (ls1 := [(0, .ref 0)]) (st1 := [.int 1, .ref 97]) (H1 := H) (k1 := 0) (n1 := 0) (by with_unfolding_all rfl)) ?_
    obtain ⟨a2, ha2, e⟩ := xw_some e
    refine xe_put (w := 1) hS rfl rfl (by decide) rfl rfl rfl rfl (fun H3 s4 => ?_)
    have s4 : xS h b T a2 H3 := by rw [ha2]; exact s4
    refine ex_s (am_nb (m := 1) (pc1 := 18) (ls1 := [(0, .ref 0)]) (st1 := [.int 1]) (H1 := H3) (k1 := 0) (n1 := 0) (by with_unfolding_all rfl)) ?_
    cases e
    exact ex_r (st_iret rfl rfl rfl) s4

set_option maxRecDepth 100000 in
theorem tj158_17 {sL : Nat} {sx : Nat → Int32} {h b N : Nat} {T : List am_C} {r : Int32} {a' : xA} {a : xA} {H : am_H} (hS : xS h b T a H) (e : j158_17 N h b a = some (r, a')) : am_E sL sx am_cs 158 17 [] [] H (some (.int r)) (fun H1 => xS h b T a' H1) := by
  unfold j158_17 at e
  refine ex_s (am_nb (m := 2) (pc1 := 33) (ls1 := []) (st1 := [.int (-1)]) (H1 := H) (k1 := 0) (n1 := 0) (by with_unfolding_all rfl)) ?_
  cases e
  exact ex_r (st_iret rfl rfl rfl) hS

set_option maxRecDepth 100000 in
theorem tf158_known {sL : Nat} {sx : Nat → Int32} {h b N : Nat} {T : List am_C} {r : Int32} {a' : xA} {x0 : Int32} {x1 : Int32} {a : xA} {H : am_H} (hS : xS h b T a H) (e : f158_known N h b x0 x1 a = some (r, a')) : am_E sL sx am_cs 158 0 [(0, .ref 0), (1, .int x0), (2, .int x1)] [] H (some (.int r)) (fun H1 => xS h b T a' H1) := by
  unfold f158_known at e
  refine ex_s (am_nb (m := 1) (pc1 := 1) (ls1 := [(0, .ref 0), (1, .int x0), (2, .int x1)]) (st1 := [.ref 0]) (H1 := H) (k1 := 0) (n1 := 0) (by with_unfolding_all rfl)) ?_
  refine xe_get (v := xN (a 0 14)) hS rfl rfl (by decide) rfl ?_
  by_cases c1 : (a 0 14) = -1
  · have e := (if_pos c1).symm.trans e
    rw [show xN (a 0 14) = .null from if_pos c1]
    refine ex_s (am_nb (m := 1) (pc1 := 17) (ls1 := [(0, .ref 0), (1, .int x0), (2, .int x1)]) (st1 := []) (H1 := H) (k1 := 0) (n1 := 0) (by with_unfolding_all rfl)) ?_
    exact le_E (l1 := []) trivial rfl (tj158_17  hS e)
  · have e := (if_neg c1).symm.trans e
    rw [show xN (a 0 14) = .ref ((a 0 14).toNatClampNeg) from if_neg c1]
    refine ex_s (am_nb (m := 1) (pc1 := 7) (ls1 := [(0, .ref 0), (1, .int x0), (2, .int x1)]) (st1 := []) (H1 := H) (k1 := 0) (n1 := 0) (by with_unfolding_all rfl)) ?_
    refine ex_s (am_nb (m := 1) (pc1 := 8) (ls1 := [(0, .ref 0), (1, .int x0), (2, .int x1)]) (st1 := [.ref 0]) (H1 := H) (k1 := 0) (n1 := 0) (by with_unfolding_all rfl)) ?_
    refine xe_get (v := .ref 97) hS rfl rfl (by decide) rfl ?_
    refine xe_get (v := .int (a 97 13)) hS rfl rfl (by decide) rfl ?_
    refine ex_s (st_if rfl) ?_
    by_cases c3 : (a 97 13) = 0
    · have e := (if_pos c3).symm.trans e
      refine ex_pc (if_pos c3) ?_
      refine ex_s (am_nb (m := 1) (pc1 := 22) (ls1 := [(0, .ref 0), (1, .int x0), (2, .int x1)]) (st1 := [.ref 0]) (H1 := H) (k1 := 0) (n1 := 0) (by with_unfolding_all rfl)) ?_
      refine xe_get (v := .ref 97) hS rfl rfl (by decide) rfl ?_
      refine xe_get (v := .ref 100) hS rfl rfl (by decide) rfl ?_
      refine ex_s (am_nb (m := 2) (pc1 := 30) (ls1 := [(0, .ref 0), (1, .int x0), (2, .int x1)]) (st1 := [.int x1, .int x0, .ref 100]) (H1 := H) (k1 := 0) (n1 := 0) (by with_unfolding_all rfl)) ?_
      obtain ⟨r7, a8, e6, e⟩ := xb2_some e
      refine ex_cv1 (as := [.int x0, .int x1]) (rest := []) rfl rfl rfl rfl (hS.obj rfl (by decide)) rfl (by with_unfolding_all rfl) (by with_unfolding_all rfl) (tf120_cell hS e6) (fun H4 s5 => ?_)
      cases e
      exact ex_r (st_iret rfl rfl rfl) s5
    · have e := (if_neg c3).symm.trans e
      refine ex_pc (if_neg c3) ?_
      exact le_E (l1 := []) trivial rfl (tj158_17  hS e)

set_option maxRecDepth 100000 in
theorem tf159_wanted {sL : Nat} {sx : Nat → Int32} {h b N : Nat} {T : List am_C} {r : Int32} {a' : xA} {x0 : Int32} {x1 : Int32} {a : xA} {H : am_H} (hS : xS h b T a H) (e : f159_wanted N h b x0 x1 a = some (r, a')) : am_E sL sx am_cs 159 0 [(0, .ref 0), (1, .int x0), (2, .int x1)] [] H (some (.int r)) (fun H1 => xS h b T a' H1) := by
  unfold f159_wanted at e
  refine ex_s (am_nb (m := 1) (pc1 := 1) (ls1 := [(0, .ref 0), (1, .int x0), (2, .int x1)]) (st1 := [.ref 0]) (H1 := H) (k1 := 0) (n1 := 0) (by with_unfolding_all rfl)) ?_
  refine xe_get (v := xN (a 0 14)) hS rfl rfl (by decide) rfl ?_
  by_cases c1 : (a 0 14) = -1
  · have e := (if_pos c1).symm.trans e
    rw [show xN (a 0 14) = .null from if_pos c1]
    refine ex_s (am_nb (m := 1) (pc1 := 7) (ls1 := [(0, .ref 0), (1, .int x0), (2, .int x1)]) (st1 := []) (H1 := H) (k1 := 0) (n1 := 0) (by with_unfolding_all rfl)) ?_
    refine ex_s (am_nb (m := 2) (pc1 := 23) (ls1 := [(0, .ref 0), (1, .int x0), (2, .int x1)]) (st1 := [.int (-1)]) (H1 := H) (k1 := 0) (n1 := 0) (by with_unfolding_all rfl)) ?_
    cases e
    exact ex_r (st_iret rfl rfl rfl) hS
  · have e := (if_neg c1).symm.trans e
    rw [show xN (a 0 14) = .ref ((a 0 14).toNatClampNeg) from if_neg c1]
    refine ex_s (am_nb (m := 1) (pc1 := 11) (ls1 := [(0, .ref 0), (1, .int x0), (2, .int x1)]) (st1 := []) (H1 := H) (k1 := 0) (n1 := 0) (by with_unfolding_all rfl)) ?_
    refine ex_s (am_nb (m := 1) (pc1 := 12) (ls1 := [(0, .ref 0), (1, .int x0), (2, .int x1)]) (st1 := [.ref 0]) (H1 := H) (k1 := 0) (n1 := 0) (by with_unfolding_all rfl)) ?_
    refine xe_get (v := .ref 97) hS rfl rfl (by decide) rfl ?_
    refine xe_get (v := .ref 98) hS rfl rfl (by decide) rfl ?_
    refine ex_s (am_nb (m := 2) (pc1 := 20) (ls1 := [(0, .ref 0), (1, .int x0), (2, .int x1)]) (st1 := [.int x1, .int x0, .ref 98]) (H1 := H) (k1 := 0) (n1 := 0) (by with_unfolding_all rfl)) ?_
    obtain ⟨r5, a6, e4, e⟩ := xb2_some e
    refine ex_cv1 (as := [.int x0, .int x1]) (rest := []) rfl rfl rfl rfl (hS.obj rfl (by decide)) rfl (by with_unfolding_all rfl) (by with_unfolding_all rfl) (tf120_cell hS e4) (fun H2 s3 => ?_)
    cases e
    exact ex_r (st_iret rfl rfl rfl) s3
