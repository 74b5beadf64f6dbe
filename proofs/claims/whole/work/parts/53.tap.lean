/-! The program does what the functions say. -/
set_option maxRecDepth 100000 in
theorem tl346_165 {sL : Nat} {sx : Nat → Int32} {h b N : Nat} {T : List am_C} {R : Option Value} {F : am_H → Prop} {w2 : Int32} {w3 : Int32} {w4 : Int32} {w7 : Int32} {z : Nat × xA} (k0 : z.1 = 0 → ∀ H2 : am_H, xS h b T z.2 H2 → am_E sL sx am_cs 346 202 [(7, .int w7)] [] H2 R F) : ∀ (n : Nat) (v12 : Int32) (a : xA) (H : am_H), xS h b T a H → l346_165 N h b w2 w3 w4 w7 n v12 a = some z → am_E sL sx am_cs 346 165 [(0, .ref 157), (2, .int w2), (3, .int w3), (4, .int w4), (7, .int w7), (12, .int v12)] [] H R F := by
  intro n
  induction n with
  | zero =>
    intro v12 a H hS e
    cases e
  | succ n ih =>
    intro v12 a H hS e
    unfold l346_165 at e
    refine ex_s (am_nb (m := 2) (pc1 := 168) (ls1 := [(0, .ref 157), (2, .int w2), (3, .int w3), (4, .int w4), (7, .int w7), (12, .int v12)]) (st1 := [.int w2, .int v12]) (H1 := H) (k1 := 0) (n1 := 0) (by with_unfolding_all rfl)) ?_
    refine ex_s (st_icmp rfl) ?_
    by_cases c38 : w2 ≤ v12
    · have e := (if_pos c38).symm.trans e
      refine ex_pc (if_pos c38) ?_
      cases e
      exact le_E (l1 := [(7, .int w7)]) ⟨rfl, trivial⟩ rfl (k0 rfl H hS)
    · have e := (if_neg c38).symm.trans e
      refine ex_pc (if_neg c38) ?_
      refine ex_s (am_nb (m := 1) (pc1 := 173) (ls1 := [(0, .ref 157), (2, .int w2), (3, .int w3), (4, .int w4), (7, .int w7), (12, .int v12)]) (st1 := [.int w4]) (H1 := H) (k1 := 0) (n1 := 0) (by with_unfolding_all rfl)) ?_
      refine ex_s (st_if rfl) ?_
      by_cases c39 : w4 = 0
      · have e := (if_pos c39).symm.trans e
        refine ex_pc (if_pos c39) ?_
        cases e
        exact le_E (l1 := [(7, .int w7)]) ⟨rfl, trivial⟩ rfl (k0 rfl H hS)
      · have e := (if_neg c39).symm.trans e
        refine ex_pc (if_neg c39) ?_
        refine ex_s (am_nb (m := 2) (pc1 := 178) (ls1 := [(0, .ref 157), (2, .int w2), (3, .int w3), (4, .int w4), (7, .int w7), (12, .int v12)]) (st1 := [.ref 157, .ref 157]) (H1 := H) (k1 := 0) (n1 := 0) (by with_unfolding_all rfl)) ?_
        refine xe_get (v := .ref 183) hS rfl rfl (by decide) rfl ?_
        refine ex_s (am_nb (m := 5) (pc1 := 188) (ls1 := [(0, .ref 157), (2, .int w2), (3, .int w3), (4, .int w4), (7, .int w7), (12, .int v12)]) (st1 := [.int ((80 * w3) + v12), .ref 183, .ref 157]) (H1 := H) (k1 := 0) (n1 := 0) (by with_unfolding_all rfl)) ?_
        obtain ⟨g40, e⟩ := xg_some e
        refine xe_iald hS rfl rfl g40 ?_
        refine ex_s (am_nb (m := 2) (pc1 := 193) (ls1 := [(0, .ref 157), (2, .int w2), (3, .int w3), (4, .int w4), (7, .int w7), (12, .int v12)]) (st1 := [.int ((a 183 (((80 * w3) + v12).toNatClampNeg)) &&& 255), .ref 157]) (H1 := H) (k1 := 0) (n1 := 0) (by with_unfolding_all rfl)) ?_
        obtain ⟨a44, e43, e⟩ := xb1_some e
        refine ex_cv0 (as := [.int ((a 183 (((80 * w3) + v12).toNatClampNeg)) &&& 255)]) (rest := []) rfl rfl rfl rfl (hS.obj rfl (by decide)) rfl (by with_unfolding_all rfl) (by with_unfolding_all rfl) (tf334_typeByte hS e43) (fun H41 s42 => ?_)
        refine ex_s (am_nb (m := 2) (pc1 := 165) (ls1 := [(12, .int (v12 + 1)), (0, .ref 157), (2, .int w2), (3, .int w3), (4, .int w4), (7, .int w7)]) (st1 := []) (H1 := H41) (k1 := 0) (n1 := 0) (by with_unfolding_all rfl)) ?_
        exact le_E (l1 := [(0, .ref 157), (2, .int w2), (3, .int w3), (4, .int w4), (7, .int w7), (12, .int (v12 + 1))]) ⟨rfl, rfl, rfl, rfl, rfl, rfl, trivial⟩ rfl (ih (v12 + 1) a44 H41 s42 e)

set_option maxRecDepth 100000 in
theorem tj346_236 {sL : Nat} {sx : Nat → Int32} {h b N : Nat} {T : List am_C} {r : Int32} {a' : xA} {q1 : Int32} {q2 : Int32} {q4 : Int32} {q9 : Int32} {q10 : Int32} {a : xA} {H : am_H} (hS : xS h b T a H) (e : j346_236 N h b q1 q2 q4 q9 q10 a = some (r, a')) : am_E sL sx am_cs 346 236 [(0, .ref 157), (1, .int q1), (2, .int q2), (4, .int q4), (9, .int q9), (10, .int q10)] [] H (some (.int r)) (fun H1 => xS h b T a' H1) := by
  unfold j346_236 at e
  refine ex_s (am_nb (m := 1) (pc1 := 238) (ls1 := [(0, .ref 157), (1, .int q1), (2, .int q2), (4, .int q4), (9, .int q9), (10, .int q10)]) (st1 := [.int q4]) (H1 := H) (k1 := 0) (n1 := 0) (by with_unfolding_all rfl)) ?_
  refine ex_s (st_if rfl) ?_
  by_cases c53 : q4 = 0
  · have e := (if_pos c53).symm.trans e
    refine ex_pc (if_pos c53) ?_
    refine ex_s (am_nb (m := 1) (pc1 := 257) (ls1 := [(0, .ref 157), (1, .int q1), (2, .int q2), (4, .int q4), (9, .int q9), (10, .int q10)]) (st1 := [.int q10]) (H1 := H) (k1 := 0) (n1 := 0) (by with_unfolding_all rfl)) ?_
    cases e
    exact ex_r (st_iret rfl rfl rfl) hS
  · have e := (if_neg c53).symm.trans e
    refine ex_pc (if_neg c53) ?_
    refine ex_s (am_nb (m := 2) (pc1 := 244) (ls1 := [(0, .ref 157), (1, .int q1), (2, .int q2), (4, .int q4), (9, .int q9), (10, .int q10)]) (st1 := [.int 1, .int q9]) (H1 := H) (k1 := 0) (n1 := 0) (by with_unfolding_all rfl)) ?_
    refine ex_s (st_icmp rfl) ?_
    by_cases c55 : q9 = 1
    · have e := (if_pos c55).symm.trans e
      refine ex_pc (if_pos c55) ?_
      refine ex_s (am_nb (m := 4) (pc1 := 251) (ls1 := [(0, .ref 157), (1, .int q1), (2, .int q2), (4, .int q4), (9, .int q9), (10, .int q10)]) (st1 := [.int 1, .int q2, .int q1, .ref 157]) (H1 := H) (k1 := 0) (n1 := 0) (by with_unfolding_all rfl)) ?_
      obtain ⟨r59, a60, e58, e⟩ := xb2_some e
      refine ex_cv1 (as := [.int q1, .int q2, .int 1]) (rest := []) rfl rfl rfl rfl (hS.obj rfl (by decide)) rfl (by with_unfolding_all rfl) (by with_unfolding_all rfl) (tf347_tabbed hS e58) (fun H56 s57 => ?_)
      refine ex_s (am_nb (m := 2) (pc1 := 257) (ls1 := [(0, .ref 157), (1, .int q1), (2, .int q2), (4, .int q4), (9, .int q9), (10, .int q10)]) (st1 := [.int q10]) (H1 := H56) (k1 := 0) (n1 := 0) (by with_unfolding_all rfl)) ?_
      cases e
      exact ex_r (st_iret rfl rfl rfl) s57
    · have e := (if_neg c55).symm.trans e
      refine ex_pc (if_neg c55) ?_
      refine ex_s (am_nb (m := 1) (pc1 := 257) (ls1 := [(0, .ref 157), (1, .int q1), (2, .int q2), (4, .int q4), (9, .int q9), (10, .int q10)]) (st1 := [.int q10]) (H1 := H) (k1 := 0) (n1 := 0) (by with_unfolding_all rfl)) ?_
      cases e
      exact ex_r (st_iret rfl rfl rfl) hS

set_option maxRecDepth 100000 in
theorem tj346_114 {sL : Nat} {sx : Nat → Int32} {h b N : Nat} {T : List am_C} {r : Int32} {a' : xA} {q1 : Int32} {q2 : Int32} {q3 : Int32} {q4 : Int32} {q5 : Int32} {q6 : Int32} {q7 : Int32} {a : xA} {H : am_H} (hS : xS h b T a H) (e : j346_114 N h b q1 q2 q3 q4 q5 q6 q7 a = some (r, a')) : am_E sL sx am_cs 346 114 [(0, .ref 157), (1, .int q1), (2, .int q2), (3, .int q3), (4, .int q4), (5, .int q5), (6, .int q6), (7, .int q7)] [] H (some (.int r)) (fun H1 => xS h b T a' H1) := by
  unfold j346_114 at e
  refine ex_s (am_nb (m := 2) (pc1 := 118) (ls1 := [(0, .ref 157), (1, .int q1), (2, .int q2), (3, .int q3), (4, .int q4), (5, .int q5), (6, .int q6), (7, .int q7)]) (st1 := [.int q6, .int q5]) (H1 := H) (k1 := 0) (n1 := 0) (by with_unfolding_all rfl)) ?_
  obtain ⟨r26, a27, e25, e⟩ := xb2_some e
  refine ex_cs1 (as := [.int q5, .int q6]) (rest := []) rfl (by decide) rfl rfl (by with_unfolding_all rfl) (by with_unfolding_all rfl) (tf345_better hS e25) (fun H23 s24 => ?_)
  refine ex_s (am_nb (m := 3) (pc1 := 126) (ls1 := [(9, .int r26), (0, .ref 157), (1, .int q1), (2, .int q2), (3, .int q3), (4, .int q4), (5, .int q5), (6, .int q6), (7, .int q7)]) (st1 := [.int (-1), .int r26]) (H1 := H23) (k1 := 0) (n1 := 0) (by with_unfolding_all rfl)) ?_
  have kk : am_E sL sx am_cs 346 145 [(9, .int r26), (0, .ref 157), (1, .int q1), (2, .int q2), (3, .int q3), (4, .int q4), (5, .int q5), (6, .int q6), (7, .int q7)] [.int (if r26 = (-1) then (-1 : Int32) else (if r26 = 0 then (q5) else (q6)))] H23 (some (.int r)) (fun H1 => xS h b T a' H1) := by
    refine ex_s (am_nb (m := 3) (pc1 := 151) (ls1 := [(10, .int (if r26 = (-1) then (-1 : Int32) else (if r26 = 0 then (q5) else (q6)))), (9, .int r26), (0, .ref 157), (1, .int q1), (2, .int q2), (3, .int q3), (4, .int q4), (5, .int q5), (6, .int q6), (7, .int q7)]) (st1 := [.int q7, .int (if r26 = (-1) then (-1 : Int32) else (if r26 = 0 then (q5) else (q6)))]) (H1 := H23) (k1 := 0) (n1 := 0) (by with_unfolding_all rfl)) ?_
    obtain ⟨r33, a34, e32, e⟩ := xb2_some e
    refine ex_cs1 (as := [.int (if r26 = (-1) then (-1 : Int32) else (if r26 = 0 then (q5) else (q6))), .int q7]) (rest := []) rfl (by decide) rfl rfl (by with_unfolding_all rfl) (by with_unfolding_all rfl) (tf345_better s24 e32) (fun H30 s31 => ?_)
    refine ex_s (am_nb (m := 3) (pc1 := 159) (ls1 := [(11, .int r33), (10, .int (if r26 = (-1) then (-1 : Int32) else (if r26 = 0 then (q5) else (q6)))), (9, .int r26), (0, .ref 157), (1, .int q1), (2, .int q2), (3, .int q3), (4, .int q4), (5, .int q5), (6, .int q6), (7, .int q7)]) (st1 := [.int 1, .int r33]) (H1 := H30) (k1 := 0) (n1 := 0) (by with_unfolding_all rfl)) ?_
    refine ex_s (st_icmp rfl) ?_
    by_cases c35 : r33 = 1
    · have e := (if_pos c35).symm.trans e
      refine ex_pc (if_pos c35) ?_
      refine ex_s (am_nb (m := 2) (pc1 := 165) (ls1 := [(12, .int q1), (11, .int r33), (10, .int (if r26 = (-1) then (-1 : Int32) else (if r26 = 0 then (q5) else (q6)))), (9, .int r26), (0, .ref 157), (1, .int q1), (2, .int q2), (3, .int q3), (4, .int q4), (5, .int q5), (6, .int q6), (7, .int q7)]) (st1 := []) (H1 := H30) (k1 := 0) (n1 := 0) (by with_unfolding_all rfl)) ?_
      obtain ⟨z45, e46, e⟩ := Option.bind_eq_some_iff.mp e
      refine le_E (l1 := [(0, .ref 157), (2, .int q2), (3, .int q3), (4, .int q4), (7, .int q7), (12, .int q1)]) ⟨rfl, rfl, rfl, rfl, rfl, rfl, trivial⟩ rfl (tl346_165 (z := z45)  (fun uz45_0 Hz450 sz450 => ?_) N q1 a34 H30 s31 e46)
      refine ex_s (am_nb (m := 1) (pc1 := 204) (ls1 := [(7, .int q7)]) (st1 := [.int q7]) (H1 := Hz450) (k1 := 0) (n1 := 0) (by with_unfolding_all rfl)) ?_
      cases e
      exact ex_r (st_iret rfl rfl rfl) sz450
    · have e := (if_neg c35).symm.trans e
      refine ex_pc (if_neg c35) ?_
      refine ex_s (am_nb (m := 2) (pc1 := 208) (ls1 := [(11, .int r33), (10, .int (if r26 = (-1) then (-1 : Int32) else (if r26 = 0 then (q5) else (q6)))), (9, .int r26), (0, .ref 157), (1, .int q1), (2, .int q2), (3, .int q3), (4, .int q4), (5, .int q5), (6, .int q6), (7, .int q7)]) (st1 := [.int (-1), .int r33]) (H1 := H30) (k1 := 0) (n1 := 0) (by with_unfolding_all rfl)) ?_
      refine ex_s (st_icmp rfl) ?_
      by_cases c47 : r33 = (-1)
      · have e := (if_pos c47).symm.trans e
        refine ex_pc (if_pos c47) ?_
        refine ex_s (am_nb (m := 1) (pc1 := 212) (ls1 := [(11, .int r33), (10, .int (if r26 = (-1) then (-1 : Int32) else (if r26 = 0 then (q5) else (q6)))), (9, .int r26), (0, .ref 157), (1, .int q1), (2, .int q2), (3, .int q3), (4, .int q4), (5, .int q5), (6, .int q6), (7, .int q7)]) (st1 := [.int (-1)]) (H1 := H30) (k1 := 0) (n1 := 0) (by with_unfolding_all rfl)) ?_
        cases e
        exact ex_r (st_iret rfl rfl rfl) s31
      · have e := (if_neg c47).symm.trans e
        refine ex_pc (if_neg c47) ?_
        refine ex_s (am_nb (m := 1) (pc1 := 215) (ls1 := [(11, .int r33), (10, .int (if r26 = (-1) then (-1 : Int32) else (if r26 = 0 then (q5) else (q6)))), (9, .int r26), (0, .ref 157), (1, .int q1), (2, .int q2), (3, .int q3), (4, .int q4), (5, .int q5), (6, .int q6), (7, .int q7)]) (st1 := [.int q4]) (H1 := H30) (k1 := 0) (n1 := 0) (by with_unfolding_all rfl)) ?_
        refine ex_s (st_if rfl) ?_
        by_cases c50 : q4 = 0
        · have e := (if_pos c50).symm.trans e
          refine ex_pc (if_pos c50) ?_
          exact le_E (l1 := [(0, .ref 157), (1, .int q1), (2, .int q2), (4, .int q4), (9, .int r26), (10, .int (if r26 = (-1) then (-1 : Int32) else (if r26 = 0 then (q5) else (q6))))]) ⟨rfl, rfl, rfl, rfl, rfl, rfl, trivial⟩ rfl (tj346_236  s31 e)
        · have e := (if_neg c50).symm.trans e
          refine ex_pc (if_neg c50) ?_
          refine ex_s (am_nb (m := 1) (pc1 := 220) (ls1 := [(11, .int r33), (10, .int (if r26 = (-1) then (-1 : Int32) else (if r26 = 0 then (q5) else (q6)))), (9, .int r26), (0, .ref 157), (1, .int q1), (2, .int q2), (3, .int q3), (4, .int q4), (5, .int q5), (6, .int q6), (7, .int q7)]) (st1 := [.int r26]) (H1 := H30) (k1 := 0) (n1 := 0) (by with_unfolding_all rfl)) ?_
          refine ex_s (st_if rfl) ?_
          by_cases c62 : r26 = 0
          · have e := (if_pos c62).symm.trans e
            refine ex_pc (if_pos c62) ?_
            refine ex_s (am_nb (m := 7) (pc1 := 232) (ls1 := [(11, .int r33), (10, .int (if r26 = (-1) then (-1 : Int32) else (if r26 = 0 then (q5) else (q6)))), (9, .int r26), (0, .ref 157), (1, .int q1), (2, .int q2), (3, .int q3), (4, .int q4), (5, .int q5), (6, .int q6), (7, .int q7)]) (st1 := [.int 1, .int (q2 - q1), .int 17, .int 13, .ref 157]) (H1 := H30) (k1 := 0) (n1 := 0) (by with_unfolding_all rfl)) ?_
            obtain ⟨r66, a67, e65, e⟩ := xb2_some e
            refine ex_cv1 (as := [.int 13, .int 17, .int (q2 - q1), .int 1]) (rest := []) rfl rfl rfl rfl (s31.obj rfl (by decide)) rfl (by with_unfolding_all rfl) (by with_unfolding_all rfl) (tf344_eitherOf s31 e65) (fun H63 s64 => ?_)
            refine ex_s (am_nb (m := 1) (pc1 := 236) (ls1 := [(11, .int r33), (10, .int (if r26 = (-1) then (-1 : Int32) else (if r26 = 0 then (q5) else (q6)))), (9, .int r26), (0, .ref 157), (1, .int q1), (2, .int q2), (3, .int q3), (4, .int q4), (5, .int q5), (6, .int q6), (7, .int q7)]) (st1 := []) (H1 := H63) (k1 := 0) (n1 := 0) (by with_unfolding_all rfl)) ?_
            exact le_E (l1 := [(0, .ref 157), (1, .int q1), (2, .int q2), (4, .int q4), (9, .int r26), (10, .int (if r26 = (-1) then (-1 : Int32) else (if r26 = 0 then (q5) else (q6))))]) ⟨rfl, rfl, rfl, rfl, rfl, rfl, trivial⟩ rfl (tj346_236  s64 e)
          · have e := (if_neg c62).symm.trans e
            refine ex_pc (if_neg c62) ?_
            exact le_E (l1 := [(0, .ref 157), (1, .int q1), (2, .int q2), (4, .int q4), (9, .int r26), (10, .int (if r26 = (-1) then (-1 : Int32) else (if r26 = 0 then (q5) else (q6))))]) ⟨rfl, rfl, rfl, rfl, rfl, rfl, trivial⟩ rfl (tj346_236  s31 e)
  refine ex_s (st_icmp rfl) ?_
  by_cases c28 : r26 = (-1)
  · refine ex_pc (if_pos c28) ?_
    refine ex_s (am_nb (m := 2) (pc1 := 145) (ls1 := [(9, .int r26), (0, .ref 157), (1, .int q1), (2, .int q2), (3, .int q3), (4, .int q4), (5, .int q5), (6, .int q6), (7, .int q7)]) (st1 := [.int (-1)]) (H1 := H23) (k1 := 0) (n1 := 0) (by with_unfolding_all rfl)) ?_
    rw [if_pos c28] at kk
    exact kk
  · refine ex_pc (if_neg c28) ?_
    refine ex_s (am_nb (m := 1) (pc1 := 135) (ls1 := [(9, .int r26), (0, .ref 157), (1, .int q1), (2, .int q2), (3, .int q3), (4, .int q4), (5, .int q5), (6, .int q6), (7, .int q7)]) (st1 := [.int r26]) (H1 := H23) (k1 := 0) (n1 := 0) (by with_unfolding_all rfl)) ?_
    refine ex_s (st_if rfl) ?_
    by_cases c29 : r26 = 0
    · refine ex_pc (if_pos c29) ?_
      refine ex_s (am_nb (m := 2) (pc1 := 145) (ls1 := [(9, .int r26), (0, .ref 157), (1, .int q1), (2, .int q2), (3, .int q3), (4, .int q4), (5, .int q5), (6, .int q6), (7, .int q7)]) (st1 := [.int q5]) (H1 := H23) (k1 := 0) (n1 := 0) (by with_unfolding_all rfl)) ?_
      rw [if_neg c28, if_pos c29] at kk
      exact kk
    · refine ex_pc (if_neg c29) ?_
      refine ex_s (am_nb (m := 1) (pc1 := 145) (ls1 := [(9, .int r26), (0, .ref 157), (1, .int q1), (2, .int q2), (3, .int q3), (4, .int q4), (5, .int q5), (6, .int q6), (7, .int q7)]) (st1 := [.int q6]) (H1 := H23) (k1 := 0) (n1 := 0) (by with_unfolding_all rfl)) ?_
      rw [if_neg c28, if_neg c29] at kk
      exact kk

set_option maxRecDepth 100000 in
theorem tj346_104 {sL : Nat} {sx : Nat → Int32} {h b N : Nat} {T : List am_C} {r : Int32} {a' : xA} {q1 : Int32} {q2 : Int32} {q3 : Int32} {q4 : Int32} {q5 : Int32} {q6 : Int32} {q7 : Int32} {q8 : Int32} {a : xA} {H : am_H} (hS : xS h b T a H) (e : j346_104 N h b q1 q2 q3 q4 q5 q6 q7 q8 a = some (r, a')) : am_E sL sx am_cs 346 104 [(0, .ref 157), (1, .int q1), (2, .int q2), (3, .int q3), (4, .int q4), (5, .int q5), (6, .int q6), (7, .int q7), (8, .int q8)] [] H (some (.int r)) (fun H1 => xS h b T a' H1) := by
  unfold j346_104 at e
  refine ex_s (am_nb (m := 1) (pc1 := 106) (ls1 := [(0, .ref 157), (1, .int q1), (2, .int q2), (3, .int q3), (4, .int q4), (5, .int q5), (6, .int q6), (7, .int q7), (8, .int q8)]) (st1 := [.int q8]) (H1 := H) (k1 := 0) (n1 := 0) (by with_unfolding_all rfl)) ?_
  refine ex_s (st_if rfl) ?_
  by_cases c22 : q8 = 0
  · have e := (if_pos c22).symm.trans e
    refine ex_pc (if_pos c22) ?_
    exact le_E (l1 := [(0, .ref 157), (1, .int q1), (2, .int q2), (3, .int q3), (4, .int q4), (5, .int q5), (6, .int q6), (7, .int q7)]) ⟨rfl, rfl, rfl, rfl, rfl, rfl, rfl, rfl, trivial⟩ rfl (tj346_114  hS e)
  · have e := (if_neg c22).symm.trans e
    refine ex_pc (if_neg c22) ?_
    refine ex_s (am_nb (m := 4) (pc1 := 114) (ls1 := [(7, .int (q2 - q1)), (0, .ref 157), (1, .int q1), (2, .int q2), (3, .int q3), (4, .int q4), (5, .int q5), (6, .int q6), (8, .int q8)]) (st1 := []) (H1 := H) (k1 := 0) (n1 := 0) (by with_unfolding_all rfl)) ?_
    exact le_E (l1 := [(0, .ref 157), (1, .int q1), (2, .int q2), (3, .int q3), (4, .int q4), (5, .int q5), (6, .int q6), (7, .int (q2 - q1))]) ⟨rfl, rfl, rfl, rfl, rfl, rfl, rfl, rfl, trivial⟩ rfl (tj346_114  hS e)

set_option maxRecDepth 100000 in
theorem tf346_across {sL : Nat} {sx : Nat → Int32} {h b N : Nat} {T : List am_C} {r : Int32} {a' : xA} {x0 : Int32} {x1 : Int32} {x2 : Int32} {x3 : Int32} {a : xA} {H : am_H} (hS : xS h b T a H) (e : f346_across N h b x0 x1 x2 x3 a = some (r, a')) : am_E sL sx am_cs 346 0 [(0, .ref 157), (1, .int x0), (2, .int x1), (3, .int x2), (4, .int x3)] [] H (some (.int r)) (fun H1 => xS h b T a' H1) := by
  unfold f346_across at e
  refine ex_s (am_nb (m := 2) (pc1 := 2) (ls1 := [(0, .ref 157), (1, .int x0), (2, .int x1), (3, .int x2), (4, .int x3)]) (st1 := [.int x1, .int x0]) (H1 := H) (k1 := 0) (n1 := 0) (by with_unfolding_all rfl)) ?_
  refine ex_s (st_icmp rfl) ?_
  by_cases c1 : x0 = x1
  · have e := (if_pos c1).symm.trans e
    refine ex_pc (if_pos c1) ?_
    refine ex_s (am_nb (m := 1) (pc1 := 6) (ls1 := [(0, .ref 157), (1, .int x0), (2, .int x1), (3, .int x2), (4, .int x3)]) (st1 := [.int 0]) (H1 := H) (k1 := 0) (n1 := 0) (by with_unfolding_all rfl)) ?_
    cases e
    exact ex_r (st_iret rfl rfl rfl) hS
  · have e := (if_neg c1).symm.trans e
    refine ex_pc (if_neg c1) ?_
    refine ex_s (am_nb (m := 2) (pc1 := 9) (ls1 := [(0, .ref 157), (1, .int x0), (2, .int x1), (3, .int x2), (4, .int x3)]) (st1 := [.int x0, .int x1]) (H1 := H) (k1 := 0) (n1 := 0) (by with_unfolding_all rfl)) ?_
    refine ex_s (st_icmp rfl) ?_
    by_cases c2 : x0 ≤ x1
    · have e := (if_pos c2).symm.trans e
      refine ex_pc (if_pos c2) ?_
      refine ex_s (am_nb (m := 7) (pc1 := 35) (ls1 := [(0, .ref 157), (1, .int x0), (2, .int x1), (3, .int x2), (4, .int x3)]) (st1 := [.int 0, .int (x1 - x0), .int 17, .int 13, .ref 157]) (H1 := H) (k1 := 0) (n1 := 0) (by with_unfolding_all rfl)) ?_
      obtain ⟨r6, a7, e5, e⟩ := xb2_some e
      refine ex_cv1 (as := [.int 13, .int 17, .int (x1 - x0), .int 0]) (rest := []) rfl rfl rfl rfl (hS.obj rfl (by decide)) rfl (by with_unfolding_all rfl) (by with_unfolding_all rfl) (tf344_eitherOf hS e5) (fun H3 s4 => ?_)
      refine ex_s (am_nb (m := 5) (pc1 := 44) (ls1 := [(5, .int r6), (0, .ref 157), (1, .int x0), (2, .int x1), (3, .int x2), (4, .int x3)]) (st1 := [.int 0, .int x1, .int x0, .ref 157]) (H1 := H3) (k1 := 0) (n1 := 0) (by with_unfolding_all rfl)) ?_
      obtain ⟨r11, a12, e10, e⟩ := xb2_some e
      refine ex_cv1 (as := [.int x0, .int x1, .int 0]) (rest := []) rfl rfl rfl rfl (s4.obj rfl (by decide)) rfl (by with_unfolding_all rfl) (by with_unfolding_all rfl) (tf347_tabbed s4 e10) (fun H8 s9 => ?_)
      refine ex_s (am_nb (m := 7) (pc1 := 58) (ls1 := [(9, .int x0), (8, .int 1), (7, .int (-1)), (6, .int r11), (5, .int r6), (0, .ref 157), (1, .int x0), (2, .int x1), (3, .int x2), (4, .int x3)]) (st1 := []) (H1 := H8) (k1 := 0) (n1 := 0) (by with_unfolding_all rfl)) ?_
      obtain ⟨z19, e20, e⟩ := Option.bind_eq_some_iff.mp e
      refine le_E (l1 := [(0, .ref 157), (1, .int x0), (2, .int x1), (3, .int x2), (4, .int x3), (5, .int r6), (6, .int r11), (7, .int (-1)), (8, .int 1), (9, .int x0)]) ⟨rfl, rfl, rfl, rfl, rfl, rfl, rfl, rfl, rfl, rfl, trivial⟩ rfl (tl346_58 (z := z19)  (fun uz19_0 Hz190 sz190 => ?_) N 1 x0 a12 H8 s9 e20)
      exact le_E (l1 := [(0, .ref 157), (1, .int x0), (2, .int x1), (3, .int x2), (4, .int x3), (5, .int r6), (6, .int r11), (7, .int (-1)), (8, .int z19.2.1)]) ⟨rfl, rfl, rfl, rfl, rfl, rfl, rfl, rfl, rfl, trivial⟩ rfl (tj346_104  sz190 e)
    · have e := (if_neg c2).symm.trans e
      refine ex_pc (if_neg c2) ?_
      refine ex_s (am_nb (m := 7) (pc1 := 22) (ls1 := [(0, .ref 157), (1, .int x0), (2, .int x1), (3, .int x2), (4, .int x3)]) (st1 := [.int x3, .int (x0 - x1), .int 16, .int 12, .ref 157]) (H1 := H) (k1 := 0) (n1 := 0) (by with_unfolding_all rfl)) ?_
      obtain ⟨r71, a72, e70, e⟩ := xb2_some e
      refine ex_cv1 (as := [.int 12, .int 16, .int (x0 - x1), .int x3]) (rest := []) rfl rfl rfl rfl (hS.obj rfl (by decide)) rfl (by with_unfolding_all rfl) (by with_unfolding_all rfl) (tf344_eitherOf hS e70) (fun H68 s69 => ?_)
      cases e
      exact ex_r (st_iret rfl rfl rfl) s69

set_option maxRecDepth 100000 in
theorem tj342_78 {sL : Nat} {sx : Nat → Int32} {h b N : Nat} {T : List am_C} {r : Int32} {a' : xA} {q2 : Int32} {q3 : Int32} {a : xA} {H : am_H} (hS : xS h b T a H) (e : j342_78 N h b q2 q3 a = some (r, a')) : am_E sL sx am_cs 342 78 [(0, .ref 157), (2, .int q2), (3, .int q3)] [] H (some (.int r)) (fun H1 => xS h b T a' H1) := by
  unfold j342_78 at e
  refine ex_s (am_nb (m := 4) (pc1 := 83) (ls1 := [(0, .ref 157), (2, .int q2), (3, .int q3)]) (st1 := [.int q3, .int q2, .int 9, .ref 157]) (H1 := H) (k1 := 0) (n1 := 0) (by with_unfolding_all rfl)) ?_
  obtain ⟨r12, a13, e11, e⟩ := xb2_some e
  refine ex_cv1 (as := [.int 9, .int q2, .int q3]) (rest := []) rfl rfl rfl rfl (hS.obj rfl (by decide)) rfl (by with_unfolding_all rfl) (by with_unfolding_all rfl) (tf333_bytesOf hS e11) (fun H9 s10 => ?_)
  cases e
  exact ex_r (st_iret rfl rfl rfl) s10

set_option maxRecDepth 100000 in
theorem tj342_151 {sL : Nat} {sx : Nat → Int32} {h b N : Nat} {T : List am_C} {r : Int32} {a' : xA} {q1 : Int32} {q2 : Int32} {q3 : Int32} {q6 : Int32} {a : xA} {H : am_H} (hS : xS h b T a H) (e : j342_151 N h b q1 q2 q3 q6 a = some (r, a')) : am_E sL sx am_cs 342 151 [(0, .ref 157), (1, .int q1), (2, .int q2), (3, .int q3), (6, .int q6)] [] H (some (.int r)) (fun H1 => xS h b T a' H1) := by
  unfold j342_151 at e
  refine ex_s (am_nb (m := 4) (pc1 := 156) (ls1 := [(0, .ref 157), (1, .int q1), (2, .int q2), (3, .int q3), (6, .int q6)]) (st1 := [.int 2, .int q1, .int q6, .ref 157]) (H1 := H) (k1 := 0) (n1 := 0) (by with_unfolding_all rfl)) ?_
  have kk : am_E sL sx am_cs 342 164 [(0, .ref 157), (1, .int q1), (2, .int q2), (3, .int q3), (6, .int q6)] [.int (if q1 = 2 then (q3) else (q2)), .int q6, .ref 157] H (some (.int r)) (fun H1 => xS h b T a' H1) := by
    refine ex_s (am_nb (m := 1) (pc1 := 165) (ls1 := [(0, .ref 157), (1, .int q1), (2, .int q2), (3, .int q3), (6, .int q6)]) (st1 := [.int 0, .int (if q1 = 2 then (q3) else (q2)), .int q6, .ref 157]) (H1 := H) (k1 := 0) (n1 := 0) (by with_unfolding_all rfl)) ?_
    obtain ⟨r42, a43, e41, e⟩ := xb2_some e
    refine ex_cv1 (as := [.int q6, .int (if q1 = 2 then (q3) else (q2)), .int 0]) (rest := []) rfl rfl rfl rfl (hS.obj rfl (by decide)) rfl (by with_unfolding_all rfl) (by with_unfolding_all rfl) (tf333_bytesOf hS e41) (fun H39 s40 => ?_)
    cases e
    exact ex_r (st_iret rfl rfl rfl) s40
  refine ex_s (st_icmp rfl) ?_
  by_cases c38 : q1 = 2
  · refine ex_pc (if_pos c38) ?_
    refine ex_s (am_nb (m := 2) (pc1 := 164) (ls1 := [(0, .ref 157), (1, .int q1), (2, .int q2), (3, .int q3), (6, .int q6)]) (st1 := [.int q3, .int q6, .ref 157]) (H1 := H) (k1 := 0) (n1 := 0) (by with_unfolding_all rfl)) ?_
    rw [if_pos c38] at kk
    exact kk
  · refine ex_pc (if_neg c38) ?_
    refine ex_s (am_nb (m := 1) (pc1 := 164) (ls1 := [(0, .ref 157), (1, .int q1), (2, .int q2), (3, .int q3), (6, .int q6)]) (st1 := [.int q2, .int q6, .ref 157]) (H1 := H) (k1 := 0) (n1 := 0) (by with_unfolding_all rfl)) ?_
    rw [if_neg c38] at kk
    exact kk

set_option maxRecDepth 100000 in
theorem tj342_128 {sL : Nat} {sx : Nat → Int32} {h b N : Nat} {T : List am_C} {r : Int32} {a' : xA} {q1 : Int32} {q2 : Int32} {q3 : Int32} {q4 : Int32} {q6 : Int32} {a : xA} {H : am_H} (hS : xS h b T a H) (e : j342_128 N h b q1 q2 q3 q4 q6 a = some (r, a')) : am_E sL sx am_cs 342 128 [(0, .ref 157), (1, .int q1), (2, .int q2), (3, .int q3), (4, .int q4), (6, .int q6)] [] H (some (.int r)) (fun H1 => xS h b T a' H1) := by
  unfold j342_128 at e
  refine ex_s (am_nb (m := 1) (pc1 := 130) (ls1 := [(0, .ref 157), (1, .int q1), (2, .int q2), (3, .int q3), (4, .int q4), (6, .int q6)]) (st1 := [.int q4]) (H1 := H) (k1 := 0) (n1 := 0) (by with_unfolding_all rfl)) ?_
  refine ex_s (st_if rfl) ?_
  by_cases c37 : q4 = 0
  · have e := (if_pos c37).symm.trans e
    refine ex_pc (if_pos c37) ?_
    exact le_E (l1 := [(0, .ref 157), (1, .int q1), (2, .int q2), (3, .int q3), (6, .int q6)]) ⟨rfl, rfl, rfl, rfl, rfl, trivial⟩ rfl (tj342_151  hS e)
  · have e := (if_neg c37).symm.trans e
    refine ex_pc (if_neg c37) ?_
    refine ex_s (am_nb (m := 4) (pc1 := 138) (ls1 := [(0, .ref 157), (1, .int q1), (2, .int q2), (3, .int q3), (4, .int q4), (6, .int q6)]) (st1 := [.int 2, .int q1, .int q6, .ref 157]) (H1 := H) (k1 := 0) (n1 := 0) (by with_unfolding_all rfl)) ?_
    have kk : am_E sL sx am_cs 342 146 [(0, .ref 157), (1, .int q1), (2, .int q2), (3, .int q3), (4, .int q4), (6, .int q6)] [.int (if q1 = 2 then (q3) else (q2)), .int q6, .ref 157] H (some (.int r)) (fun H1 => xS h b T a' H1) := by
      refine ex_s (am_nb (m := 2) (pc1 := 148) (ls1 := [(0, .ref 157), (1, .int q1), (2, .int q2), (3, .int q3), (4, .int q4), (6, .int q6)]) (st1 := [.int 1, .int 0, .int (if q1 = 2 then (q3) else (q2)), .int q6, .ref 157]) (H1 := H) (k1 := 0) (n1 := 0) (by with_unfolding_all rfl)) ?_
      obtain ⟨a48, e47, e⟩ := xb1_some e
      refine ex_cv0 (as := [.int q6, .int (if q1 = 2 then (q3) else (q2)), .int 0, .int 1]) (rest := []) rfl rfl rfl rfl (hS.obj rfl (by decide)) rfl (by with_unfolding_all rfl) (by with_unfolding_all rfl) (tf332_typeAll hS e47) (fun H45 s46 => ?_)
      exact le_E (l1 := [(0, .ref 157), (1, .int q1), (2, .int q2), (3, .int q3), (6, .int q6)]) ⟨rfl, rfl, rfl, rfl, rfl, trivial⟩ rfl (tj342_151  s46 e)
    refine ex_s (st_icmp rfl) ?_
    by_cases c44 : q1 = 2
    · refine ex_pc (if_pos c44) ?_
      refine ex_s (am_nb (m := 2) (pc1 := 146) (ls1 := [(0, .ref 157), (1, .int q1), (2, .int q2), (3, .int q3), (4, .int q4), (6, .int q6)]) (st1 := [.int q3, .int q6, .ref 157]) (H1 := H) (k1 := 0) (n1 := 0) (by with_unfolding_all rfl)) ?_
      rw [if_pos c44] at kk
      exact kk
    · refine ex_pc (if_neg c44) ?_
      refine ex_s (am_nb (m := 1) (pc1 := 146) (ls1 := [(0, .ref 157), (1, .int q1), (2, .int q2), (3, .int q3), (4, .int q4), (6, .int q6)]) (st1 := [.int q2, .int q6, .ref 157]) (H1 := H) (k1 := 0) (n1 := 0) (by with_unfolding_all rfl)) ?_
      rw [if_neg c44] at kk
      exact kk

set_option maxRecDepth 100000 in
theorem tj342_97 {sL : Nat} {sx : Nat → Int32} {h b N : Nat} {T : List am_C} {r : Int32} {a' : xA} {q1 : Int32} {q2 : Int32} {q3 : Int32} {q4 : Int32} {q5 : Int32} {q6 : Int32} {a : xA} {H : am_H} (hS : xS h b T a H) (e : j342_97 N h b q1 q2 q3 q4 q5 q6 a = some (r, a')) : am_E sL sx am_cs 342 97 [(0, .ref 157), (1, .int q1), (2, .int q2), (3, .int q3), (4, .int q4), (5, .int q5), (6, .int q6)] [] H (some (.int r)) (fun H1 => xS h b T a' H1) := by
  unfold j342_97 at e
  refine ex_s (am_nb (m := 1) (pc1 := 99) (ls1 := [(0, .ref 157), (1, .int q1), (2, .int q2), (3, .int q3), (4, .int q4), (5, .int q5), (6, .int q6)]) (st1 := [.int q5]) (H1 := H) (k1 := 0) (n1 := 0) (by with_unfolding_all rfl)) ?_
  refine ex_s (st_if rfl) ?_
  by_cases c28 : q5 = 0
  · have e := (if_pos c28).symm.trans e
    refine ex_pc (if_pos c28) ?_
    refine ex_s (am_nb (m := 1) (pc1 := 127) (ls1 := [(0, .ref 157), (1, .int q1), (2, .int q2), (3, .int q3), (4, .int q4), (5, .int q5), (6, .int q6)]) (st1 := [.int (-1)]) (H1 := H) (k1 := 0) (n1 := 0) (by with_unfolding_all rfl)) ?_
    cases e
    exact ex_r (st_iret rfl rfl rfl) hS
  · have e := (if_neg c28).symm.trans e
    refine ex_pc (if_neg c28) ?_
    refine ex_s (am_nb (m := 2) (pc1 := 104) (ls1 := [(0, .ref 157), (1, .int q1), (2, .int q2), (3, .int q3), (4, .int q4), (5, .int q5), (6, .int q6)]) (st1 := [.int 2, .int q1]) (H1 := H) (k1 := 0) (n1 := 0) (by with_unfolding_all rfl)) ?_
    refine ex_s (st_icmp rfl) ?_
    by_cases c33 : q1 = 2
    · have e := (if_pos c33).symm.trans e
      refine ex_pc (if_pos c33) ?_
      refine ex_s (am_nb (m := 1) (pc1 := 108) (ls1 := [(0, .ref 157), (1, .int q1), (2, .int q2), (3, .int q3), (4, .int q4), (5, .int q5), (6, .int q6)]) (st1 := [.ref 157]) (H1 := H) (k1 := 0) (n1 := 0) (by with_unfolding_all rfl)) ?_
      refine xe_get (v := .int (a 157 51)) hS rfl rfl (by decide) rfl ?_
      refine ex_s (am_nb (m := 1) (pc1 := 112) (ls1 := [(0, .ref 157), (1, .int q1), (2, .int q2), (3, .int q3), (4, .int q4), (5, .int q5), (6, .int q6)]) (st1 := [.int q2, .int (a 157 51)]) (H1 := H) (k1 := 0) (n1 := 0) (by with_unfolding_all rfl)) ?_
      refine ex_s (st_icmp rfl) ?_
      by_cases c34 : (a 157 51) = q2
      · have e := (if_pos c34).symm.trans e
        refine ex_pc (if_pos c34) ?_
        exact le_E (l1 := [(0, .ref 157), (1, .int q1), (2, .int q2), (3, .int q3), (4, .int q4), (6, .int q6)]) ⟨rfl, rfl, rfl, rfl, rfl, rfl, trivial⟩ rfl (tj342_128  hS e)
      · have e := (if_neg c34).symm.trans e
        refine ex_pc (if_neg c34) ?_
        refine ex_s (am_nb (m := 2) (pc1 := 127) (ls1 := [(0, .ref 157), (1, .int q1), (2, .int q2), (3, .int q3), (4, .int q4), (5, .int q5), (6, .int q6)]) (st1 := [.int (-1)]) (H1 := H) (k1 := 0) (n1 := 0) (by with_unfolding_all rfl)) ?_
        cases e
        exact ex_r (st_iret rfl rfl rfl) hS
    · have e := (if_neg c33).symm.trans e
      refine ex_pc (if_neg c33) ?_
      refine ex_s (am_nb (m := 1) (pc1 := 119) (ls1 := [(0, .ref 157), (1, .int q1), (2, .int q2), (3, .int q3), (4, .int q4), (5, .int q5), (6, .int q6)]) (st1 := [.ref 157]) (H1 := H) (k1 := 0) (n1 := 0) (by with_unfolding_all rfl)) ?_
      refine xe_get (v := .int (a 157 52)) hS rfl rfl (by decide) rfl ?_
      refine ex_s (am_nb (m := 1) (pc1 := 123) (ls1 := [(0, .ref 157), (1, .int q1), (2, .int q2), (3, .int q3), (4, .int q4), (5, .int q5), (6, .int q6)]) (st1 := [.int q3, .int (a 157 52)]) (H1 := H) (k1 := 0) (n1 := 0) (by with_unfolding_all rfl)) ?_
      refine ex_s (st_icmp rfl) ?_
      by_cases c49 : (a 157 52) = q3
      · have e := (if_pos c49).symm.trans e
        refine ex_pc (if_pos c49) ?_
        exact le_E (l1 := [(0, .ref 157), (1, .int q1), (2, .int q2), (3, .int q3), (4, .int q4), (6, .int q6)]) ⟨rfl, rfl, rfl, rfl, rfl, rfl, trivial⟩ rfl (tj342_128  hS e)
      · have e := (if_neg c49).symm.trans e
        refine ex_pc (if_neg c49) ?_
        refine ex_s (am_nb (m := 1) (pc1 := 127) (ls1 := [(0, .ref 157), (1, .int q1), (2, .int q2), (3, .int q3), (4, .int q4), (5, .int q5), (6, .int q6)]) (st1 := [.int (-1)]) (H1 := H) (k1 := 0) (n1 := 0) (by with_unfolding_all rfl)) ?_
        cases e
        exact ex_r (st_iret rfl rfl rfl) hS

set_option maxRecDepth 100000 in
theorem tj342_282 {sL : Nat} {sx : Nat → Int32} {h b N : Nat} {T : List am_C} {r : Int32} {a' : xA} {q7 : Int32} {q8 : Int32} {t0 : Int32} {a : xA} {H : am_H} (hS : xS h b T a H) (e : j342_282 N h b q7 q8 t0 a = some (r, a')) : am_E sL sx am_cs 342 282 [(7, .int q7), (8, .int q8)] [.int t0] H (some (.int r)) (fun H1 => xS h b T a' H1) := by
  unfold j342_282 at e
  refine ex_s (am_nb (m := 3) (pc1 := 287) (ls1 := [(9, .int t0), (7, .int q7), (8, .int q8)]) (st1 := [.int (-1), .int t0]) (H1 := H) (k1 := 0) (n1 := 0) (by with_unfolding_all rfl)) ?_
  have kk : am_E sL sx am_cs 342 302 [(9, .int t0), (7, .int q7), (8, .int q8)] [.int (if t0 = (-1) then (-1 : Int32) else ((q7 + q8) + t0))] H (some (.int r)) (fun H1 => xS h b T a' H1) := by
    cases e
    exact ex_r (st_iret rfl rfl rfl) hS
  refine ex_s (st_icmp rfl) ?_
  by_cases c69 : t0 = (-1)
  · refine ex_pc (if_pos c69) ?_
    refine ex_s (am_nb (m := 2) (pc1 := 302) (ls1 := [(9, .int t0), (7, .int q7), (8, .int q8)]) (st1 := [.int (-1)]) (H1 := H) (k1 := 0) (n1 := 0) (by with_unfolding_all rfl)) ?_
    rw [if_pos c69] at kk
    exact kk
  · refine ex_pc (if_neg c69) ?_
    refine ex_s (am_nb (m := 5) (pc1 := 302) (ls1 := [(9, .int t0), (7, .int q7), (8, .int q8)]) (st1 := [.int ((q7 + q8) + t0)]) (H1 := H) (k1 := 0) (n1 := 0) (by with_unfolding_all rfl)) ?_
    rw [if_neg c69] at kk
    exact kk

set_option maxRecDepth 100000 in
theorem tj342_228 {sL : Nat} {sx : Nat → Int32} {h b N : Nat} {T : List am_C} {r : Int32} {a' : xA} {q1 : Int32} {q2 : Int32} {q3 : Int32} {q4 : Int32} {q7 : Int32} {a : xA} {H : am_H} (hS : xS h b T a H) (e : j342_228 N h b q1 q2 q3 q4 q7 a = some (r, a')) : am_E sL sx am_cs 342 228 [(0, .ref 157), (1, .int q1), (2, .int q2), (3, .int q3), (4, .int q4), (7, .int q7)] [] H (some (.int r)) (fun H1 => xS h b T a' H1) := by
  unfold j342_228 at e
  refine ex_s (am_nb (m := 3) (pc1 := 232) (ls1 := [(0, .ref 157), (1, .int q1), (2, .int q2), (3, .int q3), (4, .int q4), (7, .int q7)]) (st1 := [.int 6, .int q1, .ref 157]) (H1 := H) (k1 := 0) (n1 := 0) (by with_unfolding_all rfl)) ?_
  have kk : am_E sL sx am_cs 342 243 [(0, .ref 157), (1, .int q1), (2, .int q2), (3, .int q3), (4, .int q4), (7, .int q7)] [.int (if q1 = 6 then (0 : Int32) else (a 157 51)), .ref 157] H (some (.int r)) (fun H1 => xS h b T a' H1) := by
    refine ex_s (am_nb (m := 2) (pc1 := 246) (ls1 := [(0, .ref 157), (1, .int q1), (2, .int q2), (3, .int q3), (4, .int q4), (7, .int q7)]) (st1 := [.int q4, .int q2, .int (if q1 = 6 then (0 : Int32) else (a 157 51)), .ref 157]) (H1 := H) (k1 := 0) (n1 := 0) (by with_unfolding_all rfl)) ?_
    obtain ⟨r64, a65, e63, e⟩ := xb2_some e
    refine ex_cv1 (as := [.int (if q1 = 6 then (0 : Int32) else (a 157 51)), .int q2, .int q4]) (rest := []) rfl rfl rfl rfl (hS.obj rfl (by decide)) rfl (by with_unfolding_all rfl) (by with_unfolding_all rfl) (tf343_upDown hS e63) (fun H61 s62 => ?_)
    refine ex_s (am_nb (m := 3) (pc1 := 254) (ls1 := [(8, .int r64), (0, .ref 157), (1, .int q1), (2, .int q2), (3, .int q3), (4, .int q4), (7, .int q7)]) (st1 := [.int (-1), .int r64]) (H1 := H61) (k1 := 0) (n1 := 0) (by with_unfolding_all rfl)) ?_
    refine ex_s (st_icmp rfl) ?_
    by_cases c68 : r64 = (-1)
    · have e := (if_pos c68).symm.trans e
      refine ex_pc (if_pos c68) ?_
      refine ex_s (am_nb (m := 2) (pc1 := 282) (ls1 := [(8, .int r64), (0, .ref 157), (1, .int q1), (2, .int q2), (3, .int q3), (4, .int q4), (7, .int q7)]) (st1 := [.int (-1)]) (H1 := H61) (k1 := 0) (n1 := 0) (by with_unfolding_all rfl)) ?_
      exact le_E (l1 := [(7, .int q7), (8, .int r64)]) ⟨rfl, rfl, trivial⟩ rfl (tj342_282  s62 e)
    · have e := (if_neg c68).symm.trans e
      refine ex_pc (if_neg c68) ?_
      refine ex_s (am_nb (m := 3) (pc1 := 264) (ls1 := [(8, .int r64), (0, .ref 157), (1, .int q1), (2, .int q2), (3, .int q3), (4, .int q4), (7, .int q7)]) (st1 := [.int 4, .int q1, .ref 157]) (H1 := H61) (k1 := 0) (n1 := 0) (by with_unfolding_all rfl)) ?_
      have kk : am_E sL sx am_cs 342 275 [(8, .int r64), (0, .ref 157), (1, .int q1), (2, .int q2), (3, .int q3), (4, .int q4), (7, .int q7)] [.int (if q1 = 4 then (a65 157 52) else (0 : Int32)), .ref 157] H61 (some (.int r)) (fun H1 => xS h b T a' H1) := by
        refine ex_s (am_nb (m := 3) (pc1 := 279) (ls1 := [(8, .int r64), (0, .ref 157), (1, .int q1), (2, .int q2), (3, .int q3), (4, .int q4), (7, .int q7)]) (st1 := [.int q4, .int q2, .int q3, .int (if q1 = 4 then (a65 157 52) else (0 : Int32)), .ref 157]) (H1 := H61) (k1 := 0) (n1 := 0) (by with_unfolding_all rfl)) ?_
        obtain ⟨r74, a75, e73, e⟩ := xb2_some e
        refine ex_cv1 (as := [.int (if q1 = 4 then (a65 157 52) else (0 : Int32)), .int q3, .int q2, .int q4]) (rest := []) rfl rfl rfl rfl (s62.obj rfl (by decide)) rfl (by with_unfolding_all rfl) (by with_unfolding_all rfl) (tf346_across s62 e73) (fun H71 s72 => ?_)
        exact le_E (l1 := [(7, .int q7), (8, .int r64)]) ⟨rfl, rfl, trivial⟩ rfl (tj342_282  s72 e)
      refine ex_s (st_icmp rfl) ?_
      by_cases c70 : q1 = 4
      · refine ex_pc (if_pos c70) ?_
        refine ex_s (am_nb (m := 1) (pc1 := 268) (ls1 := [(8, .int r64), (0, .ref 157), (1, .int q1), (2, .int q2), (3, .int q3), (4, .int q4), (7, .int q7)]) (st1 := [.ref 157, .ref 157]) (H1 := H61) (k1 := 0) (n1 := 0) (by with_unfolding_all rfl)) ?_
        refine xe_get (v := .int (a65 157 52)) s62 rfl rfl (by decide) rfl ?_
        refine ex_s (am_nb (m := 1) (pc1 := 275) (ls1 := [(8, .int r64), (0, .ref 157), (1, .int q1), (2, .int q2), (3, .int q3), (4, .int q4), (7, .int q7)]) (st1 := [.int (a65 157 52), .ref 157]) (H1 := H61) (k1 := 0) (n1 := 0) (by with_unfolding_all rfl)) ?_
        rw [if_pos c70] at kk
        exact kk
      · refine ex_pc (if_neg c70) ?_
        refine ex_s (am_nb (m := 1) (pc1 := 275) (ls1 := [(8, .int r64), (0, .ref 157), (1, .int q1), (2, .int q2), (3, .int q3), (4, .int q4), (7, .int q7)]) (st1 := [.int 0, .ref 157]) (H1 := H61) (k1 := 0) (n1 := 0) (by with_unfolding_all rfl)) ?_
        rw [if_neg c70] at kk
        exact kk
  refine ex_s (st_icmp rfl) ?_
  by_cases c60 : q1 = 6
  · refine ex_pc (if_pos c60) ?_
    refine ex_s (am_nb (m := 2) (pc1 := 243) (ls1 := [(0, .ref 157), (1, .int q1), (2, .int q2), (3, .int q3), (4, .int q4), (7, .int q7)]) (st1 := [.int 0, .ref 157]) (H1 := H) (k1 := 0) (n1 := 0) (by with_unfolding_all rfl)) ?_
    rw [if_pos c60] at kk
    exact kk
  · refine ex_pc (if_neg c60) ?_
    refine ex_s (am_nb (m := 1) (pc1 := 240) (ls1 := [(0, .ref 157), (1, .int q1), (2, .int q2), (3, .int q3), (4, .int q4), (7, .int q7)]) (st1 := [.ref 157, .ref 157]) (H1 := H) (k1 := 0) (n1 := 0) (by with_unfolding_all rfl)) ?_
    refine xe_get (v := .int (a 157 51)) hS rfl rfl (by decide) rfl ?_
    rw [if_neg c60] at kk
    exact kk

set_option maxRecDepth 100000 in
theorem tj342_199 {sL : Nat} {sx : Nat → Int32} {h b N : Nat} {T : List am_C} {r : Int32} {a' : xA} {q1 : Int32} {q2 : Int32} {q3 : Int32} {q4 : Int32} {q6 : Int32} {t0 : Int32} {a : xA} {H : am_H} (hS : xS h b T a H) (e : j342_199 N h b q1 q2 q3 q4 q6 t0 a = some (r, a')) : am_E sL sx am_cs 342 199 [(0, .ref 157), (1, .int q1), (2, .int q2), (3, .int q3), (4, .int q4), (6, .int q6)] [.int t0] H (some (.int r)) (fun H1 => xS h b T a' H1) := by
  unfold j342_199 at e
  refine ex_s (am_nb (m := 3) (pc1 := 204) (ls1 := [(7, .int t0), (0, .ref 157), (1, .int q1), (2, .int q2), (3, .int q3), (4, .int q4), (6, .int q6)]) (st1 := [.int (-1), .int t0]) (H1 := H) (k1 := 0) (n1 := 0) (by with_unfolding_all rfl)) ?_
  refine ex_s (st_icmp rfl) ?_
  by_cases c56 : t0 = (-1)
  · have e := (if_pos c56).symm.trans e
    refine ex_pc (if_pos c56) ?_
    refine ex_s (am_nb (m := 1) (pc1 := 208) (ls1 := [(7, .int t0), (0, .ref 157), (1, .int q1), (2, .int q2), (3, .int q3), (4, .int q4), (6, .int q6)]) (st1 := [.int (-1)]) (H1 := H) (k1 := 0) (n1 := 0) (by with_unfolding_all rfl)) ?_
    cases e
    exact ex_r (st_iret rfl rfl rfl) hS
  · have e := (if_neg c56).symm.trans e
    refine ex_pc (if_neg c56) ?_
    refine ex_s (am_nb (m := 1) (pc1 := 211) (ls1 := [(7, .int t0), (0, .ref 157), (1, .int q1), (2, .int q2), (3, .int q3), (4, .int q4), (6, .int q6)]) (st1 := [.int q4]) (H1 := H) (k1 := 0) (n1 := 0) (by with_unfolding_all rfl)) ?_
    refine ex_s (st_if rfl) ?_
    by_cases c59 : q4 = 0
    · have e := (if_pos c59).symm.trans e
      refine ex_pc (if_pos c59) ?_
      exact le_E (l1 := [(0, .ref 157), (1, .int q1), (2, .int q2), (3, .int q3), (4, .int q4), (7, .int t0)]) ⟨rfl, rfl, rfl, rfl, rfl, rfl, trivial⟩ rfl (tj342_228  hS e)
    · have e := (if_neg c59).symm.trans e
      refine ex_pc (if_neg c59) ?_
      refine ex_s (am_nb (m := 2) (pc1 := 216) (ls1 := [(7, .int t0), (0, .ref 157), (1, .int q1), (2, .int q2), (3, .int q3), (4, .int q4), (6, .int q6)]) (st1 := [.int 4, .int q1]) (H1 := H) (k1 := 0) (n1 := 0) (by with_unfolding_all rfl)) ?_
      refine ex_s (st_icmp rfl) ?_
      by_cases c77 : q1 ≤ 4
      · have e := (if_pos c77).symm.trans e
        refine ex_pc (if_pos c77) ?_
        exact le_E (l1 := [(0, .ref 157), (1, .int q1), (2, .int q2), (3, .int q3), (4, .int q4), (7, .int t0)]) ⟨rfl, rfl, rfl, rfl, rfl, rfl, trivial⟩ rfl (tj342_228  hS e)
      · have e := (if_neg c77).symm.trans e
        refine ex_pc (if_neg c77) ?_
        refine ex_s (am_nb (m := 5) (pc1 := 225) (ls1 := [(7, .int t0), (0, .ref 157), (1, .int q1), (2, .int q2), (3, .int q3), (4, .int q4), (6, .int q6)]) (st1 := [.int 1, .int 0, .int 0, .int q6, .ref 157]) (H1 := H) (k1 := 0) (n1 := 0) (by with_unfolding_all rfl)) ?_
        obtain ⟨a81, e80, e⟩ := xb1_some e
        refine ex_cv0 (as := [.int q6, .int 0, .int 0, .int 1]) (rest := []) rfl rfl rfl rfl (hS.obj rfl (by decide)) rfl (by with_unfolding_all rfl) (by with_unfolding_all rfl) (tf332_typeAll hS e80) (fun H78 s79 => ?_)
        exact le_E (l1 := [(0, .ref 157), (1, .int q1), (2, .int q2), (3, .int q3), (4, .int q4), (7, .int t0)]) ⟨rfl, rfl, rfl, rfl, rfl, rfl, trivial⟩ rfl (tj342_228  s79 e)

set_option maxRecDepth 100000 in
theorem tj342_182 {sL : Nat} {sx : Nat → Int32} {h b N : Nat} {T : List am_C} {r : Int32} {a' : xA} {q1 : Int32} {q2 : Int32} {q3 : Int32} {q4 : Int32} {q6 : Int32} {a : xA} {H : am_H} (hS : xS h b T a H) (e : j342_182 N h b q1 q2 q3 q4 q6 a = some (r, a')) : am_E sL sx am_cs 342 182 [(0, .ref 157), (1, .int q1), (2, .int q2), (3, .int q3), (4, .int q4), (6, .int q6)] [] H (some (.int r)) (fun H1 => xS h b T a' H1) := by
  unfold j342_182 at e
  refine ex_s (am_nb (m := 2) (pc1 := 184) (ls1 := [(0, .ref 157), (1, .int q1), (2, .int q2), (3, .int q3), (4, .int q4), (6, .int q6)]) (st1 := [.int 4, .int q1]) (H1 := H) (k1 := 0) (n1 := 0) (by with_unfolding_all rfl)) ?_
  refine ex_s (st_icmp rfl) ?_
  by_cases c55 : q1 = 4
  · have e := (if_pos c55).symm.trans e
    refine ex_pc (if_pos c55) ?_
    refine ex_s (am_nb (m := 2) (pc1 := 199) (ls1 := [(0, .ref 157), (1, .int q1), (2, .int q2), (3, .int q3), (4, .int q4), (6, .int q6)]) (st1 := [.int 0]) (H1 := H) (k1 := 0) (n1 := 0) (by with_unfolding_all rfl)) ?_
    exact le_E (l1 := [(0, .ref 157), (1, .int q1), (2, .int q2), (3, .int q3), (4, .int q4), (6, .int q6)]) ⟨rfl, rfl, rfl, rfl, rfl, rfl, trivial⟩ rfl (tj342_199  hS e)
  · have e := (if_neg c55).symm.trans e
    refine ex_pc (if_neg c55) ?_
    refine ex_s (am_nb (m := 4) (pc1 := 196) (ls1 := [(0, .ref 157), (1, .int q1), (2, .int q2), (3, .int q3), (4, .int q4), (6, .int q6)]) (st1 := [.int 0, .int 0, .int q6, .ref 157]) (H1 := H) (k1 := 0) (n1 := 0) (by with_unfolding_all rfl)) ?_
    obtain ⟨r85, a86, e84, e⟩ := xb2_some e
    refine ex_cv1 (as := [.int q6, .int 0, .int 0]) (rest := []) rfl rfl rfl rfl (hS.obj rfl (by decide)) rfl (by with_unfolding_all rfl) (by with_unfolding_all rfl) (tf333_bytesOf hS e84) (fun H82 s83 => ?_)
    exact le_E (l1 := [(0, .ref 157), (1, .int q1), (2, .int q2), (3, .int q3), (4, .int q4), (6, .int q6)]) ⟨rfl, rfl, rfl, rfl, rfl, rfl, trivial⟩ rfl (tj342_199  s83 e)

set_option maxRecDepth 100000 in
theorem tf342_way {sL : Nat} {sx : Nat → Int32} {h b N : Nat} {T : List am_C} {r : Int32} {a' : xA} {x0 : Int32} {x1 : Int32} {x2 : Int32} {x3 : Int32} {a : xA} {H : am_H} (hS : xS h b T a H) (e : f342_way N h b x0 x1 x2 x3 a = some (r, a')) : am_E sL sx am_cs 342 0 [(0, .ref 157), (1, .int x0), (2, .int x1), (3, .int x2), (4, .int x3)] [] H (some (.int r)) (fun H1 => xS h b T a' H1) := by
  unfold f342_way at e
  refine ex_s (am_nb (m := 1) (pc1 := 1) (ls1 := [(0, .ref 157), (1, .int x0), (2, .int x1), (3, .int x2), (4, .int x3)]) (st1 := [.ref 157]) (H1 := H) (k1 := 0) (n1 := 0) (by with_unfolding_all rfl)) ?_
  refine xe_get (v := .int (a 157 51)) hS rfl rfl (by decide) rfl ?_
  refine ex_s (am_nb (m := 1) (pc1 := 5) (ls1 := [(0, .ref 157), (1, .int x0), (2, .int x1), (3, .int x2), (4, .int x3)]) (st1 := [.int (-1), .int (a 157 51)]) (H1 := H) (k1 := 0) (n1 := 0) (by with_unfolding_all rfl)) ?_
  have kk : am_E sL sx am_cs 342 13 [(0, .ref 157), (1, .int x0), (2, .int x1), (3, .int x2), (4, .int x3)] [.int (if (a 157 51) = (-1) then (0 : Int32) else (1 : Int32))] H (some (.int r)) (fun H1 => xS h b T a' H1) := by
    refine ex_s (am_nb (m := 3) (pc1 := 17) (ls1 := [(5, .int (if (a 157 51) = (-1) then (0 : Int32) else (1 : Int32))), (0, .ref 157), (1, .int x0), (2, .int x1), (3, .int x2), (4, .int x3)]) (st1 := [.int 1, .int x0]) (H1 := H) (k1 := 0) (n1 := 0) (by with_unfolding_all rfl)) ?_
    have kk : am_E sL sx am_cs 342 57 [(5, .int (if (a 157 51) = (-1) then (0 : Int32) else (1 : Int32))), (0, .ref 157), (1, .int x0), (2, .int x1), (3, .int x2), (4, .int x3)] [.int (if x0 = 1 then (9 : Int32) else (if x0 = 2 then (18 : Int32) else (if x0 = 3 then (19 : Int32) else (if x0 = 5 then (20 : Int32) else (8 : Int32)))))] H (some (.int r)) (fun H1 => xS h b T a' H1) := by
      refine ex_s (am_nb (m := 3) (pc1 := 61) (ls1 := [(6, .int (if x0 = 1 then (9 : Int32) else (if x0 = 2 then (18 : Int32) else (if x0 = 3 then (19 : Int32) else (if x0 = 5 then (20 : Int32) else (8 : Int32)))))), (5, .int (if (a 157 51) = (-1) then (0 : Int32) else (1 : Int32))), (0, .ref 157), (1, .int x0), (2, .int x1), (3, .int x2), (4, .int x3)]) (st1 := [.int 1, .int x0]) (H1 := H) (k1 := 0) (n1 := 0) (by with_unfolding_all rfl)) ?_
      refine ex_s (st_icmp rfl) ?_
      by_cases c6 : x0 = 1
      · have e := (if_pos c6).symm.trans e
        refine ex_pc (if_pos c6) ?_
        refine ex_s (am_nb (m := 1) (pc1 := 66) (ls1 := [(6, .int (if x0 = 1 then (9 : Int32) else (if x0 = 2 then (18 : Int32) else (if x0 = 3 then (19 : Int32) else (if x0 = 5 then (20 : Int32) else (8 : Int32)))))), (5, .int (if (a 157 51) = (-1) then (0 : Int32) else (1 : Int32))), (0, .ref 157), (1, .int x0), (2, .int x1), (3, .int x2), (4, .int x3)]) (st1 := [.int x3]) (H1 := H) (k1 := 0) (n1 := 0) (by with_unfolding_all rfl)) ?_
        refine ex_s (st_if rfl) ?_
        by_cases c8 : x3 = 0
        · have e := (if_pos c8).symm.trans e
          refine ex_pc (if_pos c8) ?_
          exact le_E (l1 := [(0, .ref 157), (2, .int x1), (3, .int x2)]) ⟨rfl, rfl, rfl, trivial⟩ rfl (tj342_78  hS e)
        · have e := (if_neg c8).symm.trans e
          refine ex_pc (if_neg c8) ?_
          refine ex_s (am_nb (m := 5) (pc1 := 75) (ls1 := [(6, .int (if x0 = 1 then (9 : Int32) else (if x0 = 2 then (18 : Int32) else (if x0 = 3 then (19 : Int32) else (if x0 = 5 then (20 : Int32) else (8 : Int32)))))), (5, .int (if (a 157 51) = (-1) then (0 : Int32) else (1 : Int32))), (0, .ref 157), (1, .int x0), (2, .int x1), (3, .int x2), (4, .int x3)]) (st1 := [.int 1, .int x2, .int x1, .int 9, .ref 157]) (H1 := H) (k1 := 0) (n1 := 0) (by with_unfolding_all rfl)) ?_
          obtain ⟨a17, e16, e⟩ := xb1_some e
          refine ex_cv0 (as := [.int 9, .int x1, .int x2, .int 1]) (rest := []) rfl rfl rfl rfl (hS.obj rfl (by decide)) rfl (by with_unfolding_all rfl) (by with_unfolding_all rfl) (tf332_typeAll hS e16) (fun H14 s15 => ?_)
          exact le_E (l1 := [(0, .ref 157), (2, .int x1), (3, .int x2)]) ⟨rfl, rfl, rfl, trivial⟩ rfl (tj342_78  s15 e)
      · have e := (if_neg c6).symm.trans e
        refine ex_pc (if_neg c6) ?_
        refine ex_s (am_nb (m := 2) (pc1 := 89) (ls1 := [(6, .int (if x0 = 1 then (9 : Int32) else (if x0 = 2 then (18 : Int32) else (if x0 = 3 then (19 : Int32) else (if x0 = 5 then (20 : Int32) else (8 : Int32)))))), (5, .int (if (a 157 51) = (-1) then (0 : Int32) else (1 : Int32))), (0, .ref 157), (1, .int x0), (2, .int x1), (3, .int x2), (4, .int x3)]) (st1 := [.int 2, .int x0]) (H1 := H) (k1 := 0) (n1 := 0) (by with_unfolding_all rfl)) ?_
        refine ex_s (st_icmp rfl) ?_
        by_cases c22 : x0 = 2
        · have e := (if_pos c22).symm.trans e
          refine ex_pc (if_pos c22) ?_
          exact le_E (l1 := [(0, .ref 157), (1, .int x0), (2, .int x1), (3, .int x2), (4, .int x3), (5, .int (if (a 157 51) = (-1) then (0 : Int32) else (1 : Int32))), (6, .int (if x0 = 1 then (9 : Int32) else (if x0 = 2 then (18 : Int32) else (if x0 = 3 then (19 : Int32) else (if x0 = 5 then (20 : Int32) else (8 : Int32))))))]) ⟨rfl, rfl, rfl, rfl, rfl, rfl, rfl, trivial⟩ rfl (tj342_97  hS e)
        · have e := (if_neg c22).symm.trans e
          refine ex_pc (if_neg c22) ?_
          refine ex_s (am_nb (m := 2) (pc1 := 94) (ls1 := [(6, .int (if x0 = 1 then (9 : Int32) else (if x0 = 2 then (18 : Int32) else (if x0 = 3 then (19 : Int32) else (if x0 = 5 then (20 : Int32) else (8 : Int32)))))), (5, .int (if (a 157 51) = (-1) then (0 : Int32) else (1 : Int32))), (0, .ref 157), (1, .int x0), (2, .int x1), (3, .int x2), (4, .int x3)]) (st1 := [.int 3, .int x0]) (H1 := H) (k1 := 0) (n1 := 0) (by with_unfolding_all rfl)) ?_
          refine ex_s (st_icmp rfl) ?_
          by_cases c50 : x0 = 3
          · have e := (if_pos c50).symm.trans e
            refine ex_pc (if_pos c50) ?_
            exact le_E (l1 := [(0, .ref 157), (1, .int x0), (2, .int x1), (3, .int x2), (4, .int x3), (5, .int (if (a 157 51) = (-1) then (0 : Int32) else (1 : Int32))), (6, .int (if x0 = 1 then (9 : Int32) else (if x0 = 2 then (18 : Int32) else (if x0 = 3 then (19 : Int32) else (if x0 = 5 then (20 : Int32) else (8 : Int32))))))]) ⟨rfl, rfl, rfl, rfl, rfl, rfl, rfl, trivial⟩ rfl (tj342_97  hS e)
          · have e := (if_neg c50).symm.trans e
            refine ex_pc (if_neg c50) ?_
            refine ex_s (am_nb (m := 2) (pc1 := 172) (ls1 := [(6, .int (if x0 = 1 then (9 : Int32) else (if x0 = 2 then (18 : Int32) else (if x0 = 3 then (19 : Int32) else (if x0 = 5 then (20 : Int32) else (8 : Int32)))))), (5, .int (if (a 157 51) = (-1) then (0 : Int32) else (1 : Int32))), (0, .ref 157), (1, .int x0), (2, .int x1), (3, .int x2), (4, .int x3)]) (st1 := [.int 6, .int x0]) (H1 := H) (k1 := 0) (n1 := 0) (by with_unfolding_all rfl)) ?_
            refine ex_s (st_icmp rfl) ?_
            by_cases c53 : 6 ≤ x0
            · have e := (if_pos c53).symm.trans e
              refine ex_pc (if_pos c53) ?_
              exact le_E (l1 := [(0, .ref 157), (1, .int x0), (2, .int x1), (3, .int x2), (4, .int x3), (6, .int (if x0 = 1 then (9 : Int32) else (if x0 = 2 then (18 : Int32) else (if x0 = 3 then (19 : Int32) else (if x0 = 5 then (20 : Int32) else (8 : Int32))))))]) ⟨rfl, rfl, rfl, rfl, rfl, rfl, trivial⟩ rfl (tj342_182  hS e)
            · have e := (if_neg c53).symm.trans e
              refine ex_pc (if_neg c53) ?_
              refine ex_s (am_nb (m := 1) (pc1 := 177) (ls1 := [(6, .int (if x0 = 1 then (9 : Int32) else (if x0 = 2 then (18 : Int32) else (if x0 = 3 then (19 : Int32) else (if x0 = 5 then (20 : Int32) else (8 : Int32)))))), (5, .int (if (a 157 51) = (-1) then (0 : Int32) else (1 : Int32))), (0, .ref 157), (1, .int x0), (2, .int x1), (3, .int x2), (4, .int x3)]) (st1 := [.int (if (a 157 51) = (-1) then (0 : Int32) else (1 : Int32))]) (H1 := H) (k1 := 0) (n1 := 0) (by with_unfolding_all rfl)) ?_
              refine ex_s (st_if rfl) ?_
              by_cases c87 : (if (a 157 51) = (-1) then (0 : Int32) else (1 : Int32)) = 0
              · have e := (if_pos c87).symm.trans e
                refine ex_pc (if_pos c87) ?_
                refine ex_s (am_nb (m := 1) (pc1 := 181) (ls1 := [(6, .int (if x0 = 1 then (9 : Int32) else (if x0 = 2 then (18 : Int32) else (if x0 = 3 then (19 : Int32) else (if x0 = 5 then (20 : Int32) else (8 : Int32)))))), (5, .int (if (a 157 51) = (-1) then (0 : Int32) else (1 : Int32))), (0, .ref 157), (1, .int x0), (2, .int x1), (3, .int x2), (4, .int x3)]) (st1 := [.int (-1)]) (H1 := H) (k1 := 0) (n1 := 0) (by with_unfolding_all rfl)) ?_
                cases e
                exact ex_r (st_iret rfl rfl rfl) hS
              · have e := (if_neg c87).symm.trans e
                refine ex_pc (if_neg c87) ?_
                exact le_E (l1 := [(0, .ref 157), (1, .int x0), (2, .int x1), (3, .int x2), (4, .int x3), (6, .int (if x0 = 1 then (9 : Int32) else (if x0 = 2 then (18 : Int32) else (if x0 = 3 then (19 : Int32) else (if x0 = 5 then (20 : Int32) else (8 : Int32))))))]) ⟨rfl, rfl, rfl, rfl, rfl, rfl, trivial⟩ rfl (tj342_182  hS e)
    refine ex_s (st_icmp rfl) ?_
    by_cases c2 : x0 = 1
    · refine ex_pc (if_pos c2) ?_
      refine ex_s (am_nb (m := 2) (pc1 := 57) (ls1 := [(5, .int (if (a 157 51) = (-1) then (0 : Int32) else (1 : Int32))), (0, .ref 157), (1, .int x0), (2, .int x1), (3, .int x2), (4, .int x3)]) (st1 := [.int 9]) (H1 := H) (k1 := 0) (n1 := 0) (by with_unfolding_all rfl)) ?_
      rw [if_pos c2] at kk
      exact kk
    · refine ex_pc (if_neg c2) ?_
      refine ex_s (am_nb (m := 2) (pc1 := 27) (ls1 := [(5, .int (if (a 157 51) = (-1) then (0 : Int32) else (1 : Int32))), (0, .ref 157), (1, .int x0), (2, .int x1), (3, .int x2), (4, .int x3)]) (st1 := [.int 2, .int x0]) (H1 := H) (k1 := 0) (n1 := 0) (by with_unfolding_all rfl)) ?_
      refine ex_s (st_icmp rfl) ?_
      by_cases c3 : x0 = 2
      · refine ex_pc (if_pos c3) ?_
        refine ex_s (am_nb (m := 2) (pc1 := 57) (ls1 := [(5, .int (if (a 157 51) = (-1) then (0 : Int32) else (1 : Int32))), (0, .ref 157), (1, .int x0), (2, .int x1), (3, .int x2), (4, .int x3)]) (st1 := [.int 18]) (H1 := H) (k1 := 0) (n1 := 0) (by with_unfolding_all rfl)) ?_
        rw [if_neg c2, if_pos c3] at kk
        exact kk
      · refine ex_pc (if_neg c3) ?_
        refine ex_s (am_nb (m := 2) (pc1 := 37) (ls1 := [(5, .int (if (a 157 51) = (-1) then (0 : Int32) else (1 : Int32))), (0, .ref 157), (1, .int x0), (2, .int x1), (3, .int x2), (4, .int x3)]) (st1 := [.int 3, .int x0]) (H1 := H) (k1 := 0) (n1 := 0) (by with_unfolding_all rfl)) ?_
        refine ex_s (st_icmp rfl) ?_
        by_cases c4 : x0 = 3
        · refine ex_pc (if_pos c4) ?_
          refine ex_s (am_nb (m := 2) (pc1 := 57) (ls1 := [(5, .int (if (a 157 51) = (-1) then (0 : Int32) else (1 : Int32))), (0, .ref 157), (1, .int x0), (2, .int x1), (3, .int x2), (4, .int x3)]) (st1 := [.int 19]) (H1 := H) (k1 := 0) (n1 := 0) (by with_unfolding_all rfl)) ?_
          rw [if_neg c2, if_neg c3, if_pos c4] at kk
          exact kk
        · refine ex_pc (if_neg c4) ?_
          refine ex_s (am_nb (m := 2) (pc1 := 47) (ls1 := [(5, .int (if (a 157 51) = (-1) then (0 : Int32) else (1 : Int32))), (0, .ref 157), (1, .int x0), (2, .int x1), (3, .int x2), (4, .int x3)]) (st1 := [.int 5, .int x0]) (H1 := H) (k1 := 0) (n1 := 0) (by with_unfolding_all rfl)) ?_
          refine ex_s (st_icmp rfl) ?_
          by_cases c5 : x0 = 5
          · refine ex_pc (if_pos c5) ?_
            refine ex_s (am_nb (m := 2) (pc1 := 57) (ls1 := [(5, .int (if (a 157 51) = (-1) then (0 : Int32) else (1 : Int32))), (0, .ref 157), (1, .int x0), (2, .int x1), (3, .int x2), (4, .int x3)]) (st1 := [.int 20]) (H1 := H) (k1 := 0) (n1 := 0) (by with_unfolding_all rfl)) ?_
            rw [if_neg c2, if_neg c3, if_neg c4, if_pos c5] at kk
            exact kk
          · refine ex_pc (if_neg c5) ?_
            refine ex_s (am_nb (m := 1) (pc1 := 57) (ls1 := [(5, .int (if (a 157 51) = (-1) then (0 : Int32) else (1 : Int32))), (0, .ref 157), (1, .int x0), (2, .int x1), (3, .int x2), (4, .int x3)]) (st1 := [.int 8]) (H1 := H) (k1 := 0) (n1 := 0) (by with_unfolding_all rfl)) ?_
            rw [if_neg c2, if_neg c3, if_neg c4, if_neg c5] at kk
            exact kk
  refine ex_s (st_icmp rfl) ?_
  by_cases c1 : (a 157 51) = (-1)
  · refine ex_pc (if_pos c1) ?_
    refine ex_s (am_nb (m := 1) (pc1 := 13) (ls1 := [(0, .ref 157), (1, .int x0), (2, .int x1), (3, .int x2), (4, .int x3)]) (st1 := [.int 0]) (H1 := H) (k1 := 0) (n1 := 0) (by with_unfolding_all rfl)) ?_
    rw [if_pos c1] at kk
    exact kk
  · refine ex_pc (if_neg c1) ?_
    refine ex_s (am_nb (m := 2) (pc1 := 13) (ls1 := [(0, .ref 157), (1, .int x0), (2, .int x1), (3, .int x2), (4, .int x3)]) (st1 := [.int 1]) (H1 := H) (k1 := 0) (n1 := 0) (by with_unfolding_all rfl)) ?_
    rw [if_neg c1] at kk
    exact kk

set_option maxRecDepth 100000 in
theorem tj340_90 {sL : Nat} {sx : Nat → Int32} {h b N : Nat} {T : List am_C} {R : Option Value} {F : am_H → Prop} {w1 : Int32} {w2 : Int32} {z : Nat × Int32 × xA} {rc : Int32 → Int32 → Int32 → xA → Option (Nat × Int32 × xA)} (k0 : z.1 = 0 → ∀ H2 : am_H, xS h b T z.2.2 H2 → am_E sL sx am_cs 340 96 [(0, .ref 157), (1, .int w1), (2, .int w2), (3, .int z.2.1)] [] H2 R F) (ih : ∀ (v3 : Int32) (v4 : Int32) (v5 : Int32) (a : xA) (H : am_H), xS h b T a H → rc v3 v4 v5 a = some z → am_E sL sx am_cs 340 44 [(0, .ref 157), (1, .int w1), (2, .int w2), (3, .int v3), (4, .int v4), (5, .int v5)] [] H R F) {q3 : Int32} {q4 : Int32} {q5 : Int32} {a : xA} {H : am_H} (hS : xS h b T a H) (e : j340_90 N h b rc w1 w2 q3 q4 q5 a = some z) : am_E sL sx am_cs 340 90 [(0, .ref 157), (1, .int w1), (2, .int w2), (3, .int q3), (4, .int q4), (5, .int q5)] [] H R F := by
  unfold j340_90 at e
  refine ex_s (am_nb (m := 2) (pc1 := 44) (ls1 := [(5, .int (q5 + 1)), (0, .ref 157), (1, .int w1), (2, .int w2), (3, .int q3), (4, .int q4)]) (st1 := []) (H1 := H) (k1 := 0) (n1 := 0) (by with_unfolding_all rfl)) ?_
  exact le_E (l1 := [(0, .ref 157), (1, .int w1), (2, .int w2), (3, .int q3), (4, .int q4), (5, .int (q5 + 1))]) ⟨rfl, rfl, rfl, rfl, rfl, rfl, trivial⟩ rfl (ih q3 q4 (q5 + 1) a H hS e)

set_option maxRecDepth 100000 in
theorem tj340_83 {sL : Nat} {sx : Nat → Int32} {h b N : Nat} {T : List am_C} {R : Option Value} {F : am_H → Prop} {w1 : Int32} {w2 : Int32} {z : Nat × Int32 × xA} {rc : Int32 → Int32 → Int32 → xA → Option (Nat × Int32 × xA)} (k0 : z.1 = 0 → ∀ H2 : am_H, xS h b T z.2.2 H2 → am_E sL sx am_cs 340 96 [(0, .ref 157), (1, .int w1), (2, .int w2), (3, .int z.2.1)] [] H2 R F) (ih : ∀ (v3 : Int32) (v4 : Int32) (v5 : Int32) (a : xA) (H : am_H), xS h b T a H → rc v3 v4 v5 a = some z → am_E sL sx am_cs 340 44 [(0, .ref 157), (1, .int w1), (2, .int w2), (3, .int v3), (4, .int v4), (5, .int v5)] [] H R F) {q5 : Int32} {q6 : Int32} {a : xA} {H : am_H} (hS : xS h b T a H) (e : j340_83 N h b rc w1 w2 q5 q6 a = some z) : am_E sL sx am_cs 340 83 [(0, .ref 157), (1, .int w1), (2, .int w2), (5, .int q5), (6, .int q6)] [] H R F := by
  unfold j340_83 at e
  refine ex_s (am_nb (m := 4) (pc1 := 90) (ls1 := [(4, .int q6), (3, .int q5), (0, .ref 157), (1, .int w1), (2, .int w2), (5, .int q5), (6, .int q6)]) (st1 := []) (H1 := H) (k1 := 0) (n1 := 0) (by with_unfolding_all rfl)) ?_
  exact le_E (l1 := [(0, .ref 157), (1, .int w1), (2, .int w2), (3, .int q5), (4, .int q6), (5, .int q5)]) ⟨rfl, rfl, rfl, rfl, rfl, rfl, trivial⟩ rfl (tj340_90 k0 ih  hS e)

set_option maxRecDepth 100000 in
theorem tl340_44 {sL : Nat} {sx : Nat → Int32} {h b N : Nat} {T : List am_C} {R : Option Value} {F : am_H → Prop} {w1 : Int32} {w2 : Int32} {z : Nat × Int32 × xA} (k0 : z.1 = 0 → ∀ H2 : am_H, xS h b T z.2.2 H2 → am_E sL sx am_cs 340 96 [(0, .ref 157), (1, .int w1), (2, .int w2), (3, .int z.2.1)] [] H2 R F) : ∀ (n : Nat) (v3 : Int32) (v4 : Int32) (v5 : Int32) (a : xA) (H : am_H), xS h b T a H → l340_44 N h b w1 w2 n v3 v4 v5 a = some z → am_E sL sx am_cs 340 44 [(0, .ref 157), (1, .int w1), (2, .int w2), (3, .int v3), (4, .int v4), (5, .int v5)] [] H R F := by
  intro n
  induction n with
  | zero =>
    intro v3 v4 v5 a H hS e
    cases e
  | succ n ih =>
    intro v3 v4 v5 a H hS e
    unfold l340_44 at e
    refine ex_s (am_nb (m := 2) (pc1 := 48) (ls1 := [(0, .ref 157), (1, .int w1), (2, .int w2), (3, .int v3), (4, .int v4), (5, .int v5)]) (st1 := [.int 6, .int v5]) (H1 := H) (k1 := 0) (n1 := 0) (by with_unfolding_all rfl)) ?_
    refine ex_s (st_icmp rfl) ?_
    by_cases c7 : 6 < v5
    · have e := (if_pos c7).symm.trans e
      refine ex_pc (if_pos c7) ?_
      cases e
      exact le_E (l1 := [(0, .ref 157), (1, .int w1), (2, .int w2), (3, .int v3)]) ⟨rfl, rfl, rfl, rfl, trivial⟩ rfl (k0 rfl H hS)
    · have e := (if_neg c7).symm.trans e
      refine ex_pc (if_neg c7) ?_
      refine ex_s (am_nb (m := 5) (pc1 := 57) (ls1 := [(0, .ref 157), (1, .int w1), (2, .int w2), (3, .int v3), (4, .int v4), (5, .int v5)]) (st1 := [.int 0, .int w2, .int w1, .int v5, .ref 157]) (H1 := H) (k1 := 0) (n1 := 0) (by with_unfolding_all rfl)) ?_
      obtain ⟨r11, a12, e10, e⟩ := xb2_some e
      refine ex_cv1 (as := [.int v5, .int w1, .int w2, .int 0]) (rest := []) rfl rfl rfl rfl (hS.obj rfl (by decide)) rfl (by with_unfolding_all rfl) (by with_unfolding_all rfl) (tf342_way hS e10) (fun H8 s9 => ?_)
      refine ex_s (am_nb (m := 3) (pc1 := 65) (ls1 := [(6, .int r11), (0, .ref 157), (1, .int w1), (2, .int w2), (3, .int v3), (4, .int v4), (5, .int v5)]) (st1 := [.int (-1), .int r11]) (H1 := H8) (k1 := 0) (n1 := 0) (by with_unfolding_all rfl)) ?_
      refine ex_s (st_icmp rfl) ?_
      by_cases c15 : r11 = (-1)
      · have e := (if_pos c15).symm.trans e
        refine ex_pc (if_pos c15) ?_
        exact le_E (l1 := [(0, .ref 157), (1, .int w1), (2, .int w2), (3, .int v3), (4, .int v4), (5, .int v5)]) ⟨rfl, rfl, rfl, rfl, rfl, rfl, trivial⟩ rfl (tj340_90 k0 ih  s9 e)
      · have e := (if_neg c15).symm.trans e
        refine ex_pc (if_neg c15) ?_
        refine ex_s (am_nb (m := 2) (pc1 := 70) (ls1 := [(6, .int r11), (0, .ref 157), (1, .int w1), (2, .int w2), (3, .int v3), (4, .int v4), (5, .int v5)]) (st1 := [.int (-1), .int v3]) (H1 := H8) (k1 := 0) (n1 := 0) (by with_unfolding_all rfl)) ?_
        refine ex_s (st_icmp rfl) ?_
        by_cases c18 : v3 = (-1)
        · have e := (if_pos c18).symm.trans e
          refine ex_pc (if_pos c18) ?_
          exact le_E (l1 := [(0, .ref 157), (1, .int w1), (2, .int w2), (5, .int v5), (6, .int r11)]) ⟨rfl, rfl, rfl, rfl, rfl, trivial⟩ rfl (tj340_83 k0 ih  s9 e)
        · have e := (if_neg c18).symm.trans e
          refine ex_pc (if_neg c18) ?_
          refine ex_s (am_nb (m := 2) (pc1 := 77) (ls1 := [(6, .int r11), (0, .ref 157), (1, .int w1), (2, .int w2), (3, .int v3), (4, .int v4), (5, .int v5)]) (st1 := [.int v4, .int r11]) (H1 := H8) (k1 := 0) (n1 := 0) (by with_unfolding_all rfl)) ?_
          refine ex_s (st_icmp rfl) ?_
          by_cases c20 : r11 < v4
          · have e := (if_pos c20).symm.trans e
            refine ex_pc (if_pos c20) ?_
            exact le_E (l1 := [(0, .ref 157), (1, .int w1), (2, .int w2), (5, .int v5), (6, .int r11)]) ⟨rfl, rfl, rfl, rfl, rfl, trivial⟩ rfl (tj340_83 k0 ih  s9 e)
          · have e := (if_neg c20).symm.trans e
            refine ex_pc (if_neg c20) ?_
            refine ex_s (am_nb (m := 1) (pc1 := 90) (ls1 := [(6, .int r11), (0, .ref 157), (1, .int w1), (2, .int w2), (3, .int v3), (4, .int v4), (5, .int v5)]) (st1 := []) (H1 := H8) (k1 := 0) (n1 := 0) (by with_unfolding_all rfl)) ?_
            exact le_E (l1 := [(0, .ref 157), (1, .int w1), (2, .int w2), (3, .int v3), (4, .int v4), (5, .int v5)]) ⟨rfl, rfl, rfl, rfl, rfl, rfl, trivial⟩ rfl (tj340_90 k0 ih  s9 e)

set_option maxRecDepth 100000 in
theorem tj340_36 {sL : Nat} {sx : Nat → Int32} {h b N : Nat} {T : List am_C} {a' : xA} {q1 : Int32} {q2 : Int32} {a : xA} {H : am_H} (hS : xS h b T a H) (e : j340_36 N h b q1 q2 a = some a') : am_E sL sx am_cs 340 36 [(0, .ref 157), (1, .int q1), (2, .int q2)] [] H none (fun H1 => xS h b T a' H1) := by
  unfold j340_36 at e
  refine ex_s (am_nb (m := 6) (pc1 := 44) (ls1 := [(5, .int 1), (4, .int 0), (3, .int (-1)), (0, .ref 157), (1, .int q1), (2, .int q2)]) (st1 := []) (H1 := H) (k1 := 0) (n1 := 0) (by with_unfolding_all rfl)) ?_
  obtain ⟨z21, e22, e⟩ := Option.bind_eq_some_iff.mp e
  refine le_E (l1 := [(0, .ref 157), (1, .int q1), (2, .int q2), (3, .int (-1)), (4, .int 0), (5, .int 1)]) ⟨rfl, rfl, rfl, rfl, rfl, rfl, trivial⟩ rfl (tl340_44 (z := z21)  (fun uz21_0 Hz210 sz210 => ?_) N (-1) 0 1 a H hS e22)
  refine ex_s (am_nb (m := 5) (pc1 := 101) (ls1 := [(0, .ref 157), (1, .int q1), (2, .int q2), (3, .int z21.2.1)]) (st1 := [.int 1, .int q2, .int q1, .int z21.2.1, .ref 157]) (H1 := Hz210) (k1 := 0) (n1 := 0) (by with_unfolding_all rfl)) ?_
  obtain ⟨r26, a27, e25, e⟩ := xb2_some e
  refine ex_cv1 (as := [.int z21.2.1, .int q1, .int q2, .int 1]) (rest := []) rfl rfl rfl rfl (sz210.obj rfl (by decide)) rfl (by with_unfolding_all rfl) (by with_unfolding_all rfl) (tf342_way sz210 e25) (fun H23 s24 => ?_)
  refine ex_s (am_nb (m := 3) (pc1 := 107) (ls1 := [(0, .ref 157), (1, .int q1), (2, .int q2), (3, .int z21.2.1)]) (st1 := [.int q1, .ref 157]) (H1 := H23) (k1 := 0) (n1 := 0) (by with_unfolding_all rfl)) ?_
  obtain ⟨a28, ha28, e⟩ := xw_some e
  refine xe_put (w := q1) s24 rfl rfl (by decide) rfl rfl rfl rfl (fun H29 s30 => ?_)
  have s30 : xS h b T a28 H29 := by rw [ha28]; exact s30
  refine ex_s (am_nb (m := 2) (pc1 := 112) (ls1 := [(0, .ref 157), (1, .int q1), (2, .int q2), (3, .int z21.2.1)]) (st1 := [.int q2, .ref 157]) (H1 := H29) (k1 := 0) (n1 := 0) (by with_unfolding_all rfl)) ?_
  obtain ⟨a31, ha31, e⟩ := xw_some e
  refine xe_put (w := q2) s30 rfl rfl (by decide) rfl rfl rfl rfl (fun H32 s33 => ?_)
  have s33 : xS h b T a31 H32 := by rw [ha31]; exact s33
  cases e
  exact ex_r (st_vret rfl rfl) s33

set_option maxRecDepth 100000 in
theorem tj340_17 {sL : Nat} {sx : Nat → Int32} {h b N : Nat} {T : List am_C} {a' : xA} {q1 : Int32} {q2 : Int32} {a : xA} {H : am_H} (hS : xS h b T a H) (e : j340_17 N h b q1 q2 a = some a') : am_E sL sx am_cs 340 17 [(0, .ref 157), (1, .int q1), (2, .int q2)] [] H none (fun H1 => xS h b T a' H1) := by
  unfold j340_17 at e
  refine ex_s (am_nb (m := 1) (pc1 := 18) (ls1 := [(0, .ref 157), (1, .int q1), (2, .int q2)]) (st1 := [.ref 157]) (H1 := H) (k1 := 0) (n1 := 0) (by with_unfolding_all rfl)) ?_
  refine xe_get (v := .int (a 157 53)) hS rfl rfl (by decide) rfl ?_
  refine ex_s (st_if rfl) ?_
  by_cases c6 : (a 157 53) = 0
  · have e := (if_pos c6).symm.trans e
    refine ex_pc (if_pos c6) ?_
    exact le_E (l1 := [(0, .ref 157), (1, .int q1), (2, .int q2)]) ⟨rfl, rfl, rfl, trivial⟩ rfl (tj340_36  hS e)
  · have e := (if_neg c6).symm.trans e
    refine ex_pc (if_neg c6) ?_
    refine ex_s (am_nb (m := 2) (pc1 := 26) (ls1 := [(0, .ref 157), (1, .int q1), (2, .int q2)]) (st1 := [.int 2, .ref 157]) (H1 := H) (k1 := 0) (n1 := 0) (by with_unfolding_all rfl)) ?_
    obtain ⟨r37, a38, e36, e⟩ := xb2_some e
    refine ex_cv1 (as := [.int 2]) (rest := []) rfl rfl rfl rfl (hS.obj rfl (by decide)) rfl (by with_unfolding_all rfl) (by with_unfolding_all rfl) (tf297_has hS e36) (fun H34 s35 => ?_)
    refine ex_s (st_if rfl) ?_
    by_cases c40 : r37 = 0
    · have e := (if_pos c40).symm.trans e
      refine ex_pc (if_pos c40) ?_
      refine ex_s (am_nb (m := 1) (pc1 := 33) (ls1 := [(0, .ref 157), (1, .int q1), (2, .int q2)]) (st1 := [.ref 157]) (H1 := H34) (k1 := 0) (n1 := 0) (by with_unfolding_all rfl)) ?_
      obtain ⟨a44, e43, e⟩ := xb1_some e
      refine ex_cv0 (as := []) (rest := []) rfl rfl rfl rfl (s35.obj rfl (by decide)) rfl (by with_unfolding_all rfl) (by with_unfolding_all rfl) (tf341_undress s35 e43) (fun H41 s42 => ?_)
      exact le_E (l1 := [(0, .ref 157), (1, .int q1), (2, .int q2)]) ⟨rfl, rfl, rfl, trivial⟩ rfl (tj340_36  s42 e)
    · have e := (if_neg c40).symm.trans e
      refine ex_pc (if_neg c40) ?_
      exact le_E (l1 := [(0, .ref 157), (1, .int q1), (2, .int q2)]) ⟨rfl, rfl, rfl, trivial⟩ rfl (tj340_36  s35 e)

set_option maxRecDepth 100000 in
theorem tf340_motion {sL : Nat} {sx : Nat → Int32} {h b N : Nat} {T : List am_C} {a' : xA} {x0 : Int32} {x1 : Int32} {a : xA} {H : am_H} (hS : xS h b T a H) (e : f340_motion N h b x0 x1 a = some a') : am_E sL sx am_cs 340 0 [(0, .ref 157), (1, .int x0), (2, .int x1)] [] H none (fun H1 => xS h b T a' H1) := by
  unfold f340_motion at e
  refine ex_s (am_nb (m := 1) (pc1 := 1) (ls1 := [(0, .ref 157), (1, .int x0), (2, .int x1)]) (st1 := [.ref 157]) (H1 := H) (k1 := 0) (n1 := 0) (by with_unfolding_all rfl)) ?_
  refine xe_get (v := .int (a 157 51)) hS rfl rfl (by decide) rfl ?_
  refine ex_s (am_nb (m := 1) (pc1 := 5) (ls1 := [(0, .ref 157), (1, .int x0), (2, .int x1)]) (st1 := [.int x0, .int (a 157 51)]) (H1 := H) (k1 := 0) (n1 := 0) (by with_unfolding_all rfl)) ?_
  refine ex_s (st_icmp rfl) ?_
  by_cases c3 : (a 157 51) = x0
  · have e := (if_pos c3).symm.trans e
    refine ex_pc (if_pos c3) ?_
    refine ex_s (am_nb (m := 1) (pc1 := 9) (ls1 := [(0, .ref 157), (1, .int x0), (2, .int x1)]) (st1 := [.ref 157]) (H1 := H) (k1 := 0) (n1 := 0) (by with_unfolding_all rfl)) ?_
    refine xe_get (v := .int (a 157 52)) hS rfl rfl (by decide) rfl ?_
    refine ex_s (am_nb (m := 1) (pc1 := 13) (ls1 := [(0, .ref 157), (1, .int x0), (2, .int x1)]) (st1 := [.int x1, .int (a 157 52)]) (H1 := H) (k1 := 0) (n1 := 0) (by with_unfolding_all rfl)) ?_
    refine ex_s (st_icmp rfl) ?_
    by_cases c4 : (a 157 52) = x1
    · have e := (if_pos c4).symm.trans e
      refine ex_pc (if_pos c4) ?_
      cases e
      exact ex_r (st_vret rfl rfl) hS
    · have e := (if_neg c4).symm.trans e
      refine ex_pc (if_neg c4) ?_
      exact le_E (l1 := [(0, .ref 157), (1, .int x0), (2, .int x1)]) ⟨rfl, rfl, rfl, trivial⟩ rfl (tj340_17  hS e)
  · have e := (if_neg c3).symm.trans e
    refine ex_pc (if_neg c3) ?_
    exact le_E (l1 := [(0, .ref 157), (1, .int x0), (2, .int x1)]) ⟨rfl, rfl, rfl, trivial⟩ rfl (tj340_17  hS e)

set_option maxRecDepth 100000 in
theorem tl336_50 {sL : Nat} {sx : Nat → Int32} {h b N : Nat} {T : List am_C} {R : Option Value} {F : am_H → Prop} {w1 : Int32} {w2 : Int32} {w3 : Int32} {w4 : Int32} {w5 : Int32} {z : Nat × Int32 × xA} (k0 : z.1 = 0 → ∀ H2 : am_H, xS h b T z.2.2 H2 → am_E sL sx am_cs 336 89 [(0, .ref 157), (1, .int w1), (2, .int w2), (3, .int w3), (4, .int w4), (5, .int w5), (6, .int z.2.1)] [] H2 R F) : ∀ (n : Nat) (v6 : Int32) (v7 : Int32) (a : xA) (H : am_H), xS h b T a H → l336_50 N h b w1 w2 w3 w4 w5 n v6 v7 a = some z → am_E sL sx am_cs 336 50 [(0, .ref 157), (1, .int w1), (2, .int w2), (3, .int w3), (4, .int w4), (5, .int w5), (6, .int v6), (7, .int v7)] [] H R F := by
  intro n
  induction n with
  | zero =>
    intro v6 v7 a H hS e
    cases e
  | succ n ih =>
    intro v6 v7 a H hS e
    unfold l336_50 at e
    refine ex_s (am_nb (m := 2) (pc1 := 53) (ls1 := [(0, .ref 157), (1, .int w1), (2, .int w2), (3, .int w3), (4, .int w4), (5, .int w5), (6, .int v6), (7, .int v7)]) (st1 := [.ref 157, .int v7]) (H1 := H) (k1 := 0) (n1 := 0) (by with_unfolding_all rfl)) ?_
    refine xe_get (v := .int (a 157 26)) hS rfl rfl (by decide) rfl ?_
    refine ex_s (st_icmp rfl) ?_
    by_cases c11 : (a 157 26) ≤ v7
    · have e := (if_pos c11).symm.trans e
      refine ex_pc (if_pos c11) ?_
      cases e
      exact le_E (l1 := [(0, .ref 157), (1, .int w1), (2, .int w2), (3, .int w3), (4, .int w4), (5, .int w5), (6, .int v6)]) ⟨rfl, rfl, rfl, rfl, rfl, rfl, rfl, trivial⟩ rfl (k0 rfl H hS)
    · have e := (if_neg c11).symm.trans e
      refine ex_pc (if_neg c11) ?_
      refine ex_s (am_nb (m := 1) (pc1 := 61) (ls1 := [(0, .ref 157), (1, .int w1), (2, .int w2), (3, .int w3), (4, .int w4), (5, .int w5), (6, .int v6), (7, .int v7)]) (st1 := [.int v6]) (H1 := H) (k1 := 0) (n1 := 0) (by with_unfolding_all rfl)) ?_
      refine ex_s (st_if rfl) ?_
      by_cases c12 : v6 = 0
      · have e := (if_pos c12).symm.trans e
        refine ex_pc (if_pos c12) ?_
        refine ex_s (am_nb (m := 7) (pc1 := 75) (ls1 := [(0, .ref 157), (1, .int w1), (2, .int w2), (3, .int w3), (4, .int w4), (5, .int w5), (6, .int v6), (7, .int v7)]) (st1 := [.int w3, .int v7, .int w5, .ref 157, .int v7, .int w5, .ref 157]) (H1 := H) (k1 := 0) (n1 := 0) (by with_unfolding_all rfl)) ?_
        obtain ⟨r16, a17, e15, e⟩ := xb2_some e
        refine ex_cv1 (as := [.int w5, .int v7, .int w3]) (rest := [.int v7, .int w5, .ref 157]) rfl rfl rfl rfl (hS.obj rfl (by decide)) rfl (by with_unfolding_all rfl) (by with_unfolding_all rfl) (tf337_movedCell hS e15) (fun H13 s14 => ?_)
        obtain ⟨r21, a22, e20, e⟩ := xb2_some e
        refine ex_cv1 (as := [.int w5, .int v7, .int r16]) (rest := []) rfl rfl rfl rfl (s14.obj rfl (by decide)) rfl (by with_unfolding_all rfl) (by with_unfolding_all rfl) (tf338_unlike s14 e20) (fun H18 s19 => ?_)
        refine ex_s (am_nb (m := 3) (pc1 := 50) (ls1 := [(7, .int (v7 + 1)), (6, .int r21), (0, .ref 157), (1, .int w1), (2, .int w2), (3, .int w3), (4, .int w4), (5, .int w5)]) (st1 := []) (H1 := H18) (k1 := 0) (n1 := 0) (by with_unfolding_all rfl)) ?_
        exact le_E (l1 := [(0, .ref 157), (1, .int w1), (2, .int w2), (3, .int w3), (4, .int w4), (5, .int w5), (6, .int r21), (7, .int (v7 + 1))]) ⟨rfl, rfl, rfl, rfl, rfl, rfl, rfl, rfl, trivial⟩ rfl (ih r21 (v7 + 1) a22 H18 s19 e)
      · have e := (if_neg c12).symm.trans e
        refine ex_pc (if_neg c12) ?_
        cases e
        exact le_E (l1 := [(0, .ref 157), (1, .int w1), (2, .int w2), (3, .int w3), (4, .int w4), (5, .int w5), (6, .int v6)]) ⟨rfl, rfl, rfl, rfl, rfl, rfl, rfl, trivial⟩ rfl (k0 rfl H hS)

set_option maxRecDepth 100000 in
theorem tj336_89 {sL : Nat} {sx : Nat → Int32} {h b N : Nat} {T : List am_C} {R : Option Value} {F : am_H → Prop} {w1 : Int32} {w2 : Int32} {w3 : Int32} {z : Nat × Int32 × xA} {rc : Int32 → Int32 → xA → Option (Nat × Int32 × xA)} (k0 : z.1 = 0 → ∀ H2 : am_H, xS h b T z.2.2 H2 → am_E sL sx am_cs 336 110 [(0, .ref 157), (1, .int w1), (2, .int w2), (3, .int w3), (4, .int z.2.1)] [] H2 R F) (ih : ∀ (v4 : Int32) (v5 : Int32) (a : xA) (H : am_H), xS h b T a H → rc v4 v5 a = some z → am_E sL sx am_cs 336 35 [(0, .ref 157), (1, .int w1), (2, .int w2), (3, .int w3), (4, .int v4), (5, .int v5)] [] H R F) {q4 : Int32} {q5 : Int32} {q6 : Int32} {a : xA} {H : am_H} (hS : xS h b T a H) (e : j336_89 N h b rc w1 w2 w3 q4 q5 q6 a = some z) : am_E sL sx am_cs 336 89 [(0, .ref 157), (1, .int w1), (2, .int w2), (3, .int w3), (4, .int q4), (5, .int q5), (6, .int q6)] [] H R F := by
  unfold j336_89 at e
  refine ex_s (am_nb (m := 2) (pc1 := 93) (ls1 := [(0, .ref 157), (1, .int w1), (2, .int w2), (3, .int w3), (4, .int q4), (5, .int q5), (6, .int q6)]) (st1 := [.int q6, .int q4]) (H1 := H) (k1 := 0) (n1 := 0) (by with_unfolding_all rfl)) ?_
  have kk : am_E sL sx am_cs 336 101 [(0, .ref 157), (1, .int w1), (2, .int w2), (3, .int w3), (4, .int q4), (5, .int q5), (6, .int q6)] [.int (if q6 = 0 then (0 : Int32) else (1 : Int32)), .int q4] H R F := by
    refine ex_s (am_nb (m := 4) (pc1 := 35) (ls1 := [(5, .int (q5 + 1)), (4, .int (q4 + (if q6 = 0 then (0 : Int32) else (1 : Int32)))), (0, .ref 157), (1, .int w1), (2, .int w2), (3, .int w3), (6, .int q6)]) (st1 := []) (H1 := H) (k1 := 0) (n1 := 0) (by with_unfolding_all rfl)) ?_
    exact le_E (l1 := [(0, .ref 157), (1, .int w1), (2, .int w2), (3, .int w3), (4, .int (q4 + (if q6 = 0 then (0 : Int32) else (1 : Int32)))), (5, .int (q5 + 1))]) ⟨rfl, rfl, rfl, rfl, rfl, rfl, trivial⟩ rfl (ih (q4 + (if q6 = 0 then (0 : Int32) else (1 : Int32))) (q5 + 1) a H hS e)
  refine ex_s (st_if rfl) ?_
  by_cases c25 : q6 = 0
  · refine ex_pc (if_pos c25) ?_
    refine ex_s (am_nb (m := 1) (pc1 := 101) (ls1 := [(0, .ref 157), (1, .int w1), (2, .int w2), (3, .int w3), (4, .int q4), (5, .int q5), (6, .int q6)]) (st1 := [.int 0, .int q4]) (H1 := H) (k1 := 0) (n1 := 0) (by with_unfolding_all rfl)) ?_
    rw [if_pos c25] at kk
    exact kk
  · refine ex_pc (if_neg c25) ?_
    refine ex_s (am_nb (m := 2) (pc1 := 101) (ls1 := [(0, .ref 157), (1, .int w1), (2, .int w2), (3, .int w3), (4, .int q4), (5, .int q5), (6, .int q6)]) (st1 := [.int 1, .int q4]) (H1 := H) (k1 := 0) (n1 := 0) (by with_unfolding_all rfl)) ?_
    rw [if_neg c25] at kk
    exact kk

set_option maxRecDepth 100000 in
theorem tl336_35 {sL : Nat} {sx : Nat → Int32} {h b N : Nat} {T : List am_C} {R : Option Value} {F : am_H → Prop} {w1 : Int32} {w2 : Int32} {w3 : Int32} {z : Nat × Int32 × xA} (k0 : z.1 = 0 → ∀ H2 : am_H, xS h b T z.2.2 H2 → am_E sL sx am_cs 336 110 [(0, .ref 157), (1, .int w1), (2, .int w2), (3, .int w3), (4, .int z.2.1)] [] H2 R F) : ∀ (n : Nat) (v4 : Int32) (v5 : Int32) (a : xA) (H : am_H), xS h b T a H → l336_35 N h b w1 w2 w3 n v4 v5 a = some z → am_E sL sx am_cs 336 35 [(0, .ref 157), (1, .int w1), (2, .int w2), (3, .int w3), (4, .int v4), (5, .int v5)] [] H R F := by
  intro n
  induction n with
  | zero =>
    intro v4 v5 a H hS e
    cases e
  | succ n ih =>
    intro v4 v5 a H hS e
    unfold l336_35 at e
    refine ex_s (am_nb (m := 2) (pc1 := 38) (ls1 := [(0, .ref 157), (1, .int w1), (2, .int w2), (3, .int w3), (4, .int v4), (5, .int v5)]) (st1 := [.ref 157, .int v5]) (H1 := H) (k1 := 0) (n1 := 0) (by with_unfolding_all rfl)) ?_
    refine xe_get (v := .int (a 157 27)) hS rfl rfl (by decide) rfl ?_
    refine ex_s (st_icmp rfl) ?_
    by_cases c8 : (a 157 27) ≤ v5
    · have e := (if_pos c8).symm.trans e
      refine ex_pc (if_pos c8) ?_
      cases e
      exact le_E (l1 := [(0, .ref 157), (1, .int w1), (2, .int w2), (3, .int w3), (4, .int v4)]) ⟨rfl, rfl, rfl, rfl, rfl, trivial⟩ rfl (k0 rfl H hS)
    · have e := (if_neg c8).symm.trans e
      refine ex_pc (if_neg c8) ?_
      refine ex_s (am_nb (m := 4) (pc1 := 50) (ls1 := [(7, .int 0), (6, .int 0), (0, .ref 157), (1, .int w1), (2, .int w2), (3, .int w3), (4, .int v4), (5, .int v5)]) (st1 := []) (H1 := H) (k1 := 0) (n1 := 0) (by with_unfolding_all rfl)) ?_
      obtain ⟨z23, e24, e⟩ := Option.bind_eq_some_iff.mp e
      refine le_E (l1 := [(0, .ref 157), (1, .int w1), (2, .int w2), (3, .int w3), (4, .int v4), (5, .int v5), (6, .int 0), (7, .int 0)]) ⟨rfl, rfl, rfl, rfl, rfl, rfl, rfl, rfl, trivial⟩ rfl (tl336_50 (z := z23)  (fun uz23_0 Hz230 sz230 => ?_) N 0 0 a H hS e24)
      exact le_E (l1 := [(0, .ref 157), (1, .int w1), (2, .int w2), (3, .int w3), (4, .int v4), (5, .int v5), (6, .int z23.2.1)]) ⟨rfl, rfl, rfl, rfl, rfl, rfl, rfl, trivial⟩ rfl (tj336_89 k0 ih  sz230 e)

set_option maxRecDepth 100000 in
theorem tj336_121 {sL : Nat} {sx : Nat → Int32} {h b N : Nat} {T : List am_C} {R : Option Value} {F : am_H → Prop} {z : Nat × Int32 × xA} {rc : Int32 → Int32 → Int32 → xA → Option (Nat × Int32 × xA)} (k0 : z.1 = 0 → ∀ H2 : am_H, xS h b T z.2.2 H2 → am_E sL sx am_cs 336 127 [(0, .ref 157), (1, .int z.2.1)] [] H2 R F) (ih : ∀ (v1 : Int32) (v2 : Int32) (v3 : Int32) (a : xA) (H : am_H), xS h b T a H → rc v1 v2 v3 a = some z → am_E sL sx am_cs 336 21 [(0, .ref 157), (1, .int v1), (2, .int v2), (3, .int v3)] [] H R F) {q1 : Int32} {q2 : Int32} {q3 : Int32} {a : xA} {H : am_H} (hS : xS h b T a H) (e : j336_121 N h b rc q1 q2 q3 a = some z) : am_E sL sx am_cs 336 121 [(0, .ref 157), (1, .int q1), (2, .int q2), (3, .int q3)] [] H R F := by
  unfold j336_121 at e
  refine ex_s (am_nb (m := 2) (pc1 := 21) (ls1 := [(3, .int (q3 + 1)), (0, .ref 157), (1, .int q1), (2, .int q2)]) (st1 := []) (H1 := H) (k1 := 0) (n1 := 0) (by with_unfolding_all rfl)) ?_
  exact le_E (l1 := [(0, .ref 157), (1, .int q1), (2, .int q2), (3, .int (q3 + 1))]) ⟨rfl, rfl, rfl, rfl, trivial⟩ rfl (ih q1 q2 (q3 + 1) a H hS e)

set_option maxRecDepth 100000 in
theorem tl336_21 {sL : Nat} {sx : Nat → Int32} {h b N : Nat} {T : List am_C} {R : Option Value} {F : am_H → Prop} {z : Nat × Int32 × xA} (k0 : z.1 = 0 → ∀ H2 : am_H, xS h b T z.2.2 H2 → am_E sL sx am_cs 336 127 [(0, .ref 157), (1, .int z.2.1)] [] H2 R F) : ∀ (n : Nat) (v1 : Int32) (v2 : Int32) (v3 : Int32) (a : xA) (H : am_H), xS h b T a H → l336_21 N h b n v1 v2 v3 a = some z → am_E sL sx am_cs 336 21 [(0, .ref 157), (1, .int v1), (2, .int v2), (3, .int v3)] [] H R F := by
  intro n
  induction n with
  | zero =>
    intro v1 v2 v3 a H hS e
    cases e
  | succ n ih =>
    intro v1 v2 v3 a H hS e
    unfold l336_21 at e
    refine ex_s (am_nb (m := 2) (pc1 := 23) (ls1 := [(0, .ref 157), (1, .int v1), (2, .int v2), (3, .int v3)]) (st1 := [.ref 157, .int v3]) (H1 := H) (k1 := 0) (n1 := 0) (by with_unfolding_all rfl)) ?_
    refine xe_get (v := .int (a 157 27)) hS rfl rfl (by decide) rfl ?_
    refine ex_s (st_icmp rfl) ?_
    by_cases c7 : (a 157 27) ≤ v3
    · have e := (if_pos c7).symm.trans e
      refine ex_pc (if_pos c7) ?_
      cases e
      exact le_E (l1 := [(0, .ref 157), (1, .int v1)]) ⟨rfl, rfl, trivial⟩ rfl (k0 rfl H hS)
    · have e := (if_neg c7).symm.trans e
      refine ex_pc (if_neg c7) ?_
      refine ex_s (am_nb (m := 4) (pc1 := 35) (ls1 := [(5, .int 0), (4, .int 0), (0, .ref 157), (1, .int v1), (2, .int v2), (3, .int v3)]) (st1 := []) (H1 := H) (k1 := 0) (n1 := 0) (by with_unfolding_all rfl)) ?_
      obtain ⟨z26, e27, e⟩ := Option.bind_eq_some_iff.mp e
      refine le_E (l1 := [(0, .ref 157), (1, .int v1), (2, .int v2), (3, .int v3), (4, .int 0), (5, .int 0)]) ⟨rfl, rfl, rfl, rfl, rfl, rfl, trivial⟩ rfl (tl336_35 (z := z26)  (fun uz26_0 Hz260 sz260 => ?_) N 0 0 a H hS e27)
      refine ex_s (am_nb (m := 2) (pc1 := 113) (ls1 := [(0, .ref 157), (1, .int v1), (2, .int v2), (3, .int v3), (4, .int z26.2.1)]) (st1 := [.int v2, .int z26.2.1]) (H1 := Hz260) (k1 := 0) (n1 := 0) (by with_unfolding_all rfl)) ?_
      refine ex_s (st_icmp rfl) ?_
      by_cases c29 : v2 ≤ z26.2.1
      · have e := (if_pos c29).symm.trans e
        refine ex_pc (if_pos c29) ?_
        exact le_E (l1 := [(0, .ref 157), (1, .int v1), (2, .int v2), (3, .int v3)]) ⟨rfl, rfl, rfl, rfl, trivial⟩ rfl (tj336_121 k0 ih  sz260 e)
      · have e := (if_neg c29).symm.trans e
        refine ex_pc (if_neg c29) ?_
        refine ex_s (am_nb (m := 4) (pc1 := 121) (ls1 := [(1, .int v3), (2, .int z26.2.1), (0, .ref 157), (3, .int v3), (4, .int z26.2.1)]) (st1 := []) (H1 := Hz260) (k1 := 0) (n1 := 0) (by with_unfolding_all rfl)) ?_
        exact le_E (l1 := [(0, .ref 157), (1, .int v3), (2, .int z26.2.1), (3, .int v3)]) ⟨rfl, rfl, rfl, rfl, trivial⟩ rfl (tj336_121 k0 ih  sz260 e)

set_option maxRecDepth 100000 in
theorem tl336_165 {sL : Nat} {sx : Nat → Int32} {h b N : Nat} {T : List am_C} {R : Option Value} {F : am_H → Prop} {w1 : Int32} {w3 : Int32} {z : Nat × xA} (k0 : z.1 = 0 → ∀ H2 : am_H, xS h b T z.2 H2 → am_E sL sx am_cs 336 200 [(0, .ref 157), (1, .int w1), (3, .int w3)] [] H2 R F) : ∀ (n : Nat) (v4 : Int32) (a : xA) (H : am_H), xS h b T a H → l336_165 N h b w1 w3 n v4 a = some z → am_E sL sx am_cs 336 165 [(0, .ref 157), (1, .int w1), (3, .int w3), (4, .int v4)] [] H R F := by
  intro n
  induction n with
  | zero =>
    intro v4 a H hS e
    cases e
  | succ n ih =>
    intro v4 a H hS e
    unfold l336_165 at e
    refine ex_s (am_nb (m := 2) (pc1 := 168) (ls1 := [(0, .ref 157), (1, .int w1), (3, .int w3), (4, .int v4)]) (st1 := [.ref 157, .int v4]) (H1 := H) (k1 := 0) (n1 := 0) (by with_unfolding_all rfl)) ?_
    refine xe_get (v := .int (a 157 26)) hS rfl rfl (by decide) rfl ?_
    refine ex_s (st_icmp rfl) ?_
    by_cases c42 : (a 157 26) ≤ v4
    · have e := (if_pos c42).symm.trans e
      refine ex_pc (if_pos c42) ?_
      cases e
      exact le_E (l1 := [(0, .ref 157), (1, .int w1), (3, .int w3)]) ⟨rfl, rfl, rfl, trivial⟩ rfl (k0 rfl H hS)
    · have e := (if_neg c42).symm.trans e
      refine ex_pc (if_neg c42) ?_
      refine ex_s (am_nb (m := 1) (pc1 := 175) (ls1 := [(0, .ref 157), (1, .int w1), (3, .int w3), (4, .int v4)]) (st1 := [.ref 157]) (H1 := H) (k1 := 0) (n1 := 0) (by with_unfolding_all rfl)) ?_
      refine xe_get (v := .ref 183) hS rfl rfl (by decide) rfl ?_
      refine ex_s (am_nb (m := 9) (pc1 := 190) (ls1 := [(0, .ref 157), (1, .int w1), (3, .int w3), (4, .int v4)]) (st1 := [.int w1, .int v4, .int w3, .ref 157, .int ((80 * w3) + v4), .ref 183]) (H1 := H) (k1 := 0) (n1 := 0) (by with_unfolding_all rfl)) ?_
      obtain ⟨r46, a47, e45, e⟩ := xb2_some e
      refine ex_cv1 (as := [.int w3, .int v4, .int w1]) (rest := [.int ((80 * w3) + v4), .ref 183]) rfl rfl rfl rfl (hS.obj rfl (by decide)) rfl (by with_unfolding_all rfl) (by with_unfolding_all rfl) (tf337_movedCell hS e45) (fun H43 s44 => ?_)
      obtain ⟨g51, e⟩ := xg_some e
      obtain ⟨a48, ha48, e⟩ := xw_some e
      refine xe_iast s44 rfl rfl g51 (fun H49 s50 => ?_)
      have s50 : xS h b T a48 H49 := by rw [ha48]; exact s50
      refine ex_s (am_nb (m := 2) (pc1 := 165) (ls1 := [(4, .int (v4 + 1)), (0, .ref 157), (1, .int w1), (3, .int w3)]) (st1 := []) (H1 := H49) (k1 := 0) (n1 := 0) (by with_unfolding_all rfl)) ?_
      exact le_E (l1 := [(0, .ref 157), (1, .int w1), (3, .int w3), (4, .int (v4 + 1))]) ⟨rfl, rfl, rfl, rfl, trivial⟩ rfl (ih (v4 + 1) a48 H49 s50 e)

set_option maxRecDepth 100000 in
theorem tl336_154 {sL : Nat} {sx : Nat → Int32} {h b N : Nat} {T : List am_C} {R : Option Value} {F : am_H → Prop} {w1 : Int32} {z : Nat × xA} (k0 : z.1 = 0 → ∀ H2 : am_H, xS h b T z.2 H2 → am_E sL sx am_cs 336 206 [] [] H2 R F) : ∀ (n : Nat) (v3 : Int32) (a : xA) (H : am_H), xS h b T a H → l336_154 N h b w1 n v3 a = some z → am_E sL sx am_cs 336 154 [(0, .ref 157), (1, .int w1), (3, .int v3)] [] H R F := by
  intro n
  induction n with
  | zero =>
    intro v3 a H hS e
    cases e
  | succ n ih =>
    intro v3 a H hS e
    unfold l336_154 at e
    refine ex_s (am_nb (m := 2) (pc1 := 156) (ls1 := [(0, .ref 157), (1, .int w1), (3, .int v3)]) (st1 := [.ref 157, .int v3]) (H1 := H) (k1 := 0) (n1 := 0) (by with_unfolding_all rfl)) ?_
    refine xe_get (v := .int (a 157 27)) hS rfl rfl (by decide) rfl ?_
    refine ex_s (st_icmp rfl) ?_
    by_cases c41 : (a 157 27) ≤ v3
    · have e := (if_pos c41).symm.trans e
      refine ex_pc (if_pos c41) ?_
      cases e
      exact le_E (l1 := []) trivial rfl (k0 rfl H hS)
    · have e := (if_neg c41).symm.trans e
      refine ex_pc (if_neg c41) ?_
      refine ex_s (am_nb (m := 2) (pc1 := 165) (ls1 := [(4, .int 0), (0, .ref 157), (1, .int w1), (3, .int v3)]) (st1 := []) (H1 := H) (k1 := 0) (n1 := 0) (by with_unfolding_all rfl)) ?_
      obtain ⟨z52, e53, e⟩ := Option.bind_eq_some_iff.mp e
      refine le_E (l1 := [(0, .ref 157), (1, .int w1), (3, .int v3), (4, .int 0)]) ⟨rfl, rfl, rfl, rfl, trivial⟩ rfl (tl336_165 (z := z52)  (fun uz52_0 Hz520 sz520 => ?_) N 0 a H hS e53)
      refine ex_s (am_nb (m := 2) (pc1 := 154) (ls1 := [(3, .int (v3 + 1)), (0, .ref 157), (1, .int w1)]) (st1 := []) (H1 := Hz520) (k1 := 0) (n1 := 0) (by with_unfolding_all rfl)) ?_
      exact le_E (l1 := [(0, .ref 157), (1, .int w1), (3, .int (v3 + 1))]) ⟨rfl, rfl, rfl, trivial⟩ rfl (ih (v3 + 1) z52.2 Hz520 sz520 e)

set_option maxRecDepth 100000 in
theorem tf336_rolls {sL : Nat} {sx : Nat → Int32} {h b N : Nat} {T : List am_C} {a' : xA} {a : xA} {H : am_H} (hS : xS h b T a H) (e : f336_rolls N h b a = some a') : am_E sL sx am_cs 336 0 [(0, .ref 157)] [] H none (fun H1 => xS h b T a' H1) := by
  unfold f336_rolls at e
  refine ex_s (am_nb (m := 2) (pc1 := 3) (ls1 := [(0, .ref 157)]) (st1 := [.int 22, .ref 157]) (H1 := H) (k1 := 0) (n1 := 0) (by with_unfolding_all rfl)) ?_
  obtain ⟨r4, a5, e3, e⟩ := xb2_some e
  refine ex_cv1 (as := [.int 22]) (rest := []) rfl rfl rfl rfl (hS.obj rfl (by decide)) rfl (by with_unfolding_all rfl) (by with_unfolding_all rfl) (tf297_has hS e3) (fun H1 s2 => ?_)
  refine ex_s (st_if rfl) ?_
  by_cases c6 : r4 = 0
  · have e := (if_pos c6).symm.trans e
    refine ex_pc (if_pos c6) ?_
    cases e
    exact ex_r (st_vret rfl rfl) s2
  · have e := (if_neg c6).symm.trans e
    refine ex_pc (if_neg c6) ?_
    refine ex_s (am_nb (m := 3) (pc1 := 13) (ls1 := [(1, .int 0), (0, .ref 157)]) (st1 := [.ref 157]) (H1 := H1) (k1 := 0) (n1 := 0) (by with_unfolding_all rfl)) ?_
    refine xe_get (v := .int (a5 157 27)) s2 rfl rfl (by decide) rfl ?_
    refine ex_s (am_nb (m := 5) (pc1 := 21) (ls1 := [(3, .int 0), (2, .int ((a5 157 27) + 1)), (1, .int 0), (0, .ref 157)]) (st1 := []) (H1 := H1) (k1 := 0) (n1 := 0) (by with_unfolding_all rfl)) ?_
    obtain ⟨z30, e31, e⟩ := Option.bind_eq_some_iff.mp e
    refine le_E (l1 := [(0, .ref 157), (1, .int 0), (2, .int ((a5 157 27) + 1)), (3, .int 0)]) ⟨rfl, rfl, rfl, rfl, trivial⟩ rfl (tl336_21 (z := z30)  (fun uz30_0 Hz300 sz300 => ?_) N 0 ((a5 157 27) + 1) 0 a5 H1 s2 e31)
    refine ex_s (am_nb (m := 1) (pc1 := 128) (ls1 := [(0, .ref 157), (1, .int z30.2.1)]) (st1 := [.int z30.2.1]) (H1 := Hz300) (k1 := 0) (n1 := 0) (by with_unfolding_all rfl)) ?_
    refine ex_s (st_if rfl) ?_
    by_cases c32 : z30.2.1 = 0
    · have e := (if_pos c32).symm.trans e
      refine ex_pc (if_pos c32) ?_
      cases e
      exact ex_r (st_vret rfl rfl) sz300
    · have e := (if_neg c32).symm.trans e
      refine ex_pc (if_neg c32) ?_
      refine ex_s (am_nb (m := 2) (pc1 := 134) (ls1 := [(0, .ref 157), (1, .int z30.2.1)]) (st1 := [.ref 157, .ref 157]) (H1 := Hz300) (k1 := 0) (n1 := 0) (by with_unfolding_all rfl)) ?_
      refine xe_get (v := .int (z30.2.2 157 27)) sz300 rfl rfl (by decide) rfl ?_
      refine ex_s (am_nb (m := 3) (pc1 := 140) (ls1 := [(0, .ref 157), (1, .int z30.2.1)]) (st1 := [.int 0, .int ((z30.2.2 157 27) - 1), .ref 157]) (H1 := Hz300) (k1 := 0) (n1 := 0) (by with_unfolding_all rfl)) ?_
      obtain ⟨a36, e35, e⟩ := xb1_some e
      refine ex_cv0 (as := [.int ((z30.2.2 157 27) - 1), .int 0]) (rest := []) rfl rfl rfl rfl (sz300.obj rfl (by decide)) rfl (by with_unfolding_all rfl) (by with_unfolding_all rfl) (tf340_motion sz300 e35) (fun H33 s34 => ?_)
      refine ex_s (am_nb (m := 5) (pc1 := 149) (ls1 := [(0, .ref 157), (1, .int z30.2.1)]) (st1 := [.int z30.2.1, .int 0, .int 0, .int 22, .ref 157]) (H1 := H33) (k1 := 0) (n1 := 0) (by with_unfolding_all rfl)) ?_
      obtain ⟨a40, e39, e⟩ := xb1_some e
      refine ex_cv0 (as := [.int 22, .int 0, .int 0, .int z30.2.1]) (rest := []) rfl rfl rfl rfl (s34.obj rfl (by decide)) rfl (by with_unfolding_all rfl) (by with_unfolding_all rfl) (tf332_typeAll s34 e39) (fun H37 s38 => ?_)
      refine ex_s (am_nb (m := 2) (pc1 := 154) (ls1 := [(3, .int 0), (0, .ref 157), (1, .int z30.2.1)]) (st1 := []) (H1 := H37) (k1 := 0) (n1 := 0) (by with_unfolding_all rfl)) ?_
      obtain ⟨z54, e55, e⟩ := Option.bind_eq_some_iff.mp e
      refine le_E (l1 := [(0, .ref 157), (1, .int z30.2.1), (3, .int 0)]) ⟨rfl, rfl, rfl, trivial⟩ rfl (tl336_154 (z := z54)  (fun uz54_0 Hz540 sz540 => ?_) N 0 a40 H37 s38 e55)
      cases e
      exact ex_r (st_vret rfl rfl) sz540

set_option maxRecDepth 100000 in
theorem tj350_63 {sL : Nat} {sx : Nat → Int32} {h b N : Nat} {T : List am_C} {R : Option Value} {F : am_H → Prop} {w1 : Int32} {z : Nat × xA} {rc : Int32 → xA → Option (Nat × xA)} (k0 : z.1 = 0 → ∀ H2 : am_H, xS h b T z.2 H2 → am_E sL sx am_cs 350 69 [] [] H2 R F) (ih : ∀ (v2 : Int32) (a : xA) (H : am_H), xS h b T a H → rc v2 a = some z → am_E sL sx am_cs 350 17 [(0, .ref 157), (1, .int w1), (2, .int v2)] [] H R F) {q2 : Int32} {a : xA} {H : am_H} (hS : xS h b T a H) (e : j350_63 N h b rc w1 q2 a = some z) : am_E sL sx am_cs 350 63 [(0, .ref 157), (1, .int w1), (2, .int q2)] [] H R F := by
  unfold j350_63 at e
  refine ex_s (am_nb (m := 2) (pc1 := 17) (ls1 := [(2, .int (q2 + 1)), (0, .ref 157), (1, .int w1)]) (st1 := []) (H1 := H) (k1 := 0) (n1 := 0) (by with_unfolding_all rfl)) ?_
  exact le_E (l1 := [(0, .ref 157), (1, .int w1), (2, .int (q2 + 1))]) ⟨rfl, rfl, rfl, trivial⟩ rfl (ih (q2 + 1) a H hS e)

set_option maxRecDepth 100000 in
theorem tl350_17 {sL : Nat} {sx : Nat → Int32} {h b N : Nat} {T : List am_C} {R : Option Value} {F : am_H → Prop} {w1 : Int32} {z : Nat × xA} (k0 : z.1 = 0 → ∀ H2 : am_H, xS h b T z.2 H2 → am_E sL sx am_cs 350 69 [] [] H2 R F) : ∀ (n : Nat) (v2 : Int32) (a : xA) (H : am_H), xS h b T a H → l350_17 N h b w1 n v2 a = some z → am_E sL sx am_cs 350 17 [(0, .ref 157), (1, .int w1), (2, .int v2)] [] H R F := by
  intro n
  induction n with
  | zero =>
    intro v2 a H hS e
    cases e
  | succ n ih =>
    intro v2 a H hS e
    unfold l350_17 at e
    refine ex_s (am_nb (m := 2) (pc1 := 19) (ls1 := [(0, .ref 157), (1, .int w1), (2, .int v2)]) (st1 := [.int 4, .int v2]) (H1 := H) (k1 := 0) (n1 := 0) (by with_unfolding_all rfl)) ?_
    refine ex_s (st_icmp rfl) ?_
    by_cases c3 : 4 ≤ v2
    · have e := (if_pos c3).symm.trans e
      refine ex_pc (if_pos c3) ?_
      cases e
      exact le_E (l1 := []) trivial rfl (k0 rfl H hS)
    · have e := (if_neg c3).symm.trans e
      refine ex_pc (if_neg c3) ?_
      refine ex_s (am_nb (m := 2) (pc1 := 24) (ls1 := [(0, .ref 157), (1, .int w1), (2, .int v2)]) (st1 := [.ref 157, .int w1]) (H1 := H) (k1 := 0) (n1 := 0) (by with_unfolding_all rfl)) ?_
      refine xe_get (v := .int (a 157 53)) hS rfl rfl (by decide) rfl ?_
      refine ex_s (am_nb (m := 7) (pc1 := 34) (ls1 := [(0, .ref 157), (1, .int w1), (2, .int v2)]) (st1 := [.int ((w1 &&& ((a 157 53) ^^^ (-1))) &&& ((1 : Int32) <<< (v2 &&& 31)))]) (H1 := H) (k1 := 0) (n1 := 0) (by with_unfolding_all rfl)) ?_
      refine ex_s (st_if rfl) ?_
      by_cases c5 : ((w1 &&& ((a 157 53) ^^^ (-1))) &&& ((1 : Int32) <<< (v2 &&& 31))) = 0
      · have e := (if_pos c5).symm.trans e
        refine ex_pc (if_pos c5) ?_
        refine ex_s (am_nb (m := 1) (pc1 := 63) (ls1 := [(0, .ref 157), (1, .int w1), (2, .int v2)]) (st1 := []) (H1 := H) (k1 := 0) (n1 := 0) (by with_unfolding_all rfl)) ?_
        exact le_E (l1 := [(0, .ref 157), (1, .int w1), (2, .int v2)]) ⟨rfl, rfl, rfl, trivial⟩ rfl (tj350_63 k0 ih  hS e)
      · have e := (if_neg c5).symm.trans e
        refine ex_pc (if_neg c5) ?_
        refine ex_s (am_nb (m := 7) (pc1 := 48) (ls1 := [(0, .ref 157), (1, .int w1), (2, .int v2)]) (st1 := [.int 1, .int 0, .int 0, .int (26 + v2), .ref 157]) (H1 := H) (k1 := 0) (n1 := 0) (by with_unfolding_all rfl)) ?_
        obtain ⟨a9, e8, e⟩ := xb1_some e
        refine ex_cv0 (as := [.int (26 + v2), .int 0, .int 0, .int 1]) (rest := []) rfl rfl rfl rfl (hS.obj rfl (by decide)) rfl (by with_unfolding_all rfl) (by with_unfolding_all rfl) (tf332_typeAll hS e8) (fun H6 s7 => ?_)
        refine ex_s (am_nb (m := 2) (pc1 := 53) (ls1 := [(0, .ref 157), (1, .int w1), (2, .int v2)]) (st1 := [.ref 157, .ref 157]) (H1 := H6) (k1 := 0) (n1 := 0) (by with_unfolding_all rfl)) ?_
        refine xe_get (v := .int (a9 157 53)) s7 rfl rfl (by decide) rfl ?_
        refine ex_s (am_nb (m := 4) (pc1 := 60) (ls1 := [(0, .ref 157), (1, .int w1), (2, .int v2)]) (st1 := [.int ((a9 157 53) ||| ((1 : Int32) <<< (v2 &&& 31))), .ref 157]) (H1 := H6) (k1 := 0) (n1 := 0) (by with_unfolding_all rfl)) ?_
        obtain ⟨a10, ha10, e⟩ := xw_some e
        refine xe_put (w := ((a9 157 53) ||| ((1 : Int32) <<< (v2 &&& 31)))) s7 rfl rfl (by decide) rfl rfl rfl rfl (fun H11 s12 => ?_)
        have s12 : xS h b T a10 H11 := by rw [ha10]; exact s12
        exact le_E (l1 := [(0, .ref 157), (1, .int w1), (2, .int v2)]) ⟨rfl, rfl, rfl, trivial⟩ rfl (tj350_63 k0 ih  s12 e)

set_option maxRecDepth 100000 in
theorem tj350_15 {sL : Nat} {sx : Nat → Int32} {h b N : Nat} {T : List am_C} {a' : xA} {q1 : Int32} {a : xA} {H : am_H} (hS : xS h b T a H) (e : j350_15 N h b q1 a = some a') : am_E sL sx am_cs 350 15 [(0, .ref 157), (1, .int q1)] [] H none (fun H1 => xS h b T a' H1) := by
  unfold j350_15 at e
  refine ex_s (am_nb (m := 2) (pc1 := 17) (ls1 := [(2, .int 0), (0, .ref 157), (1, .int q1)]) (st1 := []) (H1 := H) (k1 := 0) (n1 := 0) (by with_unfolding_all rfl)) ?_
  obtain ⟨z13, e14, e⟩ := Option.bind_eq_some_iff.mp e
  refine le_E (l1 := [(0, .ref 157), (1, .int q1), (2, .int 0)]) ⟨rfl, rfl, rfl, trivial⟩ rfl (tl350_17 (z := z13)  (fun uz13_0 Hz130 sz130 => ?_) N 0 a H hS e14)
  cases e
  exact ex_r (st_vret rfl rfl) sz130

set_option maxRecDepth 100000 in
theorem tf350_dresses {sL : Nat} {sx : Nat → Int32} {h b N : Nat} {T : List am_C} {a' : xA} {x0 : Int32} {a : xA} {H : am_H} (hS : xS h b T a H) (e : f350_dresses N h b x0 a = some a') : am_E sL sx am_cs 350 0 [(0, .ref 157), (1, .int x0)] [] H none (fun H1 => xS h b T a' H1) := by
  unfold f350_dresses at e
  refine ex_s (am_nb (m := 1) (pc1 := 1) (ls1 := [(0, .ref 157), (1, .int x0)]) (st1 := [.ref 157]) (H1 := H) (k1 := 0) (n1 := 0) (by with_unfolding_all rfl)) ?_
  refine xe_get (v := .int (a 157 53)) hS rfl rfl (by decide) rfl ?_
  refine ex_s (am_nb (m := 4) (pc1 := 8) (ls1 := [(0, .ref 157), (1, .int x0)]) (st1 := [.int ((a 157 53) &&& (x0 ^^^ (-1)))]) (H1 := H) (k1 := 0) (n1 := 0) (by with_unfolding_all rfl)) ?_
  refine ex_s (st_if rfl) ?_
  by_cases c2 : ((a 157 53) &&& (x0 ^^^ (-1))) = 0
  · have e := (if_pos c2).symm.trans e
    refine ex_pc (if_pos c2) ?_
    exact le_E (l1 := [(0, .ref 157), (1, .int x0)]) ⟨rfl, rfl, trivial⟩ rfl (tj350_15  hS e)
  · have e := (if_neg c2).symm.trans e
    refine ex_pc (if_neg c2) ?_
    refine ex_s (am_nb (m := 1) (pc1 := 12) (ls1 := [(0, .ref 157), (1, .int x0)]) (st1 := [.ref 157]) (H1 := H) (k1 := 0) (n1 := 0) (by with_unfolding_all rfl)) ?_
    obtain ⟨a18, e17, e⟩ := xb1_some e
    refine ex_cv0 (as := []) (rest := []) rfl rfl rfl rfl (hS.obj rfl (by decide)) rfl (by with_unfolding_all rfl) (by with_unfolding_all rfl) (tf341_undress hS e17) (fun H15 s16 => ?_)
    exact le_E (l1 := [(0, .ref 157), (1, .int x0)]) ⟨rfl, rfl, trivial⟩ rfl (tj350_15  s16 e)

set_option maxRecDepth 100000 in
theorem tj351_51 {sL : Nat} {sx : Nat → Int32} {h b N : Nat} {T : List am_C} {a' : xA} {q1 : Int32} {t0 : Int32} {a : xA} {H : am_H} (hS : xS h b T a H) (e : j351_51 N h b q1 t0 a = some a') : am_E sL sx am_cs 351 51 [(0, .ref 157), (1, .int q1)] [.int t0] H none (fun H1 => xS h b T a' H1) := by
  unfold j351_51 at e
  refine ex_s (am_nb (m := 3) (pc1 := 54) (ls1 := [(3, .int t0), (0, .ref 157), (1, .int q1)]) (st1 := [.int t0, .ref 157]) (H1 := H) (k1 := 0) (n1 := 0) (by with_unfolding_all rfl)) ?_
  have kk : am_E sL sx am_cs 351 64 [(3, .int t0), (0, .ref 157), (1, .int q1)] [.int (if t0 = 0 then (q1 + 1) else (-1 : Int32)), .ref 157] H none (fun H1 => xS h b T a' H1) := by
    obtain ⟨a27, ha27, e⟩ := xw_some e
    refine xe_put (w := (if t0 = 0 then (q1 + 1) else (-1 : Int32))) hS rfl rfl (by decide) rfl rfl rfl rfl (fun H28 s29 => ?_)
    have s29 : xS h b T a27 H28 := by rw [ha27]; exact s29
    refine ex_s (am_nb (m := 2) (pc1 := 69) (ls1 := [(3, .int t0), (0, .ref 157), (1, .int q1)]) (st1 := [.int t0, .ref 157]) (H1 := H28) (k1 := 0) (n1 := 0) (by with_unfolding_all rfl)) ?_
    have kk : am_E sL sx am_cs 351 77 [(3, .int t0), (0, .ref 157), (1, .int q1)] [.int (if t0 = 0 then (0 : Int32) else (-1 : Int32)), .ref 157] H28 none (fun H1 => xS h b T a' H1) := by
      obtain ⟨a31, ha31, e⟩ := xw_some e
      refine xe_put (w := (if t0 = 0 then (0 : Int32) else (-1 : Int32))) s29 rfl rfl (by decide) rfl rfl rfl rfl (fun H32 s33 => ?_)
      have s33 : xS h b T a31 H32 := by rw [ha31]; exact s33
      cases e
      exact ex_r (st_vret rfl rfl) s33
    refine ex_s (st_if rfl) ?_
    by_cases c30 : t0 = 0
    · refine ex_pc (if_pos c30) ?_
      refine ex_s (am_nb (m := 1) (pc1 := 77) (ls1 := [(3, .int t0), (0, .ref 157), (1, .int q1)]) (st1 := [.int 0, .ref 157]) (H1 := H28) (k1 := 0) (n1 := 0) (by with_unfolding_all rfl)) ?_
      rw [if_pos c30] at kk
      exact kk
    · refine ex_pc (if_neg c30) ?_
      refine ex_s (am_nb (m := 2) (pc1 := 77) (ls1 := [(3, .int t0), (0, .ref 157), (1, .int q1)]) (st1 := [.int (-1), .ref 157]) (H1 := H28) (k1 := 0) (n1 := 0) (by with_unfolding_all rfl)) ?_
      rw [if_neg c30] at kk
      exact kk
  refine ex_s (st_if rfl) ?_
  by_cases c26 : t0 = 0
  · refine ex_pc (if_pos c26) ?_
    refine ex_s (am_nb (m := 3) (pc1 := 64) (ls1 := [(3, .int t0), (0, .ref 157), (1, .int q1)]) (st1 := [.int (q1 + 1), .ref 157]) (H1 := H) (k1 := 0) (n1 := 0) (by with_unfolding_all rfl)) ?_
    rw [if_pos c26] at kk
    exact kk
  · refine ex_pc (if_neg c26) ?_
    refine ex_s (am_nb (m := 2) (pc1 := 64) (ls1 := [(3, .int t0), (0, .ref 157), (1, .int q1)]) (st1 := [.int (-1), .ref 157]) (H1 := H) (k1 := 0) (n1 := 0) (by with_unfolding_all rfl)) ?_
    rw [if_neg c26] at kk
    exact kk

set_option maxRecDepth 100000 in
theorem tj351_46 {sL : Nat} {sx : Nat → Int32} {h b N : Nat} {T : List am_C} {a' : xA} {q1 : Int32} {a : xA} {H : am_H} (hS : xS h b T a H) (e : j351_46 N h b q1 a = some a') : am_E sL sx am_cs 351 46 [(0, .ref 157), (1, .int q1)] [] H none (fun H1 => xS h b T a' H1) := by
  unfold j351_46 at e
  refine ex_s (am_nb (m := 2) (pc1 := 51) (ls1 := [(0, .ref 157), (1, .int q1)]) (st1 := [.int 1]) (H1 := H) (k1 := 0) (n1 := 0) (by with_unfolding_all rfl)) ?_
  exact le_E (l1 := [(0, .ref 157), (1, .int q1)]) ⟨rfl, rfl, trivial⟩ rfl (tj351_51  hS e)

set_option maxRecDepth 100000 in
theorem tf351_behind {sL : Nat} {sx : Nat → Int32} {h b N : Nat} {T : List am_C} {a' : xA} {x0 : Int32} {x1 : Int32} {a : xA} {H : am_H} (hS : xS h b T a H) (e : f351_behind N h b x0 x1 a = some a') : am_E sL sx am_cs 351 0 [(0, .ref 157), (1, .int x0), (2, .int x1)] [] H none (fun H1 => xS h b T a' H1) := by
  unfold f351_behind at e
  refine ex_s (am_nb (m := 2) (pc1 := 2) (ls1 := [(0, .ref 157), (1, .int x0), (2, .int x1)]) (st1 := [.ref 157, .int x1]) (H1 := H) (k1 := 0) (n1 := 0) (by with_unfolding_all rfl)) ?_
  refine xe_get (v := .int (a 157 26)) hS rfl rfl (by decide) rfl ?_
  refine ex_s (am_nb (m := 2) (pc1 := 7) (ls1 := [(0, .ref 157), (1, .int x0), (2, .int x1)]) (st1 := [.int ((a 157 26) - 1), .int x1]) (H1 := H) (k1 := 0) (n1 := 0) (by with_unfolding_all rfl)) ?_
  refine ex_s (st_icmp rfl) ?_
  by_cases c1 : ((a 157 26) - 1) ≤ x1
  · have e := (if_pos c1).symm.trans e
    refine ex_pc (if_pos c1) ?_
    refine ex_s (am_nb (m := 2) (pc1 := 22) (ls1 := [(0, .ref 157), (1, .int x0), (2, .int x1)]) (st1 := [.int 0, .ref 157]) (H1 := H) (k1 := 0) (n1 := 0) (by with_unfolding_all rfl)) ?_
    obtain ⟨r5, a6, e4, e⟩ := xb2_some e
    refine ex_cv1 (as := [.int 0]) (rest := []) rfl rfl rfl rfl (hS.obj rfl (by decide)) rfl (by with_unfolding_all rfl) (by with_unfolding_all rfl) (tf297_has hS e4) (fun H2 s3 => ?_)
    refine ex_s (st_if rfl) ?_
    by_cases c8 : r5 = 0
    · have e := (if_pos c8).symm.trans e
      refine ex_pc (if_pos c8) ?_
      cases e
      exact ex_r (st_vret rfl rfl) s3
    · have e := (if_neg c8).symm.trans e
      refine ex_pc (if_neg c8) ?_
      refine ex_s (am_nb (m := 2) (pc1 := 30) (ls1 := [(0, .ref 157), (1, .int x0), (2, .int x1)]) (st1 := [.int 1, .ref 157]) (H1 := H2) (k1 := 0) (n1 := 0) (by with_unfolding_all rfl)) ?_
      obtain ⟨r12, a13, e11, e⟩ := xb2_some e
      refine ex_cv1 (as := [.int 1]) (rest := []) rfl rfl rfl rfl (s3.obj rfl (by decide)) rfl (by with_unfolding_all rfl) (by with_unfolding_all rfl) (tf297_has s3 e11) (fun H9 s10 => ?_)
      refine ex_s (st_if rfl) ?_
      by_cases c16 : r12 = 0
      · have e := (if_pos c16).symm.trans e
        refine ex_pc (if_pos c16) ?_
        refine ex_s (am_nb (m := 2) (pc1 := 38) (ls1 := [(0, .ref 157), (1, .int x0), (2, .int x1)]) (st1 := [.ref 157, .int x0]) (H1 := H9) (k1 := 0) (n1 := 0) (by with_unfolding_all rfl)) ?_
        refine xe_get (v := .int (a13 157 27)) s10 rfl rfl (by decide) rfl ?_
        refine ex_s (am_nb (m := 2) (pc1 := 43) (ls1 := [(0, .ref 157), (1, .int x0), (2, .int x1)]) (st1 := [.int ((a13 157 27) - 1), .int x0]) (H1 := H9) (k1 := 0) (n1 := 0) (by with_unfolding_all rfl)) ?_
        have kk : am_E sL sx am_cs 351 51 [(0, .ref 157), (1, .int x0), (2, .int x1)] [.int (if x0 = ((a13 157 27) - 1) then (1 : Int32) else (0 : Int32))] H9 none (fun H1 => xS h b T a' H1) := by
          refine ex_s (am_nb (m := 3) (pc1 := 54) (ls1 := [(3, .int (if x0 = ((a13 157 27) - 1) then (1 : Int32) else (0 : Int32))), (0, .ref 157), (1, .int x0), (2, .int x1)]) (st1 := [.int (if x0 = ((a13 157 27) - 1) then (1 : Int32) else (0 : Int32)), .ref 157]) (H1 := H9) (k1 := 0) (n1 := 0) (by with_unfolding_all rfl)) ?_
          have kk : am_E sL sx am_cs 351 64 [(3, .int (if x0 = ((a13 157 27) - 1) then (1 : Int32) else (0 : Int32))), (0, .ref 157), (1, .int x0), (2, .int x1)] [.int (if (if x0 = ((a13 157 27) - 1) then (1 : Int32) else (0 : Int32)) = 0 then (x0 + 1) else (-1 : Int32)), .ref 157] H9 none (fun H1 => xS h b T a' H1) := by
            obtain ⟨a19, ha19, e⟩ := xw_some e
            refine xe_put (w := (if (if x0 = ((a13 157 27) - 1) then (1 : Int32) else (0 : Int32)) = 0 then (x0 + 1) else (-1 : Int32))) s10 rfl rfl (by decide) rfl rfl rfl rfl (fun H20 s21 => ?_)
            have s21 : xS h b T a19 H20 := by rw [ha19]; exact s21
            refine ex_s (am_nb (m := 2) (pc1 := 69) (ls1 := [(3, .int (if x0 = ((a13 157 27) - 1) then (1 : Int32) else (0 : Int32))), (0, .ref 157), (1, .int x0), (2, .int x1)]) (st1 := [.int (if x0 = ((a13 157 27) - 1) then (1 : Int32) else (0 : Int32)), .ref 157]) (H1 := H20) (k1 := 0) (n1 := 0) (by with_unfolding_all rfl)) ?_
            have kk : am_E sL sx am_cs 351 77 [(3, .int (if x0 = ((a13 157 27) - 1) then (1 : Int32) else (0 : Int32))), (0, .ref 157), (1, .int x0), (2, .int x1)] [.int (if (if x0 = ((a13 157 27) - 1) then (1 : Int32) else (0 : Int32)) = 0 then (0 : Int32) else (-1 : Int32)), .ref 157] H20 none (fun H1 => xS h b T a' H1) := by
              obtain ⟨a23, ha23, e⟩ := xw_some e
              refine xe_put (w := (if (if x0 = ((a13 157 27) - 1) then (1 : Int32) else (0 : Int32)) = 0 then (0 : Int32) else (-1 : Int32))) s21 rfl rfl (by decide) rfl rfl rfl rfl (fun H24 s25 => ?_)
              have s25 : xS h b T a23 H24 := by rw [ha23]; exact s25
              cases e
              exact ex_r (st_vret rfl rfl) s25
            refine ex_s (st_if rfl) ?_
            by_cases c22 : (if x0 = ((a13 157 27) - 1) then (1 : Int32) else (0 : Int32)) = 0
            · refine ex_pc (if_pos c22) ?_
              refine ex_s (am_nb (m := 1) (pc1 := 77) (ls1 := [(3, .int (if x0 = ((a13 157 27) - 1) then (1 : Int32) else (0 : Int32))), (0, .ref 157), (1, .int x0), (2, .int x1)]) (st1 := [.int 0, .ref 157]) (H1 := H20) (k1 := 0) (n1 := 0) (by with_unfolding_all rfl)) ?_
              rw [if_pos c22] at kk
              exact kk
            · refine ex_pc (if_neg c22) ?_
              refine ex_s (am_nb (m := 2) (pc1 := 77) (ls1 := [(3, .int (if x0 = ((a13 157 27) - 1) then (1 : Int32) else (0 : Int32))), (0, .ref 157), (1, .int x0), (2, .int x1)]) (st1 := [.int (-1), .ref 157]) (H1 := H20) (k1 := 0) (n1 := 0) (by with_unfolding_all rfl)) ?_
              rw [if_neg c22] at kk
              exact kk
          refine ex_s (st_if rfl) ?_
          by_cases c18 : (if x0 = ((a13 157 27) - 1) then (1 : Int32) else (0 : Int32)) = 0
          · refine ex_pc (if_pos c18) ?_
            refine ex_s (am_nb (m := 3) (pc1 := 64) (ls1 := [(3, .int (if x0 = ((a13 157 27) - 1) then (1 : Int32) else (0 : Int32))), (0, .ref 157), (1, .int x0), (2, .int x1)]) (st1 := [.int (x0 + 1), .ref 157]) (H1 := H9) (k1 := 0) (n1 := 0) (by with_unfolding_all rfl)) ?_
            rw [if_pos c18] at kk
            exact kk
          · refine ex_pc (if_neg c18) ?_
            refine ex_s (am_nb (m := 2) (pc1 := 64) (ls1 := [(3, .int (if x0 = ((a13 157 27) - 1) then (1 : Int32) else (0 : Int32))), (0, .ref 157), (1, .int x0), (2, .int x1)]) (st1 := [.int (-1), .ref 157]) (H1 := H9) (k1 := 0) (n1 := 0) (by with_unfolding_all rfl)) ?_
            rw [if_neg c18] at kk
            exact kk
        refine ex_s (st_icmp rfl) ?_
        by_cases c17 : x0 = ((a13 157 27) - 1)
        · refine ex_pc (if_pos c17) ?_
          refine ex_s (am_nb (m := 2) (pc1 := 51) (ls1 := [(0, .ref 157), (1, .int x0), (2, .int x1)]) (st1 := [.int 1]) (H1 := H9) (k1 := 0) (n1 := 0) (by with_unfolding_all rfl)) ?_
          rw [if_pos c17] at kk
          exact kk
        · refine ex_pc (if_neg c17) ?_
          refine ex_s (am_nb (m := 1) (pc1 := 51) (ls1 := [(0, .ref 157), (1, .int x0), (2, .int x1)]) (st1 := [.int 0]) (H1 := H9) (k1 := 0) (n1 := 0) (by with_unfolding_all rfl)) ?_
          rw [if_neg c17] at kk
          exact kk
      · have e := (if_neg c16).symm.trans e
        refine ex_pc (if_neg c16) ?_
        exact le_E (l1 := [(0, .ref 157), (1, .int x0)]) ⟨rfl, rfl, trivial⟩ rfl (tj351_46  s10 e)
  · have e := (if_neg c1).symm.trans e
    refine ex_pc (if_neg c1) ?_
    refine ex_s (am_nb (m := 4) (pc1 := 14) (ls1 := [(0, .ref 157), (1, .int x0), (2, .int x1)]) (st1 := [.int (x1 + 1), .ref 157]) (H1 := H) (k1 := 0) (n1 := 0) (by with_unfolding_all rfl)) ?_
    obtain ⟨a34, ha34, e⟩ := xw_some e
    refine xe_put (w := (x1 + 1)) hS rfl rfl (by decide) rfl rfl rfl rfl (fun H35 s36 => ?_)
    have s36 : xS h b T a34 H35 := by rw [ha34]; exact s36
    refine ex_s (am_nb (m := 1) (pc1 := 80) (ls1 := [(0, .ref 157), (1, .int x0), (2, .int x1)]) (st1 := []) (H1 := H35) (k1 := 0) (n1 := 0) (by with_unfolding_all rfl)) ?_
    cases e
    exact ex_r (st_vret rfl rfl) s36

set_option maxRecDepth 100000 in
theorem tl349_2 {sL : Nat} {sx : Nat → Int32} {h b N : Nat} {T : List am_C} {R : Option Value} {F : am_H → Prop} {w1 : Int32} {z : Nat × Int32 × xA} (k0 : z.1 = 0 → ∀ H2 : am_H, xS h b T z.2.2 H2 → am_E sL sx am_cs 349 36 [(0, .ref 157), (1, .int w1), (2, .int z.2.1)] [] H2 R F) : ∀ (n : Nat) (v2 : Int32) (a : xA) (H : am_H), xS h b T a H → l349_2 N h b w1 n v2 a = some z → am_E sL sx am_cs 349 2 [(0, .ref 157), (1, .int w1), (2, .int v2)] [] H R F := by
  intro n
  induction n with
  | zero =>
    intro v2 a H hS e
    cases e
  | succ n ih =>
    intro v2 a H hS e
    unfold l349_2 at e
    refine ex_s (am_nb (m := 2) (pc1 := 4) (ls1 := [(0, .ref 157), (1, .int w1), (2, .int v2)]) (st1 := [.ref 157, .int v2]) (H1 := H) (k1 := 0) (n1 := 0) (by with_unfolding_all rfl)) ?_
    refine xe_get (v := .int (a 157 26)) hS rfl rfl (by decide) rfl ?_
    refine ex_s (st_icmp rfl) ?_
    by_cases c2 : (a 157 26) ≤ v2
    · have e := (if_pos c2).symm.trans e
      refine ex_pc (if_pos c2) ?_
      cases e
      exact le_E (l1 := [(0, .ref 157), (1, .int w1), (2, .int v2)]) ⟨rfl, rfl, rfl, trivial⟩ rfl (k0 rfl H hS)
    · have e := (if_neg c2).symm.trans e
      refine ex_pc (if_neg c2) ?_
      refine ex_s (am_nb (m := 4) (pc1 := 14) (ls1 := [(0, .ref 157), (1, .int w1), (2, .int v2)]) (st1 := [.ref 157, .int v2, .int w1, .ref 157]) (H1 := H) (k1 := 0) (n1 := 0) (by with_unfolding_all rfl)) ?_
      refine xe_get (v := .ref 183) hS rfl rfl (by decide) rfl ?_
      refine ex_s (am_nb (m := 5) (pc1 := 23) (ls1 := [(0, .ref 157), (1, .int w1), (2, .int v2)]) (st1 := [.int ((80 * w1) + v2), .ref 183, .int v2, .int w1, .ref 157]) (H1 := H) (k1 := 0) (n1 := 0) (by with_unfolding_all rfl)) ?_
      obtain ⟨g3, e⟩ := xg_some e
      refine xe_iald hS rfl rfl g3 ?_
      obtain ⟨r7, a8, e6, e⟩ := xb2_some e
      refine ex_cv1 (as := [.int w1, .int v2, .int (a 183 (((80 * w1) + v2).toNatClampNeg))]) (rest := []) rfl rfl rfl rfl (hS.obj rfl (by decide)) rfl (by with_unfolding_all rfl) (by with_unfolding_all rfl) (tf338_unlike hS e6) (fun H4 s5 => ?_)
      refine ex_s (st_if rfl) ?_
      by_cases c9 : r7 = 0
      · have e := (if_pos c9).symm.trans e
        refine ex_pc (if_pos c9) ?_
        refine ex_s (am_nb (m := 2) (pc1 := 2) (ls1 := [(2, .int (v2 + 1)), (0, .ref 157), (1, .int w1)]) (st1 := []) (H1 := H4) (k1 := 0) (n1 := 0) (by with_unfolding_all rfl)) ?_
        exact le_E (l1 := [(0, .ref 157), (1, .int w1), (2, .int (v2 + 1))]) ⟨rfl, rfl, rfl, trivial⟩ rfl (ih (v2 + 1) a8 H4 s5 e)
      · have e := (if_neg c9).symm.trans e
        refine ex_pc (if_neg c9) ?_
        cases e
        exact le_E (l1 := [(0, .ref 157), (1, .int w1), (2, .int v2)]) ⟨rfl, rfl, rfl, trivial⟩ rfl (k0 rfl H4 s5)

set_option maxRecDepth 100000 in
theorem tl349_52 {sL : Nat} {sx : Nat → Int32} {h b N : Nat} {T : List am_C} {R : Option Value} {F : am_H → Prop} {w1 : Int32} {w2 : Int32} {z : Nat × Int32 × xA} (k0 : z.1 = 0 → ∀ H2 : am_H, xS h b T z.2.2 H2 → am_E sL sx am_cs 349 78 [(0, .ref 157), (1, .int w1), (2, .int w2), (3, .int z.2.1)] [] H2 R F) : ∀ (n : Nat) (v3 : Int32) (a : xA) (H : am_H), xS h b T a H → l349_52 N h b w1 w2 n v3 a = some z → am_E sL sx am_cs 349 52 [(0, .ref 157), (1, .int w1), (2, .int w2), (3, .int v3)] [] H R F := by
  intro n
  induction n with
  | zero =>
    intro v3 a H hS e
    cases e
  | succ n ih =>
    intro v3 a H hS e
    unfold l349_52 at e
    refine ex_s (am_nb (m := 4) (pc1 := 56) (ls1 := [(0, .ref 157), (1, .int w1), (2, .int w2), (3, .int v3)]) (st1 := [.ref 157, .int v3, .int w1, .ref 157]) (H1 := H) (k1 := 0) (n1 := 0) (by with_unfolding_all rfl)) ?_
    refine xe_get (v := .ref 183) hS rfl rfl (by decide) rfl ?_
    refine ex_s (am_nb (m := 5) (pc1 := 65) (ls1 := [(0, .ref 157), (1, .int w1), (2, .int w2), (3, .int v3)]) (st1 := [.int ((80 * w1) + v3), .ref 183, .int v3, .int w1, .ref 157]) (H1 := H) (k1 := 0) (n1 := 0) (by with_unfolding_all rfl)) ?_
    obtain ⟨g13, e⟩ := xg_some e
    refine xe_iald hS rfl rfl g13 ?_
    obtain ⟨r17, a18, e16, e⟩ := xb2_some e
    refine ex_cv1 (as := [.int w1, .int v3, .int (a 183 (((80 * w1) + v3).toNatClampNeg))]) (rest := []) rfl rfl rfl rfl (hS.obj rfl (by decide)) rfl (by with_unfolding_all rfl) (by with_unfolding_all rfl) (tf338_unlike hS e16) (fun H14 s15 => ?_)
    refine ex_s (st_if rfl) ?_
    by_cases c19 : r17 = 0
    · have e := (if_pos c19).symm.trans e
      refine ex_pc (if_pos c19) ?_
      refine ex_s (am_nb (m := 2) (pc1 := 52) (ls1 := [(3, .int (v3 + (-1))), (0, .ref 157), (1, .int w1), (2, .int w2)]) (st1 := []) (H1 := H14) (k1 := 0) (n1 := 0) (by with_unfolding_all rfl)) ?_
      exact le_E (l1 := [(0, .ref 157), (1, .int w1), (2, .int w2), (3, .int (v3 + (-1)))]) ⟨rfl, rfl, rfl, rfl, trivial⟩ rfl (ih (v3 + (-1)) a18 H14 s15 e)
    · have e := (if_neg c19).symm.trans e
      refine ex_pc (if_neg c19) ?_
      cases e
      exact le_E (l1 := [(0, .ref 157), (1, .int w1), (2, .int w2), (3, .int v3)]) ⟨rfl, rfl, rfl, rfl, trivial⟩ rfl (k0 rfl H14 s15)

set_option maxRecDepth 100000 in
theorem tl349_84 {sL : Nat} {sx : Nat → Int32} {h b N : Nat} {T : List am_C} {R : Option Value} {F : am_H → Prop} {w1 : Int32} {w2 : Int32} {w3 : Int32} {z : Nat × Int32 × xA} (k0 : z.1 = 0 → ∀ H2 : am_H, xS h b T z.2.2 H2 → am_E sL sx am_cs 349 118 [(0, .ref 157), (1, .int w1), (2, .int w2), (3, .int w3), (4, .int z.2.1)] [] H2 R F) : ∀ (n : Nat) (v4 : Int32) (a : xA) (H : am_H), xS h b T a H → l349_84 N h b w1 w2 w3 n v4 a = some z → am_E sL sx am_cs 349 84 [(0, .ref 157), (1, .int w1), (2, .int w2), (3, .int w3), (4, .int v4)] [] H R F := by
  intro n
  induction n with
  | zero =>
    intro v4 a H hS e
    cases e
  | succ n ih =>
    intro v4 a H hS e
    unfold l349_84 at e
    refine ex_s (am_nb (m := 1) (pc1 := 86) (ls1 := [(0, .ref 157), (1, .int w1), (2, .int w2), (3, .int w3), (4, .int v4)]) (st1 := [.int v4]) (H1 := H) (k1 := 0) (n1 := 0) (by with_unfolding_all rfl)) ?_
    refine ex_s (st_if rfl) ?_
    by_cases c23 : v4 ≤ 0
    · have e := (if_pos c23).symm.trans e
      refine ex_pc (if_pos c23) ?_
      cases e
      exact le_E (l1 := [(0, .ref 157), (1, .int w1), (2, .int w2), (3, .int w3), (4, .int v4)]) ⟨rfl, rfl, rfl, rfl, rfl, trivial⟩ rfl (k0 rfl H hS)
    · have e := (if_neg c23).symm.trans e
      refine ex_pc (if_neg c23) ?_
      refine ex_s (am_nb (m := 2) (pc1 := 91) (ls1 := [(0, .ref 157), (1, .int w1), (2, .int w2), (3, .int w3), (4, .int v4)]) (st1 := [.ref 157, .ref 157]) (H1 := H) (k1 := 0) (n1 := 0) (by with_unfolding_all rfl)) ?_
      refine xe_get (v := .ref 170) hS rfl rfl (by decide) rfl ?_
      refine ex_s (am_nb (m := 7) (pc1 := 103) (ls1 := [(0, .ref 157), (1, .int w1), (2, .int w2), (3, .int w3), (4, .int v4)]) (st1 := [.int (((80 * w1) + v4) - 1), .ref 170, .ref 157]) (H1 := H) (k1 := 0) (n1 := 0) (by with_unfolding_all rfl)) ?_
      obtain ⟨g24, e⟩ := xg_some e
      refine xe_iald hS rfl rfl g24 ?_
      obtain ⟨r28, a29, e27, e⟩ := xb2_some e
      refine ex_cv1 (as := [.int (a 170 ((((80 * w1) + v4) - 1).toNatClampNeg))]) (rest := []) rfl rfl rfl rfl (hS.obj rfl (by decide)) rfl (by with_unfolding_all rfl) (by with_unfolding_all rfl) (tf339_offeredOf hS e27) (fun H25 s26 => ?_)
      refine ex_s (am_nb (m := 1) (pc1 := 109) (ls1 := [(0, .ref 157), (1, .int w1), (2, .int w2), (3, .int w3), (4, .int v4)]) (st1 := [.int 32, .int r28]) (H1 := H25) (k1 := 0) (n1 := 0) (by with_unfolding_all rfl)) ?_
      refine ex_s (st_icmp rfl) ?_
      by_cases c30 : r28 = 32
      · have e := (if_pos c30).symm.trans e
        refine ex_pc (if_pos c30) ?_
        refine ex_s (am_nb (m := 2) (pc1 := 84) (ls1 := [(4, .int (v4 + (-1))), (0, .ref 157), (1, .int w1), (2, .int w2), (3, .int w3)]) (st1 := []) (H1 := H25) (k1 := 0) (n1 := 0) (by with_unfolding_all rfl)) ?_
        exact le_E (l1 := [(0, .ref 157), (1, .int w1), (2, .int w2), (3, .int w3), (4, .int (v4 + (-1)))]) ⟨rfl, rfl, rfl, rfl, rfl, trivial⟩ rfl (ih (v4 + (-1)) a29 H25 s26 e)
      · have e := (if_neg c30).symm.trans e
        refine ex_pc (if_neg c30) ?_
        cases e
        exact le_E (l1 := [(0, .ref 157), (1, .int w1), (2, .int w2), (3, .int w3), (4, .int v4)]) ⟨rfl, rfl, rfl, rfl, rfl, trivial⟩ rfl (k0 rfl H25 s26)

set_option maxRecDepth 100000 in
theorem tj349_285 {sL : Nat} {sx : Nat → Int32} {h b N : Nat} {T : List am_C} {R : Option Value} {F : am_H → Prop} {w1 : Int32} {w5 : Int32} {w7 : Int32} {w8 : Int32} {z : Nat × xA} {rc : Int32 → xA → Option (Nat × xA)} (k0 : z.1 = 0 → ∀ H2 : am_H, xS h b T z.2 H2 → am_E sL sx am_cs 349 291 [(0, .ref 157), (1, .int w1), (5, .int w5), (7, .int w7)] [] H2 R F) (ih : ∀ (v9 : Int32) (a : xA) (H : am_H), xS h b T a H → rc v9 a = some z → am_E sL sx am_cs 349 178 [(0, .ref 157), (1, .int w1), (5, .int w5), (7, .int w7), (8, .int w8), (9, .int v9)] [] H R F) {q9 : Int32} {a : xA} {H : am_H} (hS : xS h b T a H) (e : j349_285 N h b rc w1 w5 w7 w8 q9 a = some z) : am_E sL sx am_cs 349 285 [(0, .ref 157), (1, .int w1), (5, .int w5), (7, .int w7), (8, .int w8), (9, .int q9)] [] H R F := by
  unfold j349_285 at e
  refine ex_s (am_nb (m := 2) (pc1 := 178) (ls1 := [(9, .int (q9 + 1)), (0, .ref 157), (1, .int w1), (5, .int w5), (7, .int w7), (8, .int w8)]) (st1 := []) (H1 := H) (k1 := 0) (n1 := 0) (by with_unfolding_all rfl)) ?_
  exact le_E (l1 := [(0, .ref 157), (1, .int w1), (5, .int w5), (7, .int w7), (8, .int w8), (9, .int (q9 + 1))]) ⟨rfl, rfl, rfl, rfl, rfl, rfl, trivial⟩ rfl (ih (q9 + 1) a H hS e)

set_option maxRecDepth 100000 in
theorem tl349_178 {sL : Nat} {sx : Nat → Int32} {h b N : Nat} {T : List am_C} {R : Option Value} {F : am_H → Prop} {w1 : Int32} {w5 : Int32} {w7 : Int32} {w8 : Int32} {z : Nat × xA} (k0 : z.1 = 0 → ∀ H2 : am_H, xS h b T z.2 H2 → am_E sL sx am_cs 349 291 [(0, .ref 157), (1, .int w1), (5, .int w5), (7, .int w7)] [] H2 R F) : ∀ (n : Nat) (v9 : Int32) (a : xA) (H : am_H), xS h b T a H → l349_178 N h b w1 w5 w7 w8 n v9 a = some z → am_E sL sx am_cs 349 178 [(0, .ref 157), (1, .int w1), (5, .int w5), (7, .int w7), (8, .int w8), (9, .int v9)] [] H R F := by
  intro n
  induction n with
  | zero =>
    intro v9 a H hS e
    cases e
  | succ n ih =>
    intro v9 a H hS e
    unfold l349_178 at e
    refine ex_s (am_nb (m := 2) (pc1 := 182) (ls1 := [(0, .ref 157), (1, .int w1), (5, .int w5), (7, .int w7), (8, .int w8), (9, .int v9)]) (st1 := [.int w8, .int v9]) (H1 := H) (k1 := 0) (n1 := 0) (by with_unfolding_all rfl)) ?_
    refine ex_s (st_icmp rfl) ?_
    by_cases c42 : w8 ≤ v9
    · have e := (if_pos c42).symm.trans e
      refine ex_pc (if_pos c42) ?_
      cases e
      exact le_E (l1 := [(0, .ref 157), (1, .int w1), (5, .int w5), (7, .int w7)]) ⟨rfl, rfl, rfl, rfl, trivial⟩ rfl (k0 rfl H hS)
    · have e := (if_neg c42).symm.trans e
      refine ex_pc (if_neg c42) ?_
      refine ex_s (am_nb (m := 1) (pc1 := 186) (ls1 := [(0, .ref 157), (1, .int w1), (5, .int w5), (7, .int w7), (8, .int w8), (9, .int v9)]) (st1 := [.ref 157]) (H1 := H) (k1 := 0) (n1 := 0) (by with_unfolding_all rfl)) ?_
      refine xe_get (v := .int (a 157 49)) hS rfl rfl (by decide) rfl ?_
      refine ex_s (am_nb (m := 1) (pc1 := 192) (ls1 := [(0, .ref 157), (1, .int w1), (5, .int w5), (7, .int w7), (8, .int w8), (9, .int v9)]) (st1 := [.int 6000, .int (a 157 49)]) (H1 := H) (k1 := 0) (n1 := 0) (by with_unfolding_all rfl)) ?_
      refine ex_s (st_icmp rfl) ?_
      by_cases c43 : 6000 < (a 157 49)
      · have e := (if_pos c43).symm.trans e
        refine ex_pc (if_pos c43) ?_
        cases e
        exact le_E (l1 := [(0, .ref 157), (1, .int w1), (5, .int w5), (7, .int w7)]) ⟨rfl, rfl, rfl, rfl, trivial⟩ rfl (k0 rfl H hS)
      · have e := (if_neg c43).symm.trans e
        refine ex_pc (if_neg c43) ?_
        refine ex_s (am_nb (m := 4) (pc1 := 200) (ls1 := [(0, .ref 157), (1, .int w1), (5, .int w5), (7, .int w7), (8, .int w8), (9, .int v9)]) (st1 := [.ref 157, .int v9, .int w1, .ref 157]) (H1 := H) (k1 := 0) (n1 := 0) (by with_unfolding_all rfl)) ?_
        refine xe_get (v := .ref 183) hS rfl rfl (by decide) rfl ?_
        refine ex_s (am_nb (m := 5) (pc1 := 210) (ls1 := [(0, .ref 157), (1, .int w1), (5, .int w5), (7, .int w7), (8, .int w8), (9, .int v9)]) (st1 := [.int ((80 * w1) + v9), .ref 183, .int v9, .int w1, .ref 157]) (H1 := H) (k1 := 0) (n1 := 0) (by with_unfolding_all rfl)) ?_
        obtain ⟨g44, e⟩ := xg_some e
        refine xe_iald hS rfl rfl g44 ?_
        obtain ⟨r48, a49, e47, e⟩ := xb2_some e
        refine ex_cv1 (as := [.int w1, .int v9, .int (a 183 (((80 * w1) + v9).toNatClampNeg))]) (rest := []) rfl rfl rfl rfl (hS.obj rfl (by decide)) rfl (by with_unfolding_all rfl) (by with_unfolding_all rfl) (tf338_unlike hS e47) (fun H45 s46 => ?_)
        refine ex_s (st_if rfl) ?_
        by_cases c50 : r48 = 0
        · have e := (if_pos c50).symm.trans e
          refine ex_pc (if_pos c50) ?_
          refine ex_s (am_nb (m := 1) (pc1 := 285) (ls1 := [(0, .ref 157), (1, .int w1), (5, .int w5), (7, .int w7), (8, .int w8), (9, .int v9)]) (st1 := []) (H1 := H45) (k1 := 0) (n1 := 0) (by with_unfolding_all rfl)) ?_
          exact le_E (l1 := [(0, .ref 157), (1, .int w1), (5, .int w5), (7, .int w7), (8, .int w8), (9, .int v9)]) ⟨rfl, rfl, rfl, rfl, rfl, rfl, trivial⟩ rfl (tj349_285 k0 ih  s46 e)
        · have e := (if_neg c50).symm.trans e
          refine ex_pc (if_neg c50) ?_
          refine ex_s (am_nb (m := 2) (pc1 := 222) (ls1 := [(0, .ref 157), (1, .int w1), (5, .int w5), (7, .int w7), (8, .int w8), (9, .int v9)]) (st1 := [.ref 157, .ref 157]) (H1 := H45) (k1 := 0) (n1 := 0) (by with_unfolding_all rfl)) ?_
          refine xe_get (v := .ref 170) s46 rfl rfl (by decide) rfl ?_
          refine ex_s (am_nb (m := 5) (pc1 := 232) (ls1 := [(0, .ref 157), (1, .int w1), (5, .int w5), (7, .int w7), (8, .int w8), (9, .int v9)]) (st1 := [.int ((80 * w1) + v9), .ref 170, .ref 157]) (H1 := H45) (k1 := 0) (n1 := 0) (by with_unfolding_all rfl)) ?_
          refine xe_iald s46 rfl rfl g44 ?_
          obtain ⟨r54, a55, e53, e⟩ := xb2_some e
          refine ex_cv1 (as := [.int (a49 170 (((80 * w1) + v9).toNatClampNeg))]) (rest := []) rfl rfl rfl rfl (s46.obj rfl (by decide)) rfl (by with_unfolding_all rfl) (by with_unfolding_all rfl) (tf339_offeredOf s46 e53) (fun H51 s52 => ?_)
          refine ex_s (am_nb (m := 4) (pc1 := 242) (ls1 := [(10, .int r54), (0, .ref 157), (1, .int w1), (5, .int w5), (7, .int w7), (8, .int w8), (9, .int v9)]) (st1 := [.int v9, .int w1, .ref 157]) (H1 := H51) (k1 := 0) (n1 := 0) (by with_unfolding_all rfl)) ?_
          obtain ⟨a59, e58, e⟩ := xb1_some e
          refine ex_cv0 (as := [.int w1, .int v9]) (rest := []) rfl rfl rfl rfl (s52.obj rfl (by decide)) rfl (by with_unfolding_all rfl) (by with_unfolding_all rfl) (tf340_motion s52 e58) (fun H56 s57 => ?_)
          refine ex_s (am_nb (m := 4) (pc1 := 251) (ls1 := [(10, .int r54), (0, .ref 157), (1, .int w1), (5, .int w5), (7, .int w7), (8, .int w8), (9, .int v9)]) (st1 := [.int (r54 >>> ((8 : Int32) &&& 31)), .ref 157]) (H1 := H56) (k1 := 0) (n1 := 0) (by with_unfolding_all rfl)) ?_
          obtain ⟨a63, e62, e⟩ := xb1_some e
          refine ex_cv0 (as := [.int (r54 >>> ((8 : Int32) &&& 31))]) (rest := []) rfl rfl rfl rfl (s57.obj rfl (by decide)) rfl (by with_unfolding_all rfl) (by with_unfolding_all rfl) (tf350_dresses s57 e62) (fun H60 s61 => ?_)
          refine ex_s (am_nb (m := 4) (pc1 := 261) (ls1 := [(10, .int r54), (0, .ref 157), (1, .int w1), (5, .int w5), (7, .int w7), (8, .int w8), (9, .int v9)]) (st1 := [.int (r54 &&& 255), .ref 157]) (H1 := H60) (k1 := 0) (n1 := 0) (by with_unfolding_all rfl)) ?_
          obtain ⟨a67, e66, e⟩ := xb1_some e
          refine ex_cv0 (as := [.int (r54 &&& 255)]) (rest := []) rfl rfl rfl rfl (s61.obj rfl (by decide)) rfl (by with_unfolding_all rfl) (by with_unfolding_all rfl) (tf334_typeByte s61 e66) (fun H64 s65 => ?_)
          refine ex_s (am_nb (m := 1) (pc1 := 265) (ls1 := [(10, .int r54), (0, .ref 157), (1, .int w1), (5, .int w5), (7, .int w7), (8, .int w8), (9, .int v9)]) (st1 := [.ref 157]) (H1 := H64) (k1 := 0) (n1 := 0) (by with_unfolding_all rfl)) ?_
          refine xe_get (v := .ref 183) s65 rfl rfl (by decide) rfl ?_
          refine ex_s (am_nb (m := 6) (pc1 := 277) (ls1 := [(10, .int r54), (0, .ref 157), (1, .int w1), (5, .int w5), (7, .int w7), (8, .int w8), (9, .int v9)]) (st1 := [.int r54, .int ((80 * w1) + v9), .ref 183]) (H1 := H64) (k1 := 0) (n1 := 0) (by with_unfolding_all rfl)) ?_
          obtain ⟨a68, ha68, e⟩ := xw_some e
          refine xe_iast s65 rfl rfl g44 (fun H69 s70 => ?_)
          have s70 : xS h b T a68 H69 := by rw [ha68]; exact s70
          refine ex_s (am_nb (m := 3) (pc1 := 282) (ls1 := [(10, .int r54), (0, .ref 157), (1, .int w1), (5, .int w5), (7, .int w7), (8, .int w8), (9, .int v9)]) (st1 := [.int v9, .int w1, .ref 157]) (H1 := H69) (k1 := 0) (n1 := 0) (by with_unfolding_all rfl)) ?_
          obtain ⟨a74, e73, e⟩ := xb1_some e
          refine ex_cv0 (as := [.int w1, .int v9]) (rest := []) rfl rfl rfl rfl (s70.obj rfl (by decide)) rfl (by with_unfolding_all rfl) (by with_unfolding_all rfl) (tf351_behind s70 e73) (fun H71 s72 => ?_)
          exact le_E (l1 := [(0, .ref 157), (1, .int w1), (5, .int w5), (7, .int w7), (8, .int w8), (9, .int v9)]) ⟨rfl, rfl, rfl, rfl, rfl, rfl, trivial⟩ rfl (tj349_285 k0 ih  s72 e)

set_option maxRecDepth 100000 in
theorem tl349_332 {sL : Nat} {sx : Nat → Int32} {h b N : Nat} {T : List am_C} {R : Option Value} {F : am_H → Prop} {w1 : Int32} {z : Nat × xA} (k0 : z.1 = 0 → ∀ H2 : am_H, xS h b T z.2 H2 → am_E sL sx am_cs 349 361 [] [] H2 R F) : ∀ (n : Nat) (v9 : Int32) (a : xA) (H : am_H), xS h b T a H → l349_332 N h b w1 n v9 a = some z → am_E sL sx am_cs 349 332 [(0, .ref 157), (1, .int w1), (9, .int v9)] [] H R F := by
  intro n
  induction n with
  | zero =>
    intro v9 a H hS e
    cases e
  | succ n ih =>
    intro v9 a H hS e
    unfold l349_332 at e
    refine ex_s (am_nb (m := 2) (pc1 := 335) (ls1 := [(0, .ref 157), (1, .int w1), (9, .int v9)]) (st1 := [.ref 157, .int v9]) (H1 := H) (k1 := 0) (n1 := 0) (by with_unfolding_all rfl)) ?_
    refine xe_get (v := .int (a 157 26)) hS rfl rfl (by decide) rfl ?_
    refine ex_s (st_icmp rfl) ?_
    by_cases c93 : (a 157 26) ≤ v9
    · have e := (if_pos c93).symm.trans e
      refine ex_pc (if_pos c93) ?_
      cases e
      exact le_E (l1 := []) trivial rfl (k0 rfl H hS)
    · have e := (if_neg c93).symm.trans e
      refine ex_pc (if_neg c93) ?_
      refine ex_s (am_nb (m := 1) (pc1 := 342) (ls1 := [(0, .ref 157), (1, .int w1), (9, .int v9)]) (st1 := [.ref 157]) (H1 := H) (k1 := 0) (n1 := 0) (by with_unfolding_all rfl)) ?_
      refine xe_get (v := .ref 183) hS rfl rfl (by decide) rfl ?_
      refine ex_s (am_nb (m := 6) (pc1 := 354) (ls1 := [(0, .ref 157), (1, .int w1), (9, .int v9)]) (st1 := [.int 32, .int ((80 * w1) + v9), .ref 183]) (H1 := H) (k1 := 0) (n1 := 0) (by with_unfolding_all rfl)) ?_
      obtain ⟨g97, e⟩ := xg_some e
      obtain ⟨a94, ha94, e⟩ := xw_some e
      refine xe_iast hS rfl rfl g97 (fun H95 s96 => ?_)
      have s96 : xS h b T a94 H95 := by rw [ha94]; exact s96
      refine ex_s (am_nb (m := 2) (pc1 := 332) (ls1 := [(9, .int (v9 + 1)), (0, .ref 157), (1, .int w1)]) (st1 := []) (H1 := H95) (k1 := 0) (n1 := 0) (by with_unfolding_all rfl)) ?_
      exact le_E (l1 := [(0, .ref 157), (1, .int w1), (9, .int (v9 + 1))]) ⟨rfl, rfl, rfl, trivial⟩ rfl (ih (v9 + 1) a94 H95 s96 e)

set_option maxRecDepth 100000 in
theorem tj349_291 {sL : Nat} {sx : Nat → Int32} {h b N : Nat} {T : List am_C} {a' : xA} {q1 : Int32} {q5 : Int32} {q7 : Int32} {a : xA} {H : am_H} (hS : xS h b T a H) (e : j349_291 N h b q1 q5 q7 a = some a') : am_E sL sx am_cs 349 291 [(0, .ref 157), (1, .int q1), (5, .int q5), (7, .int q7)] [] H none (fun H1 => xS h b T a' H1) := by
  unfold j349_291 at e
  refine ex_s (am_nb (m := 1) (pc1 := 293) (ls1 := [(0, .ref 157), (1, .int q1), (5, .int q5), (7, .int q7)]) (st1 := [.int q7]) (H1 := H) (k1 := 0) (n1 := 0) (by with_unfolding_all rfl)) ?_
  refine ex_s (st_if rfl) ?_
  by_cases c79 : q7 = 0
  · have e := (if_pos c79).symm.trans e
    refine ex_pc (if_pos c79) ?_
    cases e
    exact ex_r (st_vret rfl rfl) hS
  · have e := (if_neg c79).symm.trans e
    refine ex_pc (if_neg c79) ?_
    refine ex_s (am_nb (m := 1) (pc1 := 297) (ls1 := [(0, .ref 157), (1, .int q1), (5, .int q5), (7, .int q7)]) (st1 := [.ref 157]) (H1 := H) (k1 := 0) (n1 := 0) (by with_unfolding_all rfl)) ?_
    refine xe_get (v := .int (a 157 49)) hS rfl rfl (by decide) rfl ?_
    refine ex_s (am_nb (m := 1) (pc1 := 303) (ls1 := [(0, .ref 157), (1, .int q1), (5, .int q5), (7, .int q7)]) (st1 := [.int 6000, .int (a 157 49)]) (H1 := H) (k1 := 0) (n1 := 0) (by with_unfolding_all rfl)) ?_
    refine ex_s (st_icmp rfl) ?_
    by_cases c80 : (a 157 49) ≤ 6000
    · have e := (if_pos c80).symm.trans e
      refine ex_pc (if_pos c80) ?_
      refine ex_s (am_nb (m := 3) (pc1 := 311) (ls1 := [(0, .ref 157), (1, .int q1), (5, .int q5), (7, .int q7)]) (st1 := [.int q5, .int q1, .ref 157]) (H1 := H) (k1 := 0) (n1 := 0) (by with_unfolding_all rfl)) ?_
      obtain ⟨a84, e83, e⟩ := xb1_some e
      refine ex_cv0 (as := [.int q1, .int q5]) (rest := []) rfl rfl rfl rfl (hS.obj rfl (by decide)) rfl (by with_unfolding_all rfl) (by with_unfolding_all rfl) (tf340_motion hS e83) (fun H81 s82 => ?_)
      refine ex_s (am_nb (m := 2) (pc1 := 316) (ls1 := [(0, .ref 157), (1, .int q1), (5, .int q5), (7, .int q7)]) (st1 := [.int 0, .ref 157]) (H1 := H81) (k1 := 0) (n1 := 0) (by with_unfolding_all rfl)) ?_
      obtain ⟨a88, e87, e⟩ := xb1_some e
      refine ex_cv0 (as := [.int 0]) (rest := []) rfl rfl rfl rfl (s82.obj rfl (by decide)) rfl (by with_unfolding_all rfl) (by with_unfolding_all rfl) (tf350_dresses s82 e87) (fun H85 s86 => ?_)
      refine ex_s (am_nb (m := 5) (pc1 := 325) (ls1 := [(0, .ref 157), (1, .int q1), (5, .int q5), (7, .int q7)]) (st1 := [.int 1, .int 0, .int 0, .int 24, .ref 157]) (H1 := H85) (k1 := 0) (n1 := 0) (by with_unfolding_all rfl)) ?_
      obtain ⟨a92, e91, e⟩ := xb1_some e
      refine ex_cv0 (as := [.int 24, .int 0, .int 0, .int 1]) (rest := []) rfl rfl rfl rfl (s86.obj rfl (by decide)) rfl (by with_unfolding_all rfl) (by with_unfolding_all rfl) (tf332_typeAll s86 e91) (fun H89 s90 => ?_)
      refine ex_s (am_nb (m := 2) (pc1 := 332) (ls1 := [(9, .int q5), (0, .ref 157), (1, .int q1), (5, .int q5), (7, .int q7)]) (st1 := []) (H1 := H89) (k1 := 0) (n1 := 0) (by with_unfolding_all rfl)) ?_
      obtain ⟨z98, e99, e⟩ := Option.bind_eq_some_iff.mp e
      refine le_E (l1 := [(0, .ref 157), (1, .int q1), (9, .int q5)]) ⟨rfl, rfl, rfl, trivial⟩ rfl (tl349_332 (z := z98)  (fun uz98_0 Hz980 sz980 => ?_) N q5 a92 H89 s90 e99)
      cases e
      exact ex_r (st_vret rfl rfl) sz980
    · have e := (if_neg c80).symm.trans e
      refine ex_pc (if_neg c80) ?_
      cases e
      exact ex_r (st_vret rfl rfl) hS

set_option maxRecDepth 100000 in
theorem tj349_158 {sL : Nat} {sx : Nat → Int32} {h b N : Nat} {T : List am_C} {a' : xA} {q1 : Int32} {q2 : Int32} {q3 : Int32} {q5 : Int32} {t0 : Int32} {a : xA} {H : am_H} (hS : xS h b T a H) (e : j349_158 N h b q1 q2 q3 q5 t0 a = some a') : am_E sL sx am_cs 349 158 [(0, .ref 157), (1, .int q1), (2, .int q2), (3, .int q3), (5, .int q5)] [.int t0] H none (fun H1 => xS h b T a' H1) := by
  unfold j349_158 at e
  refine ex_s (am_nb (m := 2) (pc1 := 162) (ls1 := [(7, .int t0), (0, .ref 157), (1, .int q1), (2, .int q2), (3, .int q3), (5, .int q5)]) (st1 := [.int t0]) (H1 := H) (k1 := 0) (n1 := 0) (by with_unfolding_all rfl)) ?_
  have kk : am_E sL sx am_cs 349 173 [(7, .int t0), (0, .ref 157), (1, .int q1), (2, .int q2), (3, .int q3), (5, .int q5)] [.int (if t0 = 0 then (q3 + 1) else (q5))] H none (fun H1 => xS h b T a' H1) := by
    refine ex_s (am_nb (m := 3) (pc1 := 178) (ls1 := [(9, .int q2), (8, .int (if t0 = 0 then (q3 + 1) else (q5))), (7, .int t0), (0, .ref 157), (1, .int q1), (2, .int q2), (3, .int q3), (5, .int q5)]) (st1 := []) (H1 := H) (k1 := 0) (n1 := 0) (by with_unfolding_all rfl)) ?_
    obtain ⟨z75, e76, e⟩ := Option.bind_eq_some_iff.mp e
    refine le_E (l1 := [(0, .ref 157), (1, .int q1), (5, .int q5), (7, .int t0), (8, .int (if t0 = 0 then (q3 + 1) else (q5))), (9, .int q2)]) ⟨rfl, rfl, rfl, rfl, rfl, rfl, trivial⟩ rfl (tl349_178 (z := z75)  (fun uz75_0 Hz750 sz750 => ?_) N q2 a H hS e76)
    exact le_E (l1 := [(0, .ref 157), (1, .int q1), (5, .int q5), (7, .int t0)]) ⟨rfl, rfl, rfl, rfl, trivial⟩ rfl (tj349_291  sz750 e)
  refine ex_s (st_if rfl) ?_
  by_cases c41 : t0 = 0
  · refine ex_pc (if_pos c41) ?_
    refine ex_s (am_nb (m := 3) (pc1 := 173) (ls1 := [(7, .int t0), (0, .ref 157), (1, .int q1), (2, .int q2), (3, .int q3), (5, .int q5)]) (st1 := [.int (q3 + 1)]) (H1 := H) (k1 := 0) (n1 := 0) (by with_unfolding_all rfl)) ?_
    rw [if_pos c41] at kk
    exact kk
  · refine ex_pc (if_neg c41) ?_
    refine ex_s (am_nb (m := 2) (pc1 := 173) (ls1 := [(7, .int t0), (0, .ref 157), (1, .int q1), (2, .int q2), (3, .int q3), (5, .int q5)]) (st1 := [.int q5]) (H1 := H) (k1 := 0) (n1 := 0) (by with_unfolding_all rfl)) ?_
    rw [if_neg c41] at kk
    exact kk

set_option maxRecDepth 100000 in
theorem tj349_157 {sL : Nat} {sx : Nat → Int32} {h b N : Nat} {T : List am_C} {a' : xA} {q1 : Int32} {q2 : Int32} {q3 : Int32} {q5 : Int32} {a : xA} {H : am_H} (hS : xS h b T a H) (e : j349_157 N h b q1 q2 q3 q5 a = some a') : am_E sL sx am_cs 349 157 [(0, .ref 157), (1, .int q1), (2, .int q2), (3, .int q3), (5, .int q5)] [] H none (fun H1 => xS h b T a' H1) := by
  unfold j349_157 at e
  refine ex_s (am_nb (m := 1) (pc1 := 158) (ls1 := [(0, .ref 157), (1, .int q1), (2, .int q2), (3, .int q3), (5, .int q5)]) (st1 := [.int 0]) (H1 := H) (k1 := 0) (n1 := 0) (by with_unfolding_all rfl)) ?_
  exact le_E (l1 := [(0, .ref 157), (1, .int q1), (2, .int q2), (3, .int q3), (5, .int q5)]) ⟨rfl, rfl, rfl, rfl, rfl, trivial⟩ rfl (tj349_158  hS e)

set_option maxRecDepth 100000 in
theorem tj349_118 {sL : Nat} {sx : Nat → Int32} {h b N : Nat} {T : List am_C} {a' : xA} {q1 : Int32} {q2 : Int32} {q3 : Int32} {q4 : Int32} {a : xA} {H : am_H} (hS : xS h b T a H) (e : j349_118 N h b q1 q2 q3 q4 a = some a') : am_E sL sx am_cs 349 118 [(0, .ref 157), (1, .int q1), (2, .int q2), (3, .int q3), (4, .int q4)] [] H none (fun H1 => xS h b T a' H1) := by
  unfold j349_118 at e
  refine ex_s (am_nb (m := 8) (pc1 := 131) (ls1 := [(5, .int (xmax q2 q4)), (0, .ref 157), (1, .int q1), (2, .int q2), (3, .int q3), (4, .int q4)]) (st1 := [.int 0, .int 0, .int 24, .ref 157]) (H1 := H) (k1 := 0) (n1 := 0) (by with_unfolding_all rfl)) ?_
  obtain ⟨r36, a37, e35, e⟩ := xb2_some e
  refine ex_cv1 (as := [.int 24, .int 0, .int 0]) (rest := []) rfl rfl rfl rfl (hS.obj rfl (by decide)) rfl (by with_unfolding_all rfl) (by with_unfolding_all rfl) (tf333_bytesOf hS e35) (fun H33 s34 => ?_)
  refine ex_s (am_nb (m := 3) (pc1 := 139) (ls1 := [(6, .int r36), (5, .int (xmax q2 q4)), (0, .ref 157), (1, .int q1), (2, .int q2), (3, .int q3), (4, .int q4)]) (st1 := [.int (-1), .int r36]) (H1 := H33) (k1 := 0) (n1 := 0) (by with_unfolding_all rfl)) ?_
  refine ex_s (st_icmp rfl) ?_
  by_cases c40 : r36 = (-1)
  · have e := (if_pos c40).symm.trans e
    refine ex_pc (if_pos c40) ?_
    exact le_E (l1 := [(0, .ref 157), (1, .int q1), (2, .int q2), (3, .int q3), (5, .int (xmax q2 q4))]) ⟨rfl, rfl, rfl, rfl, rfl, trivial⟩ rfl (tj349_157  s34 e)
  · have e := (if_neg c40).symm.trans e
    refine ex_pc (if_neg c40) ?_
    refine ex_s (am_nb (m := 6) (pc1 := 150) (ls1 := [(6, .int r36), (5, .int (xmax q2 q4)), (0, .ref 157), (1, .int q1), (2, .int q2), (3, .int q3), (4, .int q4)]) (st1 := [.int r36, .int ((q3 + 1) - (xmax q2 q4))]) (H1 := H33) (k1 := 0) (n1 := 0) (by with_unfolding_all rfl)) ?_
    have kk : am_E sL sx am_cs 349 158 [(6, .int r36), (5, .int (xmax q2 q4)), (0, .ref 157), (1, .int q1), (2, .int q2), (3, .int q3), (4, .int q4)] [.int (if ((q3 + 1) - (xmax q2 q4)) ≤ r36 then (0 : Int32) else (1 : Int32))] H33 none (fun H1 => xS h b T a' H1) := by
      refine ex_s (am_nb (m := 2) (pc1 := 162) (ls1 := [(7, .int (if ((q3 + 1) - (xmax q2 q4)) ≤ r36 then (0 : Int32) else (1 : Int32))), (6, .int r36), (5, .int (xmax q2 q4)), (0, .ref 157), (1, .int q1), (2, .int q2), (3, .int q3), (4, .int q4)]) (st1 := [.int (if ((q3 + 1) - (xmax q2 q4)) ≤ r36 then (0 : Int32) else (1 : Int32))]) (H1 := H33) (k1 := 0) (n1 := 0) (by with_unfolding_all rfl)) ?_
      have kk : am_E sL sx am_cs 349 173 [(7, .int (if ((q3 + 1) - (xmax q2 q4)) ≤ r36 then (0 : Int32) else (1 : Int32))), (6, .int r36), (5, .int (xmax q2 q4)), (0, .ref 157), (1, .int q1), (2, .int q2), (3, .int q3), (4, .int q4)] [.int (if (if ((q3 + 1) - (xmax q2 q4)) ≤ r36 then (0 : Int32) else (1 : Int32)) = 0 then (q3 + 1) else (xmax q2 q4))] H33 none (fun H1 => xS h b T a' H1) := by
        refine ex_s (am_nb (m := 3) (pc1 := 178) (ls1 := [(9, .int q2), (8, .int (if (if ((q3 + 1) - (xmax q2 q4)) ≤ r36 then (0 : Int32) else (1 : Int32)) = 0 then (q3 + 1) else (xmax q2 q4))), (7, .int (if ((q3 + 1) - (xmax q2 q4)) ≤ r36 then (0 : Int32) else (1 : Int32))), (6, .int r36), (5, .int (xmax q2 q4)), (0, .ref 157), (1, .int q1), (2, .int q2), (3, .int q3), (4, .int q4)]) (st1 := []) (H1 := H33) (k1 := 0) (n1 := 0) (by with_unfolding_all rfl)) ?_
        obtain ⟨z102, e103, e⟩ := Option.bind_eq_some_iff.mp e
        refine le_E (l1 := [(0, .ref 157), (1, .int q1), (5, .int (xmax q2 q4)), (7, .int (if ((q3 + 1) - (xmax q2 q4)) ≤ r36 then (0 : Int32) else (1 : Int32))), (8, .int (if (if ((q3 + 1) - (xmax q2 q4)) ≤ r36 then (0 : Int32) else (1 : Int32)) = 0 then (q3 + 1) else (xmax q2 q4))), (9, .int q2)]) ⟨rfl, rfl, rfl, rfl, rfl, rfl, trivial⟩ rfl (tl349_178 (z := z102)  (fun uz102_0 Hz1020 sz1020 => ?_) N q2 a37 H33 s34 e103)
        exact le_E (l1 := [(0, .ref 157), (1, .int q1), (5, .int (xmax q2 q4)), (7, .int (if ((q3 + 1) - (xmax q2 q4)) ≤ r36 then (0 : Int32) else (1 : Int32)))]) ⟨rfl, rfl, rfl, rfl, trivial⟩ rfl (tj349_291  sz1020 e)
      refine ex_s (st_if rfl) ?_
      by_cases c101 : (if ((q3 + 1) - (xmax q2 q4)) ≤ r36 then (0 : Int32) else (1 : Int32)) = 0
      · refine ex_pc (if_pos c101) ?_
        refine ex_s (am_nb (m := 3) (pc1 := 173) (ls1 := [(7, .int (if ((q3 + 1) - (xmax q2 q4)) ≤ r36 then (0 : Int32) else (1 : Int32))), (6, .int r36), (5, .int (xmax q2 q4)), (0, .ref 157), (1, .int q1), (2, .int q2), (3, .int q3), (4, .int q4)]) (st1 := [.int (q3 + 1)]) (H1 := H33) (k1 := 0) (n1 := 0) (by with_unfolding_all rfl)) ?_
        rw [if_pos c101] at kk
        exact kk
      · refine ex_pc (if_neg c101) ?_
        refine ex_s (am_nb (m := 2) (pc1 := 173) (ls1 := [(7, .int (if ((q3 + 1) - (xmax q2 q4)) ≤ r36 then (0 : Int32) else (1 : Int32))), (6, .int r36), (5, .int (xmax q2 q4)), (0, .ref 157), (1, .int q1), (2, .int q2), (3, .int q3), (4, .int q4)]) (st1 := [.int (xmax q2 q4)]) (H1 := H33) (k1 := 0) (n1 := 0) (by with_unfolding_all rfl)) ?_
        rw [if_neg c101] at kk
        exact kk
    refine ex_s (st_icmp rfl) ?_
    by_cases c100 : ((q3 + 1) - (xmax q2 q4)) ≤ r36
    · refine ex_pc (if_pos c100) ?_
      refine ex_s (am_nb (m := 1) (pc1 := 158) (ls1 := [(6, .int r36), (5, .int (xmax q2 q4)), (0, .ref 157), (1, .int q1), (2, .int q2), (3, .int q3), (4, .int q4)]) (st1 := [.int 0]) (H1 := H33) (k1 := 0) (n1 := 0) (by with_unfolding_all rfl)) ?_
      rw [if_pos c100] at kk
      exact kk
    · refine ex_pc (if_neg c100) ?_
      refine ex_s (am_nb (m := 2) (pc1 := 158) (ls1 := [(6, .int r36), (5, .int (xmax q2 q4)), (0, .ref 157), (1, .int q1), (2, .int q2), (3, .int q3), (4, .int q4)]) (st1 := [.int 1]) (H1 := H33) (k1 := 0) (n1 := 0) (by with_unfolding_all rfl)) ?_
      rw [if_neg c100] at kk
      exact kk

set_option maxRecDepth 100000 in
theorem tj349_36 {sL : Nat} {sx : Nat → Int32} {h b N : Nat} {T : List am_C} {a' : xA} {q1 : Int32} {q2 : Int32} {a : xA} {H : am_H} (hS : xS h b T a H) (e : j349_36 N h b q1 q2 a = some a') : am_E sL sx am_cs 349 36 [(0, .ref 157), (1, .int q1), (2, .int q2)] [] H none (fun H1 => xS h b T a' H1) := by
  unfold j349_36 at e
  refine ex_s (am_nb (m := 2) (pc1 := 38) (ls1 := [(0, .ref 157), (1, .int q1), (2, .int q2)]) (st1 := [.ref 157, .int q2]) (H1 := H) (k1 := 0) (n1 := 0) (by with_unfolding_all rfl)) ?_
  refine xe_get (v := .int (a 157 26)) hS rfl rfl (by decide) rfl ?_
  refine ex_s (st_icmp rfl) ?_
  by_cases c12 : q2 = (a 157 26)
  · have e := (if_pos c12).symm.trans e
    refine ex_pc (if_pos c12) ?_
    cases e
    exact ex_r (st_vret rfl rfl) hS
  · have e := (if_neg c12).symm.trans e
    refine ex_pc (if_neg c12) ?_
    refine ex_s (am_nb (m := 1) (pc1 := 46) (ls1 := [(0, .ref 157), (1, .int q1), (2, .int q2)]) (st1 := [.ref 157]) (H1 := H) (k1 := 0) (n1 := 0) (by with_unfolding_all rfl)) ?_
    refine xe_get (v := .int (a 157 26)) hS rfl rfl (by decide) rfl ?_
    refine ex_s (am_nb (m := 3) (pc1 := 52) (ls1 := [(3, .int ((a 157 26) - 1)), (0, .ref 157), (1, .int q1), (2, .int q2)]) (st1 := []) (H1 := H) (k1 := 0) (n1 := 0) (by with_unfolding_all rfl)) ?_
    obtain ⟨z20, e21, e⟩ := Option.bind_eq_some_iff.mp e
    refine le_E (l1 := [(0, .ref 157), (1, .int q1), (2, .int q2), (3, .int ((a 157 26) - 1))]) ⟨rfl, rfl, rfl, rfl, trivial⟩ rfl (tl349_52 (z := z20)  (fun uz20_0 Hz200 sz200 => ?_) N ((a 157 26) - 1) a H hS e21)
    refine ex_s (am_nb (m := 1) (pc1 := 79) (ls1 := [(0, .ref 157), (1, .int q1), (2, .int q2), (3, .int z20.2.1)]) (st1 := [.ref 157]) (H1 := Hz200) (k1 := 0) (n1 := 0) (by with_unfolding_all rfl)) ?_
    refine xe_get (v := .int (z20.2.2 157 26)) sz200 rfl rfl (by decide) rfl ?_
    refine ex_s (am_nb (m := 1) (pc1 := 84) (ls1 := [(4, .int (z20.2.2 157 26)), (0, .ref 157), (1, .int q1), (2, .int q2), (3, .int z20.2.1)]) (st1 := []) (H1 := Hz200) (k1 := 0) (n1 := 0) (by with_unfolding_all rfl)) ?_
    obtain ⟨z31, e32, e⟩ := Option.bind_eq_some_iff.mp e
    refine le_E (l1 := [(0, .ref 157), (1, .int q1), (2, .int q2), (3, .int z20.2.1), (4, .int (z20.2.2 157 26))]) ⟨rfl, rfl, rfl, rfl, rfl, trivial⟩ rfl (tl349_84 (z := z31)  (fun uz31_0 Hz310 sz310 => ?_) N (z20.2.2 157 26) z20.2.2 Hz200 sz200 e32)
    exact le_E (l1 := [(0, .ref 157), (1, .int q1), (2, .int q2), (3, .int z20.2.1), (4, .int z31.2.1)]) ⟨rfl, rfl, rfl, rfl, rfl, trivial⟩ rfl (tj349_118  sz310 e)

set_option maxRecDepth 100000 in
theorem tf349_updates {sL : Nat} {sx : Nat → Int32} {h b N : Nat} {T : List am_C} {a' : xA} {x0 : Int32} {a : xA} {H : am_H} (hS : xS h b T a H) (e : f349_updates N h b x0 a = some a') : am_E sL sx am_cs 349 0 [(0, .ref 157), (1, .int x0)] [] H none (fun H1 => xS h b T a' H1) := by
  unfold f349_updates at e
  refine ex_s (am_nb (m := 2) (pc1 := 2) (ls1 := [(2, .int 0), (0, .ref 157), (1, .int x0)]) (st1 := []) (H1 := H) (k1 := 0) (n1 := 0) (by with_unfolding_all rfl)) ?_
  obtain ⟨z10, e11, e⟩ := Option.bind_eq_some_iff.mp e
  refine le_E (l1 := [(0, .ref 157), (1, .int x0), (2, .int 0)]) ⟨rfl, rfl, rfl, trivial⟩ rfl (tl349_2 (z := z10)  (fun uz10_0 Hz100 sz100 => ?_) N 0 a H hS e11)
  exact le_E (l1 := [(0, .ref 157), (1, .int x0), (2, .int z10.2.1)]) ⟨rfl, rfl, rfl, trivial⟩ rfl (tj349_36  sz100 e)

set_option maxRecDepth 100000 in
theorem tf352_queue {sL : Nat} {sx : Nat → Int32} {h b N : Nat} {T : List am_C} {r : Int32} {a' : xA} {x0 : Int32} {a : xA} {H : am_H} (hS : xS h b T a H) (e : f352_queue N h b x0 a = some (r, a')) : am_E sL sx am_cs 352 0 [(0, .ref 157), (1, .int x0)] [] H (some (.int r)) (fun H1 => xS h b T a' H1) := by
  unfold f352_queue at e
  refine ex_s (am_nb (m := 1) (pc1 := 1) (ls1 := [(0, .ref 157), (1, .int x0)]) (st1 := [.ref 157]) (H1 := H) (k1 := 0) (n1 := 0) (by with_unfolding_all rfl)) ?_
  refine xe_get (v := .int (a 157 56)) hS rfl rfl (by decide) rfl ?_
  refine ex_s (am_nb (m := 1) (pc1 := 7) (ls1 := [(0, .ref 157), (1, .int x0)]) (st1 := [.int 8000, .int (a 157 56)]) (H1 := H) (k1 := 0) (n1 := 0) (by with_unfolding_all rfl)) ?_
  refine ex_s (st_icmp rfl) ?_
  by_cases c1 : (a 157 56) = 8000
  · have e := (if_pos c1).symm.trans e
    refine ex_pc (if_pos c1) ?_
    refine ex_s (am_nb (m := 2) (pc1 := 12) (ls1 := [(0, .ref 157), (1, .int x0)]) (st1 := [.ref 157, .ref 157]) (H1 := H) (k1 := 0) (n1 := 0) (by with_unfolding_all rfl)) ?_
    refine xe_get (v := .int (a 157 57)) hS rfl rfl (by decide) rfl ?_
    refine ex_s (am_nb (m := 2) (pc1 := 17) (ls1 := [(0, .ref 157), (1, .int x0)]) (st1 := [.int ((a 157 57) + 1), .ref 157]) (H1 := H) (k1 := 0) (n1 := 0) (by with_unfolding_all rfl)) ?_
    obtain ⟨a2, ha2, e⟩ := xw_some e
    refine xe_put (w := ((a 157 57) + 1)) hS rfl rfl (by decide) rfl rfl rfl rfl (fun H3 s4 => ?_)
    have s4 : xS h b T a2 H3 := by rw [ha2]; exact s4
    refine ex_s (am_nb (m := 1) (pc1 := 21) (ls1 := [(0, .ref 157), (1, .int x0)]) (st1 := [.int 0]) (H1 := H3) (k1 := 0) (n1 := 0) (by with_unfolding_all rfl)) ?_
    cases e
    exact ex_r (st_iret rfl rfl rfl) s4
  · have e := (if_neg c1).symm.trans e
    refine ex_pc (if_neg c1) ?_
    refine ex_s (am_nb (m := 1) (pc1 := 23) (ls1 := [(0, .ref 157), (1, .int x0)]) (st1 := [.ref 157]) (H1 := H) (k1 := 0) (n1 := 0) (by with_unfolding_all rfl)) ?_
    refine xe_get (v := .ref 184) hS rfl rfl (by decide) rfl ?_
    refine ex_s (am_nb (m := 1) (pc1 := 27) (ls1 := [(0, .ref 157), (1, .int x0)]) (st1 := [.ref 157, .ref 184]) (H1 := H) (k1 := 0) (n1 := 0) (by with_unfolding_all rfl)) ?_
    refine xe_get (v := .int (a 157 55)) hS rfl rfl (by decide) rfl ?_
    refine ex_s (am_nb (m := 1) (pc1 := 31) (ls1 := [(0, .ref 157), (1, .int x0)]) (st1 := [.ref 157, .int (a 157 55), .ref 184]) (H1 := H) (k1 := 0) (n1 := 0) (by with_unfolding_all rfl)) ?_
    refine xe_get (v := .int (a 157 56)) hS rfl rfl (by decide) rfl ?_
    refine ex_s (am_nb (m := 5) (pc1 := 41) (ls1 := [(0, .ref 157), (1, .int x0)]) (st1 := [.int x0.toInt8.toInt32, .int (((a 157 55) + (a 157 56)) - ((a 157 55) + (a 157 56)) / 8000 * 8000), .ref 184]) (H1 := H) (k1 := 0) (n1 := 0) (by with_unfolding_all rfl)) ?_
    obtain ⟨g8, e⟩ := xg_some e
    obtain ⟨a5, ha5, e⟩ := xw_some e
    refine xe_bast hS rfl rfl g8 (fun H6 s7 => ?_)
    have s7 : xS h b T a5 H6 := by rw [ha5]; exact s7
    refine ex_s (am_nb (m := 2) (pc1 := 44) (ls1 := [(0, .ref 157), (1, .int x0)]) (st1 := [.ref 157, .ref 157]) (H1 := H6) (k1 := 0) (n1 := 0) (by with_unfolding_all rfl)) ?_
    refine xe_get (v := .int (a5 157 56)) s7 rfl rfl (by decide) rfl ?_
    refine ex_s (am_nb (m := 2) (pc1 := 49) (ls1 := [(0, .ref 157), (1, .int x0)]) (st1 := [.int ((a5 157 56) + 1), .ref 157]) (H1 := H6) (k1 := 0) (n1 := 0) (by with_unfolding_all rfl)) ?_
    obtain ⟨a9, ha9, e⟩ := xw_some e
    refine xe_put (w := ((a5 157 56) + 1)) s7 rfl rfl (by decide) rfl rfl rfl rfl (fun H10 s11 => ?_)
    have s11 : xS h b T a9 H10 := by rw [ha9]; exact s11
    refine ex_s (am_nb (m := 1) (pc1 := 53) (ls1 := [(0, .ref 157), (1, .int x0)]) (st1 := [.int 1]) (H1 := H10) (k1 := 0) (n1 := 0) (by with_unfolding_all rfl)) ?_
    cases e
    exact ex_r (st_iret rfl rfl rfl) s11

set_option maxRecDepth 100000 in
theorem tj331_64 {sL : Nat} {sx : Nat → Int32} {h b N : Nat} {T : List am_C} {R : Option Value} {F : am_H → Prop} {z : Nat × xA} {rc : Int32 → xA → Option (Nat × xA)} (k0 : z.1 = 0 → ∀ H2 : am_H, xS h b T z.2 H2 → am_E sL sx am_cs 331 74 [(0, .ref 157)] [] H2 R F) (ih : ∀ (v1 : Int32) (a : xA) (H : am_H), xS h b T a H → rc v1 a = some z → am_E sL sx am_cs 331 27 [(0, .ref 157), (1, .int v1)] [] H R F) {q1 : Int32} {t0 : Int32} {t1 : Int32} {a : xA} {H : am_H} (hS : xS h b T a H) (e : j331_64 N h b rc q1 t0 t1 a = some z) : am_E sL sx am_cs 331 64 [(0, .ref 157), (1, .int q1)] [.int t0, .int t1, .ref 157] H R F := by
  unfold j331_64 at e
  refine ex_s (am_nb (m := 1) (pc1 := 65) (ls1 := [(0, .ref 157), (1, .int q1)]) (st1 := [.int (t1 ||| t0), .ref 157]) (H1 := H) (k1 := 0) (n1 := 0) (by with_unfolding_all rfl)) ?_
  obtain ⟨a19, ha19, e⟩ := xw_some e
  refine xe_put (w := (t1 ||| t0)) hS rfl rfl (by decide) rfl rfl rfl rfl (fun H20 s21 => ?_)
  have s21 : xS h b T a19 H20 := by rw [ha19]; exact s21
  refine ex_s (am_nb (m := 2) (pc1 := 27) (ls1 := [(1, .int (q1 + 1)), (0, .ref 157)]) (st1 := []) (H1 := H20) (k1 := 0) (n1 := 0) (by with_unfolding_all rfl)) ?_
  exact le_E (l1 := [(0, .ref 157), (1, .int (q1 + 1))]) ⟨rfl, rfl, trivial⟩ rfl (ih (q1 + 1) a19 H20 s21 e)

set_option maxRecDepth 100000 in
theorem tj331_63 {sL : Nat} {sx : Nat → Int32} {h b N : Nat} {T : List am_C} {R : Option Value} {F : am_H → Prop} {z : Nat × xA} {rc : Int32 → xA → Option (Nat × xA)} (k0 : z.1 = 0 → ∀ H2 : am_H, xS h b T z.2 H2 → am_E sL sx am_cs 331 74 [(0, .ref 157)] [] H2 R F) (ih : ∀ (v1 : Int32) (a : xA) (H : am_H), xS h b T a H → rc v1 a = some z → am_E sL sx am_cs 331 27 [(0, .ref 157), (1, .int v1)] [] H R F) {q1 : Int32} {t0 : Int32} {a : xA} {H : am_H} (hS : xS h b T a H) (e : j331_63 N h b rc q1 t0 a = some z) : am_E sL sx am_cs 331 63 [(0, .ref 157), (1, .int q1)] [.int t0, .ref 157] H R F := by
  unfold j331_63 at e
  refine ex_s (am_nb (m := 1) (pc1 := 64) (ls1 := [(0, .ref 157), (1, .int q1)]) (st1 := [.int 0, .int t0, .ref 157]) (H1 := H) (k1 := 0) (n1 := 0) (by with_unfolding_all rfl)) ?_
  exact le_E (l1 := [(0, .ref 157), (1, .int q1)]) ⟨rfl, rfl, trivial⟩ rfl (tj331_64 k0 ih  hS e)

set_option maxRecDepth 100000 in
theorem tl331_27 {sL : Nat} {sx : Nat → Int32} {h b N : Nat} {T : List am_C} {R : Option Value} {F : am_H → Prop} {z : Nat × xA} (k0 : z.1 = 0 → ∀ H2 : am_H, xS h b T z.2 H2 → am_E sL sx am_cs 331 74 [(0, .ref 157)] [] H2 R F) : ∀ (n : Nat) (v1 : Int32) (a : xA) (H : am_H), xS h b T a H → l331_27 N h b n v1 a = some z → am_E sL sx am_cs 331 27 [(0, .ref 157), (1, .int v1)] [] H R F := by
  intro n
  induction n with
  | zero =>
    intro v1 a H hS e
    cases e
  | succ n ih =>
    intro v1 a H hS e
    unfold l331_27 at e
    refine ex_s (am_nb (m := 2) (pc1 := 29) (ls1 := [(0, .ref 157), (1, .int v1)]) (st1 := [.int 4, .int v1]) (H1 := H) (k1 := 0) (n1 := 0) (by with_unfolding_all rfl)) ?_
    refine ex_s (st_icmp rfl) ?_
    by_cases c11 : 4 ≤ v1
    · have e := (if_pos c11).symm.trans e
      refine ex_pc (if_pos c11) ?_
      cases e
      exact le_E (l1 := [(0, .ref 157)]) ⟨rfl, trivial⟩ rfl (k0 rfl H hS)
    · have e := (if_neg c11).symm.trans e
      refine ex_pc (if_neg c11) ?_
      refine ex_s (am_nb (m := 2) (pc1 := 34) (ls1 := [(0, .ref 157), (1, .int v1)]) (st1 := [.ref 157, .ref 157]) (H1 := H) (k1 := 0) (n1 := 0) (by with_unfolding_all rfl)) ?_
      refine xe_get (v := .int (a 157 50)) hS rfl rfl (by decide) rfl ?_
      refine ex_s (am_nb (m := 2) (pc1 := 40) (ls1 := [(0, .ref 157), (1, .int v1)]) (st1 := [.int 25, .ref 157, .int (a 157 50), .ref 157]) (H1 := H) (k1 := 0) (n1 := 0) (by with_unfolding_all rfl)) ?_
      obtain ⟨r15, a16, e14, e⟩ := xb2_some e
      refine ex_cv1 (as := [.int 25]) (rest := [.int (a 157 50), .ref 157]) rfl rfl rfl rfl (hS.obj rfl (by decide)) rfl (by with_unfolding_all rfl) (by with_unfolding_all rfl) (tf297_has hS e14) (fun H12 s13 => ?_)
      refine ex_s (st_if rfl) ?_
      by_cases c18 : r15 = 0
      · have e := (if_pos c18).symm.trans e
        refine ex_pc (if_pos c18) ?_
        exact le_E (l1 := [(0, .ref 157), (1, .int v1)]) ⟨rfl, rfl, trivial⟩ rfl (tj331_63 k0 ih  s13 e)
      · have e := (if_neg c18).symm.trans e
        refine ex_pc (if_neg c18) ?_
        refine ex_s (am_nb (m := 4) (pc1 := 51) (ls1 := [(0, .ref 157), (1, .int v1)]) (st1 := [.int (26 + v1), .ref 157, .int (a 157 50), .ref 157]) (H1 := H12) (k1 := 0) (n1 := 0) (by with_unfolding_all rfl)) ?_
        obtain ⟨r25, a26, e24, e⟩ := xb2_some e
        refine ex_cv1 (as := [.int (26 + v1)]) (rest := [.int (a 157 50), .ref 157]) rfl rfl rfl rfl (s13.obj rfl (by decide)) rfl (by with_unfolding_all rfl) (by with_unfolding_all rfl) (tf297_has s13 e24) (fun H22 s23 => ?_)
        refine ex_s (st_if rfl) ?_
        by_cases c28 : r25 = 0
        · have e := (if_pos c28).symm.trans e
          refine ex_pc (if_pos c28) ?_
          exact le_E (l1 := [(0, .ref 157), (1, .int v1)]) ⟨rfl, rfl, trivial⟩ rfl (tj331_63 k0 ih  s23 e)
        · have e := (if_neg c28).symm.trans e
          refine ex_pc (if_neg c28) ?_
          refine ex_s (am_nb (m := 4) (pc1 := 64) (ls1 := [(0, .ref 157), (1, .int v1)]) (st1 := [.int ((1 : Int32) <<< (v1 &&& 31)), .int (a 157 50), .ref 157]) (H1 := H22) (k1 := 0) (n1 := 0) (by with_unfolding_all rfl)) ?_
          exact le_E (l1 := [(0, .ref 157), (1, .int v1)]) ⟨rfl, rfl, trivial⟩ rfl (tj331_64 k0 ih  s23 e)

set_option maxRecDepth 100000 in
theorem tl331_76 {sL : Nat} {sx : Nat → Int32} {h b N : Nat} {T : List am_C} {R : Option Value} {F : am_H → Prop} {z : Nat × xA} (k0 : z.1 = 0 → ∀ H2 : am_H, xS h b T z.2 H2 → am_E sL sx am_cs 331 101 [(0, .ref 157)] [] H2 R F) : ∀ (n : Nat) (v1 : Int32) (a : xA) (H : am_H), xS h b T a H → l331_76 N h b n v1 a = some z → am_E sL sx am_cs 331 76 [(0, .ref 157), (1, .int v1)] [] H R F := by
  intro n
  induction n with
  | zero =>
    intro v1 a H hS e
    cases e
  | succ n ih =>
    intro v1 a H hS e
    unfold l331_76 at e
    refine ex_s (am_nb (m := 2) (pc1 := 80) (ls1 := [(0, .ref 157), (1, .int v1)]) (st1 := [.int 1920, .int v1]) (H1 := H) (k1 := 0) (n1 := 0) (by with_unfolding_all rfl)) ?_
    refine ex_s (st_icmp rfl) ?_
    by_cases c31 : 1920 ≤ v1
    · have e := (if_pos c31).symm.trans e
      refine ex_pc (if_pos c31) ?_
      cases e
      exact le_E (l1 := [(0, .ref 157)]) ⟨rfl, trivial⟩ rfl (k0 rfl H hS)
    · have e := (if_neg c31).symm.trans e
      refine ex_pc (if_neg c31) ?_
      refine ex_s (am_nb (m := 1) (pc1 := 84) (ls1 := [(0, .ref 157), (1, .int v1)]) (st1 := [.ref 157]) (H1 := H) (k1 := 0) (n1 := 0) (by with_unfolding_all rfl)) ?_
      refine xe_get (v := .ref 183) hS rfl rfl (by decide) rfl ?_
      refine ex_s (am_nb (m := 2) (pc1 := 89) (ls1 := [(0, .ref 157), (1, .int v1)]) (st1 := [.ref 157, .int v1, .ref 183]) (H1 := H) (k1 := 0) (n1 := 0) (by with_unfolding_all rfl)) ?_
      refine xe_get (v := .ref 171) hS rfl rfl (by decide) rfl ?_
      refine ex_s (am_nb (m := 1) (pc1 := 93) (ls1 := [(0, .ref 157), (1, .int v1)]) (st1 := [.int v1, .ref 171, .int v1, .ref 183]) (H1 := H) (k1 := 0) (n1 := 0) (by with_unfolding_all rfl)) ?_
      obtain ⟨g32, e⟩ := xg_some e
      refine xe_iald hS rfl rfl g32 ?_
      obtain ⟨a33, ha33, e⟩ := xw_some e
      refine xe_iast hS rfl rfl g32 (fun H34 s35 => ?_)
      have s35 : xS h b T a33 H34 := by rw [ha33]; exact s35
      refine ex_s (am_nb (m := 2) (pc1 := 76) (ls1 := [(1, .int (v1 + 1)), (0, .ref 157)]) (st1 := []) (H1 := H34) (k1 := 0) (n1 := 0) (by with_unfolding_all rfl)) ?_
      exact le_E (l1 := [(0, .ref 157), (1, .int (v1 + 1))]) ⟨rfl, rfl, trivial⟩ rfl (ih (v1 + 1) a33 H34 s35 e)

set_option maxRecDepth 100000 in
theorem tl331_158 {sL : Nat} {sx : Nat → Int32} {h b N : Nat} {T : List am_C} {R : Option Value} {F : am_H → Prop} {z : Nat × xA} (k0 : z.1 = 0 → ∀ H2 : am_H, xS h b T z.2 H2 → am_E sL sx am_cs 331 187 [(0, .ref 157)] [] H2 R F) : ∀ (n : Nat) (v1 : Int32) (a : xA) (H : am_H), xS h b T a H → l331_158 N h b n v1 a = some z → am_E sL sx am_cs 331 158 [(0, .ref 157), (1, .int v1)] [] H R F := by
  intro n
  induction n with
  | zero =>
    intro v1 a H hS e
    cases e
  | succ n ih =>
    intro v1 a H hS e
    unfold l331_158 at e
    refine ex_s (am_nb (m := 2) (pc1 := 160) (ls1 := [(0, .ref 157), (1, .int v1)]) (st1 := [.ref 157, .int v1]) (H1 := H) (k1 := 0) (n1 := 0) (by with_unfolding_all rfl)) ?_
    refine xe_get (v := .int (a 157 27)) hS rfl rfl (by decide) rfl ?_
    refine ex_s (st_icmp rfl) ?_
    by_cases c57 : (a 157 27) ≤ v1
    · have e := (if_pos c57).symm.trans e
      refine ex_pc (if_pos c57) ?_
      cases e
      exact le_E (l1 := [(0, .ref 157)]) ⟨rfl, trivial⟩ rfl (k0 rfl H hS)
    · have e := (if_neg c57).symm.trans e
      refine ex_pc (if_neg c57) ?_
      refine ex_s (am_nb (m := 1) (pc1 := 167) (ls1 := [(0, .ref 157), (1, .int v1)]) (st1 := [.ref 157]) (H1 := H) (k1 := 0) (n1 := 0) (by with_unfolding_all rfl)) ?_
      refine xe_get (v := .int (a 157 49)) hS rfl rfl (by decide) rfl ?_
      refine ex_s (am_nb (m := 1) (pc1 := 173) (ls1 := [(0, .ref 157), (1, .int v1)]) (st1 := [.int 6000, .int (a 157 49)]) (H1 := H) (k1 := 0) (n1 := 0) (by with_unfolding_all rfl)) ?_
      refine ex_s (st_icmp rfl) ?_
      by_cases c58 : 6000 < (a 157 49)
      · have e := (if_pos c58).symm.trans e
        refine ex_pc (if_pos c58) ?_
        cases e
        exact le_E (l1 := [(0, .ref 157)]) ⟨rfl, trivial⟩ rfl (k0 rfl H hS)
      · have e := (if_neg c58).symm.trans e
        refine ex_pc (if_neg c58) ?_
        refine ex_s (am_nb (m := 2) (pc1 := 178) (ls1 := [(0, .ref 157), (1, .int v1)]) (st1 := [.int v1, .ref 157]) (H1 := H) (k1 := 0) (n1 := 0) (by with_unfolding_all rfl)) ?_
        obtain ⟨a62, e61, e⟩ := xb1_some e
        refine ex_cv0 (as := [.int v1]) (rest := []) rfl rfl rfl rfl (hS.obj rfl (by decide)) rfl (by with_unfolding_all rfl) (by with_unfolding_all rfl) (tf349_updates hS e61) (fun H59 s60 => ?_)
        refine ex_s (am_nb (m := 2) (pc1 := 158) (ls1 := [(1, .int (v1 + 1)), (0, .ref 157)]) (st1 := []) (H1 := H59) (k1 := 0) (n1 := 0) (by with_unfolding_all rfl)) ?_
        exact le_E (l1 := [(0, .ref 157), (1, .int (v1 + 1))]) ⟨rfl, rfl, trivial⟩ rfl (ih (v1 + 1) a62 H59 s60 e)

set_option maxRecDepth 100000 in
theorem tl331_253 {sL : Nat} {sx : Nat → Int32} {h b N : Nat} {T : List am_C} {R : Option Value} {F : am_H → Prop} {z : Nat × xA} (k0 : z.1 = 0 → ∀ H2 : am_H, xS h b T z.2 H2 → am_E sL sx am_cs 331 278 [(0, .ref 157)] [] H2 R F) : ∀ (n : Nat) (v1 : Int32) (a : xA) (H : am_H), xS h b T a H → l331_253 N h b n v1 a = some z → am_E sL sx am_cs 331 253 [(0, .ref 157), (1, .int v1)] [] H R F := by
  intro n
  induction n with
  | zero =>
    intro v1 a H hS e
    cases e
  | succ n ih =>
    intro v1 a H hS e
    unfold l331_253 at e
    refine ex_s (am_nb (m := 2) (pc1 := 257) (ls1 := [(0, .ref 157), (1, .int v1)]) (st1 := [.int 1920, .int v1]) (H1 := H) (k1 := 0) (n1 := 0) (by with_unfolding_all rfl)) ?_
    refine ex_s (st_icmp rfl) ?_
    by_cases c77 : 1920 ≤ v1
    · have e := (if_pos c77).symm.trans e
      refine ex_pc (if_pos c77) ?_
      cases e
      exact le_E (l1 := [(0, .ref 157)]) ⟨rfl, trivial⟩ rfl (k0 rfl H hS)
    · have e := (if_neg c77).symm.trans e
      refine ex_pc (if_neg c77) ?_
      refine ex_s (am_nb (m := 1) (pc1 := 261) (ls1 := [(0, .ref 157), (1, .int v1)]) (st1 := [.ref 157]) (H1 := H) (k1 := 0) (n1 := 0) (by with_unfolding_all rfl)) ?_
      refine xe_get (v := .ref 171) hS rfl rfl (by decide) rfl ?_
      refine ex_s (am_nb (m := 2) (pc1 := 266) (ls1 := [(0, .ref 157), (1, .int v1)]) (st1 := [.ref 157, .int v1, .ref 171]) (H1 := H) (k1 := 0) (n1 := 0) (by with_unfolding_all rfl)) ?_
      refine xe_get (v := .ref 183) hS rfl rfl (by decide) rfl ?_
      refine ex_s (am_nb (m := 1) (pc1 := 270) (ls1 := [(0, .ref 157), (1, .int v1)]) (st1 := [.int v1, .ref 183, .int v1, .ref 171]) (H1 := H) (k1 := 0) (n1 := 0) (by with_unfolding_all rfl)) ?_
      obtain ⟨g78, e⟩ := xg_some e
      refine xe_iald hS rfl rfl g78 ?_
      obtain ⟨a79, ha79, e⟩ := xw_some e
      refine xe_iast hS rfl rfl g78 (fun H80 s81 => ?_)
      have s81 : xS h b T a79 H80 := by rw [ha79]; exact s81
      refine ex_s (am_nb (m := 2) (pc1 := 253) (ls1 := [(1, .int (v1 + 1)), (0, .ref 157)]) (st1 := []) (H1 := H80) (k1 := 0) (n1 := 0) (by with_unfolding_all rfl)) ?_
      exact le_E (l1 := [(0, .ref 157), (1, .int (v1 + 1))]) ⟨rfl, rfl, trivial⟩ rfl (ih (v1 + 1) a79 H80 s81 e)

set_option maxRecDepth 100000 in
theorem tl331_304 {sL : Nat} {sx : Nat → Int32} {h b N : Nat} {T : List am_C} {R : Option Value} {F : am_H → Prop} {z : Nat × xA} (k0 : z.1 = 0 → ∀ H2 : am_H, xS h b T z.2 H2 → am_E sL sx am_cs 331 329 [(0, .ref 157)] [] H2 R F) : ∀ (n : Nat) (v1 : Int32) (a : xA) (H : am_H), xS h b T a H → l331_304 N h b n v1 a = some z → am_E sL sx am_cs 331 304 [(0, .ref 157), (1, .int v1)] [] H R F := by
  intro n
  induction n with
  | zero =>
    intro v1 a H hS e
    cases e
  | succ n ih =>
    intro v1 a H hS e
    unfold l331_304 at e
    refine ex_s (am_nb (m := 2) (pc1 := 306) (ls1 := [(0, .ref 157), (1, .int v1)]) (st1 := [.ref 157, .int v1]) (H1 := H) (k1 := 0) (n1 := 0) (by with_unfolding_all rfl)) ?_
    refine xe_get (v := .int (a 157 49)) hS rfl rfl (by decide) rfl ?_
    refine ex_s (st_icmp rfl) ?_
    by_cases c93 : (a 157 49) ≤ v1
    · have e := (if_pos c93).symm.trans e
      refine ex_pc (if_pos c93) ?_
      cases e
      exact le_E (l1 := [(0, .ref 157)]) ⟨rfl, trivial⟩ rfl (k0 rfl H hS)
    · have e := (if_neg c93).symm.trans e
      refine ex_pc (if_neg c93) ?_
      refine ex_s (am_nb (m := 2) (pc1 := 314) (ls1 := [(0, .ref 157), (1, .int v1)]) (st1 := [.ref 157, .ref 157]) (H1 := H) (k1 := 0) (n1 := 0) (by with_unfolding_all rfl)) ?_
      refine xe_get (v := .ref 182) hS rfl rfl (by decide) rfl ?_
      refine ex_s (am_nb (m := 1) (pc1 := 318) (ls1 := [(0, .ref 157), (1, .int v1)]) (st1 := [.int v1, .ref 182, .ref 157]) (H1 := H) (k1 := 0) (n1 := 0) (by with_unfolding_all rfl)) ?_
      obtain ⟨g94, e⟩ := xg_some e
      refine xe_bald hS rfl rfl g94 ?_
      obtain ⟨r98, a99, e97, e⟩ := xb2_some e
      refine ex_cv1 (as := [.int (a 182 (v1.toNatClampNeg))]) (rest := []) rfl rfl rfl rfl (hS.obj rfl (by decide)) rfl (by with_unfolding_all rfl) (by with_unfolding_all rfl) (tf352_queue hS e97) (fun H95 s96 => ?_)
      refine ex_s (am_nb (m := 3) (pc1 := 304) (ls1 := [(1, .int (v1 + 1)), (0, .ref 157)]) (st1 := []) (H1 := H95) (k1 := 0) (n1 := 0) (by with_unfolding_all rfl)) ?_
      exact le_E (l1 := [(0, .ref 157), (1, .int (v1 + 1))]) ⟨rfl, rfl, trivial⟩ rfl (ih (v1 + 1) a99 H95 s96 e)
