/-! The program does what the functions say. -/
set_option maxRecDepth 100000 in
theorem tj283_242 {sL : Nat} {sx : Nat → Int32} {h b N : Nat} {T : List am_C} {R : Option Value} {F : am_H → Prop} {w1 : Int32} {w2 : Int32} {z : Nat × Int32 × xA} {rc : Int32 → xA → Option (Nat × Int32 × xA)} (k0 : z.1 = 0 → ∀ H2 : am_H, xS h b T z.2.2 H2 → am_E sL sx am_cs 283 31 [(0, .ref 157)] [] H2 R F) (k1 : z.1 = 1 → ∀ H2 : am_H, xS h b T z.2.2 H2 → am_E sL sx am_cs 283 59 [(0, .ref 157)] [] H2 R F) (k2 : z.1 = 2 → ∀ H2 : am_H, xS h b T z.2.2 H2 → am_E sL sx am_cs 283 103 [] [] H2 R F) (k3 : z.1 = 3 → ∀ H2 : am_H, xS h b T z.2.2 H2 → am_E sL sx am_cs 283 248 [(0, .ref 157), (1, .int w1), (2, .int w2), (3, .int z.2.1)] [] H2 R F) (ih : ∀ (v3 : Int32) (a : xA) (H : am_H), xS h b T a H → rc v3 a = some z → am_E sL sx am_cs 283 7 [(0, .ref 157), (1, .int w1), (2, .int w2), (3, .int v3)] [] H R F) {q3 : Int32} {a : xA} {H : am_H} (hS : xS h b T a H) (e : j283_242 N h b rc w1 w2 q3 a = some z) : am_E sL sx am_cs 283 242 [(0, .ref 157), (1, .int w1), (2, .int w2), (3, .int q3)] [] H R F := by
  unfold j283_242 at e
  refine ex_s (am_nb (m := 2) (pc1 := 7) (ls1 := [(3, .int (q3 + 1)), (0, .ref 157), (1, .int w1), (2, .int w2)]) (st1 := []) (H1 := H) (k1 := 0) (n1 := 0) (by with_unfolding_all rfl)) ?_
  exact le_E (l1 := [(0, .ref 157), (1, .int w1), (2, .int w2), (3, .int (q3 + 1))]) ⟨rfl, rfl, rfl, rfl, trivial⟩ rfl (ih (q3 + 1) a H hS e)

set_option maxRecDepth 100000 in
theorem tj283_202 {sL : Nat} {sx : Nat → Int32} {h b N : Nat} {T : List am_C} {R : Option Value} {F : am_H → Prop} {w1 : Int32} {w2 : Int32} {z : Nat × Int32 × xA} {rc : Int32 → xA → Option (Nat × Int32 × xA)} (k0 : z.1 = 0 → ∀ H2 : am_H, xS h b T z.2.2 H2 → am_E sL sx am_cs 283 31 [(0, .ref 157)] [] H2 R F) (k1 : z.1 = 1 → ∀ H2 : am_H, xS h b T z.2.2 H2 → am_E sL sx am_cs 283 59 [(0, .ref 157)] [] H2 R F) (k2 : z.1 = 2 → ∀ H2 : am_H, xS h b T z.2.2 H2 → am_E sL sx am_cs 283 103 [] [] H2 R F) (k3 : z.1 = 3 → ∀ H2 : am_H, xS h b T z.2.2 H2 → am_E sL sx am_cs 283 248 [(0, .ref 157), (1, .int w1), (2, .int w2), (3, .int z.2.1)] [] H2 R F) (ih : ∀ (v3 : Int32) (a : xA) (H : am_H), xS h b T a H → rc v3 a = some z → am_E sL sx am_cs 283 7 [(0, .ref 157), (1, .int w1), (2, .int w2), (3, .int v3)] [] H R F) {q3 : Int32} {q5 : Int32} {q6 : Int32} {a : xA} {H : am_H} (hS : xS h b T a H) (e : j283_202 N h b rc w1 w2 q3 q5 q6 a = some z) : am_E sL sx am_cs 283 202 [(0, .ref 157), (1, .int w1), (2, .int w2), (3, .int q3), (5, .int q5), (6, .int q6)] [] H R F := by
  unfold j283_202 at e
  refine ex_s (am_nb (m := 2) (pc1 := 204) (ls1 := [(0, .ref 157), (1, .int w1), (2, .int w2), (3, .int q3), (5, .int q5), (6, .int q6)]) (st1 := [.ref 157, .ref 157]) (H1 := H) (k1 := 0) (n1 := 0) (by with_unfolding_all rfl)) ?_
  refine xe_get (v := .int (a 157 15)) hS rfl rfl (by decide) rfl ?_
  refine ex_s (am_nb (m := 2) (pc1 := 210) (ls1 := [(0, .ref 157), (1, .int w1), (2, .int w2), (3, .int q3), (5, .int q5), (6, .int q6)]) (st1 := [.int ((a 157 15) + q6), .ref 157]) (H1 := H) (k1 := 0) (n1 := 0) (by with_unfolding_all rfl)) ?_
  obtain ⟨a34, ha34, e⟩ := xw_some e
  refine xe_put (w := ((a 157 15) + q6)) hS rfl rfl (by decide) rfl rfl rfl rfl (fun H35 s36 => ?_)
  have s36 : xS h b T a34 H35 := by rw [ha34]; exact s36
  refine ex_s (am_nb (m := 2) (pc1 := 216) (ls1 := [(0, .ref 157), (1, .int w1), (2, .int w2), (3, .int q3), (5, .int q5), (6, .int q6)]) (st1 := [.int (-1), .int q5]) (H1 := H35) (k1 := 0) (n1 := 0) (by with_unfolding_all rfl)) ?_
  refine ex_s (st_icmp rfl) ?_
  by_cases c37 : q5 = (-1)
  · have e := (if_pos c37).symm.trans e
    refine ex_pc (if_pos c37) ?_
    refine ex_s (am_nb (m := 1) (pc1 := 7) (ls1 := [(0, .ref 157), (1, .int w1), (2, .int w2), (3, .int q3), (5, .int q5), (6, .int q6)]) (st1 := []) (H1 := H35) (k1 := 0) (n1 := 0) (by with_unfolding_all rfl)) ?_
    exact le_E (l1 := [(0, .ref 157), (1, .int w1), (2, .int w2), (3, .int q3)]) ⟨rfl, rfl, rfl, rfl, trivial⟩ rfl (ih q3 a34 H35 s36 e)
  · have e := (if_neg c37).symm.trans e
    refine ex_pc (if_neg c37) ?_
    refine ex_s (am_nb (m := 2) (pc1 := 225) (ls1 := [(0, .ref 157), (1, .int w1), (2, .int w2), (3, .int q3), (5, .int q5), (6, .int q6)]) (st1 := [.int 40, .int q3]) (H1 := H35) (k1 := 0) (n1 := 0) (by with_unfolding_all rfl)) ?_
    refine ex_s (st_icmp rfl) ?_
    by_cases c39 : 40 ≤ q3
    · have e := (if_pos c39).symm.trans e
      refine ex_pc (if_pos c39) ?_
      exact le_E (l1 := [(0, .ref 157), (1, .int w1), (2, .int w2), (3, .int q3)]) ⟨rfl, rfl, rfl, rfl, trivial⟩ rfl (tj283_242 k0 k1 k2 k3 ih  s36 e)
    · have e := (if_neg c39).symm.trans e
      refine ex_pc (if_neg c39) ?_
      refine ex_s (am_nb (m := 1) (pc1 := 229) (ls1 := [(0, .ref 157), (1, .int w1), (2, .int w2), (3, .int q3), (5, .int q5), (6, .int q6)]) (st1 := [.ref 157]) (H1 := H35) (k1 := 0) (n1 := 0) (by with_unfolding_all rfl)) ?_
      refine xe_get (v := .ref 165) s36 rfl rfl (by decide) rfl ?_
      refine ex_s (am_nb (m := 7) (pc1 := 241) (ls1 := [(0, .ref 157), (1, .int w1), (2, .int w2), (3, .int q3), (5, .int q5), (6, .int q6)]) (st1 := [.int q5.toInt8.toInt32, .int ((40 * w1) + q3), .ref 165]) (H1 := H35) (k1 := 0) (n1 := 0) (by with_unfolding_all rfl)) ?_
      obtain ⟨g43, e⟩ := xg_some e
      obtain ⟨a40, ha40, e⟩ := xw_some e
      refine xe_bast s36 rfl rfl g43 (fun H41 s42 => ?_)
      have s42 : xS h b T a40 H41 := by rw [ha40]; exact s42
      exact le_E (l1 := [(0, .ref 157), (1, .int w1), (2, .int w2), (3, .int q3)]) ⟨rfl, rfl, rfl, rfl, trivial⟩ rfl (tj283_242 k0 k1 k2 k3 ih  s42 e)

set_option maxRecDepth 100000 in
theorem tj283_90 {sL : Nat} {sx : Nat → Int32} {h b N : Nat} {T : List am_C} {R : Option Value} {F : am_H → Prop} {w1 : Int32} {w2 : Int32} {z : Nat × Int32 × xA} {rc : Int32 → xA → Option (Nat × Int32 × xA)} (k0 : z.1 = 0 → ∀ H2 : am_H, xS h b T z.2.2 H2 → am_E sL sx am_cs 283 31 [(0, .ref 157)] [] H2 R F) (k1 : z.1 = 1 → ∀ H2 : am_H, xS h b T z.2.2 H2 → am_E sL sx am_cs 283 59 [(0, .ref 157)] [] H2 R F) (k2 : z.1 = 2 → ∀ H2 : am_H, xS h b T z.2.2 H2 → am_E sL sx am_cs 283 103 [] [] H2 R F) (k3 : z.1 = 3 → ∀ H2 : am_H, xS h b T z.2.2 H2 → am_E sL sx am_cs 283 248 [(0, .ref 157), (1, .int w1), (2, .int w2), (3, .int z.2.1)] [] H2 R F) (ih : ∀ (v3 : Int32) (a : xA) (H : am_H), xS h b T a H → rc v3 a = some z → am_E sL sx am_cs 283 7 [(0, .ref 157), (1, .int w1), (2, .int w2), (3, .int v3)] [] H R F) {q3 : Int32} {q4 : Int32} {a : xA} {H : am_H} (hS : xS h b T a H) (e : j283_90 N h b rc w1 w2 q3 q4 a = some z) : am_E sL sx am_cs 283 90 [(0, .ref 157), (1, .int w1), (2, .int w2), (3, .int q3), (4, .int q4)] [] H R F := by
  unfold j283_90 at e
  refine ex_s (am_nb (m := 2) (pc1 := 93) (ls1 := [(0, .ref 157), (1, .int w1), (2, .int w2), (3, .int q3), (4, .int q4)]) (st1 := [.int q4, .ref 157]) (H1 := H) (k1 := 0) (n1 := 0) (by with_unfolding_all rfl)) ?_
  obtain ⟨r31, a32, e30, e⟩ := xb2_some e
  refine ex_cv1 (as := [.int q4]) (rest := []) rfl rfl rfl rfl (hS.obj rfl (by decide)) rfl (by with_unfolding_all rfl) (by with_unfolding_all rfl) (tf284_escape hS e30) (fun H28 s29 => ?_)
  refine ex_s (am_nb (m := 2) (pc1 := 100) (ls1 := [(6, .int r31), (0, .ref 157), (1, .int w1), (2, .int w2), (3, .int q3), (4, .int q4)]) (st1 := [.int r31]) (H1 := H28) (k1 := 0) (n1 := 0) (by with_unfolding_all rfl)) ?_
  refine ex_s (st_if rfl) ?_
  by_cases c33 : r31 = 0
  · have e := (if_pos c33).symm.trans e
    refine ex_pc (if_pos c33) ?_
    cases e
    exact le_E (l1 := []) trivial rfl (k2 rfl H28 s29)
  · have e := (if_neg c33).symm.trans e
    refine ex_pc (if_neg c33) ?_
    refine ex_s (am_nb (m := 1) (pc1 := 106) (ls1 := [(6, .int r31), (0, .ref 157), (1, .int w1), (2, .int w2), (3, .int q3), (4, .int q4)]) (st1 := [.ref 157]) (H1 := H28) (k1 := 0) (n1 := 0) (by with_unfolding_all rfl)) ?_
    refine xe_get (v := .int (a32 157 20)) s29 rfl rfl (by decide) rfl ?_
    refine ex_s (am_nb (m := 2) (pc1 := 202) (ls1 := [(5, .int (a32 157 20)), (6, .int r31), (0, .ref 157), (1, .int w1), (2, .int w2), (3, .int q3), (4, .int q4)]) (st1 := []) (H1 := H28) (k1 := 0) (n1 := 0) (by with_unfolding_all rfl)) ?_
    exact le_E (l1 := [(0, .ref 157), (1, .int w1), (2, .int w2), (3, .int q3), (5, .int (a32 157 20)), (6, .int r31)]) ⟨rfl, rfl, rfl, rfl, rfl, rfl, trivial⟩ rfl (tj283_202 k0 k1 k2 k3 ih  s29 e)

set_option maxRecDepth 100000 in
theorem tl283_124 {sL : Nat} {sx : Nat → Int32} {h b N : Nat} {T : List am_C} {R : Option Value} {F : am_H → Prop} {w1 : Int32} {w2 : Int32} {w3 : Int32} {w5 : Int32} {w6 : Int32} {z : Nat × Int32 × xA} (k0 : z.1 = 0 → ∀ H2 : am_H, xS h b T z.2.2 H2 → am_E sL sx am_cs 283 155 [(0, .ref 157), (1, .int w1), (2, .int w2), (3, .int w3), (5, .int w5), (6, .int w6), (7, .int z.2.1)] [] H2 R F) : ∀ (n : Nat) (v7 : Int32) (a : xA) (H : am_H), xS h b T a H → l283_124 N h b w1 w2 w3 w5 w6 n v7 a = some z → am_E sL sx am_cs 283 124 [(0, .ref 157), (1, .int w1), (2, .int w2), (3, .int w3), (5, .int w5), (6, .int w6), (7, .int v7)] [] H R F := by
  intro n
  induction n with
  | zero =>
    intro v7 a H hS e
    cases e
  | succ n ih =>
    intro v7 a H hS e
    unfold l283_124 at e
    refine ex_s (am_nb (m := 2) (pc1 := 127) (ls1 := [(0, .ref 157), (1, .int w1), (2, .int w2), (3, .int w3), (5, .int w5), (6, .int w6), (7, .int v7)]) (st1 := [.int 3, .int v7]) (H1 := H) (k1 := 0) (n1 := 0) (by with_unfolding_all rfl)) ?_
    refine ex_s (st_icmp rfl) ?_
    by_cases c47 : 3 ≤ v7
    · have e := (if_pos c47).symm.trans e
      refine ex_pc (if_pos c47) ?_
      cases e
      exact le_E (l1 := [(0, .ref 157), (1, .int w1), (2, .int w2), (3, .int w3), (5, .int w5), (6, .int w6), (7, .int v7)]) ⟨rfl, rfl, rfl, rfl, rfl, rfl, rfl, trivial⟩ rfl (k0 rfl H hS)
    · have e := (if_neg c47).symm.trans e
      refine ex_pc (if_neg c47) ?_
      refine ex_s (am_nb (m := 2) (pc1 := 132) (ls1 := [(0, .ref 157), (1, .int w1), (2, .int w2), (3, .int w3), (5, .int w5), (6, .int w6), (7, .int v7)]) (st1 := [.ref 157, .ref 157]) (H1 := H) (k1 := 0) (n1 := 0) (by with_unfolding_all rfl)) ?_
      refine xe_get (v := .int (a 157 15)) hS rfl rfl (by decide) rfl ?_
      refine ex_s (am_nb (m := 4) (pc1 := 140) (ls1 := [(0, .ref 157), (1, .int w1), (2, .int w2), (3, .int w3), (5, .int w5), (6, .int w6), (7, .int v7)]) (st1 := [.int (((a 157 15) + 2) + v7), .ref 157]) (H1 := H) (k1 := 0) (n1 := 0) (by with_unfolding_all rfl)) ?_
      obtain ⟨r51, a52, e50, e⟩ := xb2_some e
      refine ex_cv1 (as := [.int (((a 157 15) + 2) + v7)]) (rest := []) rfl rfl rfl rfl (hS.obj rfl (by decide)) rfl (by with_unfolding_all rfl) (by with_unfolding_all rfl) (tf266_here hS e50) (fun H48 s49 => ?_)
      obtain ⟨r56, a57, e55, e⟩ := xb2_some e
      refine ex_cs1 (as := [.int r51]) (rest := []) rfl (by decide) rfl rfl (by with_unfolding_all rfl) (by with_unfolding_all rfl) (tf274_isDigit s49 e55) (fun H53 s54 => ?_)
      refine ex_s (st_if rfl) ?_
      by_cases c58 : r56 = 0
      · have e := (if_pos c58).symm.trans e
        refine ex_pc (if_pos c58) ?_
        cases e
        exact le_E (l1 := [(0, .ref 157), (1, .int w1), (2, .int w2), (3, .int w3), (5, .int w5), (6, .int w6), (7, .int v7)]) ⟨rfl, rfl, rfl, rfl, rfl, rfl, rfl, trivial⟩ rfl (k0 rfl H53 s54)
      · have e := (if_neg c58).symm.trans e
        refine ex_pc (if_neg c58) ?_
        refine ex_s (am_nb (m := 2) (pc1 := 124) (ls1 := [(7, .int (v7 + 1)), (0, .ref 157), (1, .int w1), (2, .int w2), (3, .int w3), (5, .int w5), (6, .int w6)]) (st1 := []) (H1 := H53) (k1 := 0) (n1 := 0) (by with_unfolding_all rfl)) ?_
        exact le_E (l1 := [(0, .ref 157), (1, .int w1), (2, .int w2), (3, .int w3), (5, .int w5), (6, .int w6), (7, .int (v7 + 1))]) ⟨rfl, rfl, rfl, rfl, rfl, rfl, rfl, trivial⟩ rfl (ih (v7 + 1) a57 H53 s54 e)

set_option maxRecDepth 100000 in
theorem tj283_155 {sL : Nat} {sx : Nat → Int32} {h b N : Nat} {T : List am_C} {R : Option Value} {F : am_H → Prop} {w1 : Int32} {w2 : Int32} {z : Nat × Int32 × xA} {rc : Int32 → xA → Option (Nat × Int32 × xA)} (k0 : z.1 = 0 → ∀ H2 : am_H, xS h b T z.2.2 H2 → am_E sL sx am_cs 283 31 [(0, .ref 157)] [] H2 R F) (k1 : z.1 = 1 → ∀ H2 : am_H, xS h b T z.2.2 H2 → am_E sL sx am_cs 283 59 [(0, .ref 157)] [] H2 R F) (k2 : z.1 = 2 → ∀ H2 : am_H, xS h b T z.2.2 H2 → am_E sL sx am_cs 283 103 [] [] H2 R F) (k3 : z.1 = 3 → ∀ H2 : am_H, xS h b T z.2.2 H2 → am_E sL sx am_cs 283 248 [(0, .ref 157), (1, .int w1), (2, .int w2), (3, .int z.2.1)] [] H2 R F) (ih : ∀ (v3 : Int32) (a : xA) (H : am_H), xS h b T a H → rc v3 a = some z → am_E sL sx am_cs 283 7 [(0, .ref 157), (1, .int w1), (2, .int w2), (3, .int v3)] [] H R F) {q3 : Int32} {q5 : Int32} {q6 : Int32} {q7 : Int32} {a : xA} {H : am_H} (hS : xS h b T a H) (e : j283_155 N h b rc w1 w2 q3 q5 q6 q7 a = some z) : am_E sL sx am_cs 283 155 [(0, .ref 157), (1, .int w1), (2, .int w2), (3, .int q3), (5, .int q5), (6, .int q6), (7, .int q7)] [] H R F := by
  unfold j283_155 at e
  refine ex_s (am_nb (m := 2) (pc1 := 157) (ls1 := [(0, .ref 157), (1, .int w1), (2, .int w2), (3, .int q3), (5, .int q5), (6, .int q6), (7, .int q7)]) (st1 := [.ref 157, .ref 157]) (H1 := H) (k1 := 0) (n1 := 0) (by with_unfolding_all rfl)) ?_
  refine xe_get (v := .int (a 157 15)) hS rfl rfl (by decide) rfl ?_
  refine ex_s (am_nb (m := 2) (pc1 := 162) (ls1 := [(0, .ref 157), (1, .int w1), (2, .int w2), (3, .int q3), (5, .int q5), (6, .int q6), (7, .int q7)]) (st1 := [.int ((a 157 15) + 1), .ref 157]) (H1 := H) (k1 := 0) (n1 := 0) (by with_unfolding_all rfl)) ?_
  obtain ⟨r64, a65, e63, e⟩ := xb2_some e
  refine ex_cv1 (as := [.int ((a 157 15) + 1)]) (rest := []) rfl rfl rfl rfl (hS.obj rfl (by decide)) rfl (by with_unfolding_all rfl) (by with_unfolding_all rfl) (tf266_here hS e63) (fun H61 s62 => ?_)
  refine ex_s (am_nb (m := 1) (pc1 := 167) (ls1 := [(0, .ref 157), (1, .int w1), (2, .int w2), (3, .int q3), (5, .int q5), (6, .int q6), (7, .int q7)]) (st1 := [.int 60, .int r64]) (H1 := H61) (k1 := 0) (n1 := 0) (by with_unfolding_all rfl)) ?_
  refine ex_s (st_icmp rfl) ?_
  by_cases c68 : r64 = 60
  · have e := (if_pos c68).symm.trans e
    refine ex_pc (if_pos c68) ?_
    refine ex_s (am_nb (m := 1) (pc1 := 172) (ls1 := [(0, .ref 157), (1, .int w1), (2, .int w2), (3, .int q3), (5, .int q5), (6, .int q6), (7, .int q7)]) (st1 := [.int q7]) (H1 := H61) (k1 := 0) (n1 := 0) (by with_unfolding_all rfl)) ?_
    refine ex_s (st_if rfl) ?_
    by_cases c70 : q7 ≤ 0
    · have e := (if_pos c70).symm.trans e
      refine ex_pc (if_pos c70) ?_
      exact le_E (l1 := [(0, .ref 157), (1, .int w1), (2, .int w2), (3, .int q3), (5, .int q5), (6, .int q6)]) ⟨rfl, rfl, rfl, rfl, rfl, rfl, trivial⟩ rfl (tj283_202 k0 k1 k2 k3 ih  s62 e)
    · have e := (if_neg c70).symm.trans e
      refine ex_pc (if_neg c70) ?_
      refine ex_s (am_nb (m := 2) (pc1 := 177) (ls1 := [(0, .ref 157), (1, .int w1), (2, .int w2), (3, .int q3), (5, .int q5), (6, .int q6), (7, .int q7)]) (st1 := [.ref 157, .ref 157]) (H1 := H61) (k1 := 0) (n1 := 0) (by with_unfolding_all rfl)) ?_
      refine xe_get (v := .int (a65 157 15)) s62 rfl rfl (by decide) rfl ?_
      refine ex_s (am_nb (m := 4) (pc1 := 185) (ls1 := [(0, .ref 157), (1, .int w1), (2, .int w2), (3, .int q3), (5, .int q5), (6, .int q6), (7, .int q7)]) (st1 := [.int (((a65 157 15) + 2) + q7), .ref 157]) (H1 := H61) (k1 := 0) (n1 := 0) (by with_unfolding_all rfl)) ?_
      obtain ⟨r74, a75, e73, e⟩ := xb2_some e
      refine ex_cv1 (as := [.int (((a65 157 15) + 2) + q7)]) (rest := []) rfl rfl rfl rfl (s62.obj rfl (by decide)) rfl (by with_unfolding_all rfl) (by with_unfolding_all rfl) (tf266_here s62 e73) (fun H71 s72 => ?_)
      refine ex_s (am_nb (m := 1) (pc1 := 190) (ls1 := [(0, .ref 157), (1, .int w1), (2, .int w2), (3, .int q3), (5, .int q5), (6, .int q6), (7, .int q7)]) (st1 := [.int 62, .int r74]) (H1 := H71) (k1 := 0) (n1 := 0) (by with_unfolding_all rfl)) ?_
      refine ex_s (st_icmp rfl) ?_
      by_cases c77 : r74 = 62
      · have e := (if_pos c77).symm.trans e
        refine ex_pc (if_pos c77) ?_
        refine ex_s (am_nb (m := 6) (pc1 := 202) (ls1 := [(5, .int (-1)), (6, .int (q7 + 3)), (0, .ref 157), (1, .int w1), (2, .int w2), (3, .int q3), (7, .int q7)]) (st1 := []) (H1 := H71) (k1 := 0) (n1 := 0) (by with_unfolding_all rfl)) ?_
        exact le_E (l1 := [(0, .ref 157), (1, .int w1), (2, .int w2), (3, .int q3), (5, .int (-1)), (6, .int (q7 + 3))]) ⟨rfl, rfl, rfl, rfl, rfl, rfl, trivial⟩ rfl (tj283_202 k0 k1 k2 k3 ih  s72 e)
      · have e := (if_neg c77).symm.trans e
        refine ex_pc (if_neg c77) ?_
        exact le_E (l1 := [(0, .ref 157), (1, .int w1), (2, .int w2), (3, .int q3), (5, .int q5), (6, .int q6)]) ⟨rfl, rfl, rfl, rfl, rfl, rfl, trivial⟩ rfl (tj283_202 k0 k1 k2 k3 ih  s72 e)
  · have e := (if_neg c68).symm.trans e
    refine ex_pc (if_neg c68) ?_
    exact le_E (l1 := [(0, .ref 157), (1, .int w1), (2, .int w2), (3, .int q3), (5, .int q5), (6, .int q6)]) ⟨rfl, rfl, rfl, rfl, rfl, rfl, trivial⟩ rfl (tj283_202 k0 k1 k2 k3 ih  s62 e)

set_option maxRecDepth 100000 in
theorem tl283_7 {sL : Nat} {sx : Nat → Int32} {h b N : Nat} {T : List am_C} {R : Option Value} {F : am_H → Prop} {w1 : Int32} {w2 : Int32} {z : Nat × Int32 × xA} (k0 : z.1 = 0 → ∀ H2 : am_H, xS h b T z.2.2 H2 → am_E sL sx am_cs 283 31 [(0, .ref 157)] [] H2 R F) (k1 : z.1 = 1 → ∀ H2 : am_H, xS h b T z.2.2 H2 → am_E sL sx am_cs 283 59 [(0, .ref 157)] [] H2 R F) (k2 : z.1 = 2 → ∀ H2 : am_H, xS h b T z.2.2 H2 → am_E sL sx am_cs 283 103 [] [] H2 R F) (k3 : z.1 = 3 → ∀ H2 : am_H, xS h b T z.2.2 H2 → am_E sL sx am_cs 283 248 [(0, .ref 157), (1, .int w1), (2, .int w2), (3, .int z.2.1)] [] H2 R F) : ∀ (n : Nat) (v3 : Int32) (a : xA) (H : am_H), xS h b T a H → l283_7 N h b w1 w2 n v3 a = some z → am_E sL sx am_cs 283 7 [(0, .ref 157), (1, .int w1), (2, .int w2), (3, .int v3)] [] H R F := by
  intro n
  induction n with
  | zero =>
    intro v3 a H hS e
    cases e
  | succ n ih =>
    intro v3 a H hS e
    unfold l283_7 at e
    refine ex_s (am_nb (m := 2) (pc1 := 9) (ls1 := [(0, .ref 157), (1, .int w1), (2, .int w2), (3, .int v3)]) (st1 := [.ref 157, .ref 157]) (H1 := H) (k1 := 0) (n1 := 0) (by with_unfolding_all rfl)) ?_
    refine xe_get (v := .int (a 157 15)) hS rfl rfl (by decide) rfl ?_
    obtain ⟨r4, a5, e3, e⟩ := xb2_some e
    refine ex_cv1 (as := [.int (a 157 15)]) (rest := []) rfl rfl rfl rfl (hS.obj rfl (by decide)) rfl (by with_unfolding_all rfl) (by with_unfolding_all rfl) (tf266_here hS e3) (fun H1 s2 => ?_)
    refine ex_s (am_nb (m := 1) (pc1 := 17) (ls1 := [(0, .ref 157), (1, .int w1), (2, .int w2), (3, .int v3)]) (st1 := [.int 44, .int r4]) (H1 := H1) (k1 := 0) (n1 := 0) (by with_unfolding_all rfl)) ?_
    refine ex_s (st_icmp rfl) ?_
    by_cases c6 : r4 = 44
    · have e := (if_pos c6).symm.trans e
      refine ex_pc (if_pos c6) ?_
      cases e
      exact le_E (l1 := [(0, .ref 157), (1, .int w1), (2, .int w2), (3, .int v3)]) ⟨rfl, rfl, rfl, rfl, trivial⟩ rfl (k3 rfl H1 s2)
    · have e := (if_neg c6).symm.trans e
      refine ex_pc (if_neg c6) ?_
      refine ex_s (am_nb (m := 2) (pc1 := 22) (ls1 := [(0, .ref 157), (1, .int w1), (2, .int w2), (3, .int v3)]) (st1 := [.ref 157, .ref 157]) (H1 := H1) (k1 := 0) (n1 := 0) (by with_unfolding_all rfl)) ?_
      refine xe_get (v := .int (a5 157 15)) s2 rfl rfl (by decide) rfl ?_
      obtain ⟨r10, a11, e9, e⟩ := xb2_some e
      refine ex_cv1 (as := [.int (a5 157 15)]) (rest := []) rfl rfl rfl rfl (s2.obj rfl (by decide)) rfl (by with_unfolding_all rfl) (by with_unfolding_all rfl) (tf269_ends s2 e9) (fun H7 s8 => ?_)
      refine ex_s (st_if rfl) ?_
      by_cases c12 : r10 = 0
      · have e := (if_pos c12).symm.trans e
        refine ex_pc (if_pos c12) ?_
        refine ex_s (am_nb (m := 2) (pc1 := 43) (ls1 := [(0, .ref 157), (1, .int w1), (2, .int w2), (3, .int v3)]) (st1 := [.ref 157, .ref 157]) (H1 := H7) (k1 := 0) (n1 := 0) (by with_unfolding_all rfl)) ?_
        refine xe_get (v := .int (a11 157 15)) s8 rfl rfl (by decide) rfl ?_
        obtain ⟨r16, a17, e15, e⟩ := xb2_some e
        refine ex_cv1 (as := [.int (a11 157 15)]) (rest := []) rfl rfl rfl rfl (s8.obj rfl (by decide)) rfl (by with_unfolding_all rfl) (by with_unfolding_all rfl) (tf266_here s8 e15) (fun H13 s14 => ?_)
        refine ex_s (am_nb (m := 2) (pc1 := 53) (ls1 := [(4, .int r16), (0, .ref 157), (1, .int w1), (2, .int w2), (3, .int v3)]) (st1 := [.int r16]) (H1 := H13) (k1 := 0) (n1 := 0) (by with_unfolding_all rfl)) ?_
        obtain ⟨r21, a22, e20, e⟩ := xb2_some e
        refine ex_cs1 (as := [.int r16]) (rest := []) rfl (by decide) rfl rfl (by with_unfolding_all rfl) (by with_unfolding_all rfl) (tf276_isText s14 e20) (fun H18 s19 => ?_)
        refine ex_s (st_if rfl) ?_
        by_cases c23 : r21 = 0
        · have e := (if_pos c23).symm.trans e
          refine ex_pc (if_pos c23) ?_
          cases e
          exact le_E (l1 := [(0, .ref 157)]) ⟨rfl, trivial⟩ rfl (k1 rfl H18 s19)
        · have e := (if_neg c23).symm.trans e
          refine ex_pc (if_neg c23) ?_
          refine ex_s (am_nb (m := 6) (pc1 := 80) (ls1 := [(6, .int 1), (5, .int r16), (4, .int r16), (0, .ref 157), (1, .int w1), (2, .int w2), (3, .int v3)]) (st1 := [.int 92, .int r16]) (H1 := H18) (k1 := 0) (n1 := 0) (by with_unfolding_all rfl)) ?_
          refine ex_s (st_icmp rfl) ?_
          by_cases c27 : r16 = 92
          · have e := (if_pos c27).symm.trans e
            refine ex_pc (if_pos c27) ?_
            exact le_E (l1 := [(0, .ref 157), (1, .int w1), (2, .int w2), (3, .int v3), (4, .int r16)]) ⟨rfl, rfl, rfl, rfl, rfl, trivial⟩ rfl (tj283_90 k0 k1 k2 k3 ih  s19 e)
          · have e := (if_neg c27).symm.trans e
            refine ex_pc (if_neg c27) ?_
            refine ex_s (am_nb (m := 2) (pc1 := 87) (ls1 := [(6, .int 1), (5, .int r16), (4, .int r16), (0, .ref 157), (1, .int w1), (2, .int w2), (3, .int v3)]) (st1 := [.int 94, .int r16]) (H1 := H18) (k1 := 0) (n1 := 0) (by with_unfolding_all rfl)) ?_
            refine ex_s (st_icmp rfl) ?_
            by_cases c44 : r16 = 94
            · have e := (if_pos c44).symm.trans e
              refine ex_pc (if_pos c44) ?_
              exact le_E (l1 := [(0, .ref 157), (1, .int w1), (2, .int w2), (3, .int v3), (4, .int r16)]) ⟨rfl, rfl, rfl, rfl, rfl, trivial⟩ rfl (tj283_90 k0 k1 k2 k3 ih  s19 e)
            · have e := (if_neg c44).symm.trans e
              refine ex_pc (if_neg c44) ?_
              refine ex_s (am_nb (m := 2) (pc1 := 118) (ls1 := [(6, .int 1), (5, .int r16), (4, .int r16), (0, .ref 157), (1, .int w1), (2, .int w2), (3, .int v3)]) (st1 := [.int 36, .int r16]) (H1 := H18) (k1 := 0) (n1 := 0) (by with_unfolding_all rfl)) ?_
              refine ex_s (st_icmp rfl) ?_
              by_cases c45 : r16 = 36
              · have e := (if_pos c45).symm.trans e
                refine ex_pc (if_pos c45) ?_
                refine ex_s (am_nb (m := 2) (pc1 := 124) (ls1 := [(7, .int 0), (6, .int 1), (5, .int r16), (4, .int r16), (0, .ref 157), (1, .int w1), (2, .int w2), (3, .int v3)]) (st1 := []) (H1 := H18) (k1 := 0) (n1 := 0) (by with_unfolding_all rfl)) ?_
                obtain ⟨z59, e60, e⟩ := Option.bind_eq_some_iff.mp e
                refine le_E (l1 := [(0, .ref 157), (1, .int w1), (2, .int w2), (3, .int v3), (5, .int r16), (6, .int 1), (7, .int 0)]) ⟨rfl, rfl, rfl, rfl, rfl, rfl, rfl, trivial⟩ rfl (tl283_124 (z := z59)  (fun uz59_0 Hz590 sz590 => ?_) N 0 a22 H18 s19 e60)
                exact le_E (l1 := [(0, .ref 157), (1, .int w1), (2, .int w2), (3, .int v3), (5, .int r16), (6, .int 1), (7, .int z59.2.1)]) ⟨rfl, rfl, rfl, rfl, rfl, rfl, rfl, trivial⟩ rfl (tj283_155 k0 k1 k2 k3 ih  sz590 e)
              · have e := (if_neg c45).symm.trans e
                refine ex_pc (if_neg c45) ?_
                exact le_E (l1 := [(0, .ref 157), (1, .int w1), (2, .int w2), (3, .int v3), (5, .int r16), (6, .int 1)]) ⟨rfl, rfl, rfl, rfl, rfl, rfl, trivial⟩ rfl (tj283_202 k0 k1 k2 k3 ih  s19 e)
      · have e := (if_neg c12).symm.trans e
        refine ex_pc (if_neg c12) ?_
        cases e
        exact le_E (l1 := [(0, .ref 157)]) ⟨rfl, trivial⟩ rfl (k0 rfl H7 s8)

set_option maxRecDepth 100000 in
theorem tj283_286 {sL : Nat} {sx : Nat → Int32} {h b N : Nat} {T : List am_C} {r : Int32} {a' : xA} {a : xA} {H : am_H} (hS : xS h b T a H) (e : j283_286 N h b a = some (r, a')) : am_E sL sx am_cs 283 286 [] [] H (some (.int r)) (fun H1 => xS h b T a' H1) := by
  unfold j283_286 at e
  refine ex_s (am_nb (m := 2) (pc1 := 291) (ls1 := []) (st1 := [.int 1]) (H1 := H) (k1 := 0) (n1 := 0) (by with_unfolding_all rfl)) ?_
  cases e
  exact ex_r (st_iret rfl rfl rfl) hS

set_option maxRecDepth 100000 in
theorem tf283_made {sL : Nat} {sx : Nat → Int32} {h b N : Nat} {T : List am_C} {r : Int32} {a' : xA} {x0 : Int32} {a : xA} {H : am_H} (hS : xS h b T a H) (e : f283_made N h b x0 a = some (r, a')) : am_E sL sx am_cs 283 0 [(0, .ref 157), (1, .int x0)] [] H (some (.int r)) (fun H1 => xS h b T a' H1) := by
  unfold f283_made at e
  refine ex_s (am_nb (m := 1) (pc1 := 1) (ls1 := [(0, .ref 157), (1, .int x0)]) (st1 := [.ref 157]) (H1 := H) (k1 := 0) (n1 := 0) (by with_unfolding_all rfl)) ?_
  refine xe_get (v := .int (a 157 15)) hS rfl rfl (by decide) rfl ?_
  refine ex_s (am_nb (m := 3) (pc1 := 7) (ls1 := [(3, .int 0), (2, .int (a 157 15)), (0, .ref 157), (1, .int x0)]) (st1 := []) (H1 := H) (k1 := 0) (n1 := 0) (by with_unfolding_all rfl)) ?_
  obtain ⟨z78, e79, e⟩ := Option.bind_eq_some_iff.mp e
  refine le_E (l1 := [(0, .ref 157), (1, .int x0), (2, .int (a 157 15)), (3, .int 0)]) ⟨rfl, rfl, rfl, rfl, trivial⟩ rfl (tl283_7 (z := z78)  (fun uz78_0 Hz780 sz780 => ?_) (fun uz78_1 Hz781 sz781 => ?_) (fun uz78_2 Hz782 sz782 => ?_) (fun uz78_3 Hz783 sz783 => ?_) N 0 a H hS e79)
  · have e := (if_pos uz78_0).symm.trans e
    refine ex_s (am_nb (m := 3) (pc1 := 34) (ls1 := [(0, .ref 157)]) (st1 := [.ref 157, .int 1, .ref 157]) (H1 := Hz780) (k1 := 0) (n1 := 0) (by with_unfolding_all rfl)) ?_
    refine xe_get (v := .int (z78.2.2 157 15)) sz780 rfl rfl (by decide) rfl ?_
    obtain ⟨r83, a84, e82, e⟩ := xb2_some e
    refine ex_cv1 (as := [.int 1, .int (z78.2.2 157 15)]) (rest := []) rfl rfl rfl rfl (sz780.obj rfl (by decide)) rfl (by with_unfolding_all rfl) (by with_unfolding_all rfl) (tf270_fails sz780 e82) (fun H80 s81 => ?_)
    obtain ⟨g85, e⟩ := xg_some e
    cases e
    exact ex_r (st_iret rfl rfl (xnar_z g85)) s81
  · have e := (if_neg (show ¬ z78.1 = 0 by rw [uz78_1]; decide)).symm.trans e
    have e := (if_pos uz78_1).symm.trans e
    refine ex_s (am_nb (m := 3) (pc1 := 62) (ls1 := [(0, .ref 157)]) (st1 := [.ref 157, .int 1, .ref 157]) (H1 := Hz781) (k1 := 0) (n1 := 0) (by with_unfolding_all rfl)) ?_
    refine xe_get (v := .int (z78.2.2 157 15)) sz781 rfl rfl (by decide) rfl ?_
    obtain ⟨r89, a90, e88, e⟩ := xb2_some e
    refine ex_cv1 (as := [.int 1, .int (z78.2.2 157 15)]) (rest := []) rfl rfl rfl rfl (sz781.obj rfl (by decide)) rfl (by with_unfolding_all rfl) (by with_unfolding_all rfl) (tf270_fails sz781 e88) (fun H86 s87 => ?_)
    obtain ⟨g91, e⟩ := xg_some e
    cases e
    exact ex_r (st_iret rfl rfl (xnar_z g91)) s87
  · have e := (if_neg (show ¬ z78.1 = 0 by rw [uz78_2]; decide)).symm.trans e
    have e := (if_neg (show ¬ z78.1 = 1 by rw [uz78_2]; decide)).symm.trans e
    have e := (if_pos uz78_2).symm.trans e
    refine ex_s (am_nb (m := 1) (pc1 := 104) (ls1 := []) (st1 := [.int 0]) (H1 := Hz782) (k1 := 0) (n1 := 0) (by with_unfolding_all rfl)) ?_
    cases e
    exact ex_r (st_iret rfl rfl rfl) sz782
  · have e := (if_neg (show ¬ z78.1 = 0 by rw [uz78_3]; decide)).symm.trans e
    have e := (if_neg (show ¬ z78.1 = 1 by rw [uz78_3]; decide)).symm.trans e
    have e := (if_neg (show ¬ z78.1 = 2 by rw [uz78_3]; decide)).symm.trans e
    refine ex_s (am_nb (m := 2) (pc1 := 251) (ls1 := [(0, .ref 157), (1, .int x0), (2, .int (a 157 15)), (3, .int z78.2.1)]) (st1 := [.int 40, .int z78.2.1]) (H1 := Hz783) (k1 := 0) (n1 := 0) (by with_unfolding_all rfl)) ?_
    refine ex_s (st_icmp rfl) ?_
    by_cases c92 : z78.2.1 ≤ 40
    · have e := (if_pos c92).symm.trans e
      refine ex_pc (if_pos c92) ?_
      refine ex_s (am_nb (m := 1) (pc1 := 262) (ls1 := [(0, .ref 157), (1, .int x0), (2, .int (a 157 15)), (3, .int z78.2.1)]) (st1 := [.ref 157]) (H1 := Hz783) (k1 := 0) (n1 := 0) (by with_unfolding_all rfl)) ?_
      refine xe_get (v := .ref 166) sz783 rfl rfl (by decide) rfl ?_
      refine ex_s (am_nb (m := 2) (pc1 := 267) (ls1 := [(0, .ref 157), (1, .int x0), (2, .int (a 157 15)), (3, .int z78.2.1)]) (st1 := [.int z78.2.1, .int x0, .ref 166]) (H1 := Hz783) (k1 := 0) (n1 := 0) (by with_unfolding_all rfl)) ?_
      obtain ⟨g96, e⟩ := xg_some e
      obtain ⟨a93, ha93, e⟩ := xw_some e
      refine xe_iast sz783 rfl rfl g96 (fun H94 s95 => ?_)
      have s95 : xS h b T a93 H94 := by rw [ha93]; exact s95
      refine ex_s (am_nb (m := 2) (pc1 := 270) (ls1 := [(0, .ref 157), (1, .int x0), (2, .int (a 157 15)), (3, .int z78.2.1)]) (st1 := [.int x0, .ref 157]) (H1 := H94) (k1 := 0) (n1 := 0) (by with_unfolding_all rfl)) ?_
      obtain ⟨r100, a101, e99, e⟩ := xb2_some e
      refine ex_cv1 (as := [.int x0]) (rest := []) rfl rfl rfl rfl (s95.obj rfl (by decide)) rfl (by with_unfolding_all rfl) (by with_unfolding_all rfl) (tf286_isWell s95 e99) (fun H97 s98 => ?_)
      refine ex_s (st_if rfl) ?_
      by_cases c103 : r100 = 0
      · have e := (if_pos c103).symm.trans e
        refine ex_pc (if_pos c103) ?_
        refine ex_s (am_nb (m := 3) (pc1 := 280) (ls1 := [(0, .ref 157), (1, .int x0), (2, .int (a 157 15)), (3, .int z78.2.1)]) (st1 := [.int (a 157 15), .int 8, .ref 157]) (H1 := H97) (k1 := 0) (n1 := 0) (by with_unfolding_all rfl)) ?_
        obtain ⟨r107, a108, e106, e⟩ := xb2_some e
        refine ex_cv1 (as := [.int 8, .int (a 157 15)]) (rest := []) rfl rfl rfl rfl (s98.obj rfl (by decide)) rfl (by with_unfolding_all rfl) (by with_unfolding_all rfl) (tf270_fails s98 e106) (fun H104 s105 => ?_)
        have kk : am_E sL sx am_cs 283 291 [(0, .ref 157), (1, .int x0), (2, .int (a 157 15)), (3, .int z78.2.1)] [.int (if r107 = 0 then (0 : Int32) else (1 : Int32))] H104 (some (.int r)) (fun H1 => xS h b T a' H1) := by
          obtain ⟨g110, e⟩ := xg_some e
          cases e
          exact ex_r (st_iret rfl rfl (xnar_z g110)) s105
        refine ex_s (st_if rfl) ?_
        by_cases c109 : r107 = 0
        · refine ex_pc (if_pos c109) ?_
          refine ex_s (am_nb (m := 1) (pc1 := 291) (ls1 := [(0, .ref 157), (1, .int x0), (2, .int (a 157 15)), (3, .int z78.2.1)]) (st1 := [.int 0]) (H1 := H104) (k1 := 0) (n1 := 0) (by with_unfolding_all rfl)) ?_
          rw [if_pos c109] at kk
          exact kk
        · refine ex_pc (if_neg c109) ?_
          refine ex_s (am_nb (m := 2) (pc1 := 291) (ls1 := [(0, .ref 157), (1, .int x0), (2, .int (a 157 15)), (3, .int z78.2.1)]) (st1 := [.int 1]) (H1 := H104) (k1 := 0) (n1 := 0) (by with_unfolding_all rfl)) ?_
          rw [if_neg c109] at kk
          exact kk
      · have e := (if_neg c103).symm.trans e
        refine ex_pc (if_neg c103) ?_
        exact le_E (l1 := []) trivial rfl (tj283_286  s98 e)
    · have e := (if_neg c92).symm.trans e
      refine ex_pc (if_neg c92) ?_
      refine ex_s (am_nb (m := 3) (pc1 := 257) (ls1 := [(0, .ref 157), (1, .int x0), (2, .int (a 157 15)), (3, .int z78.2.1)]) (st1 := [.int (a 157 15), .int 2, .ref 157]) (H1 := Hz783) (k1 := 0) (n1 := 0) (by with_unfolding_all rfl)) ?_
      obtain ⟨r114, a115, e113, e⟩ := xb2_some e
      refine ex_cv1 (as := [.int 2, .int (a 157 15)]) (rest := []) rfl rfl rfl rfl (sz783.obj rfl (by decide)) rfl (by with_unfolding_all rfl) (by with_unfolding_all rfl) (tf270_fails sz783 e113) (fun H111 s112 => ?_)
      obtain ⟨g116, e⟩ := xg_some e
      cases e
      exact ex_r (st_iret rfl rfl (xnar_z g116)) s112

set_option maxRecDepth 100000 in
theorem tj272_57 {sL : Nat} {sx : Nat → Int32} {h b N : Nat} {T : List am_C} {R : Option Value} {F : am_H → Prop} {w1 : Int32} {z : Nat × xA} {rc : xA → Option (Nat × xA)} (k0 : z.1 = 0 → ∀ H2 : am_H, xS h b T z.2 H2 → am_E sL sx am_cs 272 70 [(0, .ref 157), (1, .int w1)] [] H2 R F) (ih : ∀ (a : xA) (H : am_H), xS h b T a H → rc a = some z → am_E sL sx am_cs 272 29 [(0, .ref 157), (1, .int w1)] [] H R F) {a : xA} {H : am_H} (hS : xS h b T a H) (e : j272_57 N h b rc w1 a = some z) : am_E sL sx am_cs 272 57 [(0, .ref 157), (1, .int w1)] [] H R F := by
  unfold j272_57 at e
  refine ex_s (am_nb (m := 2) (pc1 := 59) (ls1 := [(0, .ref 157), (1, .int w1)]) (st1 := [.ref 157, .ref 157]) (H1 := H) (k1 := 0) (n1 := 0) (by with_unfolding_all rfl)) ?_
  refine xe_get (v := .int (a 157 15)) hS rfl rfl (by decide) rfl ?_
  refine ex_s (am_nb (m := 2) (pc1 := 64) (ls1 := [(0, .ref 157), (1, .int w1)]) (st1 := [.int ((a 157 15) + 1), .ref 157]) (H1 := H) (k1 := 0) (n1 := 0) (by with_unfolding_all rfl)) ?_
  obtain ⟨a41, ha41, e⟩ := xw_some e
  refine xe_put (w := ((a 157 15) + 1)) hS rfl rfl (by decide) rfl rfl rfl rfl (fun H42 s43 => ?_)
  have s43 : xS h b T a41 H42 := by rw [ha41]; exact s43
  refine ex_s (am_nb (m := 1) (pc1 := 29) (ls1 := [(0, .ref 157), (1, .int w1)]) (st1 := []) (H1 := H42) (k1 := 0) (n1 := 0) (by with_unfolding_all rfl)) ?_
  exact le_E (l1 := [(0, .ref 157), (1, .int w1)]) ⟨rfl, rfl, trivial⟩ rfl (ih a41 H42 s43 e)

set_option maxRecDepth 100000 in
theorem tl272_29 {sL : Nat} {sx : Nat → Int32} {h b N : Nat} {T : List am_C} {R : Option Value} {F : am_H → Prop} {w1 : Int32} {z : Nat × xA} (k0 : z.1 = 0 → ∀ H2 : am_H, xS h b T z.2 H2 → am_E sL sx am_cs 272 70 [(0, .ref 157), (1, .int w1)] [] H2 R F) : ∀ (n : Nat) (a : xA) (H : am_H), xS h b T a H → l272_29 N h b w1 n a = some z → am_E sL sx am_cs 272 29 [(0, .ref 157), (1, .int w1)] [] H R F := by
  intro n
  induction n with
  | zero =>
    intro a H hS e
    cases e
  | succ n ih =>
    intro a H hS e
    unfold l272_29 at e
    refine ex_s (am_nb (m := 2) (pc1 := 31) (ls1 := [(0, .ref 157), (1, .int w1)]) (st1 := [.ref 157, .ref 157]) (H1 := H) (k1 := 0) (n1 := 0) (by with_unfolding_all rfl)) ?_
    refine xe_get (v := .int (a 157 15)) hS rfl rfl (by decide) rfl ?_
    obtain ⟨r21, a22, e20, e⟩ := xb2_some e
    refine ex_cv1 (as := [.int (a 157 15)]) (rest := []) rfl rfl rfl rfl (hS.obj rfl (by decide)) rfl (by with_unfolding_all rfl) (by with_unfolding_all rfl) (tf266_here hS e20) (fun H18 s19 => ?_)
    obtain ⟨r26, a27, e25, e⟩ := xb2_some e
    refine ex_cs1 (as := [.int r21]) (rest := []) rfl (by decide) rfl rfl (by with_unfolding_all rfl) (by with_unfolding_all rfl) (tf273_isLetter s19 e25) (fun H23 s24 => ?_)
    refine ex_s (st_if rfl) ?_
    by_cases c29 : r26 = 0
    · have e := (if_pos c29).symm.trans e
      refine ex_pc (if_pos c29) ?_
      refine ex_s (am_nb (m := 2) (pc1 := 45) (ls1 := [(0, .ref 157), (1, .int w1)]) (st1 := [.ref 157, .ref 157]) (H1 := H23) (k1 := 0) (n1 := 0) (by with_unfolding_all rfl)) ?_
      refine xe_get (v := .int (a27 157 15)) s24 rfl rfl (by decide) rfl ?_
      obtain ⟨r33, a34, e32, e⟩ := xb2_some e
      refine ex_cv1 (as := [.int (a27 157 15)]) (rest := []) rfl rfl rfl rfl (s24.obj rfl (by decide)) rfl (by with_unfolding_all rfl) (by with_unfolding_all rfl) (tf266_here s24 e32) (fun H30 s31 => ?_)
      obtain ⟨r38, a39, e37, e⟩ := xb2_some e
      refine ex_cs1 (as := [.int r33]) (rest := []) rfl (by decide) rfl rfl (by with_unfolding_all rfl) (by with_unfolding_all rfl) (tf274_isDigit s31 e37) (fun H35 s36 => ?_)
      refine ex_s (st_if rfl) ?_
      by_cases c40 : r38 = 0
      · have e := (if_pos c40).symm.trans e
        refine ex_pc (if_pos c40) ?_
        cases e
        exact le_E (l1 := [(0, .ref 157), (1, .int w1)]) ⟨rfl, rfl, trivial⟩ rfl (k0 rfl H35 s36)
      · have e := (if_neg c40).symm.trans e
        refine ex_pc (if_neg c40) ?_
        exact le_E (l1 := [(0, .ref 157), (1, .int w1)]) ⟨rfl, rfl, trivial⟩ rfl (tj272_57 k0 ih  s36 e)
    · have e := (if_neg c29).symm.trans e
      refine ex_pc (if_neg c29) ?_
      exact le_E (l1 := [(0, .ref 157), (1, .int w1)]) ⟨rfl, rfl, trivial⟩ rfl (tj272_57 k0 ih  s24 e)

set_option maxRecDepth 100000 in
theorem tj272_364 {sL : Nat} {sx : Nat → Int32} {h b N : Nat} {T : List am_C} {r : Int32} {a' : xA} {q4 : Int32} {q6 : Int32} {a : xA} {H : am_H} (hS : xS h b T a H) (e : j272_364 N h b q4 q6 a = some (r, a')) : am_E sL sx am_cs 272 364 [(0, .ref 157), (4, .int q4), (6, .int q6)] [] H (some (.int r)) (fun H1 => xS h b T a' H1) := by
  unfold j272_364 at e
  refine ex_s (am_nb (m := 2) (pc1 := 368) (ls1 := [(0, .ref 157), (4, .int q4), (6, .int q6)]) (st1 := [.int 35, .int q6]) (H1 := H) (k1 := 0) (n1 := 0) (by with_unfolding_all rfl)) ?_
  refine ex_s (st_icmp rfl) ?_
  by_cases c116 : q6 = 35
  · have e := (if_pos c116).symm.trans e
    refine ex_pc (if_pos c116) ?_
    refine ex_s (am_nb (m := 2) (pc1 := 374) (ls1 := [(0, .ref 157), (4, .int q4), (6, .int q6)]) (st1 := [.int q4, .ref 157]) (H1 := H) (k1 := 0) (n1 := 0) (by with_unfolding_all rfl)) ?_
    obtain ⟨r120, a121, e119, e⟩ := xb2_some e
    refine ex_cv1 (as := [.int q4]) (rest := []) rfl rfl rfl rfl (hS.obj rfl (by decide)) rfl (by with_unfolding_all rfl) (by with_unfolding_all rfl) (tf282_digits hS e119) (fun H117 s118 => ?_)
    refine ex_s (am_nb (m := 1) (pc1 := 397) (ls1 := [(0, .ref 157), (4, .int q4), (6, .int q6)]) (st1 := [.int r120]) (H1 := H117) (k1 := 0) (n1 := 0) (by with_unfolding_all rfl)) ?_
    obtain ⟨g122, e⟩ := xg_some e
    cases e
    exact ex_r (st_iret rfl rfl (xnar_z g122)) s118
  · have e := (if_neg c116).symm.trans e
    refine ex_pc (if_neg c116) ?_
    refine ex_s (am_nb (m := 2) (pc1 := 384) (ls1 := [(0, .ref 157), (4, .int q4), (6, .int q6)]) (st1 := [.int 61, .int q6]) (H1 := H) (k1 := 0) (n1 := 0) (by with_unfolding_all rfl)) ?_
    refine ex_s (st_icmp rfl) ?_
    by_cases c124 : q6 = 61
    · have e := (if_pos c124).symm.trans e
      refine ex_pc (if_pos c124) ?_
      refine ex_s (am_nb (m := 2) (pc1 := 390) (ls1 := [(0, .ref 157), (4, .int q4), (6, .int q6)]) (st1 := [.int q4, .ref 157]) (H1 := H) (k1 := 0) (n1 := 0) (by with_unfolding_all rfl)) ?_
      obtain ⟨r128, a129, e127, e⟩ := xb2_some e
      refine ex_cv1 (as := [.int q4]) (rest := []) rfl rfl rfl rfl (hS.obj rfl (by decide)) rfl (by with_unfolding_all rfl) (by with_unfolding_all rfl) (tf283_made hS e127) (fun H125 s126 => ?_)
      refine ex_s (am_nb (m := 1) (pc1 := 397) (ls1 := [(0, .ref 157), (4, .int q4), (6, .int q6)]) (st1 := [.int r128]) (H1 := H125) (k1 := 0) (n1 := 0) (by with_unfolding_all rfl)) ?_
      obtain ⟨g130, e⟩ := xg_some e
      cases e
      exact ex_r (st_iret rfl rfl (xnar_z g130)) s126
    · have e := (if_neg c124).symm.trans e
      refine ex_pc (if_neg c124) ?_
      refine ex_s (am_nb (m := 1) (pc1 := 397) (ls1 := [(0, .ref 157), (4, .int q4), (6, .int q6)]) (st1 := [.int 1]) (H1 := H) (k1 := 0) (n1 := 0) (by with_unfolding_all rfl)) ?_
      cases e
      exact ex_r (st_iret rfl rfl rfl) hS

set_option maxRecDepth 100000 in
theorem tj272_166 {sL : Nat} {sx : Nat → Int32} {h b N : Nat} {T : List am_C} {r : Int32} {a' : xA} {q1 : Int32} {q2 : Int32} {a : xA} {H : am_H} (hS : xS h b T a H) (e : j272_166 N h b q1 q2 a = some (r, a')) : am_E sL sx am_cs 272 166 [(0, .ref 157), (1, .int q1), (2, .int q2)] [] H (some (.int r)) (fun H1 => xS h b T a' H1) := by
  unfold j272_166 at e
  refine ex_s (am_nb (m := 3) (pc1 := 169) (ls1 := [(0, .ref 157), (1, .int q1), (2, .int q2)]) (st1 := [.int q2, .int q1, .ref 157]) (H1 := H) (k1 := 0) (n1 := 0) (by with_unfolding_all rfl)) ?_
  obtain ⟨r79, a80, e78, e⟩ := xb2_some e
  refine ex_cv1 (as := [.int q1, .int q2]) (rest := []) rfl rfl rfl rfl (hS.obj rfl (by decide)) rfl (by with_unfolding_all rfl) (by with_unfolding_all rfl) (tf281_abilityOf hS e78) (fun H76 s77 => ?_)
  refine ex_s (am_nb (m := 3) (pc1 := 175) (ls1 := [(3, .int r79), (0, .ref 157), (1, .int q1), (2, .int q2)]) (st1 := [.int (-1), .int r79]) (H1 := H76) (k1 := 0) (n1 := 0) (by with_unfolding_all rfl)) ?_
  refine ex_s (st_icmp rfl) ?_
  by_cases c81 : r79 = (-1)
  · have e := (if_pos c81).symm.trans e
    refine ex_pc (if_pos c81) ?_
    refine ex_s (am_nb (m := 3) (pc1 := 181) (ls1 := [(3, .int r79), (0, .ref 157), (1, .int q1), (2, .int q2)]) (st1 := [.int q1, .int 4, .ref 157]) (H1 := H76) (k1 := 0) (n1 := 0) (by with_unfolding_all rfl)) ?_
    obtain ⟨r85, a86, e84, e⟩ := xb2_some e
    refine ex_cv1 (as := [.int 4, .int q1]) (rest := []) rfl rfl rfl rfl (s77.obj rfl (by decide)) rfl (by with_unfolding_all rfl) (by with_unfolding_all rfl) (tf270_fails s77 e84) (fun H82 s83 => ?_)
    obtain ⟨g87, e⟩ := xg_some e
    cases e
    exact ex_r (st_iret rfl rfl (xnar_z g87)) s83
  · have e := (if_neg c81).symm.trans e
    refine ex_pc (if_neg c81) ?_
    refine ex_s (am_nb (m := 2) (pc1 := 188) (ls1 := [(3, .int r79), (0, .ref 157), (1, .int q1), (2, .int q2)]) (st1 := [.ref 157, .int 39]) (H1 := H76) (k1 := 0) (n1 := 0) (by with_unfolding_all rfl)) ?_
    refine xe_get (v := .int (a80 157 17)) s77 rfl rfl (by decide) rfl ?_
    refine ex_s (am_nb (m := 5) (pc1 := 197) (ls1 := [(4, .int ((39 * (a80 157 17)) + r79)), (3, .int r79), (0, .ref 157), (1, .int q1), (2, .int q2)]) (st1 := [.ref 157]) (H1 := H76) (k1 := 0) (n1 := 0) (by with_unfolding_all rfl)) ?_
    refine xe_get (v := .ref 163) s77 rfl rfl (by decide) rfl ?_
    refine ex_s (am_nb (m := 1) (pc1 := 202) (ls1 := [(4, .int ((39 * (a80 157 17)) + r79)), (3, .int r79), (0, .ref 157), (1, .int q1), (2, .int q2)]) (st1 := [.int ((39 * (a80 157 17)) + r79), .ref 163]) (H1 := H76) (k1 := 0) (n1 := 0) (by with_unfolding_all rfl)) ?_
    obtain ⟨g88, e⟩ := xg_some e
    refine xe_bald s77 rfl rfl g88 ?_
    refine ex_s (st_if rfl) ?_
    by_cases c89 : (a80 163 (((39 * (a80 157 17)) + r79).toNatClampNeg)) = 0
    · have e := (if_pos c89).symm.trans e
      refine ex_pc (if_pos c89) ?_
      refine ex_s (am_nb (m := 2) (pc1 := 216) (ls1 := [(4, .int ((39 * (a80 157 17)) + r79)), (3, .int r79), (0, .ref 157), (1, .int q1), (2, .int q2)]) (st1 := [.int 3, .int r79]) (H1 := H76) (k1 := 0) (n1 := 0) (by with_unfolding_all rfl)) ?_
      have kk : am_E sL sx am_cs 272 234 [(4, .int ((39 * (a80 157 17)) + r79)), (3, .int r79), (0, .ref 157), (1, .int q1), (2, .int q2)] [.int (if 3 ≤ r79 then (if 6 ≤ r79 then (2 : Int32) else (1 : Int32)) else (0 : Int32))] H76 (some (.int r)) (fun H1 => xS h b T a' H1) := by
        refine ex_s (am_nb (m := 3) (pc1 := 238) (ls1 := [(5, .int (if 3 ≤ r79 then (if 6 ≤ r79 then (2 : Int32) else (1 : Int32)) else (0 : Int32))), (4, .int ((39 * (a80 157 17)) + r79)), (3, .int r79), (0, .ref 157), (1, .int q1), (2, .int q2)]) (st1 := [.ref 157, .ref 157]) (H1 := H76) (k1 := 0) (n1 := 0) (by with_unfolding_all rfl)) ?_
        refine xe_get (v := .int (a80 157 15)) s77 rfl rfl (by decide) rfl ?_
        obtain ⟨r95, a96, e94, e⟩ := xb2_some e
        refine ex_cv1 (as := [.int (a80 157 15)]) (rest := []) rfl rfl rfl rfl (s77.obj rfl (by decide)) rfl (by with_unfolding_all rfl) (by with_unfolding_all rfl) (tf266_here s77 e94) (fun H92 s93 => ?_)
        refine ex_s (am_nb (m := 3) (pc1 := 250) (ls1 := [(6, .int r95), (5, .int (if 3 ≤ r79 then (if 6 ≤ r79 then (2 : Int32) else (1 : Int32)) else (0 : Int32))), (4, .int ((39 * (a80 157 17)) + r79)), (3, .int r79), (0, .ref 157), (1, .int q1), (2, .int q2)]) (st1 := [.int 44, .int r95]) (H1 := H92) (k1 := 0) (n1 := 0) (by with_unfolding_all rfl)) ?_
        have kk : am_E sL sx am_cs 272 292 [(6, .int r95), (5, .int (if 3 ≤ r79 then (if 6 ≤ r79 then (2 : Int32) else (1 : Int32)) else (0 : Int32))), (4, .int ((39 * (a80 157 17)) + r79)), (3, .int r79), (0, .ref 157), (1, .int q1), (2, .int q2)] [.int (if r95 = 44 then (0 : Int32) else (if r95 = 35 then (1 : Int32) else (if r95 = 61 then (2 : Int32) else (if r95 = 64 then ((if 3 ≤ r79 then (if 6 ≤ r79 then (2 : Int32) else (1 : Int32)) else (0 : Int32))) else (-1 : Int32)))))] H92 (some (.int r)) (fun H1 => xS h b T a' H1) := by
          refine ex_s (am_nb (m := 3) (pc1 := 297) (ls1 := [(7, .int (if r95 = 44 then (0 : Int32) else (if r95 = 35 then (1 : Int32) else (if r95 = 61 then (2 : Int32) else (if r95 = 64 then ((if 3 ≤ r79 then (if 6 ≤ r79 then (2 : Int32) else (1 : Int32)) else (0 : Int32))) else (-1 : Int32)))))), (6, .int r95), (5, .int (if 3 ≤ r79 then (if 6 ≤ r79 then (2 : Int32) else (1 : Int32)) else (0 : Int32))), (4, .int ((39 * (a80 157 17)) + r79)), (3, .int r79), (0, .ref 157), (1, .int q1), (2, .int q2)]) (st1 := [.int (-1), .int (if r95 = 44 then (0 : Int32) else (if r95 = 35 then (1 : Int32) else (if r95 = 61 then (2 : Int32) else (if r95 = 64 then ((if 3 ≤ r79 then (if 6 ≤ r79 then (2 : Int32) else (1 : Int32)) else (0 : Int32))) else (-1 : Int32)))))]) (H1 := H92) (k1 := 0) (n1 := 0) (by with_unfolding_all rfl)) ?_
          refine ex_s (st_icmp rfl) ?_
          by_cases c101 : (if r95 = 44 then (0 : Int32) else (if r95 = 35 then (1 : Int32) else (if r95 = 61 then (2 : Int32) else (if r95 = 64 then ((if 3 ≤ r79 then (if 6 ≤ r79 then (2 : Int32) else (1 : Int32)) else (0 : Int32))) else (-1 : Int32))))) = (-1)
          · have e := (if_pos c101).symm.trans e
            refine ex_pc (if_pos c101) ?_
            refine ex_s (am_nb (m := 3) (pc1 := 303) (ls1 := [(7, .int (if r95 = 44 then (0 : Int32) else (if r95 = 35 then (1 : Int32) else (if r95 = 61 then (2 : Int32) else (if r95 = 64 then ((if 3 ≤ r79 then (if 6 ≤ r79 then (2 : Int32) else (1 : Int32)) else (0 : Int32))) else (-1 : Int32)))))), (6, .int r95), (5, .int (if 3 ≤ r79 then (if 6 ≤ r79 then (2 : Int32) else (1 : Int32)) else (0 : Int32))), (4, .int ((39 * (a80 157 17)) + r79)), (3, .int r79), (0, .ref 157), (1, .int q1), (2, .int q2)]) (st1 := [.ref 157, .int 1, .ref 157]) (H1 := H92) (k1 := 0) (n1 := 0) (by with_unfolding_all rfl)) ?_
            refine xe_get (v := .int (a96 157 15)) s93 rfl rfl (by decide) rfl ?_
            obtain ⟨r105, a106, e104, e⟩ := xb2_some e
            refine ex_cv1 (as := [.int 1, .int (a96 157 15)]) (rest := []) rfl rfl rfl rfl (s93.obj rfl (by decide)) rfl (by with_unfolding_all rfl) (by with_unfolding_all rfl) (tf270_fails s93 e104) (fun H102 s103 => ?_)
            obtain ⟨g107, e⟩ := xg_some e
            cases e
            exact ex_r (st_iret rfl rfl (xnar_z g107)) s103
          · have e := (if_neg c101).symm.trans e
            refine ex_pc (if_neg c101) ?_
            refine ex_s (am_nb (m := 2) (pc1 := 314) (ls1 := [(7, .int (if r95 = 44 then (0 : Int32) else (if r95 = 35 then (1 : Int32) else (if r95 = 61 then (2 : Int32) else (if r95 = 64 then ((if 3 ≤ r79 then (if 6 ≤ r79 then (2 : Int32) else (1 : Int32)) else (0 : Int32))) else (-1 : Int32)))))), (6, .int r95), (5, .int (if 3 ≤ r79 then (if 6 ≤ r79 then (2 : Int32) else (1 : Int32)) else (0 : Int32))), (4, .int ((39 * (a80 157 17)) + r79)), (3, .int r79), (0, .ref 157), (1, .int q1), (2, .int q2)]) (st1 := [.int (if 3 ≤ r79 then (if 6 ≤ r79 then (2 : Int32) else (1 : Int32)) else (0 : Int32)), .int (if r95 = 44 then (0 : Int32) else (if r95 = 35 then (1 : Int32) else (if r95 = 61 then (2 : Int32) else (if r95 = 64 then ((if 3 ≤ r79 then (if 6 ≤ r79 then (2 : Int32) else (1 : Int32)) else (0 : Int32))) else (-1 : Int32)))))]) (H1 := H92) (k1 := 0) (n1 := 0) (by with_unfolding_all rfl)) ?_
            refine ex_s (st_icmp rfl) ?_
            by_cases c108 : (if r95 = 44 then (0 : Int32) else (if r95 = 35 then (1 : Int32) else (if r95 = 61 then (2 : Int32) else (if r95 = 64 then ((if 3 ≤ r79 then (if 6 ≤ r79 then (2 : Int32) else (1 : Int32)) else (0 : Int32))) else (-1 : Int32))))) = (if 3 ≤ r79 then (if 6 ≤ r79 then (2 : Int32) else (1 : Int32)) else (0 : Int32))
            · have e := (if_pos c108).symm.trans e
              refine ex_pc (if_pos c108) ?_
              refine ex_s (am_nb (m := 1) (pc1 := 328) (ls1 := [(7, .int (if r95 = 44 then (0 : Int32) else (if r95 = 35 then (1 : Int32) else (if r95 = 61 then (2 : Int32) else (if r95 = 64 then ((if 3 ≤ r79 then (if 6 ≤ r79 then (2 : Int32) else (1 : Int32)) else (0 : Int32))) else (-1 : Int32)))))), (6, .int r95), (5, .int (if 3 ≤ r79 then (if 6 ≤ r79 then (2 : Int32) else (1 : Int32)) else (0 : Int32))), (4, .int ((39 * (a80 157 17)) + r79)), (3, .int r79), (0, .ref 157), (1, .int q1), (2, .int q2)]) (st1 := [.ref 157]) (H1 := H92) (k1 := 0) (n1 := 0) (by with_unfolding_all rfl)) ?_
              refine xe_get (v := .ref 163) s93 rfl rfl (by decide) rfl ?_
              refine ex_s (am_nb (m := 3) (pc1 := 337) (ls1 := [(7, .int (if r95 = 44 then (0 : Int32) else (if r95 = 35 then (1 : Int32) else (if r95 = 61 then (2 : Int32) else (if r95 = 64 then ((if 3 ≤ r79 then (if 6 ≤ r79 then (2 : Int32) else (1 : Int32)) else (0 : Int32))) else (-1 : Int32)))))), (6, .int r95), (5, .int (if 3 ≤ r79 then (if 6 ≤ r79 then (2 : Int32) else (1 : Int32)) else (0 : Int32))), (4, .int ((39 * (a80 157 17)) + r79)), (3, .int r79), (0, .ref 157), (1, .int q1), (2, .int q2)]) (st1 := [.int 64, .int r95, .int ((39 * (a80 157 17)) + r79), .ref 163]) (H1 := H92) (k1 := 0) (n1 := 0) (by with_unfolding_all rfl)) ?_
              have kk : ∀ w_ : Int32, w_ = (if r95 = 64 then (2 : Int32) else (1 : Int32)) → am_E sL sx am_cs 272 345 [(7, .int (if r95 = 44 then (0 : Int32) else (if r95 = 35 then (1 : Int32) else (if r95 = 61 then (2 : Int32) else (if r95 = 64 then ((if 3 ≤ r79 then (if 6 ≤ r79 then (2 : Int32) else (1 : Int32)) else (0 : Int32))) else (-1 : Int32)))))), (6, .int r95), (5, .int (if 3 ≤ r79 then (if 6 ≤ r79 then (2 : Int32) else (1 : Int32)) else (0 : Int32))), (4, .int ((39 * (a80 157 17)) + r79)), (3, .int r79), (0, .ref 157), (1, .int q1), (2, .int q2)] [.int w_, .int ((39 * (a80 157 17)) + r79), .ref 163] H92 (some (.int r)) (fun H1 => xS h b T a' H1) := by
                intro w_ hw_
                subst hw_
                refine ex_s (am_nb (m := 1) (pc1 := 346) (ls1 := [(7, .int (if r95 = 44 then (0 : Int32) else (if r95 = 35 then (1 : Int32) else (if r95 = 61 then (2 : Int32) else (if r95 = 64 then ((if 3 ≤ r79 then (if 6 ≤ r79 then (2 : Int32) else (1 : Int32)) else (0 : Int32))) else (-1 : Int32)))))), (6, .int r95), (5, .int (if 3 ≤ r79 then (if 6 ≤ r79 then (2 : Int32) else (1 : Int32)) else (0 : Int32))), (4, .int ((39 * (a80 157 17)) + r79)), (3, .int r79), (0, .ref 157), (1, .int q1), (2, .int q2)]) (st1 := [.int ((if r95 = 64 then (2 : Int32) else (1 : Int32)).toInt8.toInt32), .int ((39 * (a80 157 17)) + r79), .ref 163]) (H1 := H92) (k1 := 0) (n1 := 0) (by with_unfolding_all rfl)) ?_
                obtain ⟨a110, ha110, e⟩ := xw_some e
                refine xe_bast s93 rfl rfl g88 (fun H111 s112 => ?_)
                have s112 : xS h b T a110 H111 := by rw [ha110]; exact s112
                refine ex_s (am_nb (m := 2) (pc1 := 351) (ls1 := [(7, .int (if r95 = 44 then (0 : Int32) else (if r95 = 35 then (1 : Int32) else (if r95 = 61 then (2 : Int32) else (if r95 = 64 then ((if 3 ≤ r79 then (if 6 ≤ r79 then (2 : Int32) else (1 : Int32)) else (0 : Int32))) else (-1 : Int32)))))), (6, .int r95), (5, .int (if 3 ≤ r79 then (if 6 ≤ r79 then (2 : Int32) else (1 : Int32)) else (0 : Int32))), (4, .int ((39 * (a80 157 17)) + r79)), (3, .int r79), (0, .ref 157), (1, .int q1), (2, .int q2)]) (st1 := [.int 44, .int r95]) (H1 := H111) (k1 := 0) (n1 := 0) (by with_unfolding_all rfl)) ?_
                refine ex_s (st_icmp rfl) ?_
                by_cases c114 : r95 = 44
                · have e := (if_pos c114).symm.trans e
                  refine ex_pc (if_pos c114) ?_
                  exact le_E (l1 := [(0, .ref 157), (4, .int ((39 * (a80 157 17)) + r79)), (6, .int r95)]) ⟨rfl, rfl, rfl, trivial⟩ rfl (tj272_364  s112 e)
                · have e := (if_neg c114).symm.trans e
                  refine ex_pc (if_neg c114) ?_
                  refine ex_s (am_nb (m := 2) (pc1 := 356) (ls1 := [(7, .int (if r95 = 44 then (0 : Int32) else (if r95 = 35 then (1 : Int32) else (if r95 = 61 then (2 : Int32) else (if r95 = 64 then ((if 3 ≤ r79 then (if 6 ≤ r79 then (2 : Int32) else (1 : Int32)) else (0 : Int32))) else (-1 : Int32)))))), (6, .int r95), (5, .int (if 3 ≤ r79 then (if 6 ≤ r79 then (2 : Int32) else (1 : Int32)) else (0 : Int32))), (4, .int ((39 * (a80 157 17)) + r79)), (3, .int r79), (0, .ref 157), (1, .int q1), (2, .int q2)]) (st1 := [.ref 157, .ref 157]) (H1 := H111) (k1 := 0) (n1 := 0) (by with_unfolding_all rfl)) ?_
                  refine xe_get (v := .int (a110 157 15)) s112 rfl rfl (by decide) rfl ?_
                  refine ex_s (am_nb (m := 2) (pc1 := 361) (ls1 := [(7, .int (if r95 = 44 then (0 : Int32) else (if r95 = 35 then (1 : Int32) else (if r95 = 61 then (2 : Int32) else (if r95 = 64 then ((if 3 ≤ r79 then (if 6 ≤ r79 then (2 : Int32) else (1 : Int32)) else (0 : Int32))) else (-1 : Int32)))))), (6, .int r95), (5, .int (if 3 ≤ r79 then (if 6 ≤ r79 then (2 : Int32) else (1 : Int32)) else (0 : Int32))), (4, .int ((39 * (a80 157 17)) + r79)), (3, .int r79), (0, .ref 157), (1, .int q1), (2, .int q2)]) (st1 := [.int ((a110 157 15) + 1), .ref 157]) (H1 := H111) (k1 := 0) (n1 := 0) (by with_unfolding_all rfl)) ?_
                  obtain ⟨a131, ha131, e⟩ := xw_some e
                  refine xe_put (w := ((a110 157 15) + 1)) s112 rfl rfl (by decide) rfl rfl rfl rfl (fun H132 s133 => ?_)
                  have s133 : xS h b T a131 H132 := by rw [ha131]; exact s133
                  exact le_E (l1 := [(0, .ref 157), (4, .int ((39 * (a80 157 17)) + r79)), (6, .int r95)]) ⟨rfl, rfl, rfl, trivial⟩ rfl (tj272_364  s133 e)
              refine ex_s (st_icmp rfl) ?_
              by_cases c109 : r95 = 64
              · refine ex_pc (if_pos c109) ?_
                refine ex_s (am_nb (m := 2) (pc1 := 345) (ls1 := [(7, .int (if r95 = 44 then (0 : Int32) else (if r95 = 35 then (1 : Int32) else (if r95 = 61 then (2 : Int32) else (if r95 = 64 then ((if 3 ≤ r79 then (if 6 ≤ r79 then (2 : Int32) else (1 : Int32)) else (0 : Int32))) else (-1 : Int32)))))), (6, .int r95), (5, .int (if 3 ≤ r79 then (if 6 ≤ r79 then (2 : Int32) else (1 : Int32)) else (0 : Int32))), (4, .int ((39 * (a80 157 17)) + r79)), (3, .int r79), (0, .ref 157), (1, .int q1), (2, .int q2)]) (st1 := [.int 2, .int ((39 * (a80 157 17)) + r79), .ref 163]) (H1 := H92) (k1 := 0) (n1 := 0) (by with_unfolding_all rfl)) ?_
                exact kk _ (if_pos c109).symm
              · refine ex_pc (if_neg c109) ?_
                refine ex_s (am_nb (m := 1) (pc1 := 345) (ls1 := [(7, .int (if r95 = 44 then (0 : Int32) else (if r95 = 35 then (1 : Int32) else (if r95 = 61 then (2 : Int32) else (if r95 = 64 then ((if 3 ≤ r79 then (if 6 ≤ r79 then (2 : Int32) else (1 : Int32)) else (0 : Int32))) else (-1 : Int32)))))), (6, .int r95), (5, .int (if 3 ≤ r79 then (if 6 ≤ r79 then (2 : Int32) else (1 : Int32)) else (0 : Int32))), (4, .int ((39 * (a80 157 17)) + r79)), (3, .int r79), (0, .ref 157), (1, .int q1), (2, .int q2)]) (st1 := [.int 1, .int ((39 * (a80 157 17)) + r79), .ref 163]) (H1 := H92) (k1 := 0) (n1 := 0) (by with_unfolding_all rfl)) ?_
                exact kk _ (if_neg c109).symm
            · have e := (if_neg c108).symm.trans e
              refine ex_pc (if_neg c108) ?_
              refine ex_s (am_nb (m := 3) (pc1 := 320) (ls1 := [(7, .int (if r95 = 44 then (0 : Int32) else (if r95 = 35 then (1 : Int32) else (if r95 = 61 then (2 : Int32) else (if r95 = 64 then ((if 3 ≤ r79 then (if 6 ≤ r79 then (2 : Int32) else (1 : Int32)) else (0 : Int32))) else (-1 : Int32)))))), (6, .int r95), (5, .int (if 3 ≤ r79 then (if 6 ≤ r79 then (2 : Int32) else (1 : Int32)) else (0 : Int32))), (4, .int ((39 * (a80 157 17)) + r79)), (3, .int r79), (0, .ref 157), (1, .int q1), (2, .int q2)]) (st1 := [.ref 157, .int 5, .ref 157]) (H1 := H92) (k1 := 0) (n1 := 0) (by with_unfolding_all rfl)) ?_
              refine xe_get (v := .int (a96 157 15)) s93 rfl rfl (by decide) rfl ?_
              obtain ⟨r137, a138, e136, e⟩ := xb2_some e
              refine ex_cv1 (as := [.int 5, .int (a96 157 15)]) (rest := []) rfl rfl rfl rfl (s93.obj rfl (by decide)) rfl (by with_unfolding_all rfl) (by with_unfolding_all rfl) (tf270_fails s93 e136) (fun H134 s135 => ?_)
              obtain ⟨g139, e⟩ := xg_some e
              cases e
              exact ex_r (st_iret rfl rfl (xnar_z g139)) s135
        refine ex_s (st_icmp rfl) ?_
        by_cases c97 : r95 = 44
        · refine ex_pc (if_pos c97) ?_
          refine ex_s (am_nb (m := 2) (pc1 := 292) (ls1 := [(6, .int r95), (5, .int (if 3 ≤ r79 then (if 6 ≤ r79 then (2 : Int32) else (1 : Int32)) else (0 : Int32))), (4, .int ((39 * (a80 157 17)) + r79)), (3, .int r79), (0, .ref 157), (1, .int q1), (2, .int q2)]) (st1 := [.int 0]) (H1 := H92) (k1 := 0) (n1 := 0) (by with_unfolding_all rfl)) ?_
          rw [if_pos c97] at kk
          exact kk
        · refine ex_pc (if_neg c97) ?_
          refine ex_s (am_nb (m := 2) (pc1 := 261) (ls1 := [(6, .int r95), (5, .int (if 3 ≤ r79 then (if 6 ≤ r79 then (2 : Int32) else (1 : Int32)) else (0 : Int32))), (4, .int ((39 * (a80 157 17)) + r79)), (3, .int r79), (0, .ref 157), (1, .int q1), (2, .int q2)]) (st1 := [.int 35, .int r95]) (H1 := H92) (k1 := 0) (n1 := 0) (by with_unfolding_all rfl)) ?_
          refine ex_s (st_icmp rfl) ?_
          by_cases c98 : r95 = 35
          · refine ex_pc (if_pos c98) ?_
            refine ex_s (am_nb (m := 2) (pc1 := 292) (ls1 := [(6, .int r95), (5, .int (if 3 ≤ r79 then (if 6 ≤ r79 then (2 : Int32) else (1 : Int32)) else (0 : Int32))), (4, .int ((39 * (a80 157 17)) + r79)), (3, .int r79), (0, .ref 157), (1, .int q1), (2, .int q2)]) (st1 := [.int 1]) (H1 := H92) (k1 := 0) (n1 := 0) (by with_unfolding_all rfl)) ?_
            rw [if_neg c97, if_pos c98] at kk
            exact kk
          · refine ex_pc (if_neg c98) ?_
            refine ex_s (am_nb (m := 2) (pc1 := 272) (ls1 := [(6, .int r95), (5, .int (if 3 ≤ r79 then (if 6 ≤ r79 then (2 : Int32) else (1 : Int32)) else (0 : Int32))), (4, .int ((39 * (a80 157 17)) + r79)), (3, .int r79), (0, .ref 157), (1, .int q1), (2, .int q2)]) (st1 := [.int 61, .int r95]) (H1 := H92) (k1 := 0) (n1 := 0) (by with_unfolding_all rfl)) ?_
            refine ex_s (st_icmp rfl) ?_
            by_cases c99 : r95 = 61
            · refine ex_pc (if_pos c99) ?_
              refine ex_s (am_nb (m := 2) (pc1 := 292) (ls1 := [(6, .int r95), (5, .int (if 3 ≤ r79 then (if 6 ≤ r79 then (2 : Int32) else (1 : Int32)) else (0 : Int32))), (4, .int ((39 * (a80 157 17)) + r79)), (3, .int r79), (0, .ref 157), (1, .int q1), (2, .int q2)]) (st1 := [.int 2]) (H1 := H92) (k1 := 0) (n1 := 0) (by with_unfolding_all rfl)) ?_
              rw [if_neg c97, if_neg c98, if_pos c99] at kk
              exact kk
            · refine ex_pc (if_neg c99) ?_
              refine ex_s (am_nb (m := 2) (pc1 := 283) (ls1 := [(6, .int r95), (5, .int (if 3 ≤ r79 then (if 6 ≤ r79 then (2 : Int32) else (1 : Int32)) else (0 : Int32))), (4, .int ((39 * (a80 157 17)) + r79)), (3, .int r79), (0, .ref 157), (1, .int q1), (2, .int q2)]) (st1 := [.int 64, .int r95]) (H1 := H92) (k1 := 0) (n1 := 0) (by with_unfolding_all rfl)) ?_
              refine ex_s (st_icmp rfl) ?_
              by_cases c100 : r95 = 64
              · refine ex_pc (if_pos c100) ?_
                refine ex_s (am_nb (m := 2) (pc1 := 292) (ls1 := [(6, .int r95), (5, .int (if 3 ≤ r79 then (if 6 ≤ r79 then (2 : Int32) else (1 : Int32)) else (0 : Int32))), (4, .int ((39 * (a80 157 17)) + r79)), (3, .int r79), (0, .ref 157), (1, .int q1), (2, .int q2)]) (st1 := [.int (if 3 ≤ r79 then (if 6 ≤ r79 then (2 : Int32) else (1 : Int32)) else (0 : Int32))]) (H1 := H92) (k1 := 0) (n1 := 0) (by with_unfolding_all rfl)) ?_
                rw [if_neg c97, if_neg c98, if_neg c99, if_pos c100] at kk
                exact kk
              · refine ex_pc (if_neg c100) ?_
                refine ex_s (am_nb (m := 1) (pc1 := 292) (ls1 := [(6, .int r95), (5, .int (if 3 ≤ r79 then (if 6 ≤ r79 then (2 : Int32) else (1 : Int32)) else (0 : Int32))), (4, .int ((39 * (a80 157 17)) + r79)), (3, .int r79), (0, .ref 157), (1, .int q1), (2, .int q2)]) (st1 := [.int (-1)]) (H1 := H92) (k1 := 0) (n1 := 0) (by with_unfolding_all rfl)) ?_
                rw [if_neg c97, if_neg c98, if_neg c99, if_neg c100] at kk
                exact kk
      refine ex_s (st_icmp rfl) ?_
      by_cases c90 : 3 ≤ r79
      · refine ex_pc (if_pos c90) ?_
        refine ex_s (am_nb (m := 2) (pc1 := 226) (ls1 := [(4, .int ((39 * (a80 157 17)) + r79)), (3, .int r79), (0, .ref 157), (1, .int q1), (2, .int q2)]) (st1 := [.int 6, .int r79]) (H1 := H76) (k1 := 0) (n1 := 0) (by with_unfolding_all rfl)) ?_
        refine ex_s (st_icmp rfl) ?_
        by_cases c91 : 6 ≤ r79
        · refine ex_pc (if_pos c91) ?_
          refine ex_s (am_nb (m := 1) (pc1 := 234) (ls1 := [(4, .int ((39 * (a80 157 17)) + r79)), (3, .int r79), (0, .ref 157), (1, .int q1), (2, .int q2)]) (st1 := [.int 2]) (H1 := H76) (k1 := 0) (n1 := 0) (by with_unfolding_all rfl)) ?_
          rw [if_pos c90, if_pos c91] at kk
          exact kk
        · refine ex_pc (if_neg c91) ?_
          refine ex_s (am_nb (m := 2) (pc1 := 234) (ls1 := [(4, .int ((39 * (a80 157 17)) + r79)), (3, .int r79), (0, .ref 157), (1, .int q1), (2, .int q2)]) (st1 := [.int 1]) (H1 := H76) (k1 := 0) (n1 := 0) (by with_unfolding_all rfl)) ?_
          rw [if_pos c90, if_neg c91] at kk
          exact kk
      · refine ex_pc (if_neg c90) ?_
        refine ex_s (am_nb (m := 2) (pc1 := 234) (ls1 := [(4, .int ((39 * (a80 157 17)) + r79)), (3, .int r79), (0, .ref 157), (1, .int q1), (2, .int q2)]) (st1 := [.int 0]) (H1 := H76) (k1 := 0) (n1 := 0) (by with_unfolding_all rfl)) ?_
        rw [if_neg c90] at kk
        exact kk
    · have e := (if_neg c89).symm.trans e
      refine ex_pc (if_neg c89) ?_
      refine ex_s (am_nb (m := 3) (pc1 := 210) (ls1 := [(4, .int ((39 * (a80 157 17)) + r79)), (3, .int r79), (0, .ref 157), (1, .int q1), (2, .int q2)]) (st1 := [.int q1, .int 6, .ref 157]) (H1 := H76) (k1 := 0) (n1 := 0) (by with_unfolding_all rfl)) ?_
      obtain ⟨r143, a144, e142, e⟩ := xb2_some e
      refine ex_cv1 (as := [.int 6, .int q1]) (rest := []) rfl rfl rfl rfl (s77.obj rfl (by decide)) rfl (by with_unfolding_all rfl) (by with_unfolding_all rfl) (tf270_fails s77 e142) (fun H140 s141 => ?_)
      obtain ⟨g145, e⟩ := xg_some e
      cases e
      exact ex_r (st_iret rfl rfl (xnar_z g145)) s141

set_option maxRecDepth 100000 in
theorem tf272_field {sL : Nat} {sx : Nat → Int32} {h b N : Nat} {T : List am_C} {r : Int32} {a' : xA} {a : xA} {H : am_H} (hS : xS h b T a H) (e : f272_field N h b a = some (r, a')) : am_E sL sx am_cs 272 0 [(0, .ref 157)] [] H (some (.int r)) (fun H1 => xS h b T a' H1) := by
  unfold f272_field at e
  refine ex_s (am_nb (m := 1) (pc1 := 1) (ls1 := [(0, .ref 157)]) (st1 := [.ref 157]) (H1 := H) (k1 := 0) (n1 := 0) (by with_unfolding_all rfl)) ?_
  refine xe_get (v := .int (a 157 15)) hS rfl rfl (by decide) rfl ?_
  refine ex_s (am_nb (m := 3) (pc1 := 7) (ls1 := [(1, .int (a 157 15)), (0, .ref 157)]) (st1 := [.ref 157, .ref 157]) (H1 := H) (k1 := 0) (n1 := 0) (by with_unfolding_all rfl)) ?_
  refine xe_get (v := .int (a 157 15)) hS rfl rfl (by decide) rfl ?_
  obtain ⟨r4, a5, e3, e⟩ := xb2_some e
  refine ex_cv1 (as := [.int (a 157 15)]) (rest := []) rfl rfl rfl rfl (hS.obj rfl (by decide)) rfl (by with_unfolding_all rfl) (by with_unfolding_all rfl) (tf266_here hS e3) (fun H1 s2 => ?_)
  obtain ⟨r9, a10, e8, e⟩ := xb2_some e
  refine ex_cs1 (as := [.int r4]) (rest := []) rfl (by decide) rfl rfl (by with_unfolding_all rfl) (by with_unfolding_all rfl) (tf273_isLetter s2 e8) (fun H6 s7 => ?_)
  refine ex_s (st_if rfl) ?_
  by_cases c11 : r9 = 0
  · have e := (if_pos c11).symm.trans e
    refine ex_pc (if_pos c11) ?_
    refine ex_s (am_nb (m := 3) (pc1 := 22) (ls1 := [(1, .int (a 157 15)), (0, .ref 157)]) (st1 := [.ref 157, .int 1, .ref 157]) (H1 := H6) (k1 := 0) (n1 := 0) (by with_unfolding_all rfl)) ?_
    refine xe_get (v := .int (a10 157 15)) s7 rfl rfl (by decide) rfl ?_
    obtain ⟨r15, a16, e14, e⟩ := xb2_some e
    refine ex_cv1 (as := [.int 1, .int (a10 157 15)]) (rest := []) rfl rfl rfl rfl (s7.obj rfl (by decide)) rfl (by with_unfolding_all rfl) (by with_unfolding_all rfl) (tf270_fails s7 e14) (fun H12 s13 => ?_)
    obtain ⟨g17, e⟩ := xg_some e
    cases e
    exact ex_r (st_iret rfl rfl (xnar_z g17)) s13
  · have e := (if_neg c11).symm.trans e
    refine ex_pc (if_neg c11) ?_
    obtain ⟨z44, e45, e⟩ := Option.bind_eq_some_iff.mp e
    refine le_E (l1 := [(0, .ref 157), (1, .int (a 157 15))]) ⟨rfl, rfl, trivial⟩ rfl (tl272_29 (z := z44)  (fun uz44_0 Hz440 sz440 => ?_) N a10 H6 s7 e45)
    refine ex_s (am_nb (m := 1) (pc1 := 71) (ls1 := [(0, .ref 157), (1, .int (a 157 15))]) (st1 := [.ref 157]) (H1 := Hz440) (k1 := 0) (n1 := 0) (by with_unfolding_all rfl)) ?_
    refine xe_get (v := .int (z44.2 157 15)) sz440 rfl rfl (by decide) rfl ?_
    refine ex_s (am_nb (m := 4) (pc1 := 78) (ls1 := [(2, .int ((z44.2 157 15) - (a 157 15))), (0, .ref 157), (1, .int (a 157 15))]) (st1 := [.ref 157]) (H1 := Hz440) (k1 := 0) (n1 := 0) (by with_unfolding_all rfl)) ?_
    obtain ⟨r49, a50, e48, e⟩ := xb2_some e
    refine ex_cv1 (as := []) (rest := []) rfl rfl rfl rfl (sz440.obj rfl (by decide)) rfl (by with_unfolding_all rfl) (by with_unfolding_all rfl) (tf275_isNone sz440 e48) (fun H46 s47 => ?_)
    refine ex_s (st_if rfl) ?_
    by_cases c51 : r49 = 0
    · have e := (if_pos c51).symm.trans e
      refine ex_pc (if_pos c51) ?_
      refine ex_s (am_nb (m := 2) (pc1 := 96) (ls1 := [(2, .int ((z44.2 157 15) - (a 157 15))), (0, .ref 157), (1, .int (a 157 15))]) (st1 := [.int 5, .int ((z44.2 157 15) - (a 157 15))]) (H1 := H46) (k1 := 0) (n1 := 0) (by with_unfolding_all rfl)) ?_
      refine ex_s (st_icmp rfl) ?_
      by_cases c52 : ((z44.2 157 15) - (a 157 15)) ≤ 5
      · have e := (if_pos c52).symm.trans e
        refine ex_pc (if_pos c52) ?_
        refine ex_s (am_nb (m := 2) (pc1 := 108) (ls1 := [(2, .int ((z44.2 157 15) - (a 157 15))), (0, .ref 157), (1, .int (a 157 15))]) (st1 := [.int 3, .int ((z44.2 157 15) - (a 157 15))]) (H1 := H46) (k1 := 0) (n1 := 0) (by with_unfolding_all rfl)) ?_
        refine ex_s (st_icmp rfl) ?_
        by_cases c54 : ((z44.2 157 15) - (a 157 15)) = 3
        · have e := (if_pos c54).symm.trans e
          refine ex_pc (if_pos c54) ?_
          refine ex_s (am_nb (m := 1) (pc1 := 112) (ls1 := [(2, .int ((z44.2 157 15) - (a 157 15))), (0, .ref 157), (1, .int (a 157 15))]) (st1 := [.ref 157]) (H1 := H46) (k1 := 0) (n1 := 0) (by with_unfolding_all rfl)) ?_
          refine xe_get (v := .ref 158) s47 rfl rfl (by decide) rfl ?_
          refine ex_s (am_nb (m := 1) (pc1 := 116) (ls1 := [(2, .int ((z44.2 157 15) - (a 157 15))), (0, .ref 157), (1, .int (a 157 15))]) (st1 := [.int (a 157 15), .ref 158]) (H1 := H46) (k1 := 0) (n1 := 0) (by with_unfolding_all rfl)) ?_
          obtain ⟨g55, e⟩ := xg_some e
          refine xe_bald s47 rfl rfl g55 ?_
          refine ex_s (am_nb (m := 1) (pc1 := 119) (ls1 := [(2, .int ((z44.2 157 15) - (a 157 15))), (0, .ref 157), (1, .int (a 157 15))]) (st1 := [.int 117, .int (a50 158 ((a 157 15).toNatClampNeg))]) (H1 := H46) (k1 := 0) (n1 := 0) (by with_unfolding_all rfl)) ?_
          refine ex_s (st_icmp rfl) ?_
          by_cases c57 : (a50 158 ((a 157 15).toNatClampNeg)) = 117
          · have e := (if_pos c57).symm.trans e
            refine ex_pc (if_pos c57) ?_
            refine ex_s (am_nb (m := 1) (pc1 := 123) (ls1 := [(2, .int ((z44.2 157 15) - (a 157 15))), (0, .ref 157), (1, .int (a 157 15))]) (st1 := [.ref 157]) (H1 := H46) (k1 := 0) (n1 := 0) (by with_unfolding_all rfl)) ?_
            refine xe_get (v := .ref 158) s47 rfl rfl (by decide) rfl ?_
            refine ex_s (am_nb (m := 3) (pc1 := 129) (ls1 := [(2, .int ((z44.2 157 15) - (a 157 15))), (0, .ref 157), (1, .int (a 157 15))]) (st1 := [.int ((a 157 15) + 1), .ref 158]) (H1 := H46) (k1 := 0) (n1 := 0) (by with_unfolding_all rfl)) ?_
            obtain ⟨g58, e⟩ := xg_some e
            refine xe_bald s47 rfl rfl g58 ?_
            refine ex_s (am_nb (m := 1) (pc1 := 132) (ls1 := [(2, .int ((z44.2 157 15) - (a 157 15))), (0, .ref 157), (1, .int (a 157 15))]) (st1 := [.int 115, .int (a50 158 (((a 157 15) + 1).toNatClampNeg))]) (H1 := H46) (k1 := 0) (n1 := 0) (by with_unfolding_all rfl)) ?_
            refine ex_s (st_icmp rfl) ?_
            by_cases c60 : (a50 158 (((a 157 15) + 1).toNatClampNeg)) = 115
            · have e := (if_pos c60).symm.trans e
              refine ex_pc (if_pos c60) ?_
              refine ex_s (am_nb (m := 1) (pc1 := 136) (ls1 := [(2, .int ((z44.2 157 15) - (a 157 15))), (0, .ref 157), (1, .int (a 157 15))]) (st1 := [.ref 157]) (H1 := H46) (k1 := 0) (n1 := 0) (by with_unfolding_all rfl)) ?_
              refine xe_get (v := .ref 158) s47 rfl rfl (by decide) rfl ?_
              refine ex_s (am_nb (m := 3) (pc1 := 142) (ls1 := [(2, .int ((z44.2 157 15) - (a 157 15))), (0, .ref 157), (1, .int (a 157 15))]) (st1 := [.int ((a 157 15) + 2), .ref 158]) (H1 := H46) (k1 := 0) (n1 := 0) (by with_unfolding_all rfl)) ?_
              obtain ⟨g61, e⟩ := xg_some e
              refine xe_bald s47 rfl rfl g61 ?_
              refine ex_s (am_nb (m := 1) (pc1 := 145) (ls1 := [(2, .int ((z44.2 157 15) - (a 157 15))), (0, .ref 157), (1, .int (a 157 15))]) (st1 := [.int 101, .int (a50 158 (((a 157 15) + 2).toNatClampNeg))]) (H1 := H46) (k1 := 0) (n1 := 0) (by with_unfolding_all rfl)) ?_
              refine ex_s (st_icmp rfl) ?_
              by_cases c63 : (a50 158 (((a 157 15) + 2).toNatClampNeg)) = 101
              · have e := (if_pos c63).symm.trans e
                refine ex_pc (if_pos c63) ?_
                refine ex_s (am_nb (m := 2) (pc1 := 150) (ls1 := [(2, .int ((z44.2 157 15) - (a 157 15))), (0, .ref 157), (1, .int (a 157 15))]) (st1 := [.ref 157, .ref 157]) (H1 := H46) (k1 := 0) (n1 := 0) (by with_unfolding_all rfl)) ?_
                refine xe_get (v := .int (a50 157 15)) s47 rfl rfl (by decide) rfl ?_
                obtain ⟨r67, a68, e66, e⟩ := xb2_some e
                refine ex_cv1 (as := [.int (a50 157 15)]) (rest := []) rfl rfl rfl rfl (s47.obj rfl (by decide)) rfl (by with_unfolding_all rfl) (by with_unfolding_all rfl) (tf266_here s47 e66) (fun H64 s65 => ?_)
                refine ex_s (am_nb (m := 1) (pc1 := 158) (ls1 := [(2, .int ((z44.2 157 15) - (a 157 15))), (0, .ref 157), (1, .int (a 157 15))]) (st1 := [.int 61, .int r67]) (H1 := H64) (k1 := 0) (n1 := 0) (by with_unfolding_all rfl)) ?_
                refine ex_s (st_icmp rfl) ?_
                by_cases c69 : r67 = 61
                · have e := (if_pos c69).symm.trans e
                  refine ex_pc (if_pos c69) ?_
                  refine ex_s (am_nb (m := 1) (pc1 := 162) (ls1 := [(2, .int ((z44.2 157 15) - (a 157 15))), (0, .ref 157), (1, .int (a 157 15))]) (st1 := [.ref 157]) (H1 := H64) (k1 := 0) (n1 := 0) (by with_unfolding_all rfl)) ?_
                  obtain ⟨r73, a74, e72, e⟩ := xb2_some e
                  refine ex_cv1 (as := []) (rest := []) rfl rfl rfl rfl (s65.obj rfl (by decide)) rfl (by with_unfolding_all rfl) (by with_unfolding_all rfl) (tf277_useOf s65 e72) (fun H70 s71 => ?_)
                  obtain ⟨g75, e⟩ := xg_some e
                  cases e
                  exact ex_r (st_iret rfl rfl (xnar_z g75)) s71
                · have e := (if_neg c69).symm.trans e
                  refine ex_pc (if_neg c69) ?_
                  exact le_E (l1 := [(0, .ref 157), (1, .int (a 157 15)), (2, .int ((z44.2 157 15) - (a 157 15)))]) ⟨rfl, rfl, rfl, trivial⟩ rfl (tj272_166  s65 e)
              · have e := (if_neg c63).symm.trans e
                refine ex_pc (if_neg c63) ?_
                exact le_E (l1 := [(0, .ref 157), (1, .int (a 157 15)), (2, .int ((z44.2 157 15) - (a 157 15)))]) ⟨rfl, rfl, rfl, trivial⟩ rfl (tj272_166  s47 e)
            · have e := (if_neg c60).symm.trans e
              refine ex_pc (if_neg c60) ?_
              exact le_E (l1 := [(0, .ref 157), (1, .int (a 157 15)), (2, .int ((z44.2 157 15) - (a 157 15)))]) ⟨rfl, rfl, rfl, trivial⟩ rfl (tj272_166  s47 e)
          · have e := (if_neg c57).symm.trans e
            refine ex_pc (if_neg c57) ?_
            exact le_E (l1 := [(0, .ref 157), (1, .int (a 157 15)), (2, .int ((z44.2 157 15) - (a 157 15)))]) ⟨rfl, rfl, rfl, trivial⟩ rfl (tj272_166  s47 e)
        · have e := (if_neg c54).symm.trans e
          refine ex_pc (if_neg c54) ?_
          exact le_E (l1 := [(0, .ref 157), (1, .int (a 157 15)), (2, .int ((z44.2 157 15) - (a 157 15)))]) ⟨rfl, rfl, rfl, trivial⟩ rfl (tj272_166  s47 e)
      · have e := (if_neg c52).symm.trans e
        refine ex_pc (if_neg c52) ?_
        refine ex_s (am_nb (m := 3) (pc1 := 102) (ls1 := [(2, .int ((z44.2 157 15) - (a 157 15))), (0, .ref 157), (1, .int (a 157 15))]) (st1 := [.int (a 157 15), .int 2, .ref 157]) (H1 := H46) (k1 := 0) (n1 := 0) (by with_unfolding_all rfl)) ?_
        obtain ⟨r149, a150, e148, e⟩ := xb2_some e
        refine ex_cv1 (as := [.int 2, .int (a 157 15)]) (rest := []) rfl rfl rfl rfl (s47.obj rfl (by decide)) rfl (by with_unfolding_all rfl) (by with_unfolding_all rfl) (tf270_fails s47 e148) (fun H146 s147 => ?_)
        obtain ⟨g151, e⟩ := xg_some e
        cases e
        exact ex_r (st_iret rfl rfl (xnar_z g151)) s147
    · have e := (if_neg c51).symm.trans e
      refine ex_pc (if_neg c51) ?_
      refine ex_s (am_nb (m := 3) (pc1 := 87) (ls1 := [(2, .int ((z44.2 157 15) - (a 157 15))), (0, .ref 157), (1, .int (a 157 15))]) (st1 := [.ref 157, .int 1, .ref 157]) (H1 := H46) (k1 := 0) (n1 := 0) (by with_unfolding_all rfl)) ?_
      refine xe_get (v := .int (a50 157 15)) s47 rfl rfl (by decide) rfl ?_
      obtain ⟨r155, a156, e154, e⟩ := xb2_some e
      refine ex_cv1 (as := [.int 1, .int (a50 157 15)]) (rest := []) rfl rfl rfl rfl (s47.obj rfl (by decide)) rfl (by with_unfolding_all rfl) (by with_unfolding_all rfl) (tf270_fails s47 e154) (fun H152 s153 => ?_)
      obtain ⟨g157, e⟩ := xg_some e
      cases e
      exact ex_r (st_iret rfl rfl (xnar_z g157)) s153

set_option maxRecDepth 100000 in
theorem tj271_49 {sL : Nat} {sx : Nat → Int32} {h b N : Nat} {T : List am_C} {R : Option Value} {F : am_H → Prop} {z : Nat × Int32 × xA} {rc : Int32 → xA → Option (Nat × Int32 × xA)} (k0 : z.1 = 0 → ∀ H2 : am_H, xS h b T z.2.2 H2 → am_E sL sx am_cs 271 70 [(0, .ref 157), (1, .int z.2.1)] [] H2 R F) (ih : ∀ (v1 : Int32) (a : xA) (H : am_H), xS h b T a H → rc v1 a = some z → am_E sL sx am_cs 271 2 [(0, .ref 157), (1, .int v1)] [] H R F) {q1 : Int32} {a : xA} {H : am_H} (hS : xS h b T a H) (e : j271_49 N h b rc q1 a = some z) : am_E sL sx am_cs 271 49 [(0, .ref 157), (1, .int q1)] [] H R F := by
  unfold j271_49 at e
  refine ex_s (am_nb (m := 2) (pc1 := 51) (ls1 := [(0, .ref 157), (1, .int q1)]) (st1 := [.ref 157, .ref 157]) (H1 := H) (k1 := 0) (n1 := 0) (by with_unfolding_all rfl)) ?_
  refine xe_get (v := .int (a 157 15)) hS rfl rfl (by decide) rfl ?_
  refine ex_s (am_nb (m := 2) (pc1 := 56) (ls1 := [(0, .ref 157), (1, .int q1)]) (st1 := [.int ((a 157 15) + 1), .ref 157]) (H1 := H) (k1 := 0) (n1 := 0) (by with_unfolding_all rfl)) ?_
  obtain ⟨a15, ha15, e⟩ := xw_some e
  refine xe_put (w := ((a 157 15) + 1)) hS rfl rfl (by decide) rfl rfl rfl rfl (fun H16 s17 => ?_)
  have s17 : xS h b T a15 H16 := by rw [ha15]; exact s17
  refine ex_s (am_nb (m := 1) (pc1 := 60) (ls1 := [(0, .ref 157), (1, .int q1)]) (st1 := [.int q1]) (H1 := H16) (k1 := 0) (n1 := 0) (by with_unfolding_all rfl)) ?_
  refine ex_s (st_if rfl) ?_
  by_cases c18 : q1 = 0
  · have e := (if_pos c18).symm.trans e
    refine ex_pc (if_pos c18) ?_
    exact le_E (l1 := [(0, .ref 157), (1, .int q1)]) ⟨rfl, rfl, trivial⟩ rfl (ih q1 a15 H16 s17 e)
  · have e := (if_neg c18).symm.trans e
    refine ex_pc (if_neg c18) ?_
    refine ex_s (am_nb (m := 1) (pc1 := 64) (ls1 := [(0, .ref 157), (1, .int q1)]) (st1 := [.ref 157]) (H1 := H16) (k1 := 0) (n1 := 0) (by with_unfolding_all rfl)) ?_
    obtain ⟨a22, e21, e⟩ := xb1_some e
    refine ex_cv0 (as := []) (rest := []) rfl rfl rfl rfl (s17.obj rfl (by decide)) rfl (by with_unfolding_all rfl) (by with_unfolding_all rfl) (tf268_blanks s17 e21) (fun H19 s20 => ?_)
    refine ex_s (am_nb (m := 1) (pc1 := 2) (ls1 := [(0, .ref 157), (1, .int q1)]) (st1 := []) (H1 := H19) (k1 := 0) (n1 := 0) (by with_unfolding_all rfl)) ?_
    exact le_E (l1 := [(0, .ref 157), (1, .int q1)]) ⟨rfl, rfl, trivial⟩ rfl (ih q1 a22 H19 s20 e)

set_option maxRecDepth 100000 in
theorem tl271_2 {sL : Nat} {sx : Nat → Int32} {h b N : Nat} {T : List am_C} {R : Option Value} {F : am_H → Prop} {z : Nat × Int32 × xA} (k0 : z.1 = 0 → ∀ H2 : am_H, xS h b T z.2.2 H2 → am_E sL sx am_cs 271 70 [(0, .ref 157), (1, .int z.2.1)] [] H2 R F) : ∀ (n : Nat) (v1 : Int32) (a : xA) (H : am_H), xS h b T a H → l271_2 N h b n v1 a = some z → am_E sL sx am_cs 271 2 [(0, .ref 157), (1, .int v1)] [] H R F := by
  intro n
  induction n with
  | zero =>
    intro v1 a H hS e
    cases e
  | succ n ih =>
    intro v1 a H hS e
    unfold l271_2 at e
    refine ex_s (am_nb (m := 1) (pc1 := 3) (ls1 := [(0, .ref 157), (1, .int v1)]) (st1 := [.int v1]) (H1 := H) (k1 := 0) (n1 := 0) (by with_unfolding_all rfl)) ?_
    refine ex_s (st_if rfl) ?_
    by_cases c1 : v1 = 0
    · have e := (if_pos c1).symm.trans e
      refine ex_pc (if_pos c1) ?_
      cases e
      exact le_E (l1 := [(0, .ref 157), (1, .int v1)]) ⟨rfl, rfl, trivial⟩ rfl (k0 rfl H hS)
    · have e := (if_neg c1).symm.trans e
      refine ex_pc (if_neg c1) ?_
      refine ex_s (am_nb (m := 2) (pc1 := 8) (ls1 := [(0, .ref 157), (1, .int v1)]) (st1 := [.ref 157, .ref 157]) (H1 := H) (k1 := 0) (n1 := 0) (by with_unfolding_all rfl)) ?_
      refine xe_get (v := .int (a 157 15)) hS rfl rfl (by decide) rfl ?_
      obtain ⟨r5, a6, e4, e⟩ := xb2_some e
      refine ex_cv1 (as := [.int (a 157 15)]) (rest := []) rfl rfl rfl rfl (hS.obj rfl (by decide)) rfl (by with_unfolding_all rfl) (by with_unfolding_all rfl) (tf269_ends hS e4) (fun H2 s3 => ?_)
      refine ex_s (st_if rfl) ?_
      by_cases c7 : r5 = 0
      · have e := (if_pos c7).symm.trans e
        refine ex_pc (if_pos c7) ?_
        refine ex_s (am_nb (m := 1) (pc1 := 18) (ls1 := [(0, .ref 157), (1, .int v1)]) (st1 := [.ref 157]) (H1 := H2) (k1 := 0) (n1 := 0) (by with_unfolding_all rfl)) ?_
        obtain ⟨r11, a12, e10, e⟩ := xb2_some e
        refine ex_cv1 (as := []) (rest := []) rfl rfl rfl rfl (s3.obj rfl (by decide)) rfl (by with_unfolding_all rfl) (by with_unfolding_all rfl) (tf272_field s3 e10) (fun H8 s9 => ?_)
        refine ex_s (am_nb (m := 2) (pc1 := 23) (ls1 := [(1, .int r11), (0, .ref 157)]) (st1 := [.int r11]) (H1 := H8) (k1 := 0) (n1 := 0) (by with_unfolding_all rfl)) ?_
        refine ex_s (st_if rfl) ?_
        by_cases c14 : r11 = 0
        · have e := (if_pos c14).symm.trans e
          refine ex_pc (if_pos c14) ?_
          exact le_E (l1 := [(0, .ref 157), (1, .int r11)]) ⟨rfl, rfl, trivial⟩ rfl (tj271_49 k0 ih  s9 e)
        · have e := (if_neg c14).symm.trans e
          refine ex_pc (if_neg c14) ?_
          refine ex_s (am_nb (m := 2) (pc1 := 28) (ls1 := [(1, .int r11), (0, .ref 157)]) (st1 := [.ref 157, .ref 157]) (H1 := H8) (k1 := 0) (n1 := 0) (by with_unfolding_all rfl)) ?_
          refine xe_get (v := .int (a12 157 15)) s9 rfl rfl (by decide) rfl ?_
          obtain ⟨r26, a27, e25, e⟩ := xb2_some e
          refine ex_cv1 (as := [.int (a12 157 15)]) (rest := []) rfl rfl rfl rfl (s9.obj rfl (by decide)) rfl (by with_unfolding_all rfl) (by with_unfolding_all rfl) (tf266_here s9 e25) (fun H23 s24 => ?_)
          refine ex_s (am_nb (m := 1) (pc1 := 36) (ls1 := [(1, .int r11), (0, .ref 157)]) (st1 := [.int 44, .int r26]) (H1 := H23) (k1 := 0) (n1 := 0) (by with_unfolding_all rfl)) ?_
          refine ex_s (st_icmp rfl) ?_
          by_cases c29 : r26 = 44
          · have e := (if_pos c29).symm.trans e
            refine ex_pc (if_pos c29) ?_
            exact le_E (l1 := [(0, .ref 157), (1, .int r11)]) ⟨rfl, rfl, trivial⟩ rfl (tj271_49 k0 ih  s24 e)
          · have e := (if_neg c29).symm.trans e
            refine ex_pc (if_neg c29) ?_
            refine ex_s (am_nb (m := 3) (pc1 := 42) (ls1 := [(1, .int r11), (0, .ref 157)]) (st1 := [.ref 157, .int 1, .ref 157]) (H1 := H23) (k1 := 0) (n1 := 0) (by with_unfolding_all rfl)) ?_
            refine xe_get (v := .int (a27 157 15)) s24 rfl rfl (by decide) rfl ?_
            obtain ⟨r33, a34, e32, e⟩ := xb2_some e
            refine ex_cv1 (as := [.int 1, .int (a27 157 15)]) (rest := []) rfl rfl rfl rfl (s24.obj rfl (by decide)) rfl (by with_unfolding_all rfl) (by with_unfolding_all rfl) (tf270_fails s24 e32) (fun H30 s31 => ?_)
            refine ex_s (am_nb (m := 1) (pc1 := 49) (ls1 := [(1, .int r33), (0, .ref 157)]) (st1 := []) (H1 := H30) (k1 := 0) (n1 := 0) (by with_unfolding_all rfl)) ?_
            exact le_E (l1 := [(0, .ref 157), (1, .int r33)]) ⟨rfl, rfl, trivial⟩ rfl (tj271_49 k0 ih  s31 e)
      · have e := (if_neg c7).symm.trans e
        refine ex_pc (if_neg c7) ?_
        cases e
        exact le_E (l1 := [(0, .ref 157), (1, .int v1)]) ⟨rfl, rfl, trivial⟩ rfl (k0 rfl H2 s3)

set_option maxRecDepth 100000 in
theorem tj271_70 {sL : Nat} {sx : Nat → Int32} {h b N : Nat} {T : List am_C} {r : Int32} {a' : xA} {q1 : Int32} {a : xA} {H : am_H} (hS : xS h b T a H) (e : j271_70 N h b q1 a = some (r, a')) : am_E sL sx am_cs 271 70 [(0, .ref 157), (1, .int q1)] [] H (some (.int r)) (fun H1 => xS h b T a' H1) := by
  unfold j271_70 at e
  refine ex_s (am_nb (m := 2) (pc1 := 72) (ls1 := [(0, .ref 157), (1, .int q1)]) (st1 := [.ref 157, .ref 157]) (H1 := H) (k1 := 0) (n1 := 0) (by with_unfolding_all rfl)) ?_
  refine xe_get (v := .int (a 157 15)) hS rfl rfl (by decide) rfl ?_
  refine ex_s (am_nb (m := 2) (pc1 := 77) (ls1 := [(0, .ref 157), (1, .int q1)]) (st1 := [.int ((a 157 15) + 1), .ref 157]) (H1 := H) (k1 := 0) (n1 := 0) (by with_unfolding_all rfl)) ?_
  obtain ⟨a37, ha37, e⟩ := xw_some e
  refine xe_put (w := ((a 157 15) + 1)) hS rfl rfl (by decide) rfl rfl rfl rfl (fun H38 s39 => ?_)
  have s39 : xS h b T a37 H38 := by rw [ha37]; exact s39
  refine ex_s (am_nb (m := 1) (pc1 := 81) (ls1 := [(0, .ref 157), (1, .int q1)]) (st1 := [.int q1]) (H1 := H38) (k1 := 0) (n1 := 0) (by with_unfolding_all rfl)) ?_
  obtain ⟨g40, e⟩ := xg_some e
  cases e
  exact ex_r (st_iret rfl rfl (xnar_z g40)) s39

set_option maxRecDepth 100000 in
theorem tf271_fields {sL : Nat} {sx : Nat → Int32} {h b N : Nat} {T : List am_C} {r : Int32} {a' : xA} {a : xA} {H : am_H} (hS : xS h b T a H) (e : f271_fields N h b a = some (r, a')) : am_E sL sx am_cs 271 0 [(0, .ref 157)] [] H (some (.int r)) (fun H1 => xS h b T a' H1) := by
  unfold f271_fields at e
  refine ex_s (am_nb (m := 2) (pc1 := 2) (ls1 := [(1, .int 1), (0, .ref 157)]) (st1 := []) (H1 := H) (k1 := 0) (n1 := 0) (by with_unfolding_all rfl)) ?_
  obtain ⟨z35, e36, e⟩ := Option.bind_eq_some_iff.mp e
  refine le_E (l1 := [(0, .ref 157), (1, .int 1)]) ⟨rfl, rfl, trivial⟩ rfl (tl271_2 (z := z35)  (fun uz35_0 Hz350 sz350 => ?_) N 1 a H hS e36)
  exact le_E (l1 := [(0, .ref 157), (1, .int z35.2.1)]) ⟨rfl, rfl, trivial⟩ rfl (tj271_70  sz350 e)

set_option maxRecDepth 100000 in
theorem tl289_100 {sL : Nat} {sx : Nat → Int32} {h b N : Nat} {T : List am_C} {R : Option Value} {F : am_H → Prop} {w1 : Int32} {w2 : Int32} {w3 : Int32} {w4 : Int32} {z : Nat × xA} (k0 : z.1 = 0 → ∀ H2 : am_H, xS h b T z.2 H2 → am_E sL sx am_cs 289 143 [(0, .ref 157), (1, .int w1), (2, .int w2)] [] H2 R F) : ∀ (n : Nat) (v5 : Int32) (a : xA) (H : am_H), xS h b T a H → l289_100 N h b w1 w2 w3 w4 n v5 a = some z → am_E sL sx am_cs 289 100 [(0, .ref 157), (1, .int w1), (2, .int w2), (3, .int w3), (4, .int w4), (5, .int v5)] [] H R F := by
  intro n
  induction n with
  | zero =>
    intro v5 a H hS e
    cases e
  | succ n ih =>
    intro v5 a H hS e
    unfold l289_100 at e
    refine ex_s (am_nb (m := 2) (pc1 := 103) (ls1 := [(0, .ref 157), (1, .int w1), (2, .int w2), (3, .int w3), (4, .int w4), (5, .int v5)]) (st1 := [.ref 157, .int v5]) (H1 := H) (k1 := 0) (n1 := 0) (by with_unfolding_all rfl)) ?_
    refine xe_get (v := .ref 166) hS rfl rfl (by decide) rfl ?_
    refine ex_s (am_nb (m := 1) (pc1 := 108) (ls1 := [(0, .ref 157), (1, .int w1), (2, .int w2), (3, .int w3), (4, .int w4), (5, .int v5)]) (st1 := [.int w4, .ref 166, .int v5]) (H1 := H) (k1 := 0) (n1 := 0) (by with_unfolding_all rfl)) ?_
    obtain ⟨g17, e⟩ := xg_some e
    refine xe_iald hS rfl rfl g17 ?_
    refine ex_s (st_icmp rfl) ?_
    by_cases c18 : (a 166 (w4.toNatClampNeg)) ≤ v5
    · have e := (if_pos c18).symm.trans e
      refine ex_pc (if_pos c18) ?_
      cases e
      exact le_E (l1 := [(0, .ref 157), (1, .int w1), (2, .int w2)]) ⟨rfl, rfl, rfl, trivial⟩ rfl (k0 rfl H hS)
    · have e := (if_neg c18).symm.trans e
      refine ex_pc (if_neg c18) ?_
      refine ex_s (am_nb (m := 1) (pc1 := 113) (ls1 := [(0, .ref 157), (1, .int w1), (2, .int w2), (3, .int w3), (4, .int w4), (5, .int v5)]) (st1 := [.ref 157]) (H1 := H) (k1 := 0) (n1 := 0) (by with_unfolding_all rfl)) ?_
      refine xe_get (v := .ref 165) hS rfl rfl (by decide) rfl ?_
      refine ex_s (am_nb (m := 6) (pc1 := 124) (ls1 := [(0, .ref 157), (1, .int w1), (2, .int w2), (3, .int w3), (4, .int w4), (5, .int v5)]) (st1 := [.ref 157, .int ((40 * w3) + v5), .ref 165]) (H1 := H) (k1 := 0) (n1 := 0) (by with_unfolding_all rfl)) ?_
      refine xe_get (v := .ref 165) hS rfl rfl (by decide) rfl ?_
      refine ex_s (am_nb (m := 5) (pc1 := 135) (ls1 := [(0, .ref 157), (1, .int w1), (2, .int w2), (3, .int w3), (4, .int w4), (5, .int v5)]) (st1 := [.int ((40 * w4) + v5), .ref 165, .int ((40 * w3) + v5), .ref 165]) (H1 := H) (k1 := 0) (n1 := 0) (by with_unfolding_all rfl)) ?_
      obtain ⟨g19, e⟩ := xg_some e
      refine xe_bald hS rfl rfl g19 ?_
      obtain ⟨g23, e⟩ := xg_some e
      obtain ⟨a20, ha20, e⟩ := xw_some e
      refine xe_bast hS rfl rfl g23 (fun H21 s22 => ?_)
      have s22 : xS h b T a20 H21 := by rw [ha20]; exact s22
      refine ex_s (am_nb (m := 2) (pc1 := 100) (ls1 := [(5, .int (v5 + 1)), (0, .ref 157), (1, .int w1), (2, .int w2), (3, .int w3), (4, .int w4)]) (st1 := []) (H1 := H21) (k1 := 0) (n1 := 0) (by with_unfolding_all rfl)) ?_
      exact le_E (l1 := [(0, .ref 157), (1, .int w1), (2, .int w2), (3, .int w3), (4, .int w4), (5, .int (v5 + 1))]) ⟨rfl, rfl, rfl, rfl, rfl, rfl, trivial⟩ rfl (ih (v5 + 1) a20 H21 s22 e)

set_option maxRecDepth 100000 in
theorem tj289_143 {sL : Nat} {sx : Nat → Int32} {h b N : Nat} {T : List am_C} {R : Option Value} {F : am_H → Prop} {w1 : Int32} {z : Nat × xA} {rc : Int32 → xA → Option (Nat × xA)} (k0 : z.1 = 0 → ∀ H2 : am_H, xS h b T z.2 H2 → am_E sL sx am_cs 289 149 [(0, .ref 157), (1, .int w1)] [] H2 R F) (ih : ∀ (v2 : Int32) (a : xA) (H : am_H), xS h b T a H → rc v2 a = some z → am_E sL sx am_cs 289 12 [(0, .ref 157), (1, .int w1), (2, .int v2)] [] H R F) {q2 : Int32} {a : xA} {H : am_H} (hS : xS h b T a H) (e : j289_143 N h b rc w1 q2 a = some z) : am_E sL sx am_cs 289 143 [(0, .ref 157), (1, .int w1), (2, .int q2)] [] H R F := by
  unfold j289_143 at e
  refine ex_s (am_nb (m := 2) (pc1 := 12) (ls1 := [(2, .int (q2 + 1)), (0, .ref 157), (1, .int w1)]) (st1 := []) (H1 := H) (k1 := 0) (n1 := 0) (by with_unfolding_all rfl)) ?_
  exact le_E (l1 := [(0, .ref 157), (1, .int w1), (2, .int (q2 + 1))]) ⟨rfl, rfl, rfl, trivial⟩ rfl (ih (q2 + 1) a H hS e)

set_option maxRecDepth 100000 in
theorem tl289_12 {sL : Nat} {sx : Nat → Int32} {h b N : Nat} {T : List am_C} {R : Option Value} {F : am_H → Prop} {w1 : Int32} {z : Nat × xA} (k0 : z.1 = 0 → ∀ H2 : am_H, xS h b T z.2 H2 → am_E sL sx am_cs 289 149 [(0, .ref 157), (1, .int w1)] [] H2 R F) : ∀ (n : Nat) (v2 : Int32) (a : xA) (H : am_H), xS h b T a H → l289_12 N h b w1 n v2 a = some z → am_E sL sx am_cs 289 12 [(0, .ref 157), (1, .int w1), (2, .int v2)] [] H R F := by
  intro n
  induction n with
  | zero =>
    intro v2 a H hS e
    cases e
  | succ n ih =>
    intro v2 a H hS e
    unfold l289_12 at e
    refine ex_s (am_nb (m := 2) (pc1 := 15) (ls1 := [(0, .ref 157), (1, .int w1), (2, .int v2)]) (st1 := [.int 39, .int v2]) (H1 := H) (k1 := 0) (n1 := 0) (by with_unfolding_all rfl)) ?_
    refine ex_s (st_icmp rfl) ?_
    by_cases c2 : 39 ≤ v2
    · have e := (if_pos c2).symm.trans e
      refine ex_pc (if_pos c2) ?_
      cases e
      exact le_E (l1 := [(0, .ref 157), (1, .int w1)]) ⟨rfl, rfl, trivial⟩ rfl (k0 rfl H hS)
    · have e := (if_neg c2).symm.trans e
      refine ex_pc (if_neg c2) ?_
      refine ex_s (am_nb (m := 2) (pc1 := 21) (ls1 := [(0, .ref 157), (1, .int w1), (2, .int v2)]) (st1 := [.ref 157, .int 39]) (H1 := H) (k1 := 0) (n1 := 0) (by with_unfolding_all rfl)) ?_
      refine xe_get (v := .int (a 157 17)) hS rfl rfl (by decide) rfl ?_
      refine ex_s (am_nb (m := 6) (pc1 := 31) (ls1 := [(3, .int ((39 * (a 157 17)) + v2)), (0, .ref 157), (1, .int w1), (2, .int v2)]) (st1 := [.ref 157, .int 39]) (H1 := H) (k1 := 0) (n1 := 0) (by with_unfolding_all rfl)) ?_
      refine xe_get (v := .ref 167) hS rfl rfl (by decide) rfl ?_
      refine ex_s (am_nb (m := 1) (pc1 := 35) (ls1 := [(3, .int ((39 * (a 157 17)) + v2)), (0, .ref 157), (1, .int w1), (2, .int v2)]) (st1 := [.int w1, .ref 167, .int 39]) (H1 := H) (k1 := 0) (n1 := 0) (by with_unfolding_all rfl)) ?_
      obtain ⟨g3, e⟩ := xg_some e
      refine xe_iald hS rfl rfl g3 ?_
      refine ex_s (am_nb (m := 5) (pc1 := 42) (ls1 := [(4, .int ((39 * (a 167 (w1.toNatClampNeg))) + v2)), (3, .int ((39 * (a 157 17)) + v2)), (0, .ref 157), (1, .int w1), (2, .int v2)]) (st1 := [.ref 157]) (H1 := H) (k1 := 0) (n1 := 0) (by with_unfolding_all rfl)) ?_
      refine xe_get (v := .ref 163) hS rfl rfl (by decide) rfl ?_
      refine ex_s (am_nb (m := 1) (pc1 := 46) (ls1 := [(4, .int ((39 * (a 167 (w1.toNatClampNeg))) + v2)), (3, .int ((39 * (a 157 17)) + v2)), (0, .ref 157), (1, .int w1), (2, .int v2)]) (st1 := [.int ((39 * (a 157 17)) + v2), .ref 163]) (H1 := H) (k1 := 0) (n1 := 0) (by with_unfolding_all rfl)) ?_
      obtain ⟨g4, e⟩ := xg_some e
      refine xe_bald hS rfl rfl g4 ?_
      refine ex_s (st_if rfl) ?_
      by_cases c5 : (a 163 (((39 * (a 157 17)) + v2).toNatClampNeg)) = 0
      · have e := (if_pos c5).symm.trans e
        refine ex_pc (if_pos c5) ?_
        refine ex_s (am_nb (m := 1) (pc1 := 51) (ls1 := [(4, .int ((39 * (a 167 (w1.toNatClampNeg))) + v2)), (3, .int ((39 * (a 157 17)) + v2)), (0, .ref 157), (1, .int w1), (2, .int v2)]) (st1 := [.ref 157]) (H1 := H) (k1 := 0) (n1 := 0) (by with_unfolding_all rfl)) ?_
        refine xe_get (v := .ref 163) hS rfl rfl (by decide) rfl ?_
        refine ex_s (am_nb (m := 1) (pc1 := 56) (ls1 := [(4, .int ((39 * (a 167 (w1.toNatClampNeg))) + v2)), (3, .int ((39 * (a 157 17)) + v2)), (0, .ref 157), (1, .int w1), (2, .int v2)]) (st1 := [.int ((39 * (a 167 (w1.toNatClampNeg))) + v2), .ref 163]) (H1 := H) (k1 := 0) (n1 := 0) (by with_unfolding_all rfl)) ?_
        obtain ⟨g6, e⟩ := xg_some e
        refine xe_bald hS rfl rfl g6 ?_
        refine ex_s (am_nb (m := 1) (pc1 := 58) (ls1 := [(4, .int ((39 * (a 167 (w1.toNatClampNeg))) + v2)), (3, .int ((39 * (a 157 17)) + v2)), (0, .ref 157), (1, .int w1), (2, .int v2)]) (st1 := [.int 1, .int (a 163 (((39 * (a 167 (w1.toNatClampNeg))) + v2).toNatClampNeg))]) (H1 := H) (k1 := 0) (n1 := 0) (by with_unfolding_all rfl)) ?_
        refine ex_s (st_icmp rfl) ?_
        by_cases c7 : (a 163 (((39 * (a 167 (w1.toNatClampNeg))) + v2).toNatClampNeg)) = 1
        · have e := (if_pos c7).symm.trans e
          refine ex_pc (if_pos c7) ?_
          refine ex_s (am_nb (m := 1) (pc1 := 65) (ls1 := [(4, .int ((39 * (a 167 (w1.toNatClampNeg))) + v2)), (3, .int ((39 * (a 157 17)) + v2)), (0, .ref 157), (1, .int w1), (2, .int v2)]) (st1 := [.ref 157]) (H1 := H) (k1 := 0) (n1 := 0) (by with_unfolding_all rfl)) ?_
          refine xe_get (v := .ref 163) hS rfl rfl (by decide) rfl ?_
          refine ex_s (am_nb (m := 2) (pc1 := 70) (ls1 := [(4, .int ((39 * (a 167 (w1.toNatClampNeg))) + v2)), (3, .int ((39 * (a 157 17)) + v2)), (0, .ref 157), (1, .int w1), (2, .int v2)]) (st1 := [.int 1, .int ((39 * (a 157 17)) + v2), .ref 163]) (H1 := H) (k1 := 0) (n1 := 0) (by with_unfolding_all rfl)) ?_
          obtain ⟨a8, ha8, e⟩ := xw_some e
          refine xe_bast hS rfl rfl g4 (fun H9 s10 => ?_)
          have s10 : xS h b T a8 H9 := by rw [ha8]; exact s10
          refine ex_s (am_nb (m := 1) (pc1 := 72) (ls1 := [(4, .int ((39 * (a 167 (w1.toNatClampNeg))) + v2)), (3, .int ((39 * (a 157 17)) + v2)), (0, .ref 157), (1, .int w1), (2, .int v2)]) (st1 := [.ref 157]) (H1 := H9) (k1 := 0) (n1 := 0) (by with_unfolding_all rfl)) ?_
          refine xe_get (v := .ref 164) s10 rfl rfl (by decide) rfl ?_
          refine ex_s (am_nb (m := 2) (pc1 := 77) (ls1 := [(4, .int ((39 * (a 167 (w1.toNatClampNeg))) + v2)), (3, .int ((39 * (a 157 17)) + v2)), (0, .ref 157), (1, .int w1), (2, .int v2)]) (st1 := [.ref 157, .int ((39 * (a 157 17)) + v2), .ref 164]) (H1 := H9) (k1 := 0) (n1 := 0) (by with_unfolding_all rfl)) ?_
          refine xe_get (v := .ref 164) s10 rfl rfl (by decide) rfl ?_
          refine ex_s (am_nb (m := 1) (pc1 := 82) (ls1 := [(4, .int ((39 * (a 167 (w1.toNatClampNeg))) + v2)), (3, .int ((39 * (a 157 17)) + v2)), (0, .ref 157), (1, .int w1), (2, .int v2)]) (st1 := [.int ((39 * (a 167 (w1.toNatClampNeg))) + v2), .ref 164, .int ((39 * (a 157 17)) + v2), .ref 164]) (H1 := H9) (k1 := 0) (n1 := 0) (by with_unfolding_all rfl)) ?_
          refine xe_iald s10 rfl rfl g6 ?_
          obtain ⟨a11, ha11, e⟩ := xw_some e
          refine xe_iast s10 rfl rfl g4 (fun H12 s13 => ?_)
          have s13 : xS h b T a11 H12 := by rw [ha11]; exact s13
          refine ex_s (am_nb (m := 1) (pc1 := 85) (ls1 := [(4, .int ((39 * (a 167 (w1.toNatClampNeg))) + v2)), (3, .int ((39 * (a 157 17)) + v2)), (0, .ref 157), (1, .int w1), (2, .int v2)]) (st1 := [.ref 157]) (H1 := H12) (k1 := 0) (n1 := 0) (by with_unfolding_all rfl)) ?_
          refine xe_get (v := .ref 166) s13 rfl rfl (by decide) rfl ?_
          refine ex_s (am_nb (m := 2) (pc1 := 90) (ls1 := [(4, .int ((39 * (a 167 (w1.toNatClampNeg))) + v2)), (3, .int ((39 * (a 157 17)) + v2)), (0, .ref 157), (1, .int w1), (2, .int v2)]) (st1 := [.ref 157, .int ((39 * (a 157 17)) + v2), .ref 166]) (H1 := H12) (k1 := 0) (n1 := 0) (by with_unfolding_all rfl)) ?_
          refine xe_get (v := .ref 166) s13 rfl rfl (by decide) rfl ?_
          refine ex_s (am_nb (m := 1) (pc1 := 95) (ls1 := [(4, .int ((39 * (a 167 (w1.toNatClampNeg))) + v2)), (3, .int ((39 * (a 157 17)) + v2)), (0, .ref 157), (1, .int w1), (2, .int v2)]) (st1 := [.int ((39 * (a 167 (w1.toNatClampNeg))) + v2), .ref 166, .int ((39 * (a 157 17)) + v2), .ref 166]) (H1 := H12) (k1 := 0) (n1 := 0) (by with_unfolding_all rfl)) ?_
          refine xe_iald s13 rfl rfl g6 ?_
          obtain ⟨a14, ha14, e⟩ := xw_some e
          refine xe_iast s13 rfl rfl g4 (fun H15 s16 => ?_)
          have s16 : xS h b T a14 H15 := by rw [ha14]; exact s16
          refine ex_s (am_nb (m := 2) (pc1 := 100) (ls1 := [(5, .int 0), (4, .int ((39 * (a 167 (w1.toNatClampNeg))) + v2)), (3, .int ((39 * (a 157 17)) + v2)), (0, .ref 157), (1, .int w1), (2, .int v2)]) (st1 := []) (H1 := H15) (k1 := 0) (n1 := 0) (by with_unfolding_all rfl)) ?_
          obtain ⟨z24, e25, e⟩ := Option.bind_eq_some_iff.mp e
          refine le_E (l1 := [(0, .ref 157), (1, .int w1), (2, .int v2), (3, .int ((39 * (a 157 17)) + v2)), (4, .int ((39 * (a 167 (w1.toNatClampNeg))) + v2)), (5, .int 0)]) ⟨rfl, rfl, rfl, rfl, rfl, rfl, trivial⟩ rfl (tl289_100 (z := z24)  (fun uz24_0 Hz240 sz240 => ?_) N 0 a14 H15 s16 e25)
          exact le_E (l1 := [(0, .ref 157), (1, .int w1), (2, .int v2)]) ⟨rfl, rfl, rfl, trivial⟩ rfl (tj289_143 k0 ih  sz240 e)
        · have e := (if_neg c7).symm.trans e
          refine ex_pc (if_neg c7) ?_
          refine ex_s (am_nb (m := 1) (pc1 := 143) (ls1 := [(4, .int ((39 * (a 167 (w1.toNatClampNeg))) + v2)), (3, .int ((39 * (a 157 17)) + v2)), (0, .ref 157), (1, .int w1), (2, .int v2)]) (st1 := []) (H1 := H) (k1 := 0) (n1 := 0) (by with_unfolding_all rfl)) ?_
          exact le_E (l1 := [(0, .ref 157), (1, .int w1), (2, .int v2)]) ⟨rfl, rfl, rfl, trivial⟩ rfl (tj289_143 k0 ih  hS e)
      · have e := (if_neg c5).symm.trans e
        refine ex_pc (if_neg c5) ?_
        exact le_E (l1 := [(0, .ref 157), (1, .int w1), (2, .int v2)]) ⟨rfl, rfl, rfl, trivial⟩ rfl (tj289_143 k0 ih  hS e)

set_option maxRecDepth 100000 in
theorem tl289_2 {sL : Nat} {sx : Nat → Int32} {h b N : Nat} {T : List am_C} {R : Option Value} {F : am_H → Prop} {z : Nat × xA} (k0 : z.1 = 0 → ∀ H2 : am_H, xS h b T z.2 H2 → am_E sL sx am_cs 289 155 [(0, .ref 157)] [] H2 R F) : ∀ (n : Nat) (v1 : Int32) (a : xA) (H : am_H), xS h b T a H → l289_2 N h b n v1 a = some z → am_E sL sx am_cs 289 2 [(0, .ref 157), (1, .int v1)] [] H R F := by
  intro n
  induction n with
  | zero =>
    intro v1 a H hS e
    cases e
  | succ n ih =>
    intro v1 a H hS e
    unfold l289_2 at e
    refine ex_s (am_nb (m := 2) (pc1 := 4) (ls1 := [(0, .ref 157), (1, .int v1)]) (st1 := [.ref 157, .int v1]) (H1 := H) (k1 := 0) (n1 := 0) (by with_unfolding_all rfl)) ?_
    refine xe_get (v := .int (a 157 19)) hS rfl rfl (by decide) rfl ?_
    refine ex_s (st_icmp rfl) ?_
    by_cases c1 : (a 157 19) ≤ v1
    · have e := (if_pos c1).symm.trans e
      refine ex_pc (if_pos c1) ?_
      cases e
      exact le_E (l1 := [(0, .ref 157)]) ⟨rfl, trivial⟩ rfl (k0 rfl H hS)
    · have e := (if_neg c1).symm.trans e
      refine ex_pc (if_neg c1) ?_
      refine ex_s (am_nb (m := 2) (pc1 := 12) (ls1 := [(2, .int 0), (0, .ref 157), (1, .int v1)]) (st1 := []) (H1 := H) (k1 := 0) (n1 := 0) (by with_unfolding_all rfl)) ?_
      obtain ⟨z26, e27, e⟩ := Option.bind_eq_some_iff.mp e
      refine le_E (l1 := [(0, .ref 157), (1, .int v1), (2, .int 0)]) ⟨rfl, rfl, rfl, trivial⟩ rfl (tl289_12 (z := z26)  (fun uz26_0 Hz260 sz260 => ?_) N 0 a H hS e27)
      refine ex_s (am_nb (m := 2) (pc1 := 2) (ls1 := [(1, .int (v1 + 1)), (0, .ref 157)]) (st1 := []) (H1 := Hz260) (k1 := 0) (n1 := 0) (by with_unfolding_all rfl)) ?_
      exact le_E (l1 := [(0, .ref 157), (1, .int (v1 + 1))]) ⟨rfl, rfl, trivial⟩ rfl (ih (v1 + 1) z26.2 Hz260 sz260 e)

set_option maxRecDepth 100000 in
theorem tf289_used {sL : Nat} {sx : Nat → Int32} {h b N : Nat} {T : List am_C} {a' : xA} {a : xA} {H : am_H} (hS : xS h b T a H) (e : f289_used N h b a = some a') : am_E sL sx am_cs 289 0 [(0, .ref 157)] [] H none (fun H1 => xS h b T a' H1) := by
  unfold f289_used at e
  refine ex_s (am_nb (m := 2) (pc1 := 2) (ls1 := [(1, .int 0), (0, .ref 157)]) (st1 := []) (H1 := H) (k1 := 0) (n1 := 0) (by with_unfolding_all rfl)) ?_
  obtain ⟨z28, e29, e⟩ := Option.bind_eq_some_iff.mp e
  refine le_E (l1 := [(0, .ref 157), (1, .int 0)]) ⟨rfl, rfl, trivial⟩ rfl (tl289_2 (z := z28)  (fun uz28_0 Hz280 sz280 => ?_) N 0 a H hS e29)
  refine ex_s (am_nb (m := 2) (pc1 := 157) (ls1 := [(0, .ref 157)]) (st1 := [.int 0, .ref 157]) (H1 := Hz280) (k1 := 0) (n1 := 0) (by with_unfolding_all rfl)) ?_
  obtain ⟨a30, ha30, e⟩ := xw_some e
  refine xe_put (w := 0) sz280 rfl rfl (by decide) rfl rfl rfl rfl (fun H31 s32 => ?_)
  have s32 : xS h b T a30 H31 := by rw [ha30]; exact s32
  cases e
  exact ex_r (st_vret rfl rfl) s32

set_option maxRecDepth 100000 in
theorem tf291_over {sL : Nat} {sx : Nat → Int32} {h b N : Nat} {T : List am_C} {r : Int32} {a' : xA} {a : xA} {H : am_H} (hS : xS h b T a H) (e : f291_over N h b a = some (r, a')) : am_E sL sx am_cs 291 0 [(0, .ref 157)] [] H (some (.int r)) (fun H1 => xS h b T a' H1) := by
  unfold f291_over at e
  refine ex_s (am_nb (m := 1) (pc1 := 1) (ls1 := [(0, .ref 157)]) (st1 := [.ref 157]) (H1 := H) (k1 := 0) (n1 := 0) (by with_unfolding_all rfl)) ?_
  obtain ⟨a4, e3, e⟩ := xb1_some e
  refine ex_cv0 (as := []) (rest := []) rfl rfl rfl rfl (hS.obj rfl (by decide)) rfl (by with_unfolding_all rfl) (by with_unfolding_all rfl) (tf268_blanks hS e3) (fun H1 s2 => ?_)
  refine ex_s (am_nb (m := 2) (pc1 := 6) (ls1 := [(0, .ref 157)]) (st1 := [.ref 157, .ref 157]) (H1 := H1) (k1 := 0) (n1 := 0) (by with_unfolding_all rfl)) ?_
  refine xe_get (v := .int (a4 157 15)) s2 rfl rfl (by decide) rfl ?_
  obtain ⟨r8, a9, e7, e⟩ := xb2_some e
  refine ex_cv1 (as := [.int (a4 157 15)]) (rest := []) rfl rfl rfl rfl (s2.obj rfl (by decide)) rfl (by with_unfolding_all rfl) (by with_unfolding_all rfl) (tf269_ends s2 e7) (fun H5 s6 => ?_)
  refine ex_s (st_if rfl) ?_
  by_cases c10 : r8 = 0
  · have e := (if_pos c10).symm.trans e
    refine ex_pc (if_pos c10) ?_
    refine ex_s (am_nb (m := 3) (pc1 := 18) (ls1 := [(0, .ref 157)]) (st1 := [.ref 157, .int 1, .ref 157]) (H1 := H5) (k1 := 0) (n1 := 0) (by with_unfolding_all rfl)) ?_
    refine xe_get (v := .int (a9 157 15)) s6 rfl rfl (by decide) rfl ?_
    obtain ⟨r14, a15, e13, e⟩ := xb2_some e
    refine ex_cv1 (as := [.int 1, .int (a9 157 15)]) (rest := []) rfl rfl rfl rfl (s6.obj rfl (by decide)) rfl (by with_unfolding_all rfl) (by with_unfolding_all rfl) (tf270_fails s6 e13) (fun H11 s12 => ?_)
    obtain ⟨g16, e⟩ := xg_some e
    cases e
    exact ex_r (st_iret rfl rfl (xnar_z g16)) s12
  · have e := (if_neg c10).symm.trans e
    refine ex_pc (if_neg c10) ?_
    refine ex_s (am_nb (m := 2) (pc1 := 27) (ls1 := [(0, .ref 157)]) (st1 := [.ref 157, .ref 157]) (H1 := H5) (k1 := 0) (n1 := 0) (by with_unfolding_all rfl)) ?_
    refine xe_get (v := .int (a9 157 15)) s6 rfl rfl (by decide) rfl ?_
    refine ex_s (am_nb (m := 2) (pc1 := 32) (ls1 := [(0, .ref 157)]) (st1 := [.int ((a9 157 15) + 1), .ref 157]) (H1 := H5) (k1 := 0) (n1 := 0) (by with_unfolding_all rfl)) ?_
    obtain ⟨a17, ha17, e⟩ := xw_some e
    refine xe_put (w := ((a9 157 15) + 1)) s6 rfl rfl (by decide) rfl rfl rfl rfl (fun H18 s19 => ?_)
    have s19 : xS h b T a17 H18 := by rw [ha17]; exact s19
    refine ex_s (am_nb (m := 1) (pc1 := 36) (ls1 := [(0, .ref 157)]) (st1 := [.int 1]) (H1 := H18) (k1 := 0) (n1 := 0) (by with_unfolding_all rfl)) ?_
    cases e
    exact ex_r (st_iret rfl rfl rfl) s19

set_option maxRecDepth 100000 in
theorem tl290_71 {sL : Nat} {sx : Nat → Int32} {h b N : Nat} {T : List am_C} {R : Option Value} {F : am_H → Prop} {z : Nat × xA} (k0 : z.1 = 0 → ∀ H2 : am_H, xS h b T z.2 H2 → am_E sL sx am_cs 290 98 [(0, .ref 157)] [] H2 R F) : ∀ (n : Nat) (v1 : Int32) (a : xA) (H : am_H), xS h b T a H → l290_71 N h b n v1 a = some z → am_E sL sx am_cs 290 71 [(0, .ref 157), (1, .int v1)] [] H R F := by
  intro n
  induction n with
  | zero =>
    intro v1 a H hS e
    cases e
  | succ n ih =>
    intro v1 a H hS e
    unfold l290_71 at e
    refine ex_s (am_nb (m := 2) (pc1 := 74) (ls1 := [(0, .ref 157), (1, .int v1)]) (st1 := [.int 39, .int v1]) (H1 := H) (k1 := 0) (n1 := 0) (by with_unfolding_all rfl)) ?_
    refine ex_s (st_icmp rfl) ?_
    by_cases c35 : 39 ≤ v1
    · have e := (if_pos c35).symm.trans e
      refine ex_pc (if_pos c35) ?_
      cases e
      exact le_E (l1 := [(0, .ref 157)]) ⟨rfl, trivial⟩ rfl (k0 rfl H hS)
    · have e := (if_neg c35).symm.trans e
      refine ex_pc (if_neg c35) ?_
      refine ex_s (am_nb (m := 1) (pc1 := 78) (ls1 := [(0, .ref 157), (1, .int v1)]) (st1 := [.ref 157]) (H1 := H) (k1 := 0) (n1 := 0) (by with_unfolding_all rfl)) ?_
      refine xe_get (v := .ref 163) hS rfl rfl (by decide) rfl ?_
      refine ex_s (am_nb (m := 2) (pc1 := 84) (ls1 := [(0, .ref 157), (1, .int v1)]) (st1 := [.ref 157, .int 39, .ref 163]) (H1 := H) (k1 := 0) (n1 := 0) (by with_unfolding_all rfl)) ?_
      refine xe_get (v := .int (a 157 17)) hS rfl rfl (by decide) rfl ?_
      refine ex_s (am_nb (m := 4) (pc1 := 91) (ls1 := [(0, .ref 157), (1, .int v1)]) (st1 := [.int 0, .int ((39 * (a 157 17)) + v1), .ref 163]) (H1 := H) (k1 := 0) (n1 := 0) (by with_unfolding_all rfl)) ?_
      obtain ⟨g39, e⟩ := xg_some e
      obtain ⟨a36, ha36, e⟩ := xw_some e
      refine xe_bast hS rfl rfl g39 (fun H37 s38 => ?_)
      have s38 : xS h b T a36 H37 := by rw [ha36]; exact s38
      refine ex_s (am_nb (m := 2) (pc1 := 71) (ls1 := [(1, .int (v1 + 1)), (0, .ref 157)]) (st1 := []) (H1 := H37) (k1 := 0) (n1 := 0) (by with_unfolding_all rfl)) ?_
      exact le_E (l1 := [(0, .ref 157), (1, .int (v1 + 1))]) ⟨rfl, rfl, trivial⟩ rfl (ih (v1 + 1) a36 H37 s38 e)

set_option maxRecDepth 100000 in
theorem tl290_109 {sL : Nat} {sx : Nat → Int32} {h b N : Nat} {T : List am_C} {R : Option Value} {F : am_H → Prop} {w2 : Int32} {z : Nat × xA} (k0 : z.1 = 0 → ∀ H2 : am_H, xS h b T z.2 H2 → am_E sL sx am_cs 290 136 [(0, .ref 157), (2, .int w2)] [] H2 R F) : ∀ (n : Nat) (a : xA) (H : am_H), xS h b T a H → l290_109 N h b w2 n a = some z → am_E sL sx am_cs 290 109 [(0, .ref 157), (2, .int w2)] [] H R F := by
  intro n
  induction n with
  | zero =>
    intro a H hS e
    cases e
  | succ n ih =>
    intro a H hS e
    unfold l290_109 at e
    refine ex_s (am_nb (m := 2) (pc1 := 111) (ls1 := [(0, .ref 157), (2, .int w2)]) (st1 := [.ref 157, .ref 157]) (H1 := H) (k1 := 0) (n1 := 0) (by with_unfolding_all rfl)) ?_
    refine xe_get (v := .int (a 157 15)) hS rfl rfl (by decide) rfl ?_
    obtain ⟨r46, a47, e45, e⟩ := xb2_some e
    refine ex_cv1 (as := [.int (a 157 15)]) (rest := []) rfl rfl rfl rfl (hS.obj rfl (by decide)) rfl (by with_unfolding_all rfl) (by with_unfolding_all rfl) (tf266_here hS e45) (fun H43 s44 => ?_)
    obtain ⟨r51, a52, e50, e⟩ := xb2_some e
    refine ex_cs1 (as := [.int r46]) (rest := []) rfl (by decide) rfl rfl (by with_unfolding_all rfl) (by with_unfolding_all rfl) (tf278_isOfName s44 e50) (fun H48 s49 => ?_)
    refine ex_s (st_if rfl) ?_
    by_cases c53 : r51 = 0
    · have e := (if_pos c53).symm.trans e
      refine ex_pc (if_pos c53) ?_
      cases e
      exact le_E (l1 := [(0, .ref 157), (2, .int w2)]) ⟨rfl, rfl, trivial⟩ rfl (k0 rfl H48 s49)
    · have e := (if_neg c53).symm.trans e
      refine ex_pc (if_neg c53) ?_
      refine ex_s (am_nb (m := 2) (pc1 := 125) (ls1 := [(0, .ref 157), (2, .int w2)]) (st1 := [.ref 157, .ref 157]) (H1 := H48) (k1 := 0) (n1 := 0) (by with_unfolding_all rfl)) ?_
      refine xe_get (v := .int (a52 157 15)) s49 rfl rfl (by decide) rfl ?_
      refine ex_s (am_nb (m := 2) (pc1 := 130) (ls1 := [(0, .ref 157), (2, .int w2)]) (st1 := [.int ((a52 157 15) + 1), .ref 157]) (H1 := H48) (k1 := 0) (n1 := 0) (by with_unfolding_all rfl)) ?_
      obtain ⟨a54, ha54, e⟩ := xw_some e
      refine xe_put (w := ((a52 157 15) + 1)) s49 rfl rfl (by decide) rfl rfl rfl rfl (fun H55 s56 => ?_)
      have s56 : xS h b T a54 H55 := by rw [ha54]; exact s56
      refine ex_s (am_nb (m := 1) (pc1 := 109) (ls1 := [(0, .ref 157), (2, .int w2)]) (st1 := []) (H1 := H55) (k1 := 0) (n1 := 0) (by with_unfolding_all rfl)) ?_
      exact le_E (l1 := [(0, .ref 157), (2, .int w2)]) ⟨rfl, rfl, trivial⟩ rfl (ih a54 H55 s56 e)

set_option maxRecDepth 100000 in
theorem tl290_264 {sL : Nat} {sx : Nat → Int32} {h b N : Nat} {T : List am_C} {R : Option Value} {F : am_H → Prop} {w2 : Int32} {w3 : Int32} {z : Nat × xA} (k0 : z.1 = 0 → ∀ H2 : am_H, xS h b T z.2 H2 → am_E sL sx am_cs 290 302 [(0, .ref 157)] [] H2 R F) : ∀ (n : Nat) (v4 : Int32) (a : xA) (H : am_H), xS h b T a H → l290_264 N h b w2 w3 n v4 a = some z → am_E sL sx am_cs 290 264 [(0, .ref 157), (2, .int w2), (3, .int w3), (4, .int v4)] [] H R F := by
  intro n
  induction n with
  | zero =>
    intro v4 a H hS e
    cases e
  | succ n ih =>
    intro v4 a H hS e
    unfold l290_264 at e
    refine ex_s (am_nb (m := 2) (pc1 := 267) (ls1 := [(0, .ref 157), (2, .int w2), (3, .int w3), (4, .int v4)]) (st1 := [.ref 157, .int v4]) (H1 := H) (k1 := 0) (n1 := 0) (by with_unfolding_all rfl)) ?_
    refine xe_get (v := .ref 162) hS rfl rfl (by decide) rfl ?_
    refine ex_s (am_nb (m := 1) (pc1 := 271) (ls1 := [(0, .ref 157), (2, .int w2), (3, .int w3), (4, .int v4)]) (st1 := [.int w3, .ref 162, .int v4]) (H1 := H) (k1 := 0) (n1 := 0) (by with_unfolding_all rfl)) ?_
    obtain ⟨g80, e⟩ := xg_some e
    refine xe_iald hS rfl rfl g80 ?_
    refine ex_s (st_icmp rfl) ?_
    by_cases c81 : (a 162 (w3.toNatClampNeg)) ≤ v4
    · have e := (if_pos c81).symm.trans e
      refine ex_pc (if_pos c81) ?_
      cases e
      exact le_E (l1 := [(0, .ref 157)]) ⟨rfl, trivial⟩ rfl (k0 rfl H hS)
    · have e := (if_neg c81).symm.trans e
      refine ex_pc (if_neg c81) ?_
      refine ex_s (am_nb (m := 1) (pc1 := 276) (ls1 := [(0, .ref 157), (2, .int w2), (3, .int w3), (4, .int v4)]) (st1 := [.ref 157]) (H1 := H) (k1 := 0) (n1 := 0) (by with_unfolding_all rfl)) ?_
      refine xe_get (v := .ref 161) hS rfl rfl (by decide) rfl ?_
      refine ex_s (am_nb (m := 6) (pc1 := 287) (ls1 := [(0, .ref 157), (2, .int w2), (3, .int w3), (4, .int v4)]) (st1 := [.ref 157, .int ((12 * w3) + v4), .ref 161]) (H1 := H) (k1 := 0) (n1 := 0) (by with_unfolding_all rfl)) ?_
      refine xe_get (v := .ref 158) hS rfl rfl (by decide) rfl ?_
      refine ex_s (am_nb (m := 3) (pc1 := 294) (ls1 := [(0, .ref 157), (2, .int w2), (3, .int w3), (4, .int v4)]) (st1 := [.int (w2 + v4), .ref 158, .int ((12 * w3) + v4), .ref 161]) (H1 := H) (k1 := 0) (n1 := 0) (by with_unfolding_all rfl)) ?_
      obtain ⟨g82, e⟩ := xg_some e
      refine xe_bald hS rfl rfl g82 ?_
      obtain ⟨g86, e⟩ := xg_some e
      obtain ⟨a83, ha83, e⟩ := xw_some e
      refine xe_bast hS rfl rfl g86 (fun H84 s85 => ?_)
      have s85 : xS h b T a83 H84 := by rw [ha83]; exact s85
      refine ex_s (am_nb (m := 2) (pc1 := 264) (ls1 := [(4, .int (v4 + 1)), (0, .ref 157), (2, .int w2), (3, .int w3)]) (st1 := []) (H1 := H84) (k1 := 0) (n1 := 0) (by with_unfolding_all rfl)) ?_
      exact le_E (l1 := [(0, .ref 157), (2, .int w2), (3, .int w3), (4, .int (v4 + 1))]) ⟨rfl, rfl, rfl, rfl, trivial⟩ rfl (ih (v4 + 1) a83 H84 s85 e)

set_option maxRecDepth 100000 in
theorem tj290_361 {sL : Nat} {sx : Nat → Int32} {h b N : Nat} {T : List am_C} {R : Option Value} {F : am_H → Prop} {z : Nat × Int32 × xA} {rc : Int32 → xA → Option (Nat × Int32 × xA)} (k0 : z.1 = 0 → ∀ H2 : am_H, xS h b T z.2.2 H2 → am_E sL sx am_cs 290 151 [(0, .ref 157)] [] H2 R F) (k1 : z.1 = 1 → ∀ H2 : am_H, xS h b T z.2.2 H2 → am_E sL sx am_cs 290 172 [(0, .ref 157), (2, .int z.2.1)] [] H2 R F) (k2 : z.1 = 2 → ∀ H2 : am_H, xS h b T z.2.2 H2 → am_E sL sx am_cs 290 204 [(0, .ref 157), (2, .int z.2.1)] [] H2 R F) (k3 : z.1 = 3 → ∀ H2 : am_H, xS h b T z.2.2 H2 → am_E sL sx am_cs 290 224 [(0, .ref 157), (2, .int z.2.1)] [] H2 R F) (k4 : z.1 = 4 → ∀ H2 : am_H, xS h b T z.2.2 H2 → am_E sL sx am_cs 290 351 [(0, .ref 157)] [] H2 R F) (k5 : z.1 = 5 → ∀ H2 : am_H, xS h b T z.2.2 H2 → am_E sL sx am_cs 290 374 [(0, .ref 157)] [] H2 R F) (ih : ∀ (v1 : Int32) (a : xA) (H : am_H), xS h b T a H → rc v1 a = some z → am_E sL sx am_cs 290 100 [(0, .ref 157), (1, .int v1)] [] H R F) {q1 : Int32} {a : xA} {H : am_H} (hS : xS h b T a H) (e : j290_361 N h b rc q1 a = some z) : am_E sL sx am_cs 290 361 [(0, .ref 157), (1, .int q1)] [] H R F := by
  unfold j290_361 at e
  refine ex_s (am_nb (m := 2) (pc1 := 363) (ls1 := [(0, .ref 157), (1, .int q1)]) (st1 := [.ref 157, .ref 157]) (H1 := H) (k1 := 0) (n1 := 0) (by with_unfolding_all rfl)) ?_
  refine xe_get (v := .int (a 157 15)) hS rfl rfl (by decide) rfl ?_
  refine ex_s (am_nb (m := 2) (pc1 := 368) (ls1 := [(0, .ref 157), (1, .int q1)]) (st1 := [.int ((a 157 15) + 1), .ref 157]) (H1 := H) (k1 := 0) (n1 := 0) (by with_unfolding_all rfl)) ?_
  obtain ⟨a107, ha107, e⟩ := xw_some e
  refine xe_put (w := ((a 157 15) + 1)) hS rfl rfl (by decide) rfl rfl rfl rfl (fun H108 s109 => ?_)
  have s109 : xS h b T a107 H108 := by rw [ha107]; exact s109
  refine ex_s (am_nb (m := 1) (pc1 := 100) (ls1 := [(0, .ref 157), (1, .int q1)]) (st1 := []) (H1 := H108) (k1 := 0) (n1 := 0) (by with_unfolding_all rfl)) ?_
  exact le_E (l1 := [(0, .ref 157), (1, .int q1)]) ⟨rfl, rfl, trivial⟩ rfl (ih q1 a107 H108 s109 e)

set_option maxRecDepth 100000 in
theorem tl290_100 {sL : Nat} {sx : Nat → Int32} {h b N : Nat} {T : List am_C} {R : Option Value} {F : am_H → Prop} {z : Nat × Int32 × xA} (k0 : z.1 = 0 → ∀ H2 : am_H, xS h b T z.2.2 H2 → am_E sL sx am_cs 290 151 [(0, .ref 157)] [] H2 R F) (k1 : z.1 = 1 → ∀ H2 : am_H, xS h b T z.2.2 H2 → am_E sL sx am_cs 290 172 [(0, .ref 157), (2, .int z.2.1)] [] H2 R F) (k2 : z.1 = 2 → ∀ H2 : am_H, xS h b T z.2.2 H2 → am_E sL sx am_cs 290 204 [(0, .ref 157), (2, .int z.2.1)] [] H2 R F) (k3 : z.1 = 3 → ∀ H2 : am_H, xS h b T z.2.2 H2 → am_E sL sx am_cs 290 224 [(0, .ref 157), (2, .int z.2.1)] [] H2 R F) (k4 : z.1 = 4 → ∀ H2 : am_H, xS h b T z.2.2 H2 → am_E sL sx am_cs 290 351 [(0, .ref 157)] [] H2 R F) (k5 : z.1 = 5 → ∀ H2 : am_H, xS h b T z.2.2 H2 → am_E sL sx am_cs 290 374 [(0, .ref 157)] [] H2 R F) : ∀ (n : Nat) (v1 : Int32) (a : xA) (H : am_H), xS h b T a H → l290_100 N h b n v1 a = some z → am_E sL sx am_cs 290 100 [(0, .ref 157), (1, .int v1)] [] H R F := by
  intro n
  induction n with
  | zero =>
    intro v1 a H hS e
    cases e
  | succ n ih =>
    intro v1 a H hS e
    unfold l290_100 at e
    refine ex_s (am_nb (m := 1) (pc1 := 101) (ls1 := [(0, .ref 157), (1, .int v1)]) (st1 := [.int v1]) (H1 := H) (k1 := 0) (n1 := 0) (by with_unfolding_all rfl)) ?_
    refine ex_s (st_if rfl) ?_
    by_cases c42 : v1 = 0
    · have e := (if_pos c42).symm.trans e
      refine ex_pc (if_pos c42) ?_
      cases e
      exact le_E (l1 := [(0, .ref 157)]) ⟨rfl, trivial⟩ rfl (k5 rfl H hS)
    · have e := (if_neg c42).symm.trans e
      refine ex_pc (if_neg c42) ?_
      refine ex_s (am_nb (m := 1) (pc1 := 105) (ls1 := [(0, .ref 157), (1, .int v1)]) (st1 := [.ref 157]) (H1 := H) (k1 := 0) (n1 := 0) (by with_unfolding_all rfl)) ?_
      refine xe_get (v := .int (a 157 15)) hS rfl rfl (by decide) rfl ?_
      refine ex_s (am_nb (m := 1) (pc1 := 109) (ls1 := [(2, .int (a 157 15)), (0, .ref 157), (1, .int v1)]) (st1 := []) (H1 := H) (k1 := 0) (n1 := 0) (by with_unfolding_all rfl)) ?_
      obtain ⟨z57, e58, e⟩ := Option.bind_eq_some_iff.mp e
      refine le_E (l1 := [(0, .ref 157), (2, .int (a 157 15))]) ⟨rfl, rfl, trivial⟩ rfl (tl290_109 (z := z57)  (fun uz57_0 Hz570 sz570 => ?_) N a H hS e58)
      refine ex_s (am_nb (m := 1) (pc1 := 137) (ls1 := [(0, .ref 157), (2, .int (a 157 15))]) (st1 := [.ref 157]) (H1 := Hz570) (k1 := 0) (n1 := 0) (by with_unfolding_all rfl)) ?_
      refine xe_get (v := .int (z57.2 157 15)) sz570 rfl rfl (by decide) rfl ?_
      refine ex_s (am_nb (m := 1) (pc1 := 141) (ls1 := [(0, .ref 157), (2, .int (a 157 15))]) (st1 := [.int (a 157 15), .int (z57.2 157 15)]) (H1 := Hz570) (k1 := 0) (n1 := 0) (by with_unfolding_all rfl)) ?_
      refine ex_s (st_icmp rfl) ?_
      by_cases c60 : (z57.2 157 15) = (a 157 15)
      · have e := (if_pos c60).symm.trans e
        refine ex_pc (if_pos c60) ?_
        cases e
        exact le_E (l1 := [(0, .ref 157)]) ⟨rfl, trivial⟩ rfl (k0 rfl Hz570 sz570)
      · have e := (if_neg c60).symm.trans e
        refine ex_pc (if_neg c60) ?_
        refine ex_s (am_nb (m := 1) (pc1 := 145) (ls1 := [(0, .ref 157), (2, .int (a 157 15))]) (st1 := [.ref 157]) (H1 := Hz570) (k1 := 0) (n1 := 0) (by with_unfolding_all rfl)) ?_
        obtain ⟨r64, a65, e63, e⟩ := xb2_some e
        refine ex_cv1 (as := []) (rest := []) rfl rfl rfl rfl (sz570.obj rfl (by decide)) rfl (by with_unfolding_all rfl) (by with_unfolding_all rfl) (tf275_isNone sz570 e63) (fun H61 s62 => ?_)
        refine ex_s (st_if rfl) ?_
        by_cases c66 : r64 = 0
        · have e := (if_pos c66).symm.trans e
          refine ex_pc (if_pos c66) ?_
          refine ex_s (am_nb (m := 1) (pc1 := 162) (ls1 := [(0, .ref 157), (2, .int (a 157 15))]) (st1 := [.ref 157]) (H1 := H61) (k1 := 0) (n1 := 0) (by with_unfolding_all rfl)) ?_
          refine xe_get (v := .int (a65 157 15)) s62 rfl rfl (by decide) rfl ?_
          refine ex_s (am_nb (m := 3) (pc1 := 169) (ls1 := [(0, .ref 157), (2, .int (a 157 15))]) (st1 := [.int 12, .int ((a65 157 15) - (a 157 15))]) (H1 := H61) (k1 := 0) (n1 := 0) (by with_unfolding_all rfl)) ?_
          refine ex_s (st_icmp rfl) ?_
          by_cases c67 : ((a65 157 15) - (a 157 15)) ≤ 12
          · have e := (if_pos c67).symm.trans e
            refine ex_pc (if_pos c67) ?_
            refine ex_s (am_nb (m := 2) (pc1 := 181) (ls1 := [(0, .ref 157), (2, .int (a 157 15))]) (st1 := [.ref 157, .ref 157]) (H1 := H61) (k1 := 0) (n1 := 0) (by with_unfolding_all rfl)) ?_
            refine xe_get (v := .ref 158) s62 rfl rfl (by decide) rfl ?_
            refine ex_s (am_nb (m := 2) (pc1 := 186) (ls1 := [(0, .ref 157), (2, .int (a 157 15))]) (st1 := [.ref 157, .int (a 157 15), .ref 158, .ref 157]) (H1 := H61) (k1 := 0) (n1 := 0) (by with_unfolding_all rfl)) ?_
            refine xe_get (v := .int (a65 157 15)) s62 rfl rfl (by decide) rfl ?_
            refine ex_s (am_nb (m := 3) (pc1 := 192) (ls1 := [(0, .ref 157), (2, .int (a 157 15))]) (st1 := [.ref 157, .int ((a65 157 15) - (a 157 15)), .int (a 157 15), .ref 158, .ref 157]) (H1 := H61) (k1 := 0) (n1 := 0) (by with_unfolding_all rfl)) ?_
            refine xe_get (v := .int (a65 157 17)) s62 rfl rfl (by decide) rfl ?_
            refine ex_s (am_nb (m := 2) (pc1 := 197) (ls1 := [(0, .ref 157), (2, .int (a 157 15))]) (st1 := [.int ((a65 157 17) + 1), .int ((a65 157 15) - (a 157 15)), .int (a 157 15), .ref 158, .ref 157]) (H1 := H61) (k1 := 0) (n1 := 0) (by with_unfolding_all rfl)) ?_
            obtain ⟨r71, a72, e70, e⟩ := xb2_some e
            refine ex_cv1 (as := [.ref 158, .int (a 157 15), .int ((a65 157 15) - (a 157 15)), .int ((a65 157 17) + 1)]) (rest := []) rfl rfl rfl rfl (s62.obj rfl (by decide)) rfl (by with_unfolding_all rfl) (by with_unfolding_all rfl) (tf279_entryOf s62 e70) (fun H68 s69 => ?_)
            refine ex_s (am_nb (m := 1) (pc1 := 201) (ls1 := [(0, .ref 157), (2, .int (a 157 15))]) (st1 := [.int (-1), .int r71]) (H1 := H68) (k1 := 0) (n1 := 0) (by with_unfolding_all rfl)) ?_
            refine ex_s (st_icmp rfl) ?_
            by_cases c73 : r71 = (-1)
            · have e := (if_pos c73).symm.trans e
              refine ex_pc (if_pos c73) ?_
              refine ex_s (am_nb (m := 1) (pc1 := 212) (ls1 := [(0, .ref 157), (2, .int (a 157 15))]) (st1 := [.ref 157]) (H1 := H68) (k1 := 0) (n1 := 0) (by with_unfolding_all rfl)) ?_
              refine xe_get (v := .ref 160) s69 rfl rfl (by decide) rfl ?_
              refine ex_s (am_nb (m := 1) (pc1 := 216) (ls1 := [(0, .ref 157), (2, .int (a 157 15))]) (st1 := [.ref 157, .ref 160]) (H1 := H68) (k1 := 0) (n1 := 0) (by with_unfolding_all rfl)) ?_
              refine xe_get (v := .int (a72 157 17)) s69 rfl rfl (by decide) rfl ?_
              obtain ⟨g74, e⟩ := xg_some e
              refine xe_iald s69 rfl rfl g74 ?_
              refine ex_s (am_nb (m := 1) (pc1 := 221) (ls1 := [(0, .ref 157), (2, .int (a 157 15))]) (st1 := [.int 4, .int (a72 160 ((a72 157 17).toNatClampNeg))]) (H1 := H68) (k1 := 0) (n1 := 0) (by with_unfolding_all rfl)) ?_
              refine ex_s (st_icmp rfl) ?_
              by_cases c75 : (a72 160 ((a72 157 17).toNatClampNeg)) = 4
              · have e := (if_pos c75).symm.trans e
                refine ex_pc (if_pos c75) ?_
                cases e
                exact le_E (l1 := [(0, .ref 157), (2, .int (a 157 15))]) ⟨rfl, rfl, trivial⟩ rfl (k3 rfl H68 s69)
              · have e := (if_neg c75).symm.trans e
                refine ex_pc (if_neg c75) ?_
                refine ex_s (am_nb (m := 2) (pc1 := 234) (ls1 := [(0, .ref 157), (2, .int (a 157 15))]) (st1 := [.ref 157, .int 4]) (H1 := H68) (k1 := 0) (n1 := 0) (by with_unfolding_all rfl)) ?_
                refine xe_get (v := .int (a72 157 17)) s69 rfl rfl (by decide) rfl ?_
                refine ex_s (am_nb (m := 2) (pc1 := 239) (ls1 := [(0, .ref 157), (2, .int (a 157 15))]) (st1 := [.ref 157, .int (4 * (a72 157 17))]) (H1 := H68) (k1 := 0) (n1 := 0) (by with_unfolding_all rfl)) ?_
                refine xe_get (v := .ref 160) s69 rfl rfl (by decide) rfl ?_
                refine ex_s (am_nb (m := 1) (pc1 := 243) (ls1 := [(0, .ref 157), (2, .int (a 157 15))]) (st1 := [.ref 157, .ref 160, .int (4 * (a72 157 17))]) (H1 := H68) (k1 := 0) (n1 := 0) (by with_unfolding_all rfl)) ?_
                refine xe_get (v := .int (a72 157 17)) s69 rfl rfl (by decide) rfl ?_
                refine xe_iald s69 rfl rfl g74 ?_
                refine ex_s (am_nb (m := 3) (pc1 := 250) (ls1 := [(3, .int ((4 * (a72 157 17)) + (a72 160 ((a72 157 17).toNatClampNeg)))), (0, .ref 157), (2, .int (a 157 15))]) (st1 := [.ref 157]) (H1 := H68) (k1 := 0) (n1 := 0) (by with_unfolding_all rfl)) ?_
                refine xe_get (v := .ref 162) s69 rfl rfl (by decide) rfl ?_
                refine ex_s (am_nb (m := 2) (pc1 := 255) (ls1 := [(3, .int ((4 * (a72 157 17)) + (a72 160 ((a72 157 17).toNatClampNeg)))), (0, .ref 157), (2, .int (a 157 15))]) (st1 := [.ref 157, .int ((4 * (a72 157 17)) + (a72 160 ((a72 157 17).toNatClampNeg))), .ref 162]) (H1 := H68) (k1 := 0) (n1 := 0) (by with_unfolding_all rfl)) ?_
                refine xe_get (v := .int (a72 157 15)) s69 rfl rfl (by decide) rfl ?_
                refine ex_s (am_nb (m := 2) (pc1 := 260) (ls1 := [(3, .int ((4 * (a72 157 17)) + (a72 160 ((a72 157 17).toNatClampNeg)))), (0, .ref 157), (2, .int (a 157 15))]) (st1 := [.int ((a72 157 15) - (a 157 15)), .int ((4 * (a72 157 17)) + (a72 160 ((a72 157 17).toNatClampNeg))), .ref 162]) (H1 := H68) (k1 := 0) (n1 := 0) (by with_unfolding_all rfl)) ?_
                obtain ⟨g79, e⟩ := xg_some e
                obtain ⟨a76, ha76, e⟩ := xw_some e
                refine xe_iast s69 rfl rfl g79 (fun H77 s78 => ?_)
                have s78 : xS h b T a76 H77 := by rw [ha76]; exact s78
                refine ex_s (am_nb (m := 2) (pc1 := 264) (ls1 := [(4, .int 0), (3, .int ((4 * (a72 157 17)) + (a72 160 ((a72 157 17).toNatClampNeg)))), (0, .ref 157), (2, .int (a 157 15))]) (st1 := []) (H1 := H77) (k1 := 0) (n1 := 0) (by with_unfolding_all rfl)) ?_
                obtain ⟨z87, e88, e⟩ := Option.bind_eq_some_iff.mp e
                refine le_E (l1 := [(0, .ref 157), (2, .int (a 157 15)), (3, .int ((4 * (a72 157 17)) + (a72 160 ((a72 157 17).toNatClampNeg)))), (4, .int 0)]) ⟨rfl, rfl, rfl, rfl, trivial⟩ rfl (tl290_264 (z := z87)  (fun uz87_0 Hz870 sz870 => ?_) N 0 a76 H77 s78 e88)
                refine ex_s (am_nb (m := 1) (pc1 := 303) (ls1 := [(0, .ref 157)]) (st1 := [.ref 157]) (H1 := Hz870) (k1 := 0) (n1 := 0) (by with_unfolding_all rfl)) ?_
                refine xe_get (v := .ref 160) sz870 rfl rfl (by decide) rfl ?_
                refine ex_s (am_nb (m := 1) (pc1 := 307) (ls1 := [(0, .ref 157)]) (st1 := [.ref 157, .ref 160]) (H1 := Hz870) (k1 := 0) (n1 := 0) (by with_unfolding_all rfl)) ?_
                refine xe_get (v := .int (z87.2 157 17)) sz870 rfl rfl (by decide) rfl ?_
                refine ex_s (am_nb (m := 1) (pc1 := 311) (ls1 := [(0, .ref 157)]) (st1 := [.int (z87.2 157 17), .ref 160, .int (z87.2 157 17), .ref 160]) (H1 := Hz870) (k1 := 0) (n1 := 0) (by with_unfolding_all rfl)) ?_
                obtain ⟨g89, e⟩ := xg_some e
                refine xe_iald sz870 rfl rfl g89 ?_
                refine ex_s (am_nb (m := 2) (pc1 := 314) (ls1 := [(0, .ref 157)]) (st1 := [.int ((z87.2 160 ((z87.2 157 17).toNatClampNeg)) + 1), .int (z87.2 157 17), .ref 160]) (H1 := Hz870) (k1 := 0) (n1 := 0) (by with_unfolding_all rfl)) ?_
                obtain ⟨a90, ha90, e⟩ := xw_some e
                refine xe_iast sz870 rfl rfl g89 (fun H91 s92 => ?_)
                have s92 : xS h b T a90 H91 := by rw [ha90]; exact s92
                refine ex_s (am_nb (m := 2) (pc1 := 317) (ls1 := [(0, .ref 157)]) (st1 := [.ref 157, .ref 157]) (H1 := H91) (k1 := 0) (n1 := 0) (by with_unfolding_all rfl)) ?_
                refine xe_get (v := .int (a90 157 15)) s92 rfl rfl (by decide) rfl ?_
                obtain ⟨r96, a97, e95, e⟩ := xb2_some e
                refine ex_cv1 (as := [.int (a90 157 15)]) (rest := []) rfl rfl rfl rfl (s92.obj rfl (by decide)) rfl (by with_unfolding_all rfl) (by with_unfolding_all rfl) (tf266_here s92 e95) (fun H93 s94 => ?_)
                refine ex_s (am_nb (m := 1) (pc1 := 325) (ls1 := [(0, .ref 157)]) (st1 := [.int 124, .int r96]) (H1 := H93) (k1 := 0) (n1 := 0) (by with_unfolding_all rfl)) ?_
                have kk : am_E sL sx am_cs 290 333 [(0, .ref 157)] [.int (if r96 = 124 then (1 : Int32) else (0 : Int32))] H93 R F := by
                  refine ex_s (am_nb (m := 2) (pc1 := 335) (ls1 := [(1, .int (if r96 = 124 then (1 : Int32) else (0 : Int32))), (0, .ref 157)]) (st1 := [.int (if r96 = 124 then (1 : Int32) else (0 : Int32))]) (H1 := H93) (k1 := 0) (n1 := 0) (by with_unfolding_all rfl)) ?_
                  refine ex_s (st_if rfl) ?_
                  by_cases c100 : (if r96 = 124 then (1 : Int32) else (0 : Int32)) = 0
                  · have e := (if_pos c100).symm.trans e
                    refine ex_pc (if_pos c100) ?_
                    refine ex_s (am_nb (m := 2) (pc1 := 340) (ls1 := [(1, .int (if r96 = 124 then (1 : Int32) else (0 : Int32))), (0, .ref 157)]) (st1 := [.ref 157, .ref 157]) (H1 := H93) (k1 := 0) (n1 := 0) (by with_unfolding_all rfl)) ?_
                    refine xe_get (v := .int (a97 157 15)) s94 rfl rfl (by decide) rfl ?_
                    obtain ⟨r104, a105, e103, e⟩ := xb2_some e
                    refine ex_cv1 (as := [.int (a97 157 15)]) (rest := []) rfl rfl rfl rfl (s94.obj rfl (by decide)) rfl (by with_unfolding_all rfl) (by with_unfolding_all rfl) (tf266_here s94 e103) (fun H101 s102 => ?_)
                    refine ex_s (am_nb (m := 1) (pc1 := 348) (ls1 := [(1, .int (if r96 = 124 then (1 : Int32) else (0 : Int32))), (0, .ref 157)]) (st1 := [.int 44, .int r104]) (H1 := H101) (k1 := 0) (n1 := 0) (by with_unfolding_all rfl)) ?_
                    refine ex_s (st_icmp rfl) ?_
                    by_cases c106 : r104 = 44
                    · have e := (if_pos c106).symm.trans e
                      refine ex_pc (if_pos c106) ?_
                      exact le_E (l1 := [(0, .ref 157), (1, .int (if r96 = 124 then (1 : Int32) else (0 : Int32)))]) ⟨rfl, rfl, trivial⟩ rfl (tj290_361 k0 k1 k2 k3 k4 k5 ih  s102 e)
                    · have e := (if_neg c106).symm.trans e
                      refine ex_pc (if_neg c106) ?_
                      cases e
                      exact le_E (l1 := [(0, .ref 157)]) ⟨rfl, trivial⟩ rfl (k4 rfl H101 s102)
                  · have e := (if_neg c100).symm.trans e
                    refine ex_pc (if_neg c100) ?_
                    exact le_E (l1 := [(0, .ref 157), (1, .int (if r96 = 124 then (1 : Int32) else (0 : Int32)))]) ⟨rfl, rfl, trivial⟩ rfl (tj290_361 k0 k1 k2 k3 k4 k5 ih  s94 e)
                refine ex_s (st_icmp rfl) ?_
                by_cases c98 : r96 = 124
                · refine ex_pc (if_pos c98) ?_
                  refine ex_s (am_nb (m := 2) (pc1 := 333) (ls1 := [(0, .ref 157)]) (st1 := [.int 1]) (H1 := H93) (k1 := 0) (n1 := 0) (by with_unfolding_all rfl)) ?_
                  rw [if_pos c98] at kk
                  exact kk
                · refine ex_pc (if_neg c98) ?_
                  refine ex_s (am_nb (m := 1) (pc1 := 333) (ls1 := [(0, .ref 157)]) (st1 := [.int 0]) (H1 := H93) (k1 := 0) (n1 := 0) (by with_unfolding_all rfl)) ?_
                  rw [if_neg c98] at kk
                  exact kk
            · have e := (if_neg c73).symm.trans e
              refine ex_pc (if_neg c73) ?_
              cases e
              exact le_E (l1 := [(0, .ref 157), (2, .int (a 157 15))]) ⟨rfl, rfl, trivial⟩ rfl (k2 rfl H68 s69)
          · have e := (if_neg c67).symm.trans e
            refine ex_pc (if_neg c67) ?_
            cases e
            exact le_E (l1 := [(0, .ref 157), (2, .int (a 157 15))]) ⟨rfl, rfl, trivial⟩ rfl (k1 rfl H61 s62)
        · have e := (if_neg c66).symm.trans e
          refine ex_pc (if_neg c66) ?_
          cases e
          exact le_E (l1 := [(0, .ref 157)]) ⟨rfl, trivial⟩ rfl (k0 rfl H61 s62)

set_option maxRecDepth 100000 in
theorem tj290_151 {sL : Nat} {sx : Nat → Int32} {h b N : Nat} {T : List am_C} {r : Int32} {a' : xA} {a : xA} {H : am_H} (hS : xS h b T a H) (e : j290_151 N h b a = some (r, a')) : am_E sL sx am_cs 290 151 [(0, .ref 157)] [] H (some (.int r)) (fun H1 => xS h b T a' H1) := by
  unfold j290_151 at e
  refine ex_s (am_nb (m := 3) (pc1 := 154) (ls1 := [(0, .ref 157)]) (st1 := [.ref 157, .int 1, .ref 157]) (H1 := H) (k1 := 0) (n1 := 0) (by with_unfolding_all rfl)) ?_
  refine xe_get (v := .int (a 157 15)) hS rfl rfl (by decide) rfl ?_
  obtain ⟨r115, a116, e114, e⟩ := xb2_some e
  refine ex_cv1 (as := [.int 1, .int (a 157 15)]) (rest := []) rfl rfl rfl rfl (hS.obj rfl (by decide)) rfl (by with_unfolding_all rfl) (by with_unfolding_all rfl) (tf270_fails hS e114) (fun H112 s113 => ?_)
  obtain ⟨g117, e⟩ := xg_some e
  cases e
  exact ex_r (st_iret rfl rfl (xnar_z g117)) s113

set_option maxRecDepth 100000 in
theorem tf290_beginning {sL : Nat} {sx : Nat → Int32} {h b N : Nat} {T : List am_C} {r : Int32} {a' : xA} {a : xA} {H : am_H} (hS : xS h b T a H) (e : f290_beginning N h b a = some (r, a')) : am_E sL sx am_cs 290 0 [(0, .ref 157)] [] H (some (.int r)) (fun H1 => xS h b T a' H1) := by
  unfold f290_beginning at e
  refine ex_s (am_nb (m := 2) (pc1 := 2) (ls1 := [(0, .ref 157)]) (st1 := [.ref 157, .ref 157]) (H1 := H) (k1 := 0) (n1 := 0) (by with_unfolding_all rfl)) ?_
  refine xe_get (v := .int (a 157 15)) hS rfl rfl (by decide) rfl ?_
  obtain ⟨r4, a5, e3, e⟩ := xb2_some e
  refine ex_cv1 (as := [.int (a 157 15)]) (rest := []) rfl rfl rfl rfl (hS.obj rfl (by decide)) rfl (by with_unfolding_all rfl) (by with_unfolding_all rfl) (tf266_here hS e3) (fun H1 s2 => ?_)
  obtain ⟨r9, a10, e8, e⟩ := xb2_some e
  refine ex_cs1 (as := [.int r4]) (rest := []) rfl (by decide) rfl rfl (by with_unfolding_all rfl) (by with_unfolding_all rfl) (tf278_isOfName s2 e8) (fun H6 s7 => ?_)
  refine ex_s (st_if rfl) ?_
  by_cases c11 : r9 = 0
  · have e := (if_pos c11).symm.trans e
    refine ex_pc (if_pos c11) ?_
    refine ex_s (am_nb (m := 3) (pc1 := 17) (ls1 := [(0, .ref 157)]) (st1 := [.ref 157, .int 1, .ref 157]) (H1 := H6) (k1 := 0) (n1 := 0) (by with_unfolding_all rfl)) ?_
    refine xe_get (v := .int (a10 157 15)) s7 rfl rfl (by decide) rfl ?_
    obtain ⟨r15, a16, e14, e⟩ := xb2_some e
    refine ex_cv1 (as := [.int 1, .int (a10 157 15)]) (rest := []) rfl rfl rfl rfl (s7.obj rfl (by decide)) rfl (by with_unfolding_all rfl) (by with_unfolding_all rfl) (tf270_fails s7 e14) (fun H12 s13 => ?_)
    obtain ⟨g17, e⟩ := xg_some e
    cases e
    exact ex_r (st_iret rfl rfl (xnar_z g17)) s13
  · have e := (if_neg c11).symm.trans e
    refine ex_pc (if_neg c11) ?_
    refine ex_s (am_nb (m := 1) (pc1 := 25) (ls1 := [(0, .ref 157)]) (st1 := [.ref 157]) (H1 := H6) (k1 := 0) (n1 := 0) (by with_unfolding_all rfl)) ?_
    refine xe_get (v := .int (a10 157 17)) s7 rfl rfl (by decide) rfl ?_
    refine ex_s (am_nb (m := 1) (pc1 := 30) (ls1 := [(0, .ref 157)]) (st1 := [.int 11, .int (a10 157 17)]) (H1 := H6) (k1 := 0) (n1 := 0) (by with_unfolding_all rfl)) ?_
    refine ex_s (st_icmp rfl) ?_
    by_cases c18 : (a10 157 17) = 11
    · have e := (if_pos c18).symm.trans e
      refine ex_pc (if_pos c18) ?_
      refine ex_s (am_nb (m := 3) (pc1 := 37) (ls1 := [(0, .ref 157)]) (st1 := [.ref 157, .int 7, .ref 157]) (H1 := H6) (k1 := 0) (n1 := 0) (by with_unfolding_all rfl)) ?_
      refine xe_get (v := .int (a10 157 15)) s7 rfl rfl (by decide) rfl ?_
      obtain ⟨r22, a23, e21, e⟩ := xb2_some e
      refine ex_cv1 (as := [.int 7, .int (a10 157 15)]) (rest := []) rfl rfl rfl rfl (s7.obj rfl (by decide)) rfl (by with_unfolding_all rfl) (by with_unfolding_all rfl) (tf270_fails s7 e21) (fun H19 s20 => ?_)
      obtain ⟨g24, e⟩ := xg_some e
      cases e
      exact ex_r (st_iret rfl rfl (xnar_z g24)) s20
    · have e := (if_neg c18).symm.trans e
      refine ex_pc (if_neg c18) ?_
      refine ex_s (am_nb (m := 2) (pc1 := 46) (ls1 := [(0, .ref 157)]) (st1 := [.ref 157, .ref 157]) (H1 := H6) (k1 := 0) (n1 := 0) (by with_unfolding_all rfl)) ?_
      refine xe_get (v := .int (a10 157 17)) s7 rfl rfl (by decide) rfl ?_
      refine ex_s (am_nb (m := 2) (pc1 := 51) (ls1 := [(0, .ref 157)]) (st1 := [.int ((a10 157 17) + 1), .ref 157]) (H1 := H6) (k1 := 0) (n1 := 0) (by with_unfolding_all rfl)) ?_
      obtain ⟨a25, ha25, e⟩ := xw_some e
      refine xe_put (w := ((a10 157 17) + 1)) s7 rfl rfl (by decide) rfl rfl rfl rfl (fun H26 s27 => ?_)
      have s27 : xS h b T a25 H26 := by rw [ha25]; exact s27
      refine ex_s (am_nb (m := 1) (pc1 := 55) (ls1 := [(0, .ref 157)]) (st1 := [.ref 157]) (H1 := H26) (k1 := 0) (n1 := 0) (by with_unfolding_all rfl)) ?_
      refine xe_get (v := .ref 160) s27 rfl rfl (by decide) rfl ?_
      refine ex_s (am_nb (m := 1) (pc1 := 59) (ls1 := [(0, .ref 157)]) (st1 := [.ref 157, .ref 160]) (H1 := H26) (k1 := 0) (n1 := 0) (by with_unfolding_all rfl)) ?_
      refine xe_get (v := .int (a25 157 17)) s27 rfl rfl (by decide) rfl ?_
      refine ex_s (am_nb (m := 1) (pc1 := 63) (ls1 := [(0, .ref 157)]) (st1 := [.int 0, .int (a25 157 17), .ref 160]) (H1 := H26) (k1 := 0) (n1 := 0) (by with_unfolding_all rfl)) ?_
      obtain ⟨g31, e⟩ := xg_some e
      obtain ⟨a28, ha28, e⟩ := xw_some e
      refine xe_iast s27 rfl rfl g31 (fun H29 s30 => ?_)
      have s30 : xS h b T a28 H29 := by rw [ha28]; exact s30
      refine ex_s (am_nb (m := 2) (pc1 := 66) (ls1 := [(0, .ref 157)]) (st1 := [.int 0, .ref 157]) (H1 := H29) (k1 := 0) (n1 := 0) (by with_unfolding_all rfl)) ?_
      obtain ⟨a32, ha32, e⟩ := xw_some e
      refine xe_put (w := 0) s30 rfl rfl (by decide) rfl rfl rfl rfl (fun H33 s34 => ?_)
      have s34 : xS h b T a32 H33 := by rw [ha32]; exact s34
      refine ex_s (am_nb (m := 2) (pc1 := 71) (ls1 := [(1, .int 0), (0, .ref 157)]) (st1 := []) (H1 := H33) (k1 := 0) (n1 := 0) (by with_unfolding_all rfl)) ?_
      obtain ⟨z40, e41, e⟩ := Option.bind_eq_some_iff.mp e
      refine le_E (l1 := [(0, .ref 157), (1, .int 0)]) ⟨rfl, rfl, trivial⟩ rfl (tl290_71 (z := z40)  (fun uz40_0 Hz400 sz400 => ?_) N 0 a32 H33 s34 e41)
      refine ex_s (am_nb (m := 2) (pc1 := 100) (ls1 := [(1, .int 1), (0, .ref 157)]) (st1 := []) (H1 := Hz400) (k1 := 0) (n1 := 0) (by with_unfolding_all rfl)) ?_
      obtain ⟨z110, e111, e⟩ := Option.bind_eq_some_iff.mp e
      refine le_E (l1 := [(0, .ref 157), (1, .int 1)]) ⟨rfl, rfl, trivial⟩ rfl (tl290_100 (z := z110)  (fun uz110_0 Hz1100 sz1100 => ?_) (fun uz110_1 Hz1101 sz1101 => ?_) (fun uz110_2 Hz1102 sz1102 => ?_) (fun uz110_3 Hz1103 sz1103 => ?_) (fun uz110_4 Hz1104 sz1104 => ?_) (fun uz110_5 Hz1105 sz1105 => ?_) N 1 z40.2 Hz400 sz400 e111)
      · have e := (if_pos uz110_0).symm.trans e
        exact le_E (l1 := [(0, .ref 157)]) ⟨rfl, trivial⟩ rfl (tj290_151  sz1100 e)
      · have e := (if_neg (show ¬ z110.1 = 0 by rw [uz110_1]; decide)).symm.trans e
        have e := (if_pos uz110_1).symm.trans e
        refine ex_s (am_nb (m := 3) (pc1 := 175) (ls1 := [(0, .ref 157), (2, .int z110.2.1)]) (st1 := [.int z110.2.1, .int 2, .ref 157]) (H1 := Hz1101) (k1 := 0) (n1 := 0) (by with_unfolding_all rfl)) ?_
        obtain ⟨r121, a122, e120, e⟩ := xb2_some e
        refine ex_cv1 (as := [.int 2, .int z110.2.1]) (rest := []) rfl rfl rfl rfl (sz1101.obj rfl (by decide)) rfl (by with_unfolding_all rfl) (by with_unfolding_all rfl) (tf270_fails sz1101 e120) (fun H118 s119 => ?_)
        obtain ⟨g123, e⟩ := xg_some e
        cases e
        exact ex_r (st_iret rfl rfl (xnar_z g123)) s119
      · have e := (if_neg (show ¬ z110.1 = 0 by rw [uz110_2]; decide)).symm.trans e
        have e := (if_neg (show ¬ z110.1 = 1 by rw [uz110_2]; decide)).symm.trans e
        have e := (if_pos uz110_2).symm.trans e
        refine ex_s (am_nb (m := 3) (pc1 := 207) (ls1 := [(0, .ref 157), (2, .int z110.2.1)]) (st1 := [.int z110.2.1, .int 3, .ref 157]) (H1 := Hz1102) (k1 := 0) (n1 := 0) (by with_unfolding_all rfl)) ?_
        obtain ⟨r127, a128, e126, e⟩ := xb2_some e
        refine ex_cv1 (as := [.int 3, .int z110.2.1]) (rest := []) rfl rfl rfl rfl (sz1102.obj rfl (by decide)) rfl (by with_unfolding_all rfl) (by with_unfolding_all rfl) (tf270_fails sz1102 e126) (fun H124 s125 => ?_)
        obtain ⟨g129, e⟩ := xg_some e
        cases e
        exact ex_r (st_iret rfl rfl (xnar_z g129)) s125
      · have e := (if_neg (show ¬ z110.1 = 0 by rw [uz110_3]; decide)).symm.trans e
        have e := (if_neg (show ¬ z110.1 = 1 by rw [uz110_3]; decide)).symm.trans e
        have e := (if_neg (show ¬ z110.1 = 2 by rw [uz110_3]; decide)).symm.trans e
        have e := (if_pos uz110_3).symm.trans e
        refine ex_s (am_nb (m := 3) (pc1 := 228) (ls1 := [(0, .ref 157), (2, .int z110.2.1)]) (st1 := [.int z110.2.1, .int 11, .ref 157]) (H1 := Hz1103) (k1 := 0) (n1 := 0) (by with_unfolding_all rfl)) ?_
        obtain ⟨r133, a134, e132, e⟩ := xb2_some e
        refine ex_cv1 (as := [.int 11, .int z110.2.1]) (rest := []) rfl rfl rfl rfl (sz1103.obj rfl (by decide)) rfl (by with_unfolding_all rfl) (by with_unfolding_all rfl) (tf270_fails sz1103 e132) (fun H130 s131 => ?_)
        obtain ⟨g135, e⟩ := xg_some e
        cases e
        exact ex_r (st_iret rfl rfl (xnar_z g135)) s131
      · have e := (if_neg (show ¬ z110.1 = 0 by rw [uz110_4]; decide)).symm.trans e
        have e := (if_neg (show ¬ z110.1 = 1 by rw [uz110_4]; decide)).symm.trans e
        have e := (if_neg (show ¬ z110.1 = 2 by rw [uz110_4]; decide)).symm.trans e
        have e := (if_neg (show ¬ z110.1 = 3 by rw [uz110_4]; decide)).symm.trans e
        have e := (if_pos uz110_4).symm.trans e
        refine ex_s (am_nb (m := 3) (pc1 := 354) (ls1 := [(0, .ref 157)]) (st1 := [.ref 157, .int 1, .ref 157]) (H1 := Hz1104) (k1 := 0) (n1 := 0) (by with_unfolding_all rfl)) ?_
        refine xe_get (v := .int (z110.2.2 157 15)) sz1104 rfl rfl (by decide) rfl ?_
        obtain ⟨r139, a140, e138, e⟩ := xb2_some e
        refine ex_cv1 (as := [.int 1, .int (z110.2.2 157 15)]) (rest := []) rfl rfl rfl rfl (sz1104.obj rfl (by decide)) rfl (by with_unfolding_all rfl) (by with_unfolding_all rfl) (tf270_fails sz1104 e138) (fun H136 s137 => ?_)
        obtain ⟨g141, e⟩ := xg_some e
        cases e
        exact ex_r (st_iret rfl rfl (xnar_z g141)) s137
      · have e := (if_neg (show ¬ z110.1 = 0 by rw [uz110_5]; decide)).symm.trans e
        have e := (if_neg (show ¬ z110.1 = 1 by rw [uz110_5]; decide)).symm.trans e
        have e := (if_neg (show ¬ z110.1 = 2 by rw [uz110_5]; decide)).symm.trans e
        have e := (if_neg (show ¬ z110.1 = 3 by rw [uz110_5]; decide)).symm.trans e
        have e := (if_neg (show ¬ z110.1 = 4 by rw [uz110_5]; decide)).symm.trans e
        refine ex_s (am_nb (m := 1) (pc1 := 375) (ls1 := [(0, .ref 157)]) (st1 := [.ref 157]) (H1 := Hz1105) (k1 := 0) (n1 := 0) (by with_unfolding_all rfl)) ?_
        obtain ⟨r145, a146, e144, e⟩ := xb2_some e
        refine ex_cv1 (as := []) (rest := []) rfl rfl rfl rfl (sz1105.obj rfl (by decide)) rfl (by with_unfolding_all rfl) (by with_unfolding_all rfl) (tf291_over sz1105 e144) (fun H142 s143 => ?_)
        obtain ⟨g147, e⟩ := xg_some e
        cases e
        exact ex_r (st_iret rfl rfl (xnar_z g147)) s143

set_option maxRecDepth 100000 in
theorem tl265_74 {sL : Nat} {sx : Nat → Int32} {h b N : Nat} {T : List am_C} {R : Option Value} {F : am_H → Prop} {w1 : Int32} {z : Nat × xA} (k0 : z.1 = 0 → ∀ H2 : am_H, xS h b T z.2 H2 → am_E sL sx am_cs 265 99 [(0, .ref 157)] [] H2 R F) (k1 : z.1 = 1 → ∀ H2 : am_H, xS h b T z.2 H2 → am_E sL sx am_cs 265 122 [(0, .ref 157), (1, .int w1)] [] H2 R F) : ∀ (n : Nat) (a : xA) (H : am_H), xS h b T a H → l265_74 N h b w1 n a = some z → am_E sL sx am_cs 265 74 [(0, .ref 157), (1, .int w1)] [] H R F := by
  intro n
  induction n with
  | zero =>
    intro a H hS e
    cases e
  | succ n ih =>
    intro a H hS e
    unfold l265_74 at e
    refine ex_s (am_nb (m := 2) (pc1 := 76) (ls1 := [(0, .ref 157), (1, .int w1)]) (st1 := [.ref 157, .ref 157]) (H1 := H) (k1 := 0) (n1 := 0) (by with_unfolding_all rfl)) ?_
    refine xe_get (v := .int (a 157 15)) hS rfl rfl (by decide) rfl ?_
    obtain ⟨r17, a18, e16, e⟩ := xb2_some e
    refine ex_cv1 (as := [.int (a 157 15)]) (rest := []) rfl rfl rfl rfl (hS.obj rfl (by decide)) rfl (by with_unfolding_all rfl) (by with_unfolding_all rfl) (tf269_ends hS e16) (fun H14 s15 => ?_)
    refine ex_s (st_if rfl) ?_
    by_cases c19 : r17 = 0
    · have e := (if_pos c19).symm.trans e
      refine ex_pc (if_pos c19) ?_
      refine ex_s (am_nb (m := 2) (pc1 := 87) (ls1 := [(0, .ref 157), (1, .int w1)]) (st1 := [.ref 157, .ref 157]) (H1 := H14) (k1 := 0) (n1 := 0) (by with_unfolding_all rfl)) ?_
      refine xe_get (v := .int (a18 157 15)) s15 rfl rfl (by decide) rfl ?_
      obtain ⟨r23, a24, e22, e⟩ := xb2_some e
      refine ex_cv1 (as := [.int (a18 157 15)]) (rest := []) rfl rfl rfl rfl (s15.obj rfl (by decide)) rfl (by with_unfolding_all rfl) (by with_unfolding_all rfl) (tf266_here s15 e22) (fun H20 s21 => ?_)
      obtain ⟨r28, a29, e27, e⟩ := xb2_some e
      refine ex_cs1 (as := [.int r23]) (rest := []) rfl (by decide) rfl rfl (by with_unfolding_all rfl) (by with_unfolding_all rfl) (tf276_isText s21 e27) (fun H25 s26 => ?_)
      refine ex_s (st_if rfl) ?_
      by_cases c30 : r28 = 0
      · have e := (if_pos c30).symm.trans e
        refine ex_pc (if_pos c30) ?_
        cases e
        exact le_E (l1 := [(0, .ref 157)]) ⟨rfl, trivial⟩ rfl (k0 rfl H25 s26)
      · have e := (if_neg c30).symm.trans e
        refine ex_pc (if_neg c30) ?_
        refine ex_s (am_nb (m := 2) (pc1 := 111) (ls1 := [(0, .ref 157), (1, .int w1)]) (st1 := [.ref 157, .ref 157]) (H1 := H25) (k1 := 0) (n1 := 0) (by with_unfolding_all rfl)) ?_
        refine xe_get (v := .int (a29 157 15)) s26 rfl rfl (by decide) rfl ?_
        refine ex_s (am_nb (m := 2) (pc1 := 116) (ls1 := [(0, .ref 157), (1, .int w1)]) (st1 := [.int ((a29 157 15) + 1), .ref 157]) (H1 := H25) (k1 := 0) (n1 := 0) (by with_unfolding_all rfl)) ?_
        obtain ⟨a31, ha31, e⟩ := xw_some e
        refine xe_put (w := ((a29 157 15) + 1)) s26 rfl rfl (by decide) rfl rfl rfl rfl (fun H32 s33 => ?_)
        have s33 : xS h b T a31 H32 := by rw [ha31]; exact s33
        refine ex_s (am_nb (m := 1) (pc1 := 74) (ls1 := [(0, .ref 157), (1, .int w1)]) (st1 := []) (H1 := H32) (k1 := 0) (n1 := 0) (by with_unfolding_all rfl)) ?_
        exact le_E (l1 := [(0, .ref 157), (1, .int w1)]) ⟨rfl, rfl, trivial⟩ rfl (ih a31 H32 s33 e)
    · have e := (if_neg c19).symm.trans e
      refine ex_pc (if_neg c19) ?_
      cases e
      exact le_E (l1 := [(0, .ref 157), (1, .int w1)]) ⟨rfl, rfl, trivial⟩ rfl (k1 rfl H14 s15)

set_option maxRecDepth 100000 in
theorem tj265_157 {sL : Nat} {sx : Nat → Int32} {h b N : Nat} {T : List am_C} {r : Int32} {a' : xA} {a : xA} {H : am_H} (hS : xS h b T a H) (e : j265_157 N h b a = some (r, a')) : am_E sL sx am_cs 265 157 [(0, .ref 157)] [] H (some (.int r)) (fun H1 => xS h b T a' H1) := by
  unfold j265_157 at e
  refine ex_s (am_nb (m := 1) (pc1 := 158) (ls1 := [(0, .ref 157)]) (st1 := [.ref 157]) (H1 := H) (k1 := 0) (n1 := 0) (by with_unfolding_all rfl)) ?_
  obtain ⟨r53, a54, e52, e⟩ := xb2_some e
  refine ex_cv1 (as := []) (rest := []) rfl rfl rfl rfl (hS.obj rfl (by decide)) rfl (by with_unfolding_all rfl) (by with_unfolding_all rfl) (tf290_beginning hS e52) (fun H50 s51 => ?_)
  obtain ⟨g55, e⟩ := xg_some e
  cases e
  exact ex_r (st_iret rfl rfl (xnar_z g55)) s51

set_option maxRecDepth 100000 in
theorem tj265_122 {sL : Nat} {sx : Nat → Int32} {h b N : Nat} {T : List am_C} {r : Int32} {a' : xA} {q1 : Int32} {a : xA} {H : am_H} (hS : xS h b T a H) (e : j265_122 N h b q1 a = some (r, a')) : am_E sL sx am_cs 265 122 [(0, .ref 157), (1, .int q1)] [] H (some (.int r)) (fun H1 => xS h b T a' H1) := by
  unfold j265_122 at e
  refine ex_s (am_nb (m := 2) (pc1 := 124) (ls1 := [(0, .ref 157), (1, .int q1)]) (st1 := [.ref 157, .ref 157]) (H1 := H) (k1 := 0) (n1 := 0) (by with_unfolding_all rfl)) ?_
  refine xe_get (v := .int (a 157 15)) hS rfl rfl (by decide) rfl ?_
  obtain ⟨r45, a46, e44, e⟩ := xb2_some e
  refine ex_cv1 (as := [.int (a 157 15)]) (rest := []) rfl rfl rfl rfl (hS.obj rfl (by decide)) rfl (by with_unfolding_all rfl) (by with_unfolding_all rfl) (tf269_ends hS e44) (fun H42 s43 => ?_)
  refine ex_s (st_if rfl) ?_
  by_cases c47 : r45 = 0
  · have e := (if_pos c47).symm.trans e
    refine ex_pc (if_pos c47) ?_
    refine ex_s (am_nb (m := 1) (pc1 := 146) (ls1 := [(0, .ref 157), (1, .int q1)]) (st1 := [.ref 157]) (H1 := H42) (k1 := 0) (n1 := 0) (by with_unfolding_all rfl)) ?_
    refine xe_get (v := .int (a46 157 17)) s43 rfl rfl (by decide) rfl ?_
    refine ex_s (am_nb (m := 1) (pc1 := 150) (ls1 := [(0, .ref 157), (1, .int q1)]) (st1 := [.int q1, .int (a46 157 17)]) (H1 := H42) (k1 := 0) (n1 := 0) (by with_unfolding_all rfl)) ?_
    refine ex_s (st_icmp rfl) ?_
    by_cases c49 : (a46 157 17) < q1
    · have e := (if_pos c49).symm.trans e
      refine ex_pc (if_pos c49) ?_
      exact le_E (l1 := [(0, .ref 157)]) ⟨rfl, trivial⟩ rfl (tj265_157  s43 e)
    · have e := (if_neg c49).symm.trans e
      refine ex_pc (if_neg c49) ?_
      refine ex_s (am_nb (m := 1) (pc1 := 154) (ls1 := [(0, .ref 157), (1, .int q1)]) (st1 := [.ref 157]) (H1 := H42) (k1 := 0) (n1 := 0) (by with_unfolding_all rfl)) ?_
      obtain ⟨a59, e58, e⟩ := xb1_some e
      refine ex_cv0 (as := []) (rest := []) rfl rfl rfl rfl (s43.obj rfl (by decide)) rfl (by with_unfolding_all rfl) (by with_unfolding_all rfl) (tf289_used s43 e58) (fun H56 s57 => ?_)
      exact le_E (l1 := [(0, .ref 157)]) ⟨rfl, trivial⟩ rfl (tj265_157  s57 e)
  · have e := (if_neg c47).symm.trans e
    refine ex_pc (if_neg c47) ?_
    refine ex_s (am_nb (m := 2) (pc1 := 135) (ls1 := [(0, .ref 157), (1, .int q1)]) (st1 := [.ref 157, .ref 157]) (H1 := H42) (k1 := 0) (n1 := 0) (by with_unfolding_all rfl)) ?_
    refine xe_get (v := .int (a46 157 15)) s43 rfl rfl (by decide) rfl ?_
    refine ex_s (am_nb (m := 2) (pc1 := 140) (ls1 := [(0, .ref 157), (1, .int q1)]) (st1 := [.int ((a46 157 15) + 1), .ref 157]) (H1 := H42) (k1 := 0) (n1 := 0) (by with_unfolding_all rfl)) ?_
    obtain ⟨a60, ha60, e⟩ := xw_some e
    refine xe_put (w := ((a46 157 15) + 1)) s43 rfl rfl (by decide) rfl rfl rfl rfl (fun H61 s62 => ?_)
    have s62 : xS h b T a60 H61 := by rw [ha60]; exact s62
    refine ex_s (am_nb (m := 1) (pc1 := 144) (ls1 := [(0, .ref 157), (1, .int q1)]) (st1 := [.int 1]) (H1 := H61) (k1 := 0) (n1 := 0) (by with_unfolding_all rfl)) ?_
    cases e
    exact ex_r (st_iret rfl rfl rfl) s62

set_option maxRecDepth 100000 in
theorem tf265_line {sL : Nat} {sx : Nat → Int32} {h b N : Nat} {T : List am_C} {r : Int32} {a' : xA} {x0 : Int32} {a : xA} {H : am_H} (hS : xS h b T a H) (e : f265_line N h b x0 a = some (r, a')) : am_E sL sx am_cs 265 0 [(0, .ref 157), (1, .int x0)] [] H (some (.int r)) (fun H1 => xS h b T a' H1) := by
  unfold f265_line at e
  refine ex_s (am_nb (m := 2) (pc1 := 2) (ls1 := [(0, .ref 157), (1, .int x0)]) (st1 := [.ref 157, .ref 157]) (H1 := H) (k1 := 0) (n1 := 0) (by with_unfolding_all rfl)) ?_
  refine xe_get (v := .int (a 157 15)) hS rfl rfl (by decide) rfl ?_
  obtain ⟨r4, a5, e3, e⟩ := xb2_some e
  refine ex_cv1 (as := [.int (a 157 15)]) (rest := []) rfl rfl rfl rfl (hS.obj rfl (by decide)) rfl (by with_unfolding_all rfl) (by with_unfolding_all rfl) (tf266_here hS e3) (fun H1 s2 => ?_)
  refine ex_s (am_nb (m := 2) (pc1 := 10) (ls1 := [(2, .int r4), (0, .ref 157), (1, .int x0)]) (st1 := [.int r4]) (H1 := H1) (k1 := 0) (n1 := 0) (by with_unfolding_all rfl)) ?_
  obtain ⟨r9, a10, e8, e⟩ := xb2_some e
  refine ex_cs1 (as := [.int r4]) (rest := []) rfl (by decide) rfl rfl (by with_unfolding_all rfl) (by with_unfolding_all rfl) (tf267_isBlank s2 e8) (fun H6 s7 => ?_)
  refine ex_s (st_if rfl) ?_
  by_cases c11 : r9 = 0
  · have e := (if_pos c11).symm.trans e
    refine ex_pc (if_pos c11) ?_
    refine ex_s (am_nb (m := 2) (pc1 := 71) (ls1 := [(2, .int r4), (0, .ref 157), (1, .int x0)]) (st1 := [.int 35, .int r4]) (H1 := H6) (k1 := 0) (n1 := 0) (by with_unfolding_all rfl)) ?_
    refine ex_s (st_icmp rfl) ?_
    by_cases c13 : r4 = 35
    · have e := (if_pos c13).symm.trans e
      refine ex_pc (if_pos c13) ?_
      obtain ⟨z34, e35, e⟩ := Option.bind_eq_some_iff.mp e
      refine le_E (l1 := [(0, .ref 157), (1, .int x0)]) ⟨rfl, rfl, trivial⟩ rfl (tl265_74 (z := z34)  (fun uz34_0 Hz340 sz340 => ?_) (fun uz34_1 Hz341 sz341 => ?_) N a10 H6 s7 e35)
      · have e := (if_pos uz34_0).symm.trans e
        refine ex_s (am_nb (m := 3) (pc1 := 102) (ls1 := [(0, .ref 157)]) (st1 := [.ref 157, .int 1, .ref 157]) (H1 := Hz340) (k1 := 0) (n1 := 0) (by with_unfolding_all rfl)) ?_
        refine xe_get (v := .int (z34.2 157 15)) sz340 rfl rfl (by decide) rfl ?_
        obtain ⟨r39, a40, e38, e⟩ := xb2_some e
        refine ex_cv1 (as := [.int 1, .int (z34.2 157 15)]) (rest := []) rfl rfl rfl rfl (sz340.obj rfl (by decide)) rfl (by with_unfolding_all rfl) (by with_unfolding_all rfl) (tf270_fails sz340 e38) (fun H36 s37 => ?_)
        obtain ⟨g41, e⟩ := xg_some e
        cases e
        exact ex_r (st_iret rfl rfl (xnar_z g41)) s37
      · have e := (if_neg (show ¬ z34.1 = 0 by rw [uz34_1]; decide)).symm.trans e
        exact le_E (l1 := [(0, .ref 157), (1, .int x0)]) ⟨rfl, rfl, trivial⟩ rfl (tj265_122  sz341 e)
    · have e := (if_neg c13).symm.trans e
      refine ex_pc (if_neg c13) ?_
      exact le_E (l1 := [(0, .ref 157), (1, .int x0)]) ⟨rfl, rfl, trivial⟩ rfl (tj265_122  s7 e)
  · have e := (if_neg c11).symm.trans e
    refine ex_pc (if_neg c11) ?_
    refine ex_s (am_nb (m := 1) (pc1 := 17) (ls1 := [(2, .int r4), (0, .ref 157), (1, .int x0)]) (st1 := [.ref 157]) (H1 := H6) (k1 := 0) (n1 := 0) (by with_unfolding_all rfl)) ?_
    obtain ⟨a66, e65, e⟩ := xb1_some e
    refine ex_cv0 (as := []) (rest := []) rfl rfl rfl rfl (s7.obj rfl (by decide)) rfl (by with_unfolding_all rfl) (by with_unfolding_all rfl) (tf268_blanks s7 e65) (fun H63 s64 => ?_)
    refine ex_s (am_nb (m := 2) (pc1 := 22) (ls1 := [(2, .int r4), (0, .ref 157), (1, .int x0)]) (st1 := [.ref 157, .ref 157]) (H1 := H63) (k1 := 0) (n1 := 0) (by with_unfolding_all rfl)) ?_
    refine xe_get (v := .int (a66 157 15)) s64 rfl rfl (by decide) rfl ?_
    obtain ⟨r70, a71, e69, e⟩ := xb2_some e
    refine ex_cv1 (as := [.int (a66 157 15)]) (rest := []) rfl rfl rfl rfl (s64.obj rfl (by decide)) rfl (by with_unfolding_all rfl) (by with_unfolding_all rfl) (tf269_ends s64 e69) (fun H67 s68 => ?_)
    refine ex_s (st_if rfl) ?_
    by_cases c72 : r70 = 0
    · have e := (if_pos c72).symm.trans e
      refine ex_pc (if_pos c72) ?_
      refine ex_s (am_nb (m := 1) (pc1 := 44) (ls1 := [(2, .int r4), (0, .ref 157), (1, .int x0)]) (st1 := [.ref 157]) (H1 := H67) (k1 := 0) (n1 := 0) (by with_unfolding_all rfl)) ?_
      refine xe_get (v := .int (a71 157 17)) s68 rfl rfl (by decide) rfl ?_
      refine ex_s (am_nb (m := 1) (pc1 := 48) (ls1 := [(2, .int r4), (0, .ref 157), (1, .int x0)]) (st1 := [.int x0, .int (a71 157 17)]) (H1 := H67) (k1 := 0) (n1 := 0) (by with_unfolding_all rfl)) ?_
      refine ex_s (st_icmp rfl) ?_
      by_cases c74 : x0 ≤ (a71 157 17)
      · have e := (if_pos c74).symm.trans e
        refine ex_pc (if_pos c74) ?_
        refine ex_s (am_nb (m := 1) (pc1 := 64) (ls1 := [(2, .int r4), (0, .ref 157), (1, .int x0)]) (st1 := [.ref 157]) (H1 := H67) (k1 := 0) (n1 := 0) (by with_unfolding_all rfl)) ?_
        obtain ⟨r78, a79, e77, e⟩ := xb2_some e
        refine ex_cv1 (as := []) (rest := []) rfl rfl rfl rfl (s68.obj rfl (by decide)) rfl (by with_unfolding_all rfl) (by with_unfolding_all rfl) (tf271_fields s68 e77) (fun H75 s76 => ?_)
        obtain ⟨g80, e⟩ := xg_some e
        cases e
        exact ex_r (st_iret rfl rfl (xnar_z g80)) s76
      · have e := (if_neg c74).symm.trans e
        refine ex_pc (if_neg c74) ?_
        refine ex_s (am_nb (m := 3) (pc1 := 54) (ls1 := [(2, .int r4), (0, .ref 157), (1, .int x0)]) (st1 := [.ref 157, .int 1, .ref 157]) (H1 := H67) (k1 := 0) (n1 := 0) (by with_unfolding_all rfl)) ?_
        refine xe_get (v := .int (a71 157 15)) s68 rfl rfl (by decide) rfl ?_
        obtain ⟨r84, a85, e83, e⟩ := xb2_some e
        refine ex_cv1 (as := [.int 1, .int (a71 157 15)]) (rest := []) rfl rfl rfl rfl (s68.obj rfl (by decide)) rfl (by with_unfolding_all rfl) (by with_unfolding_all rfl) (tf270_fails s68 e83) (fun H81 s82 => ?_)
        refine ex_s (am_nb (m := 1) (pc1 := 67) (ls1 := [(2, .int r4), (0, .ref 157), (1, .int x0)]) (st1 := [.int r84]) (H1 := H81) (k1 := 0) (n1 := 0) (by with_unfolding_all rfl)) ?_
        obtain ⟨g86, e⟩ := xg_some e
        cases e
        exact ex_r (st_iret rfl rfl (xnar_z g86)) s82
    · have e := (if_neg c72).symm.trans e
      refine ex_pc (if_neg c72) ?_
      refine ex_s (am_nb (m := 2) (pc1 := 33) (ls1 := [(2, .int r4), (0, .ref 157), (1, .int x0)]) (st1 := [.ref 157, .ref 157]) (H1 := H67) (k1 := 0) (n1 := 0) (by with_unfolding_all rfl)) ?_
      refine xe_get (v := .int (a71 157 15)) s68 rfl rfl (by decide) rfl ?_
      refine ex_s (am_nb (m := 2) (pc1 := 38) (ls1 := [(2, .int r4), (0, .ref 157), (1, .int x0)]) (st1 := [.int ((a71 157 15) + 1), .ref 157]) (H1 := H67) (k1 := 0) (n1 := 0) (by with_unfolding_all rfl)) ?_
      obtain ⟨a87, ha87, e⟩ := xw_some e
      refine xe_put (w := ((a71 157 15) + 1)) s68 rfl rfl (by decide) rfl rfl rfl rfl (fun H88 s89 => ?_)
      have s89 : xS h b T a87 H88 := by rw [ha87]; exact s89
      refine ex_s (am_nb (m := 1) (pc1 := 42) (ls1 := [(2, .int r4), (0, .ref 157), (1, .int x0)]) (st1 := [.int 1]) (H1 := H88) (k1 := 0) (n1 := 0) (by with_unfolding_all rfl)) ?_
      cases e
      exact ex_r (st_iret rfl rfl rfl) s89

set_option maxRecDepth 100000 in
theorem tl264_50 {sL : Nat} {sx : Nat → Int32} {h b N : Nat} {T : List am_C} {R : Option Value} {F : am_H → Prop} {w1 : Int32} {z : Nat × Int32 × xA} (k0 : z.1 = 0 → ∀ H2 : am_H, xS h b T z.2.2 H2 → am_E sL sx am_cs 264 74 [(0, .ref 157), (1, .int w1), (2, .int z.2.1)] [] H2 R F) : ∀ (n : Nat) (v2 : Int32) (a : xA) (H : am_H), xS h b T a H → l264_50 N h b w1 n v2 a = some z → am_E sL sx am_cs 264 50 [(0, .ref 157), (1, .int w1), (2, .int v2)] [] H R F := by
  intro n
  induction n with
  | zero =>
    intro v2 a H hS e
    cases e
  | succ n ih =>
    intro v2 a H hS e
    unfold l264_50 at e
    refine ex_s (am_nb (m := 1) (pc1 := 51) (ls1 := [(0, .ref 157), (1, .int w1), (2, .int v2)]) (st1 := [.int v2]) (H1 := H) (k1 := 0) (n1 := 0) (by with_unfolding_all rfl)) ?_
    refine ex_s (st_if rfl) ?_
    by_cases c24 : v2 = 0
    · have e := (if_pos c24).symm.trans e
      refine ex_pc (if_pos c24) ?_
      cases e
      exact le_E (l1 := [(0, .ref 157), (1, .int w1), (2, .int v2)]) ⟨rfl, rfl, rfl, trivial⟩ rfl (k0 rfl H hS)
    · have e := (if_neg c24).symm.trans e
      refine ex_pc (if_neg c24) ?_
      refine ex_s (am_nb (m := 1) (pc1 := 55) (ls1 := [(0, .ref 157), (1, .int w1), (2, .int v2)]) (st1 := [.ref 157]) (H1 := H) (k1 := 0) (n1 := 0) (by with_unfolding_all rfl)) ?_
      refine xe_get (v := .int (a 157 15)) hS rfl rfl (by decide) rfl ?_
      refine ex_s (am_nb (m := 1) (pc1 := 59) (ls1 := [(0, .ref 157), (1, .int w1), (2, .int v2)]) (st1 := [.ref 157, .int (a 157 15)]) (H1 := H) (k1 := 0) (n1 := 0) (by with_unfolding_all rfl)) ?_
      refine xe_get (v := .int (a 157 16)) hS rfl rfl (by decide) rfl ?_
      refine ex_s (st_icmp rfl) ?_
      by_cases c25 : (a 157 16) ≤ (a 157 15)
      · have e := (if_pos c25).symm.trans e
        refine ex_pc (if_pos c25) ?_
        cases e
        exact le_E (l1 := [(0, .ref 157), (1, .int w1), (2, .int v2)]) ⟨rfl, rfl, rfl, trivial⟩ rfl (k0 rfl H hS)
      · have e := (if_neg c25).symm.trans e
        refine ex_pc (if_neg c25) ?_
        refine ex_s (am_nb (m := 2) (pc1 := 67) (ls1 := [(0, .ref 157), (1, .int w1), (2, .int v2)]) (st1 := [.int w1, .ref 157]) (H1 := H) (k1 := 0) (n1 := 0) (by with_unfolding_all rfl)) ?_
        obtain ⟨r29, a30, e28, e⟩ := xb2_some e
        refine ex_cv1 (as := [.int w1]) (rest := []) rfl rfl rfl rfl (hS.obj rfl (by decide)) rfl (by with_unfolding_all rfl) (by with_unfolding_all rfl) (tf265_line hS e28) (fun H26 s27 => ?_)
        refine ex_s (am_nb (m := 2) (pc1 := 50) (ls1 := [(2, .int r29), (0, .ref 157), (1, .int w1)]) (st1 := []) (H1 := H26) (k1 := 0) (n1 := 0) (by with_unfolding_all rfl)) ?_
        exact le_E (l1 := [(0, .ref 157), (1, .int w1), (2, .int r29)]) ⟨rfl, rfl, rfl, trivial⟩ rfl (ih r29 a30 H26 s27 e)

set_option maxRecDepth 100000 in
theorem tj264_92 {sL : Nat} {sx : Nat → Int32} {h b N : Nat} {T : List am_C} {r : Int32} {a' : xA} {a : xA} {H : am_H} (hS : xS h b T a H) (e : j264_92 N h b a = some (r, a')) : am_E sL sx am_cs 264 92 [(0, .ref 157)] [] H (some (.int r)) (fun H1 => xS h b T a' H1) := by
  unfold j264_92 at e
  refine ex_s (am_nb (m := 2) (pc1 := 94) (ls1 := [(0, .ref 157)]) (st1 := [.ref 157, .ref 157]) (H1 := H) (k1 := 0) (n1 := 0) (by with_unfolding_all rfl)) ?_
  refine xe_get (v := .int (a 157 17)) hS rfl rfl (by decide) rfl ?_
  refine ex_s (am_nb (m := 2) (pc1 := 99) (ls1 := [(0, .ref 157)]) (st1 := [.int ((a 157 17) + 1), .ref 157]) (H1 := H) (k1 := 0) (n1 := 0) (by with_unfolding_all rfl)) ?_
  obtain ⟨a36, ha36, e⟩ := xw_some e
  refine xe_put (w := ((a 157 17) + 1)) hS rfl rfl (by decide) rfl rfl rfl rfl (fun H37 s38 => ?_)
  have s38 : xS h b T a36 H37 := by rw [ha36]; exact s38
  refine ex_s (am_nb (m := 1) (pc1 := 103) (ls1 := [(0, .ref 157)]) (st1 := [.ref 157]) (H1 := H37) (k1 := 0) (n1 := 0) (by with_unfolding_all rfl)) ?_
  refine xe_get (v := .int (a36 157 5)) s38 rfl rfl (by decide) rfl ?_
  cases e
  exact ex_r (st_iret rfl rfl rfl) s38

set_option maxRecDepth 100000 in
theorem tj264_74 {sL : Nat} {sx : Nat → Int32} {h b N : Nat} {T : List am_C} {r : Int32} {a' : xA} {q1 : Int32} {q2 : Int32} {a : xA} {H : am_H} (hS : xS h b T a H) (e : j264_74 N h b q1 q2 a = some (r, a')) : am_E sL sx am_cs 264 74 [(0, .ref 157), (1, .int q1), (2, .int q2)] [] H (some (.int r)) (fun H1 => xS h b T a' H1) := by
  unfold j264_74 at e
  refine ex_s (am_nb (m := 1) (pc1 := 75) (ls1 := [(0, .ref 157), (1, .int q1), (2, .int q2)]) (st1 := [.int q2]) (H1 := H) (k1 := 0) (n1 := 0) (by with_unfolding_all rfl)) ?_
  refine ex_s (st_if rfl) ?_
  by_cases c33 : q2 = 0
  · have e := (if_pos c33).symm.trans e
    refine ex_pc (if_pos c33) ?_
    refine ex_s (am_nb (m := 1) (pc1 := 79) (ls1 := [(0, .ref 157), (1, .int q1), (2, .int q2)]) (st1 := [.int (-1)]) (H1 := H) (k1 := 0) (n1 := 0) (by with_unfolding_all rfl)) ?_
    cases e
    exact ex_r (st_iret rfl rfl rfl) hS
  · have e := (if_neg c33).symm.trans e
    refine ex_pc (if_neg c33) ?_
    refine ex_s (am_nb (m := 1) (pc1 := 81) (ls1 := [(0, .ref 157), (1, .int q1), (2, .int q2)]) (st1 := [.ref 157]) (H1 := H) (k1 := 0) (n1 := 0) (by with_unfolding_all rfl)) ?_
    refine xe_get (v := .int (a 157 17)) hS rfl rfl (by decide) rfl ?_
    refine ex_s (am_nb (m := 1) (pc1 := 85) (ls1 := [(0, .ref 157), (1, .int q1), (2, .int q2)]) (st1 := [.int q1, .int (a 157 17)]) (H1 := H) (k1 := 0) (n1 := 0) (by with_unfolding_all rfl)) ?_
    refine ex_s (st_icmp rfl) ?_
    by_cases c35 : (a 157 17) < q1
    · have e := (if_pos c35).symm.trans e
      refine ex_pc (if_pos c35) ?_
      exact le_E (l1 := [(0, .ref 157)]) ⟨rfl, trivial⟩ rfl (tj264_92  hS e)
    · have e := (if_neg c35).symm.trans e
      refine ex_pc (if_neg c35) ?_
      refine ex_s (am_nb (m := 1) (pc1 := 89) (ls1 := [(0, .ref 157), (1, .int q1), (2, .int q2)]) (st1 := [.ref 157]) (H1 := H) (k1 := 0) (n1 := 0) (by with_unfolding_all rfl)) ?_
      obtain ⟨a42, e41, e⟩ := xb1_some e
      refine ex_cv0 (as := []) (rest := []) rfl rfl rfl rfl (hS.obj rfl (by decide)) rfl (by with_unfolding_all rfl) (by with_unfolding_all rfl) (tf289_used hS e41) (fun H39 s40 => ?_)
      exact le_E (l1 := [(0, .ref 157)]) ⟨rfl, trivial⟩ rfl (tj264_92  s40 e)

set_option maxRecDepth 100000 in
theorem tf264_describe {sL : Nat} {sx : Nat → Int32} {h b N : Nat} {T : List am_C} {r : Int32} {a' : xA} {a : xA} {H : am_H} (hS : xS h b T a H) (e : f264_describe N h b a = some (r, a')) : am_E sL sx am_cs 264 0 [(0, .ref 157)] [] H (some (.int r)) (fun H1 => xS h b T a' H1) := by
  unfold f264_describe at e
  refine ex_s (am_nb (m := 2) (pc1 := 2) (ls1 := [(0, .ref 157)]) (st1 := [.int 0, .ref 157]) (H1 := H) (k1 := 0) (n1 := 0) (by with_unfolding_all rfl)) ?_
  obtain ⟨a1, ha1, e⟩ := xw_some e
  refine xe_put (w := 0) hS rfl rfl (by decide) rfl rfl rfl rfl (fun H2 s3 => ?_)
  have s3 : xS h b T a1 H2 := by rw [ha1]; exact s3
  refine ex_s (am_nb (m := 2) (pc1 := 7) (ls1 := [(0, .ref 157)]) (st1 := [.ref 157, .ref 157]) (H1 := H2) (k1 := 0) (n1 := 0) (by with_unfolding_all rfl)) ?_
  refine xe_get (v := .int (a1 157 2)) s3 rfl rfl (by decide) rfl ?_
  obtain ⟨a4, ha4, e⟩ := xw_some e
  refine xe_put (w := (a1 157 2)) s3 rfl rfl (by decide) rfl rfl rfl rfl (fun H5 s6 => ?_)
  have s6 : xS h b T a4 H5 := by rw [ha4]; exact s6
  refine ex_s (am_nb (m := 2) (pc1 := 15) (ls1 := [(0, .ref 157)]) (st1 := [.int 0, .ref 157]) (H1 := H5) (k1 := 0) (n1 := 0) (by with_unfolding_all rfl)) ?_
  obtain ⟨a7, ha7, e⟩ := xw_some e
  refine xe_put (w := 0) s6 rfl rfl (by decide) rfl rfl rfl rfl (fun H8 s9 => ?_)
  have s9 : xS h b T a7 H8 := by rw [ha7]; exact s9
  refine ex_s (am_nb (m := 2) (pc1 := 20) (ls1 := [(0, .ref 157)]) (st1 := [.int 0, .ref 157]) (H1 := H8) (k1 := 0) (n1 := 0) (by with_unfolding_all rfl)) ?_
  obtain ⟨a10, ha10, e⟩ := xw_some e
  refine xe_put (w := 0) s9 rfl rfl (by decide) rfl rfl rfl rfl (fun H11 s12 => ?_)
  have s12 : xS h b T a10 H11 := by rw [ha10]; exact s12
  refine ex_s (am_nb (m := 2) (pc1 := 25) (ls1 := [(0, .ref 157)]) (st1 := [.int 0, .ref 157]) (H1 := H11) (k1 := 0) (n1 := 0) (by with_unfolding_all rfl)) ?_
  obtain ⟨a13, ha13, e⟩ := xw_some e
  refine xe_put (w := 0) s12 rfl rfl (by decide) rfl rfl rfl rfl (fun H14 s15 => ?_)
  have s15 : xS h b T a13 H14 := by rw [ha13]; exact s15
  refine ex_s (am_nb (m := 2) (pc1 := 30) (ls1 := [(0, .ref 157)]) (st1 := [.int (-1), .ref 157]) (H1 := H14) (k1 := 0) (n1 := 0) (by with_unfolding_all rfl)) ?_
  obtain ⟨a16, ha16, e⟩ := xw_some e
  refine xe_put (w := (-1)) s15 rfl rfl (by decide) rfl rfl rfl rfl (fun H17 s18 => ?_)
  have s18 : xS h b T a16 H17 := by rw [ha16]; exact s18
  refine ex_s (am_nb (m := 2) (pc1 := 35) (ls1 := [(0, .ref 157)]) (st1 := [.ref 157, .ref 157]) (H1 := H17) (k1 := 0) (n1 := 0) (by with_unfolding_all rfl)) ?_
  refine xe_get (v := .int (a16 157 5)) s18 rfl rfl (by decide) rfl ?_
  refine ex_s (am_nb (m := 2) (pc1 := 40) (ls1 := [(0, .ref 157)]) (st1 := [.int ((a16 157 5) - 1), .ref 157]) (H1 := H17) (k1 := 0) (n1 := 0) (by with_unfolding_all rfl)) ?_
  obtain ⟨a19, ha19, e⟩ := xw_some e
  refine xe_put (w := ((a16 157 5) - 1)) s18 rfl rfl (by decide) rfl rfl rfl rfl (fun H20 s21 => ?_)
  have s21 : xS h b T a19 H20 := by rw [ha19]; exact s21
  refine ex_s (am_nb (m := 1) (pc1 := 44) (ls1 := [(0, .ref 157)]) (st1 := [.ref 157]) (H1 := H20) (k1 := 0) (n1 := 0) (by with_unfolding_all rfl)) ?_
  refine xe_get (v := .int (a19 157 5)) s21 rfl rfl (by decide) rfl ?_
  refine ex_s (am_nb (m := 3) (pc1 := 50) (ls1 := [(2, .int 1), (1, .int (a19 157 5)), (0, .ref 157)]) (st1 := []) (H1 := H20) (k1 := 0) (n1 := 0) (by with_unfolding_all rfl)) ?_
  obtain ⟨z31, e32, e⟩ := Option.bind_eq_some_iff.mp e
  refine le_E (l1 := [(0, .ref 157), (1, .int (a19 157 5)), (2, .int 1)]) ⟨rfl, rfl, rfl, trivial⟩ rfl (tl264_50 (z := z31)  (fun uz31_0 Hz310 sz310 => ?_) N 1 a19 H20 s21 e32)
  exact le_E (l1 := [(0, .ref 157), (1, .int (a19 157 5)), (2, .int z31.2.1)]) ⟨rfl, rfl, rfl, trivial⟩ rfl (tj264_74  sz310 e)
