/-! The program does what the functions say. -/
set_option maxRecDepth 100000 in
theorem tf65_lengthOf {sL : Nat} {sx : Nat → Int32} {h b N : Nat} {T : List am_C} {r : Int32} {a' : xA} {o : Nat} {x0 : Int32} {a : xA} {H : am_H} (hS : xS h b T a H) (e : f65_lengthOf N h b o x0 a = some (r, a')) : am_E sL sx am_cs 65 0 [(0, .ref o), (1, .int x0)] [] H (some (.int r)) (fun H1 => xS h b T a' H1) := by
  unfold f65_lengthOf at e
  obtain ⟨g1, e⟩ := xg_some e
  refine ex_s (am_nb (m := 1) (pc1 := 1) (ls1 := [(0, .ref o), (1, .int x0)]) (st1 := [.ref o]) (H1 := H) (k1 := 0) (n1 := 0) (by with_unfolding_all rfl)) ?_
  refine xe_get (v := .ref (o + 6)) hS rfl g1 (by decide) rfl ?_
  refine ex_s (am_nb (m := 3) (pc1 := 8) (ls1 := [(0, .ref o), (1, .int x0)]) (st1 := [.int (x0 - 6), .ref (o + 6)]) (H1 := H) (k1 := 0) (n1 := 0) (by with_unfolding_all rfl)) ?_
  obtain ⟨g2, e⟩ := xg_some e
  refine xe_iald hS rfl (xd_2_6 g1) g2 ?_
  cases e
  exact ex_r (st_iret rfl rfl rfl) hS

set_option maxRecDepth 100000 in
theorem tj64_86 {sL : Nat} {sx : Nat → Int32} {h b N : Nat} {T : List am_C} {R : Option Value} {F : am_H → Prop} {w0 : Nat} {w1 : Nat} {w2 : Nat} {z : Nat × xA} {rc : Int32 → xA → Option (Nat × xA)} (k0 : z.1 = 0 → ∀ H2 : am_H, xS h b T z.2 H2 → am_E sL sx am_cs 64 92 [] [] H2 R F) (ih : ∀ (v3 : Int32) (a : xA) (H : am_H), xS h b T a H → rc v3 a = some z → am_E sL sx am_cs 64 2 [(0, .ref w0), (1, .ref w1), (2, .ref w2), (3, .int v3)] [] H R F) {q3 : Int32} {a : xA} {H : am_H} (kw0 : xk w0 = 3) (kw1 : xk w1 = 3) (kw2 : xk w2 = 101) (hS : xS h b T a H) (e : j64_86 N h b rc w0 w1 w2 q3 a = some z) : am_E sL sx am_cs 64 86 [(0, .ref w0), (1, .ref w1), (2, .ref w2), (3, .int q3)] [] H R F := by
  unfold j64_86 at e
  refine ex_s (am_nb (m := 2) (pc1 := 2) (ls1 := [(3, .int (q3 + 1)), (0, .ref w0), (1, .ref w1), (2, .ref w2)]) (st1 := []) (H1 := H) (k1 := 0) (n1 := 0) (by with_unfolding_all rfl)) ?_
  exact le_E (l1 := [(0, .ref w0), (1, .ref w1), (2, .ref w2), (3, .int (q3 + 1))]) ⟨rfl, rfl, rfl, rfl, trivial⟩ rfl (ih (q3 + 1) a H hS e)

set_option maxRecDepth 100000 in
theorem tl64_2 {sL : Nat} {sx : Nat → Int32} {h b N : Nat} {T : List am_C} {R : Option Value} {F : am_H → Prop} {w0 : Nat} {w1 : Nat} {w2 : Nat} {z : Nat × xA} (kw0 : xk w0 = 3) (kw1 : xk w1 = 3) (kw2 : xk w2 = 101) (k0 : z.1 = 0 → ∀ H2 : am_H, xS h b T z.2 H2 → am_E sL sx am_cs 64 92 [] [] H2 R F) : ∀ (n : Nat) (v3 : Int32) (a : xA) (H : am_H), xS h b T a H → l64_2 N h b w0 w1 w2 n v3 a = some z → am_E sL sx am_cs 64 2 [(0, .ref w0), (1, .ref w1), (2, .ref w2), (3, .int v3)] [] H R F := by
  intro n
  induction n with
  | zero =>
    intro v3 a H hS e
    cases e
  | succ n ih =>
    intro v3 a H hS e
    unfold l64_2 at e
    refine ex_s (am_nb (m := 2) (pc1 := 5) (ls1 := [(0, .ref w0), (1, .ref w1), (2, .ref w2), (3, .int v3)]) (st1 := [.int 39, .int v3]) (H1 := H) (k1 := 0) (n1 := 0) (by with_unfolding_all rfl)) ?_
    refine ex_s (st_icmp rfl) ?_
    by_cases c4 : 39 ≤ v3
    · have e := (if_pos c4).symm.trans e
      refine ex_pc (if_pos c4) ?_
      cases e
      exact le_E (l1 := []) trivial rfl (k0 rfl H hS)
    · have e := (if_neg c4).symm.trans e
      refine ex_pc (if_neg c4) ?_
      refine ex_s (am_nb (m := 2) (pc1 := 10) (ls1 := [(0, .ref w0), (1, .ref w1), (2, .ref w2), (3, .int v3)]) (st1 := [.int v3, .ref w2]) (H1 := H) (k1 := 0) (n1 := 0) (by with_unfolding_all rfl)) ?_
      obtain ⟨g5, e⟩ := xg_some e
      refine xe_zald hS rfl kw2 g5 ?_
      refine ex_s (st_if rfl) ?_
      by_cases c6 : (a w2 (v3.toNatClampNeg)) = 0
      · have e := (if_pos c6).symm.trans e
        refine ex_pc (if_pos c6) ?_
        refine ex_s (am_nb (m := 1) (pc1 := 15) (ls1 := [(0, .ref w0), (1, .ref w1), (2, .ref w2), (3, .int v3)]) (st1 := [.ref w0]) (H1 := H) (k1 := 0) (n1 := 0) (by with_unfolding_all rfl)) ?_
        refine xe_get (v := .ref (w0 + 3)) hS rfl kw0 (by decide) rfl ?_
        refine ex_s (am_nb (m := 1) (pc1 := 19) (ls1 := [(0, .ref w0), (1, .ref w1), (2, .ref w2), (3, .int v3)]) (st1 := [.int v3, .ref (w0 + 3)]) (H1 := H) (k1 := 0) (n1 := 0) (by with_unfolding_all rfl)) ?_
        obtain ⟨g7, e⟩ := xg_some e
        refine xe_zald hS rfl (xd_2_3 kw0) g7 ?_
        refine ex_s (st_if rfl) ?_
        by_cases c8 : (a (w0 + 3) (v3.toNatClampNeg)) = 0
        · have e := (if_pos c8).symm.trans e
          refine ex_pc (if_pos c8) ?_
          refine ex_s (am_nb (m := 1) (pc1 := 24) (ls1 := [(0, .ref w0), (1, .ref w1), (2, .ref w2), (3, .int v3)]) (st1 := [.ref w1]) (H1 := H) (k1 := 0) (n1 := 0) (by with_unfolding_all rfl)) ?_
          refine xe_get (v := .ref (w1 + 3)) hS rfl kw1 (by decide) rfl ?_
          refine ex_s (am_nb (m := 1) (pc1 := 28) (ls1 := [(0, .ref w0), (1, .ref w1), (2, .ref w2), (3, .int v3)]) (st1 := [.int v3, .ref (w1 + 3)]) (H1 := H) (k1 := 0) (n1 := 0) (by with_unfolding_all rfl)) ?_
          obtain ⟨g9, e⟩ := xg_some e
          refine xe_zald hS rfl (xd_2_3 kw1) g9 ?_
          refine ex_s (st_if rfl) ?_
          by_cases c13 : (a (w1 + 3) (v3.toNatClampNeg)) = 0
          · have e := (if_pos c13).symm.trans e
            refine ex_pc (if_pos c13) ?_
            refine ex_s (am_nb (m := 1) (pc1 := 86) (ls1 := [(0, .ref w0), (1, .ref w1), (2, .ref w2), (3, .int v3)]) (st1 := []) (H1 := H) (k1 := 0) (n1 := 0) (by with_unfolding_all rfl)) ?_
            exact le_E (l1 := [(0, .ref w0), (1, .ref w1), (2, .ref w2), (3, .int v3)]) ⟨rfl, rfl, rfl, rfl, trivial⟩ rfl (tj64_86 k0 ih kw0 kw1 kw2 hS e)
          · have e := (if_neg c13).symm.trans e
            refine ex_pc (if_neg c13) ?_
            refine ex_s (am_nb (m := 2) (pc1 := 37) (ls1 := [(0, .ref w0), (1, .ref w1), (2, .ref w2), (3, .int v3)]) (st1 := [.int 3, .int v3]) (H1 := H) (k1 := 0) (n1 := 0) (by with_unfolding_all rfl)) ?_
            refine ex_s (st_icmp rfl) ?_
            by_cases c16 : 3 ≤ v3
            · have e := (if_pos c16).symm.trans e
              refine ex_pc (if_pos c16) ?_
              refine ex_s (am_nb (m := 2) (pc1 := 51) (ls1 := [(0, .ref w0), (1, .ref w1), (2, .ref w2), (3, .int v3)]) (st1 := [.int 6, .int v3]) (H1 := H) (k1 := 0) (n1 := 0) (by with_unfolding_all rfl)) ?_
              refine ex_s (st_icmp rfl) ?_
              by_cases c18 : 6 ≤ v3
              · have e := (if_pos c18).symm.trans e
                refine ex_pc (if_pos c18) ?_
                refine ex_s (am_nb (m := 3) (pc1 := 71) (ls1 := [(0, .ref w0), (1, .ref w1), (2, .ref w2), (3, .int v3)]) (st1 := [.ref w1, .int v3, .ref w0]) (H1 := H) (k1 := 0) (n1 := 0) (by with_unfolding_all rfl)) ?_
                refine xe_get (v := .ref (w1 + 5)) hS rfl kw1 (by decide) rfl ?_
                refine ex_s (am_nb (m := 1) (pc1 := 75) (ls1 := [(0, .ref w0), (1, .ref w1), (2, .ref w2), (3, .int v3)]) (st1 := [.int v3, .ref (w1 + 5), .int v3, .ref w0]) (H1 := H) (k1 := 0) (n1 := 0) (by with_unfolding_all rfl)) ?_
                obtain ⟨r22, a23, e21, e⟩ := xb2_some e
                refine ex_cs1 (as := [.int v3]) (rest := [.ref (w1 + 5), .int v3, .ref w0]) rfl (by decide) rfl rfl (by with_unfolding_all rfl) (by with_unfolding_all rfl) (tf60_startOf hS e21) (fun H19 s20 => ?_)
                refine ex_s (am_nb (m := 2) (pc1 := 80) (ls1 := [(0, .ref w0), (1, .ref w1), (2, .ref w2), (3, .int v3)]) (st1 := [.int v3, .ref w1, .int r22, .ref (w1 + 5), .int v3, .ref w0]) (H1 := H19) (k1 := 0) (n1 := 0) (by with_unfolding_all rfl)) ?_
                obtain ⟨r27, a28, e26, e⟩ := xb2_some e
                refine ex_cv1 (as := [.int v3]) (rest := [.int r22, .ref (w1 + 5), .int v3, .ref w0]) rfl rfl rfl rfl (s20.obj kw1 (by decide)) rfl (by with_unfolding_all rfl) (by with_unfolding_all rfl) (tf65_lengthOf s20 e26) (fun H24 s25 => ?_)
                obtain ⟨a32, e31, e⟩ := xb1_some e
                refine ex_cv0 (as := [.int v3, .ref (w1 + 5), .int r22, .int r27]) (rest := []) rfl rfl rfl rfl (s25.obj kw0 (by decide)) rfl (by with_unfolding_all rfl) (by with_unfolding_all rfl) (tf59_tellString s25 e31) (fun H29 s30 => ?_)
                exact le_E (l1 := [(0, .ref w0), (1, .ref w1), (2, .ref w2), (3, .int v3)]) ⟨rfl, rfl, rfl, rfl, trivial⟩ rfl (tj64_86 k0 ih kw0 kw1 kw2 s30 e)
              · have e := (if_neg c18).symm.trans e
                refine ex_pc (if_neg c18) ?_
                refine ex_s (am_nb (m := 3) (pc1 := 57) (ls1 := [(0, .ref w0), (1, .ref w1), (2, .ref w2), (3, .int v3)]) (st1 := [.ref w1, .int v3, .ref w0]) (H1 := H) (k1 := 0) (n1 := 0) (by with_unfolding_all rfl)) ?_
                refine xe_get (v := .ref (w1 + 4)) hS rfl kw1 (by decide) rfl ?_
                refine ex_s (am_nb (m := 1) (pc1 := 61) (ls1 := [(0, .ref w0), (1, .ref w1), (2, .ref w2), (3, .int v3)]) (st1 := [.int v3, .ref (w1 + 4), .int v3, .ref w0]) (H1 := H) (k1 := 0) (n1 := 0) (by with_unfolding_all rfl)) ?_
                obtain ⟨g33, e⟩ := xg_some e
                refine xe_iald hS rfl (xd_2_4 kw1) g33 ?_
                obtain ⟨a37, e36, e⟩ := xb1_some e
                refine ex_cv0 (as := [.int v3, .int (a (w1 + 4) (v3.toNatClampNeg))]) (rest := []) rfl rfl rfl rfl (hS.obj kw0 (by decide)) rfl (by with_unfolding_all rfl) (by with_unfolding_all rfl) (tf48_tellNumber hS e36) (fun H34 s35 => ?_)
                refine ex_s (am_nb (m := 1) (pc1 := 86) (ls1 := [(0, .ref w0), (1, .ref w1), (2, .ref w2), (3, .int v3)]) (st1 := []) (H1 := H34) (k1 := 0) (n1 := 0) (by with_unfolding_all rfl)) ?_
                exact le_E (l1 := [(0, .ref w0), (1, .ref w1), (2, .ref w2), (3, .int v3)]) ⟨rfl, rfl, rfl, rfl, trivial⟩ rfl (tj64_86 k0 ih kw0 kw1 kw2 s35 e)
            · have e := (if_neg c16).symm.trans e
              refine ex_pc (if_neg c16) ?_
              refine ex_s (am_nb (m := 2) (pc1 := 42) (ls1 := [(0, .ref w0), (1, .ref w1), (2, .ref w2), (3, .int v3)]) (st1 := [.int v3, .ref w0]) (H1 := H) (k1 := 0) (n1 := 0) (by with_unfolding_all rfl)) ?_
              obtain ⟨a41, e40, e⟩ := xb1_some e
              refine ex_cv0 (as := [.int v3]) (rest := []) rfl rfl rfl rfl (hS.obj kw0 (by decide)) rfl (by with_unfolding_all rfl) (by with_unfolding_all rfl) (tf61_tellFlag hS e40) (fun H38 s39 => ?_)
              refine ex_s (am_nb (m := 1) (pc1 := 86) (ls1 := [(0, .ref w0), (1, .ref w1), (2, .ref w2), (3, .int v3)]) (st1 := []) (H1 := H38) (k1 := 0) (n1 := 0) (by with_unfolding_all rfl)) ?_
              exact le_E (l1 := [(0, .ref w0), (1, .ref w1), (2, .ref w2), (3, .int v3)]) ⟨rfl, rfl, rfl, rfl, trivial⟩ rfl (tj64_86 k0 ih kw0 kw1 kw2 s39 e)
        · have e := (if_neg c8).symm.trans e
          refine ex_pc (if_neg c8) ?_
          exact le_E (l1 := [(0, .ref w0), (1, .ref w1), (2, .ref w2), (3, .int v3)]) ⟨rfl, rfl, rfl, rfl, trivial⟩ rfl (tj64_86 k0 ih kw0 kw1 kw2 hS e)
      · have e := (if_neg c6).symm.trans e
        refine ex_pc (if_neg c6) ?_
        exact le_E (l1 := [(0, .ref w0), (1, .ref w1), (2, .ref w2), (3, .int v3)]) ⟨rfl, rfl, rfl, rfl, trivial⟩ rfl (tj64_86 k0 ih kw0 kw1 kw2 hS e)

set_option maxRecDepth 100000 in
theorem tf64_takeFrom {sL : Nat} {sx : Nat → Int32} {h b N : Nat} {T : List am_C} {a' : xA} {o : Nat} {x0 : Nat} {x1 : Nat} {a : xA} {H : am_H} (hS : xS h b T a H) (e : f64_takeFrom N h b o x0 x1 a = some a') : am_E sL sx am_cs 64 0 [(0, .ref o), (1, .ref x0), (2, .ref x1)] [] H none (fun H1 => xS h b T a' H1) := by
  unfold f64_takeFrom at e
  obtain ⟨g1, e⟩ := xg_some e
  obtain ⟨g2, e⟩ := xg_some e
  obtain ⟨g3, e⟩ := xg_some e
  refine ex_s (am_nb (m := 2) (pc1 := 2) (ls1 := [(3, .int 0), (0, .ref o), (1, .ref x0), (2, .ref x1)]) (st1 := []) (H1 := H) (k1 := 0) (n1 := 0) (by with_unfolding_all rfl)) ?_
  obtain ⟨z42, e43, e⟩ := Option.bind_eq_some_iff.mp e
  refine le_E (l1 := [(0, .ref o), (1, .ref x0), (2, .ref x1), (3, .int 0)]) ⟨rfl, rfl, rfl, rfl, trivial⟩ rfl (tl64_2 (z := z42) g1 g2 g3 (fun uz42_0 Hz420 sz420 => ?_) N 0 a H hS e43)
  cases e
  exact ex_r (st_vret rfl rfl) sz420

set_option maxRecDepth 100000 in
theorem tl63_10 {sL : Nat} {sx : Nat → Int32} {h b N : Nat} {T : List am_C} {R : Option Value} {F : am_H → Prop} {z : Nat × xA} (k0 : z.1 = 0 → ∀ H2 : am_H, xS h b T z.2 H2 → am_E sL sx am_cs 63 46 [(0, .ref 3)] [] H2 R F) : ∀ (n : Nat) (v1 : Int32) (a : xA) (H : am_H), xS h b T a H → l63_10 N h b n v1 a = some z → am_E sL sx am_cs 63 10 [(0, .ref 3), (1, .int v1)] [] H R F := by
  intro n
  induction n with
  | zero =>
    intro v1 a H hS e
    cases e
  | succ n ih =>
    intro v1 a H hS e
    unfold l63_10 at e
    refine ex_s (am_nb (m := 2) (pc1 := 12) (ls1 := [(0, .ref 3), (1, .int v1)]) (st1 := [.ref 3, .int v1]) (H1 := H) (k1 := 0) (n1 := 0) (by with_unfolding_all rfl)) ?_
    refine xe_get (v := .int (a 3 11)) hS rfl rfl (by decide) rfl ?_
    refine ex_s (st_icmp rfl) ?_
    by_cases c2 : (a 3 11) ≤ v1
    · have e := (if_pos c2).symm.trans e
      refine ex_pc (if_pos c2) ?_
      cases e
      exact le_E (l1 := [(0, .ref 3)]) ⟨rfl, trivial⟩ rfl (k0 rfl H hS)
    · have e := (if_neg c2).symm.trans e
      refine ex_pc (if_neg c2) ?_
      refine ex_s (am_nb (m := 1) (pc1 := 19) (ls1 := [(0, .ref 3), (1, .int v1)]) (st1 := [.ref 3]) (H1 := H) (k1 := 0) (n1 := 0) (by with_unfolding_all rfl)) ?_
      refine xe_get (v := xN (a 3 8)) hS rfl rfl (by decide) rfl ?_
      refine ex_s (am_nb (m := 1) (pc1 := 23) (ls1 := [(0, .ref 3), (1, .int v1)]) (st1 := [.ref 3, xN (a 3 8)]) (H1 := H) (k1 := 0) (n1 := 0) (by first | with_unfolding_all rfl | (unfold xN; (repeat' split) <;> with_unfolding_all rfl))) ?_
      refine xe_get (v := .ref 4) hS rfl rfl (by decide) rfl ?_
      refine ex_s (am_nb (m := 1) (pc1 := 27) (ls1 := [(0, .ref 3), (1, .int v1)]) (st1 := [.ref 3, .ref 4, xN (a 3 8)]) (H1 := H) (k1 := 0) (n1 := 0) (by first | with_unfolding_all rfl | (unfold xN; (repeat' split) <;> with_unfolding_all rfl))) ?_
      refine xe_get (v := .ref 7) hS rfl rfl (by decide) rfl ?_
      refine ex_s (am_nb (m := 1) (pc1 := 31) (ls1 := [(0, .ref 3), (1, .int v1)]) (st1 := [.int v1, .ref 7, .ref 4, xN (a 3 8)]) (H1 := H) (k1 := 0) (n1 := 0) (by first | with_unfolding_all rfl | (unfold xN; (repeat' split) <;> with_unfolding_all rfl))) ?_
      obtain ⟨g3, e⟩ := xg_some e
      refine xe_iald hS rfl rfl g3 ?_
      obtain ⟨g4, e⟩ := xg_some e
      refine xe_q4 hS rfl g4 ?_
      refine ex_s (am_nb (m := 1) (pc1 := 34) (ls1 := [(0, .ref 3), (1, .int v1)]) (st1 := [.ref 3, .ref (9 + 7 * (a 7 (v1.toNatClampNeg)).toNatClampNeg), xN (a 3 8)]) (H1 := H) (k1 := 0) (n1 := 0) (by first | with_unfolding_all rfl | (unfold xN; (repeat' split) <;> with_unfolding_all rfl))) ?_
      refine xe_get (v := .ref 6) hS rfl rfl (by decide) rfl ?_
      obtain ⟨g5, e⟩ := xg_some e
      rw [show xN (a 3 8) = .ref ((a 3 8).toNatClampNeg) from if_neg g5]
      obtain ⟨g6, e⟩ := xg_some e
      obtain ⟨a10, e9, e⟩ := xb1_some e
      refine ex_cv0 (as := [.ref (9 + 7 * (a 7 (v1.toNatClampNeg)).toNatClampNeg), .ref 6]) (rest := []) rfl rfl rfl rfl (hS.obj g6 (by decide)) rfl (by with_unfolding_all rfl) (by with_unfolding_all rfl) (tf64_takeFrom hS e9) (fun H7 s8 => ?_)
      refine ex_s (am_nb (m := 2) (pc1 := 10) (ls1 := [(1, .int (v1 + 1)), (0, .ref 3)]) (st1 := []) (H1 := H7) (k1 := 0) (n1 := 0) (by with_unfolding_all rfl)) ?_
      exact le_E (l1 := [(0, .ref 3), (1, .int (v1 + 1))]) ⟨rfl, rfl, trivial⟩ rfl (ih (v1 + 1) a10 H7 s8 e)

set_option maxRecDepth 100000 in
theorem tf63_finishEntry {sL : Nat} {sx : Nat → Int32} {h b N : Nat} {T : List am_C} {a' : xA} {a : xA} {H : am_H} (hS : xS h b T a H) (e : f63_finishEntry N h b a = some a') : am_E sL sx am_cs 63 0 [(0, .ref 3)] [] H none (fun H1 => xS h b T a' H1) := by
  unfold f63_finishEntry at e
  refine ex_s (am_nb (m := 1) (pc1 := 1) (ls1 := [(0, .ref 3)]) (st1 := [.ref 3]) (H1 := H) (k1 := 0) (n1 := 0) (by with_unfolding_all rfl)) ?_
  refine xe_get (v := xN (a 3 8)) hS rfl rfl (by decide) rfl ?_
  by_cases c1 : (a 3 8) = -1
  · have e := (if_pos c1).symm.trans e
    rw [show xN (a 3 8) = .null from if_pos c1]
    refine ex_s (am_nb (m := 1) (pc1 := 7) (ls1 := [(0, .ref 3)]) (st1 := []) (H1 := H) (k1 := 0) (n1 := 0) (by with_unfolding_all rfl)) ?_
    cases e
    exact ex_r (st_vret rfl rfl) hS
  · have e := (if_neg c1).symm.trans e
    rw [show xN (a 3 8) = .ref ((a 3 8).toNatClampNeg) from if_neg c1]
    refine ex_s (am_nb (m := 1) (pc1 := 8) (ls1 := [(0, .ref 3)]) (st1 := []) (H1 := H) (k1 := 0) (n1 := 0) (by with_unfolding_all rfl)) ?_
    refine ex_s (am_nb (m := 2) (pc1 := 10) (ls1 := [(1, .int 0), (0, .ref 3)]) (st1 := []) (H1 := H) (k1 := 0) (n1 := 0) (by with_unfolding_all rfl)) ?_
    obtain ⟨z11, e12, e⟩ := Option.bind_eq_some_iff.mp e
    refine le_E (l1 := [(0, .ref 3), (1, .int 0)]) ⟨rfl, rfl, trivial⟩ rfl (tl63_10 (z := z11)  (fun uz11_0 Hz110 sz110 => ?_) N 0 a H hS e12)
    refine ex_s (am_nb (m := 2) (pc1 := 48) (ls1 := [(0, .ref 3)]) (st1 := [.null, .ref 3]) (H1 := Hz110) (k1 := 0) (n1 := 0) (by with_unfolding_all rfl)) ?_
    obtain ⟨a13, ha13, e⟩ := xw_some e
    refine xe_putN (w := (-1)) sz110 rfl rfl (by decide) rfl rfl rfl xfit_o rfl (fun H14 s15 => ?_)
    have s15 : xS h b T a13 H14 := by rw [ha13]; exact s15
    refine ex_s (am_nb (m := 2) (pc1 := 53) (ls1 := [(0, .ref 3)]) (st1 := [.ref 3, .ref 3]) (H1 := H14) (k1 := 0) (n1 := 0) (by with_unfolding_all rfl)) ?_
    refine xe_get (v := .int (a13 3 7)) s15 rfl rfl (by decide) rfl ?_
    refine ex_s (am_nb (m := 2) (pc1 := 58) (ls1 := [(0, .ref 3)]) (st1 := [.int ((a13 3 7) + 1), .ref 3]) (H1 := H14) (k1 := 0) (n1 := 0) (by with_unfolding_all rfl)) ?_
    obtain ⟨a16, ha16, e⟩ := xw_some e
    refine xe_put (w := ((a13 3 7) + 1)) s15 rfl rfl (by decide) rfl rfl rfl rfl (fun H17 s18 => ?_)
    have s18 : xS h b T a16 H17 := by rw [ha16]; exact s18
    cases e
    exact ex_r (st_vret rfl rfl) s18

set_option maxRecDepth 100000 in
theorem tl67_7 {sL : Nat} {sx : Nat → Int32} {h b N : Nat} {T : List am_C} {R : Option Value} {F : am_H → Prop} {w0 : Nat} {z : Nat × xA} (kw0 : xk w0 = 3) (k0 : z.1 = 0 → ∀ H2 : am_H, xS h b T z.2 H2 → am_E sL sx am_cs 67 26 [] [] H2 R F) : ∀ (n : Nat) (v1 : Int32) (a : xA) (H : am_H), xS h b T a H → l67_7 N h b w0 n v1 a = some z → am_E sL sx am_cs 67 7 [(0, .ref w0), (1, .int v1)] [] H R F := by
  intro n
  induction n with
  | zero =>
    intro v1 a H hS e
    cases e
  | succ n ih =>
    intro v1 a H hS e
    unfold l67_7 at e
    refine ex_s (am_nb (m := 2) (pc1 := 10) (ls1 := [(0, .ref w0), (1, .int v1)]) (st1 := [.int 39, .int v1]) (H1 := H) (k1 := 0) (n1 := 0) (by with_unfolding_all rfl)) ?_
    refine ex_s (st_icmp rfl) ?_
    by_cases c5 : 39 ≤ v1
    · have e := (if_pos c5).symm.trans e
      refine ex_pc (if_pos c5) ?_
      cases e
      exact le_E (l1 := []) trivial rfl (k0 rfl H hS)
    · have e := (if_neg c5).symm.trans e
      refine ex_pc (if_neg c5) ?_
      refine ex_s (am_nb (m := 1) (pc1 := 14) (ls1 := [(0, .ref w0), (1, .int v1)]) (st1 := [.ref w0]) (H1 := H) (k1 := 0) (n1 := 0) (by with_unfolding_all rfl)) ?_
      refine xe_get (v := .ref (w0 + 3)) hS rfl kw0 (by decide) rfl ?_
      refine ex_s (am_nb (m := 2) (pc1 := 19) (ls1 := [(0, .ref w0), (1, .int v1)]) (st1 := [.int 0, .int v1, .ref (w0 + 3)]) (H1 := H) (k1 := 0) (n1 := 0) (by with_unfolding_all rfl)) ?_
      obtain ⟨g9, e⟩ := xg_some e
      obtain ⟨a6, ha6, e⟩ := xw_some e
      refine xe_zast hS rfl (xd_2_3 kw0) g9 (fun H7 s8 => ?_)
      have s8 : xS h b T a6 H7 := by rw [ha6]; exact s8
      refine ex_s (am_nb (m := 2) (pc1 := 7) (ls1 := [(1, .int (v1 + 1)), (0, .ref w0)]) (st1 := []) (H1 := H7) (k1 := 0) (n1 := 0) (by with_unfolding_all rfl)) ?_
      exact le_E (l1 := [(0, .ref w0), (1, .int (v1 + 1))]) ⟨rfl, rfl, trivial⟩ rfl (ih (v1 + 1) a6 H7 s8 e)

set_option maxRecDepth 100000 in
theorem tf67_begin {sL : Nat} {sx : Nat → Int32} {h b N : Nat} {T : List am_C} {a' : xA} {o : Nat} {a : xA} {H : am_H} (hS : xS h b T a H) (e : f67_begin N h b o a = some a') : am_E sL sx am_cs 67 0 [(0, .ref o)] [] H none (fun H1 => xS h b T a' H1) := by
  unfold f67_begin at e
  obtain ⟨g1, e⟩ := xg_some e
  refine ex_s (am_nb (m := 2) (pc1 := 2) (ls1 := [(0, .ref o)]) (st1 := [.int 0, .ref o]) (H1 := H) (k1 := 0) (n1 := 0) (by with_unfolding_all rfl)) ?_
  obtain ⟨a2, ha2, e⟩ := xw_some e
  refine xe_put (w := 0) hS rfl g1 (by decide) rfl rfl rfl rfl (fun H3 s4 => ?_)
  have s4 : xS h b T a2 H3 := by rw [ha2]; exact s4
  refine ex_s (am_nb (m := 2) (pc1 := 7) (ls1 := [(1, .int 0), (0, .ref o)]) (st1 := []) (H1 := H3) (k1 := 0) (n1 := 0) (by with_unfolding_all rfl)) ?_
  obtain ⟨z10, e11, e⟩ := Option.bind_eq_some_iff.mp e
  refine le_E (l1 := [(0, .ref o), (1, .int 0)]) ⟨rfl, rfl, trivial⟩ rfl (tl67_7 (z := z10) g1 (fun uz10_0 Hz100 sz100 => ?_) N 0 a2 H3 s4 e11)
  cases e
  exact ex_r (st_vret rfl rfl) sz100

set_option maxRecDepth 100000 in
theorem tl66_27 {sL : Nat} {sx : Nat → Int32} {h b N : Nat} {T : List am_C} {R : Option Value} {F : am_H → Prop} {z : Nat × xA} (k0 : z.1 = 0 → ∀ H2 : am_H, xS h b T z.2 H2 → am_E sL sx am_cs 66 46 [] [] H2 R F) : ∀ (n : Nat) (v1 : Int32) (a : xA) (H : am_H), xS h b T a H → l66_27 N h b n v1 a = some z → am_E sL sx am_cs 66 27 [(0, .ref 3), (1, .int v1)] [] H R F := by
  intro n
  induction n with
  | zero =>
    intro v1 a H hS e
    cases e
  | succ n ih =>
    intro v1 a H hS e
    unfold l66_27 at e
    refine ex_s (am_nb (m := 2) (pc1 := 30) (ls1 := [(0, .ref 3), (1, .int v1)]) (st1 := [.int 39, .int v1]) (H1 := H) (k1 := 0) (n1 := 0) (by with_unfolding_all rfl)) ?_
    refine ex_s (st_icmp rfl) ?_
    by_cases c14 : 39 ≤ v1
    · have e := (if_pos c14).symm.trans e
      refine ex_pc (if_pos c14) ?_
      cases e
      exact le_E (l1 := []) trivial rfl (k0 rfl H hS)
    · have e := (if_neg c14).symm.trans e
      refine ex_pc (if_neg c14) ?_
      refine ex_s (am_nb (m := 1) (pc1 := 34) (ls1 := [(0, .ref 3), (1, .int v1)]) (st1 := [.ref 3]) (H1 := H) (k1 := 0) (n1 := 0) (by with_unfolding_all rfl)) ?_
      refine xe_get (v := .ref 6) hS rfl rfl (by decide) rfl ?_
      refine ex_s (am_nb (m := 2) (pc1 := 39) (ls1 := [(0, .ref 3), (1, .int v1)]) (st1 := [.int 0, .int v1, .ref 6]) (H1 := H) (k1 := 0) (n1 := 0) (by with_unfolding_all rfl)) ?_
      obtain ⟨g18, e⟩ := xg_some e
      obtain ⟨a15, ha15, e⟩ := xw_some e
      refine xe_zast hS rfl rfl g18 (fun H16 s17 => ?_)
      have s17 : xS h b T a15 H16 := by rw [ha15]; exact s17
      refine ex_s (am_nb (m := 2) (pc1 := 27) (ls1 := [(1, .int (v1 + 1)), (0, .ref 3)]) (st1 := []) (H1 := H16) (k1 := 0) (n1 := 0) (by with_unfolding_all rfl)) ?_
      exact le_E (l1 := [(0, .ref 3), (1, .int (v1 + 1))]) ⟨rfl, rfl, trivial⟩ rfl (ih (v1 + 1) a15 H16 s17 e)

set_option maxRecDepth 100000 in
theorem tf66_beginEntry {sL : Nat} {sx : Nat → Int32} {h b N : Nat} {T : List am_C} {a' : xA} {a : xA} {H : am_H} (hS : xS h b T a H) (e : f66_beginEntry N h b a = some a') : am_E sL sx am_cs 66 0 [(0, .ref 3)] [] H none (fun H1 => xS h b T a' H1) := by
  unfold f66_beginEntry at e
  refine ex_s (am_nb (m := 2) (pc1 := 2) (ls1 := [(0, .ref 3)]) (st1 := [.ref 3, .ref 3]) (H1 := H) (k1 := 0) (n1 := 0) (by with_unfolding_all rfl)) ?_
  refine xe_get (v := .ref 4) hS rfl rfl (by decide) rfl ?_
  refine ex_s (am_nb (m := 1) (pc1 := 6) (ls1 := [(0, .ref 3)]) (st1 := [.ref 3, .ref 4, .ref 3]) (H1 := H) (k1 := 0) (n1 := 0) (by with_unfolding_all rfl)) ?_
  refine xe_get (v := .int (a 3 7)) hS rfl rfl (by decide) rfl ?_
  obtain ⟨g1, e⟩ := xg_some e
  refine xe_q4 hS rfl g1 ?_
  obtain ⟨a2, ha2, e⟩ := xw_some e
  refine xe_putN (w := (Int32.ofNat (9 + 7 * (a 3 7).toNatClampNeg))) hS rfl rfl (by decide) rfl rfl (xN_of (xkq4 g1) (by decide)).symm xfit_o rfl (fun H3 s4 => ?_)
  have s4 : xS h b T a2 H3 := by rw [ha2]; exact s4
  refine ex_s (am_nb (m := 1) (pc1 := 14) (ls1 := [(0, .ref 3)]) (st1 := [.ref 3]) (H1 := H3) (k1 := 0) (n1 := 0) (by with_unfolding_all rfl)) ?_
  refine xe_get (v := xN (a2 3 8)) s4 rfl rfl (by decide) rfl ?_
  obtain ⟨g5, e⟩ := xg_some e
  rw [show xN (a2 3 8) = .ref ((a2 3 8).toNatClampNeg) from if_neg g5]
  obtain ⟨g6, e⟩ := xg_some e
  obtain ⟨a10, e9, e⟩ := xb1_some e
  refine ex_cv0 (as := []) (rest := []) rfl rfl rfl rfl (s4.obj g6 (by decide)) rfl (by with_unfolding_all rfl) (by with_unfolding_all rfl) (tf67_begin s4 e9) (fun H7 s8 => ?_)
  refine ex_s (am_nb (m := 2) (pc1 := 22) (ls1 := [(0, .ref 3)]) (st1 := [.int 0, .ref 3]) (H1 := H7) (k1 := 0) (n1 := 0) (by with_unfolding_all rfl)) ?_
  obtain ⟨a11, ha11, e⟩ := xw_some e
  refine xe_put (w := 0) s8 rfl rfl (by decide) rfl rfl rfl rfl (fun H12 s13 => ?_)
  have s13 : xS h b T a11 H12 := by rw [ha11]; exact s13
  refine ex_s (am_nb (m := 2) (pc1 := 27) (ls1 := [(1, .int 0), (0, .ref 3)]) (st1 := []) (H1 := H12) (k1 := 0) (n1 := 0) (by with_unfolding_all rfl)) ?_
  obtain ⟨z19, e20, e⟩ := Option.bind_eq_some_iff.mp e
  refine le_E (l1 := [(0, .ref 3), (1, .int 0)]) ⟨rfl, rfl, trivial⟩ rfl (tl66_27 (z := z19)  (fun uz19_0 Hz190 sz190 => ?_) N 0 a11 H12 s13 e20)
  cases e
  exact ex_r (st_vret rfl rfl) sz190

set_option maxRecDepth 100000 in
theorem tf69_addName {sL : Nat} {sx : Nat → Int32} {h b N : Nat} {T : List am_C} {a' : xA} {o : Nat} {x0 : Nat} {x1 : Int32} {x2 : Int32} {a : xA} {H : am_H} (hS : xS h b T a H) (e : f69_addName N h b o x0 x1 x2 a = some a') : am_E sL sx am_cs 69 0 [(0, .ref o), (1, .ref x0), (2, .int x1), (3, .int x2)] [] H none (fun H1 => xS h b T a' H1) := by
  unfold f69_addName at e
  obtain ⟨g1, e⟩ := xg_some e
  obtain ⟨g2, e⟩ := xg_some e
  refine ex_s (am_nb (m := 1) (pc1 := 1) (ls1 := [(0, .ref o), (1, .ref x0), (2, .int x1), (3, .int x2)]) (st1 := [.ref o]) (H1 := H) (k1 := 0) (n1 := 0) (by with_unfolding_all rfl)) ?_
  refine xe_get (v := .int (a o 2)) hS rfl g1 (by decide) rfl ?_
  refine ex_s (am_nb (m := 1) (pc1 := 5) (ls1 := [(0, .ref o), (1, .ref x0), (2, .int x1), (3, .int x2)]) (st1 := [.int 4, .int (a o 2)]) (H1 := H) (k1 := 0) (n1 := 0) (by with_unfolding_all rfl)) ?_
  refine ex_s (st_icmp rfl) ?_
  by_cases c5 : 4 ≤ (a o 2)
  · have e := (if_pos c5).symm.trans e
    refine ex_pc (if_pos c5) ?_
    cases e
    exact ex_r (st_vret rfl rfl) hS
  · have e := (if_neg c5).symm.trans e
    refine ex_pc (if_neg c5) ?_
    refine ex_s (am_nb (m := 2) (pc1 := 11) (ls1 := [(0, .ref o), (1, .ref x0), (2, .int x1), (3, .int x2)]) (st1 := [.int 12, .int x2]) (H1 := H) (k1 := 0) (n1 := 0) (by with_unfolding_all rfl)) ?_
    refine ex_s (st_icmp rfl) ?_
    by_cases c7 : 12 < x2
    · have e := (if_pos c7).symm.trans e
      refine ex_pc (if_pos c7) ?_
      cases e
      exact ex_r (st_vret rfl rfl) hS
    · have e := (if_neg c7).symm.trans e
      refine ex_pc (if_neg c7) ?_
      refine ex_s (am_nb (m := 2) (pc1 := 16) (ls1 := [(0, .ref o), (1, .ref x0), (2, .int x1), (3, .int x2)]) (st1 := [.ref x0, .int x1]) (H1 := H) (k1 := 0) (n1 := 0) (by with_unfolding_all rfl)) ?_
      refine xe_alenc (v := Int32.ofNat (xl h b x0)) hS rfl g2 rfl ?_
      refine ex_s (am_nb (m := 2) (pc1 := 19) (ls1 := [(0, .ref o), (1, .ref x0), (2, .int x1), (3, .int x2)]) (st1 := [.int ((Int32.ofNat (xl h b x0)) - x2), .int x1]) (H1 := H) (k1 := 0) (n1 := 0) (by with_unfolding_all rfl)) ?_
      refine ex_s (st_icmp rfl) ?_
      by_cases c8 : x1 ≤ ((Int32.ofNat (xl h b x0)) - x2)
      · have e := (if_pos c8).symm.trans e
        refine ex_pc (if_pos c8) ?_
        refine ex_s (am_nb (m := 3) (pc1 := 26) (ls1 := [(0, .ref o), (1, .ref x0), (2, .int x1), (3, .int x2)]) (st1 := [.ref o, .int x1, .ref x0]) (H1 := H) (k1 := 0) (n1 := 0) (by with_unfolding_all rfl)) ?_
        refine xe_get (v := .ref (o + 1)) hS rfl g1 (by decide) rfl ?_
        refine ex_s (am_nb (m := 1) (pc1 := 30) (ls1 := [(0, .ref o), (1, .ref x0), (2, .int x1), (3, .int x2)]) (st1 := [.ref o, .ref (o + 1), .int x1, .ref x0]) (H1 := H) (k1 := 0) (n1 := 0) (by with_unfolding_all rfl)) ?_
        refine xe_get (v := .int (a o 2)) hS rfl g1 (by decide) rfl ?_
        refine ex_s (am_nb (m := 3) (pc1 := 37) (ls1 := [(0, .ref o), (1, .ref x0), (2, .int x1), (3, .int x2)]) (st1 := [.int x2, .int ((a o 2) * 12), .ref (o + 1), .int x1, .ref x0]) (H1 := H) (k1 := 0) (n1 := 0) (by with_unfolding_all rfl)) ?_
        obtain ⟨g9, e⟩ := xg_some e
        obtain ⟨a10, ha10, e⟩ := xw_some e
        refine xe_copy hS rfl g2 (xd_2_1 g1) g9 (by decide) (fun H11 s12 => ?_)
        have s12 : xS h b T a10 H11 := by rw [ha10]; exact s12
        refine ex_s (am_nb (m := 1) (pc1 := 41) (ls1 := [(0, .ref o), (1, .ref x0), (2, .int x1), (3, .int x2)]) (st1 := [.ref o]) (H1 := H11) (k1 := 0) (n1 := 0) (by with_unfolding_all rfl)) ?_
        refine xe_get (v := .ref (o + 2)) s12 rfl g1 (by decide) rfl ?_
        refine ex_s (am_nb (m := 1) (pc1 := 45) (ls1 := [(0, .ref o), (1, .ref x0), (2, .int x1), (3, .int x2)]) (st1 := [.ref o, .ref (o + 2)]) (H1 := H11) (k1 := 0) (n1 := 0) (by with_unfolding_all rfl)) ?_
        refine xe_get (v := .int (a10 o 2)) s12 rfl g1 (by decide) rfl ?_
        refine ex_s (am_nb (m := 1) (pc1 := 49) (ls1 := [(0, .ref o), (1, .ref x0), (2, .int x1), (3, .int x2)]) (st1 := [.int x2, .int (a10 o 2), .ref (o + 2)]) (H1 := H11) (k1 := 0) (n1 := 0) (by with_unfolding_all rfl)) ?_
        obtain ⟨g16, e⟩ := xg_some e
        obtain ⟨a13, ha13, e⟩ := xw_some e
        refine xe_iast s12 rfl (xd_2_2 g1) g16 (fun H14 s15 => ?_)
        have s15 : xS h b T a13 H14 := by rw [ha13]; exact s15
        refine ex_s (am_nb (m := 2) (pc1 := 52) (ls1 := [(0, .ref o), (1, .ref x0), (2, .int x1), (3, .int x2)]) (st1 := [.ref o, .ref o]) (H1 := H14) (k1 := 0) (n1 := 0) (by with_unfolding_all rfl)) ?_
        refine xe_get (v := .int (a13 o 2)) s15 rfl g1 (by decide) rfl ?_
        refine ex_s (am_nb (m := 2) (pc1 := 57) (ls1 := [(0, .ref o), (1, .ref x0), (2, .int x1), (3, .int x2)]) (st1 := [.int ((a13 o 2) + 1), .ref o]) (H1 := H14) (k1 := 0) (n1 := 0) (by with_unfolding_all rfl)) ?_
        obtain ⟨a17, ha17, e⟩ := xw_some e
        refine xe_put (w := ((a13 o 2) + 1)) s15 rfl g1 (by decide) rfl rfl rfl rfl (fun H18 s19 => ?_)
        have s19 : xS h b T a17 H18 := by rw [ha17]; exact s19
        cases e
        exact ex_r (st_vret rfl rfl) s19
      · have e := (if_neg c8).symm.trans e
        refine ex_pc (if_neg c8) ?_
        cases e
        exact ex_r (st_vret rfl rfl) hS

set_option maxRecDepth 100000 in
theorem tf68_readName {sL : Nat} {sx : Nat → Int32} {h b N : Nat} {T : List am_C} {r : Int32} {a' : xA} {x0 : Int32} {a : xA} {H : am_H} (hS : xS h b T a H) (e : f68_readName N h b x0 a = some (r, a')) : am_E sL sx am_cs 68 0 [(0, .ref 3), (1, .int x0)] [] H (some (.int r)) (fun H1 => xS h b T a' H1) := by
  unfold f68_readName at e
  refine ex_s (am_nb (m := 1) (pc1 := 1) (ls1 := [(0, .ref 3), (1, .int x0)]) (st1 := [.ref 3]) (H1 := H) (k1 := 0) (n1 := 0) (by with_unfolding_all rfl)) ?_
  refine xe_get (v := .int (a 3 6)) hS rfl rfl (by decide) rfl ?_
  refine ex_s (am_nb (m := 2) (pc1 := 6) (ls1 := [(2, .int (a 3 6)), (0, .ref 3), (1, .int x0)]) (st1 := [.ref 3]) (H1 := H) (k1 := 0) (n1 := 0) (by with_unfolding_all rfl)) ?_
  obtain ⟨r4, a5, e3, e⟩ := xb2_some e
  refine ex_cv1 (as := []) (rest := []) rfl rfl rfl rfl (hS.obj rfl (by decide)) rfl (by with_unfolding_all rfl) (by with_unfolding_all rfl) (tf38_passName hS e3) (fun H1 s2 => ?_)
  refine ex_s (st_if rfl) ?_
  by_cases c6 : r4 = 0
  · have e := (if_pos c6).symm.trans e
    refine ex_pc (if_pos c6) ?_
    refine ex_s (am_nb (m := 1) (pc1 := 13) (ls1 := [(2, .int (a 3 6)), (0, .ref 3), (1, .int x0)]) (st1 := [.int 0]) (H1 := H1) (k1 := 0) (n1 := 0) (by with_unfolding_all rfl)) ?_
    cases e
    exact ex_r (st_iret rfl rfl rfl) s2
  · have e := (if_neg c6).symm.trans e
    refine ex_pc (if_neg c6) ?_
    refine ex_s (am_nb (m := 1) (pc1 := 15) (ls1 := [(2, .int (a 3 6)), (0, .ref 3), (1, .int x0)]) (st1 := [.ref 3]) (H1 := H1) (k1 := 0) (n1 := 0) (by with_unfolding_all rfl)) ?_
    refine xe_get (v := .int (a5 3 6)) s2 rfl rfl (by decide) rfl ?_
    refine ex_s (am_nb (m := 5) (pc1 := 24) (ls1 := [(3, .int ((a5 3 6) - (a 3 6))), (2, .int (a 3 6)), (0, .ref 3), (1, .int x0)]) (st1 := [.int 12, .int ((a5 3 6) - (a 3 6))]) (H1 := H1) (k1 := 0) (n1 := 0) (by with_unfolding_all rfl)) ?_
    refine ex_s (st_icmp rfl) ?_
    by_cases c7 : ((a5 3 6) - (a 3 6)) ≤ 12
    · have e := (if_pos c7).symm.trans e
      refine ex_pc (if_pos c7) ?_
      refine ex_s (am_nb (m := 2) (pc1 := 36) (ls1 := [(3, .int ((a5 3 6) - (a 3 6))), (2, .int (a 3 6)), (0, .ref 3), (1, .int x0)]) (st1 := [.ref 3, .ref 3]) (H1 := H1) (k1 := 0) (n1 := 0) (by with_unfolding_all rfl)) ?_
      refine xe_get (v := xN (a5 3 4)) s2 rfl rfl (by decide) rfl ?_
      refine ex_s (am_nb (m := 3) (pc1 := 42) (ls1 := [(3, .int ((a5 3 6) - (a 3 6))), (2, .int (a 3 6)), (0, .ref 3), (1, .int x0)]) (st1 := [.ref 3, .int ((a5 3 6) - (a 3 6)), .int (a 3 6), xN (a5 3 4), .ref 3]) (H1 := H1) (k1 := 0) (n1 := 0) (by first | with_unfolding_all rfl | (unfold xN; (repeat' split) <;> with_unfolding_all rfl))) ?_
      refine xe_get (v := .int (a5 3 7)) s2 rfl rfl (by decide) rfl ?_
      refine ex_s (am_nb (m := 2) (pc1 := 47) (ls1 := [(3, .int ((a5 3 6) - (a 3 6))), (2, .int (a 3 6)), (0, .ref 3), (1, .int x0)]) (st1 := [.int ((a5 3 7) + 1), .int ((a5 3 6) - (a 3 6)), .int (a 3 6), xN (a5 3 4), .ref 3]) (H1 := H1) (k1 := 0) (n1 := 0) (by first | with_unfolding_all rfl | (unfold xN; (repeat' split) <;> with_unfolding_all rfl))) ?_
      obtain ⟨g8, e⟩ := xg_some e
      rw [show xN (a5 3 4) = .ref ((a5 3 4).toNatClampNeg) from if_neg g8]
      obtain ⟨r12, a13, e11, e⟩ := xb2_some e
      refine ex_cv1 (as := [.ref ((a5 3 4).toNatClampNeg), .int (a 3 6), .int ((a5 3 6) - (a 3 6)), .int ((a5 3 7) + 1)]) (rest := []) rfl rfl rfl rfl (s2.obj rfl (by decide)) rfl (by with_unfolding_all rfl) (by with_unfolding_all rfl) (tf40_indexNamed s2 e11) (fun H9 s10 => ?_)
      refine ex_s (am_nb (m := 1) (pc1 := 51) (ls1 := [(3, .int ((a5 3 6) - (a 3 6))), (2, .int (a 3 6)), (0, .ref 3), (1, .int x0)]) (st1 := [.int (-1), .int r12]) (H1 := H9) (k1 := 0) (n1 := 0) (by with_unfolding_all rfl)) ?_
      refine ex_s (st_icmp rfl) ?_
      by_cases c14 : r12 = (-1)
      · have e := (if_pos c14).symm.trans e
        refine ex_pc (if_pos c14) ?_
        refine ex_s (am_nb (m := 2) (pc1 := 63) (ls1 := [(3, .int ((a5 3 6) - (a 3 6))), (2, .int (a 3 6)), (0, .ref 3), (1, .int x0)]) (st1 := [.int 4, .int x0]) (H1 := H9) (k1 := 0) (n1 := 0) (by with_unfolding_all rfl)) ?_
        refine ex_s (st_icmp rfl) ?_
        by_cases c15 : x0 < 4
        · have e := (if_pos c15).symm.trans e
          refine ex_pc (if_pos c15) ?_
          refine ex_s (am_nb (m := 1) (pc1 := 75) (ls1 := [(3, .int ((a5 3 6) - (a 3 6))), (2, .int (a 3 6)), (0, .ref 3), (1, .int x0)]) (st1 := [.ref 3]) (H1 := H9) (k1 := 0) (n1 := 0) (by with_unfolding_all rfl)) ?_
          refine xe_get (v := xN (a13 3 8)) s10 rfl rfl (by decide) rfl ?_
          refine ex_s (am_nb (m := 1) (pc1 := 79) (ls1 := [(3, .int ((a5 3 6) - (a 3 6))), (2, .int (a 3 6)), (0, .ref 3), (1, .int x0)]) (st1 := [.ref 3, xN (a13 3 8)]) (H1 := H9) (k1 := 0) (n1 := 0) (by first | with_unfolding_all rfl | (unfold xN; (repeat' split) <;> with_unfolding_all rfl))) ?_
          refine xe_get (v := xN (a13 3 4)) s10 rfl rfl (by decide) rfl ?_
          refine ex_s (am_nb (m := 2) (pc1 := 84) (ls1 := [(3, .int ((a5 3 6) - (a 3 6))), (2, .int (a 3 6)), (0, .ref 3), (1, .int x0)]) (st1 := [.int ((a5 3 6) - (a 3 6)), .int (a 3 6), xN (a13 3 4), xN (a13 3 8)]) (H1 := H9) (k1 := 0) (n1 := 0) (by first | with_unfolding_all rfl | (unfold xN; (repeat' split) <;> with_unfolding_all rfl))) ?_
          obtain ⟨g16, e⟩ := xg_some e
          rw [show xN (a13 3 4) = .ref ((a13 3 4).toNatClampNeg) from if_neg g16]
          obtain ⟨g17, e⟩ := xg_some e
          rw [show xN (a13 3 8) = .ref ((a13 3 8).toNatClampNeg) from if_neg g17]
          obtain ⟨g18, e⟩ := xg_some e
          obtain ⟨a22, e21, e⟩ := xb1_some e
          refine ex_cv0 (as := [.ref ((a13 3 4).toNatClampNeg), .int (a 3 6), .int ((a5 3 6) - (a 3 6))]) (rest := []) rfl rfl rfl rfl (s10.obj g18 (by decide)) rfl (by with_unfolding_all rfl) (by with_unfolding_all rfl) (tf69_addName s10 e21) (fun H19 s20 => ?_)
          refine ex_s (am_nb (m := 1) (pc1 := 88) (ls1 := [(3, .int ((a5 3 6) - (a 3 6))), (2, .int (a 3 6)), (0, .ref 3), (1, .int x0)]) (st1 := [.int 1]) (H1 := H19) (k1 := 0) (n1 := 0) (by with_unfolding_all rfl)) ?_
          cases e
          exact ex_r (st_iret rfl rfl rfl) s20
        · have e := (if_neg c15).symm.trans e
          refine ex_pc (if_neg c15) ?_
          refine ex_s (am_nb (m := 3) (pc1 := 70) (ls1 := [(3, .int ((a5 3 6) - (a 3 6))), (2, .int (a 3 6)), (0, .ref 3), (1, .int x0)]) (st1 := [.int (a 3 6), .int 11, .ref 3]) (H1 := H9) (k1 := 0) (n1 := 0) (by with_unfolding_all rfl)) ?_
          obtain ⟨r26, a27, e25, e⟩ := xb2_some e
          refine ex_cv1 (as := [.int 11, .int (a 3 6)]) (rest := []) rfl rfl rfl rfl (s10.obj rfl (by decide)) rfl (by with_unfolding_all rfl) (by with_unfolding_all rfl) (tf26_failed s10 e25) (fun H23 s24 => ?_)
          obtain ⟨g28, e⟩ := xg_some e
          cases e
          exact ex_r (st_iret rfl rfl (xnar_z g28)) s24
      · have e := (if_neg c14).symm.trans e
        refine ex_pc (if_neg c14) ?_
        refine ex_s (am_nb (m := 3) (pc1 := 57) (ls1 := [(3, .int ((a5 3 6) - (a 3 6))), (2, .int (a 3 6)), (0, .ref 3), (1, .int x0)]) (st1 := [.int (a 3 6), .int 3, .ref 3]) (H1 := H9) (k1 := 0) (n1 := 0) (by with_unfolding_all rfl)) ?_
        obtain ⟨r32, a33, e31, e⟩ := xb2_some e
        refine ex_cv1 (as := [.int 3, .int (a 3 6)]) (rest := []) rfl rfl rfl rfl (s10.obj rfl (by decide)) rfl (by with_unfolding_all rfl) (by with_unfolding_all rfl) (tf26_failed s10 e31) (fun H29 s30 => ?_)
        obtain ⟨g34, e⟩ := xg_some e
        cases e
        exact ex_r (st_iret rfl rfl (xnar_z g34)) s30
    · have e := (if_neg c7).symm.trans e
      refine ex_pc (if_neg c7) ?_
      refine ex_s (am_nb (m := 3) (pc1 := 30) (ls1 := [(3, .int ((a5 3 6) - (a 3 6))), (2, .int (a 3 6)), (0, .ref 3), (1, .int x0)]) (st1 := [.int (a 3 6), .int 2, .ref 3]) (H1 := H1) (k1 := 0) (n1 := 0) (by with_unfolding_all rfl)) ?_
      obtain ⟨r38, a39, e37, e⟩ := xb2_some e
      refine ex_cv1 (as := [.int 2, .int (a 3 6)]) (rest := []) rfl rfl rfl rfl (s2.obj rfl (by decide)) rfl (by with_unfolding_all rfl) (by with_unfolding_all rfl) (tf26_failed s2 e37) (fun H35 s36 => ?_)
      obtain ⟨g40, e⟩ := xg_some e
      cases e
      exact ex_r (st_iret rfl rfl (xnar_z g40)) s36

set_option maxRecDepth 100000 in
theorem tj62_113 {sL : Nat} {sx : Nat → Int32} {h b N : Nat} {T : List am_C} {R : Option Value} {F : am_H → Prop} {z : Nat × xA} {rc : Int32 → xA → Option (Nat × xA)} (k0 : z.1 = 0 → ∀ H2 : am_H, xS h b T z.2 H2 → am_E sL sx am_cs 62 80 [] [] H2 R F) (k1 : z.1 = 1 → ∀ H2 : am_H, xS h b T z.2 H2 → am_E sL sx am_cs 62 103 [(0, .ref 3)] [] H2 R F) (k2 : z.1 = 2 → ∀ H2 : am_H, xS h b T z.2 H2 → am_E sL sx am_cs 62 129 [(0, .ref 3)] [] H2 R F) (k3 : z.1 = 3 → ∀ H2 : am_H, xS h b T z.2 H2 → am_E sL sx am_cs 62 144 [(0, .ref 3)] [] H2 R F) (ih : ∀ (v1 : Int32) (a : xA) (H : am_H), xS h b T a H → rc v1 a = some z → am_E sL sx am_cs 62 67 [(0, .ref 3), (1, .int v1)] [] H R F) {q1 : Int32} {q2 : Int32} {a : xA} {H : am_H} (hS : xS h b T a H) (e : j62_113 N h b rc q1 q2 a = some z) : am_E sL sx am_cs 62 113 [(0, .ref 3), (1, .int q1), (2, .int q2)] [] H R F := by
  unfold j62_113 at e
  refine ex_s (am_nb (m := 2) (pc1 := 115) (ls1 := [(0, .ref 3), (1, .int q1), (2, .int q2)]) (st1 := [.ref 3, .ref 3]) (H1 := H) (k1 := 0) (n1 := 0) (by with_unfolding_all rfl)) ?_
  refine xe_get (v := .int (a 3 6)) hS rfl rfl (by decide) rfl ?_
  refine ex_s (am_nb (m := 2) (pc1 := 120) (ls1 := [(0, .ref 3), (1, .int q1), (2, .int q2)]) (st1 := [.int ((a 3 6) + 1), .ref 3]) (H1 := H) (k1 := 0) (n1 := 0) (by with_unfolding_all rfl)) ?_
  obtain ⟨a43, ha43, e⟩ := xw_some e
  refine xe_put (w := ((a 3 6) + 1)) hS rfl rfl (by decide) rfl rfl rfl rfl (fun H44 s45 => ?_)
  have s45 : xS h b T a43 H44 := by rw [ha43]; exact s45
  refine ex_s (am_nb (m := 2) (pc1 := 126) (ls1 := [(0, .ref 3), (1, .int q1), (2, .int q2)]) (st1 := [.int 44, .int q2]) (H1 := H44) (k1 := 0) (n1 := 0) (by with_unfolding_all rfl)) ?_
  refine ex_s (st_icmp rfl) ?_
  by_cases c46 : q2 = 44
  · have e := (if_pos c46).symm.trans e
    refine ex_pc (if_pos c46) ?_
    cases e
    exact le_E (l1 := [(0, .ref 3)]) ⟨rfl, trivial⟩ rfl (k2 rfl H44 s45)
  · have e := (if_neg c46).symm.trans e
    refine ex_pc (if_neg c46) ?_
    refine ex_s (am_nb (m := 2) (pc1 := 67) (ls1 := [(1, .int (q1 + 1)), (0, .ref 3), (2, .int q2)]) (st1 := []) (H1 := H44) (k1 := 0) (n1 := 0) (by with_unfolding_all rfl)) ?_
    exact le_E (l1 := [(0, .ref 3), (1, .int (q1 + 1))]) ⟨rfl, rfl, trivial⟩ rfl (ih (q1 + 1) a43 H44 s45 e)

set_option maxRecDepth 100000 in
theorem tl62_67 {sL : Nat} {sx : Nat → Int32} {h b N : Nat} {T : List am_C} {R : Option Value} {F : am_H → Prop} {z : Nat × xA} (k0 : z.1 = 0 → ∀ H2 : am_H, xS h b T z.2 H2 → am_E sL sx am_cs 62 80 [] [] H2 R F) (k1 : z.1 = 1 → ∀ H2 : am_H, xS h b T z.2 H2 → am_E sL sx am_cs 62 103 [(0, .ref 3)] [] H2 R F) (k2 : z.1 = 2 → ∀ H2 : am_H, xS h b T z.2 H2 → am_E sL sx am_cs 62 129 [(0, .ref 3)] [] H2 R F) (k3 : z.1 = 3 → ∀ H2 : am_H, xS h b T z.2 H2 → am_E sL sx am_cs 62 144 [(0, .ref 3)] [] H2 R F) : ∀ (n : Nat) (v1 : Int32) (a : xA) (H : am_H), xS h b T a H → l62_67 N h b n v1 a = some z → am_E sL sx am_cs 62 67 [(0, .ref 3), (1, .int v1)] [] H R F := by
  intro n
  induction n with
  | zero =>
    intro v1 a H hS e
    cases e
  | succ n ih =>
    intro v1 a H hS e
    unfold l62_67 at e
    refine ex_s (am_nb (m := 2) (pc1 := 69) (ls1 := [(0, .ref 3), (1, .int v1)]) (st1 := [.int 4, .int v1]) (H1 := H) (k1 := 0) (n1 := 0) (by with_unfolding_all rfl)) ?_
    refine ex_s (st_icmp rfl) ?_
    by_cases c28 : 4 < v1
    · have e := (if_pos c28).symm.trans e
      refine ex_pc (if_pos c28) ?_
      cases e
      exact le_E (l1 := [(0, .ref 3)]) ⟨rfl, trivial⟩ rfl (k3 rfl H hS)
    · have e := (if_neg c28).symm.trans e
      refine ex_pc (if_neg c28) ?_
      refine ex_s (am_nb (m := 2) (pc1 := 74) (ls1 := [(0, .ref 3), (1, .int v1)]) (st1 := [.int v1, .ref 3]) (H1 := H) (k1 := 0) (n1 := 0) (by with_unfolding_all rfl)) ?_
      obtain ⟨r32, a33, e31, e⟩ := xb2_some e
      refine ex_cv1 (as := [.int v1]) (rest := []) rfl rfl rfl rfl (hS.obj rfl (by decide)) rfl (by with_unfolding_all rfl) (by with_unfolding_all rfl) (tf68_readName hS e31) (fun H29 s30 => ?_)
      refine ex_s (st_if rfl) ?_
      by_cases c34 : r32 = 0
      · have e := (if_pos c34).symm.trans e
        refine ex_pc (if_pos c34) ?_
        cases e
        exact le_E (l1 := []) trivial rfl (k0 rfl H29 s30)
      · have e := (if_neg c34).symm.trans e
        refine ex_pc (if_neg c34) ?_
        refine ex_s (am_nb (m := 2) (pc1 := 84) (ls1 := [(0, .ref 3), (1, .int v1)]) (st1 := [.ref 3, .ref 3]) (H1 := H29) (k1 := 0) (n1 := 0) (by with_unfolding_all rfl)) ?_
        refine xe_get (v := .int (a33 3 6)) s30 rfl rfl (by decide) rfl ?_
        obtain ⟨r38, a39, e37, e⟩ := xb2_some e
        refine ex_cv1 (as := [.int (a33 3 6)]) (rest := []) rfl rfl rfl rfl (s30.obj rfl (by decide)) rfl (by with_unfolding_all rfl) (by with_unfolding_all rfl) (tf28_byteAt s30 e37) (fun H35 s36 => ?_)
        refine ex_s (am_nb (m := 3) (pc1 := 94) (ls1 := [(2, .int r38), (0, .ref 3), (1, .int v1)]) (st1 := [.int 44, .int r38]) (H1 := H35) (k1 := 0) (n1 := 0) (by with_unfolding_all rfl)) ?_
        refine ex_s (st_icmp rfl) ?_
        by_cases c42 : r38 = 44
        · have e := (if_pos c42).symm.trans e
          refine ex_pc (if_pos c42) ?_
          exact le_E (l1 := [(0, .ref 3), (1, .int v1), (2, .int r38)]) ⟨rfl, rfl, rfl, trivial⟩ rfl (tj62_113 k0 k1 k2 k3 ih  s36 e)
        · have e := (if_neg c42).symm.trans e
          refine ex_pc (if_neg c42) ?_
          refine ex_s (am_nb (m := 2) (pc1 := 100) (ls1 := [(2, .int r38), (0, .ref 3), (1, .int v1)]) (st1 := [.int 124, .int r38]) (H1 := H35) (k1 := 0) (n1 := 0) (by with_unfolding_all rfl)) ?_
          refine ex_s (st_icmp rfl) ?_
          by_cases c47 : r38 = 124
          · have e := (if_pos c47).symm.trans e
            refine ex_pc (if_pos c47) ?_
            exact le_E (l1 := [(0, .ref 3), (1, .int v1), (2, .int r38)]) ⟨rfl, rfl, rfl, trivial⟩ rfl (tj62_113 k0 k1 k2 k3 ih  s36 e)
          · have e := (if_neg c47).symm.trans e
            refine ex_pc (if_neg c47) ?_
            cases e
            exact le_E (l1 := [(0, .ref 3)]) ⟨rfl, trivial⟩ rfl (k1 rfl H35 s36)

set_option maxRecDepth 100000 in
theorem tj62_40 {sL : Nat} {sx : Nat → Int32} {h b N : Nat} {T : List am_C} {r : Int32} {a' : xA} {t0 : Int32} {t1 : Int32} {a : xA} {H : am_H} (hS : xS h b T a H) (e : j62_40 N h b t0 t1 a = some (r, a')) : am_E sL sx am_cs 62 40 [(0, .ref 3)] [.int t0, .int t1] H (some (.int r)) (fun H1 => xS h b T a' H1) := by
  unfold j62_40 at e
  refine ex_s (am_nb (m := 2) (pc1 := 43) (ls1 := [(0, .ref 3)]) (st1 := [.int 12, .int (t1 + t0)]) (H1 := H) (k1 := 0) (n1 := 0) (by with_unfolding_all rfl)) ?_
  refine ex_s (st_icmp rfl) ?_
  by_cases c19 : (t1 + t0) < 12
  · have e := (if_pos c19).symm.trans e
    refine ex_pc (if_pos c19) ?_
    refine ex_s (am_nb (m := 1) (pc1 := 58) (ls1 := [(0, .ref 3)]) (st1 := [.ref 3]) (H1 := H) (k1 := 0) (n1 := 0) (by with_unfolding_all rfl)) ?_
    obtain ⟨a23, e22, e⟩ := xb1_some e
    refine ex_cv0 (as := []) (rest := []) rfl rfl rfl rfl (hS.obj rfl (by decide)) rfl (by with_unfolding_all rfl) (by with_unfolding_all rfl) (tf63_finishEntry hS e22) (fun H20 s21 => ?_)
    refine ex_s (am_nb (m := 1) (pc1 := 62) (ls1 := [(0, .ref 3)]) (st1 := [.ref 3]) (H1 := H20) (k1 := 0) (n1 := 0) (by with_unfolding_all rfl)) ?_
    obtain ⟨a27, e26, e⟩ := xb1_some e
    refine ex_cv0 (as := []) (rest := []) rfl rfl rfl rfl (s21.obj rfl (by decide)) rfl (by with_unfolding_all rfl) (by with_unfolding_all rfl) (tf66_beginEntry s21 e26) (fun H24 s25 => ?_)
    refine ex_s (am_nb (m := 2) (pc1 := 67) (ls1 := [(1, .int 0), (0, .ref 3)]) (st1 := []) (H1 := H24) (k1 := 0) (n1 := 0) (by with_unfolding_all rfl)) ?_
    obtain ⟨z48, e49, e⟩ := Option.bind_eq_some_iff.mp e
    refine le_E (l1 := [(0, .ref 3), (1, .int 0)]) ⟨rfl, rfl, trivial⟩ rfl (tl62_67 (z := z48)  (fun uz48_0 Hz480 sz480 => ?_) (fun uz48_1 Hz481 sz481 => ?_) (fun uz48_2 Hz482 sz482 => ?_) (fun uz48_3 Hz483 sz483 => ?_) N 0 a27 H24 s25 e49)
    · have e := (if_pos uz48_0).symm.trans e
      refine ex_s (am_nb (m := 1) (pc1 := 81) (ls1 := []) (st1 := [.int 0]) (H1 := Hz480) (k1 := 0) (n1 := 0) (by with_unfolding_all rfl)) ?_
      cases e
      exact ex_r (st_iret rfl rfl rfl) sz480
    · have e := (if_neg (show ¬ z48.1 = 0 by rw [uz48_1]; decide)).symm.trans e
      have e := (if_pos uz48_1).symm.trans e
      refine ex_s (am_nb (m := 3) (pc1 := 106) (ls1 := [(0, .ref 3)]) (st1 := [.ref 3, .int 1, .ref 3]) (H1 := Hz481) (k1 := 0) (n1 := 0) (by with_unfolding_all rfl)) ?_
      refine xe_get (v := .int (z48.2 3 6)) sz481 rfl rfl (by decide) rfl ?_
      obtain ⟨r53, a54, e52, e⟩ := xb2_some e
      refine ex_cv1 (as := [.int 1, .int (z48.2 3 6)]) (rest := []) rfl rfl rfl rfl (sz481.obj rfl (by decide)) rfl (by with_unfolding_all rfl) (by with_unfolding_all rfl) (tf26_failed sz481 e52) (fun H50 s51 => ?_)
      obtain ⟨g55, e⟩ := xg_some e
      cases e
      exact ex_r (st_iret rfl rfl (xnar_z g55)) s51
    · have e := (if_neg (show ¬ z48.1 = 0 by rw [uz48_2]; decide)).symm.trans e
      have e := (if_neg (show ¬ z48.1 = 1 by rw [uz48_2]; decide)).symm.trans e
      have e := (if_pos uz48_2).symm.trans e
      refine ex_s (am_nb (m := 1) (pc1 := 130) (ls1 := [(0, .ref 3)]) (st1 := [.ref 3]) (H1 := Hz482) (k1 := 0) (n1 := 0) (by with_unfolding_all rfl)) ?_
      obtain ⟨a59, e58, e⟩ := xb1_some e
      refine ex_cv0 (as := []) (rest := []) rfl rfl rfl rfl (sz482.obj rfl (by decide)) rfl (by with_unfolding_all rfl) (by with_unfolding_all rfl) (tf31_passBlanks sz482 e58) (fun H56 s57 => ?_)
      refine ex_s (am_nb (m := 1) (pc1 := 134) (ls1 := [(0, .ref 3)]) (st1 := [.ref 3]) (H1 := H56) (k1 := 0) (n1 := 0) (by with_unfolding_all rfl)) ?_
      obtain ⟨r63, a64, e62, e⟩ := xb2_some e
      refine ex_cv1 (as := []) (rest := []) rfl rfl rfl rfl (s57.obj rfl (by decide)) rfl (by with_unfolding_all rfl) (by with_unfolding_all rfl) (tf27_passLineEnd s57 e62) (fun H60 s61 => ?_)
      obtain ⟨g65, e⟩ := xg_some e
      cases e
      exact ex_r (st_iret rfl rfl (xnar_z g65)) s61
    · have e := (if_neg (show ¬ z48.1 = 0 by rw [uz48_3]; decide)).symm.trans e
      have e := (if_neg (show ¬ z48.1 = 1 by rw [uz48_3]; decide)).symm.trans e
      have e := (if_neg (show ¬ z48.1 = 2 by rw [uz48_3]; decide)).symm.trans e
      refine ex_s (am_nb (m := 3) (pc1 := 148) (ls1 := [(0, .ref 3)]) (st1 := [.ref 3, .int 11, .ref 3]) (H1 := Hz483) (k1 := 0) (n1 := 0) (by with_unfolding_all rfl)) ?_
      refine xe_get (v := .int (z48.2 3 6)) sz483 rfl rfl (by decide) rfl ?_
      obtain ⟨r69, a70, e68, e⟩ := xb2_some e
      refine ex_cv1 (as := [.int 11, .int (z48.2 3 6)]) (rest := []) rfl rfl rfl rfl (sz483.obj rfl (by decide)) rfl (by with_unfolding_all rfl) (by with_unfolding_all rfl) (tf26_failed sz483 e68) (fun H66 s67 => ?_)
      obtain ⟨g71, e⟩ := xg_some e
      cases e
      exact ex_r (st_iret rfl rfl (xnar_z g71)) s67
  · have e := (if_neg c19).symm.trans e
    refine ex_pc (if_neg c19) ?_
    refine ex_s (am_nb (m := 3) (pc1 := 50) (ls1 := [(0, .ref 3)]) (st1 := [.ref 3, .int 7, .ref 3]) (H1 := H) (k1 := 0) (n1 := 0) (by with_unfolding_all rfl)) ?_
    refine xe_get (v := .int (a 3 6)) hS rfl rfl (by decide) rfl ?_
    obtain ⟨r75, a76, e74, e⟩ := xb2_some e
    refine ex_cv1 (as := [.int 7, .int (a 3 6)]) (rest := []) rfl rfl rfl rfl (hS.obj rfl (by decide)) rfl (by with_unfolding_all rfl) (by with_unfolding_all rfl) (tf26_failed hS e74) (fun H72 s73 => ?_)
    obtain ⟨g77, e⟩ := xg_some e
    cases e
    exact ex_r (st_iret rfl rfl (xnar_z g77)) s73

set_option maxRecDepth 100000 in
theorem tf62_readNames {sL : Nat} {sx : Nat → Int32} {h b N : Nat} {T : List am_C} {r : Int32} {a' : xA} {a : xA} {H : am_H} (hS : xS h b T a H) (e : f62_readNames N h b a = some (r, a')) : am_E sL sx am_cs 62 0 [(0, .ref 3)] [] H (some (.int r)) (fun H1 => xS h b T a' H1) := by
  unfold f62_readNames at e
  refine ex_s (am_nb (m := 2) (pc1 := 2) (ls1 := [(0, .ref 3)]) (st1 := [.ref 3, .ref 3]) (H1 := H) (k1 := 0) (n1 := 0) (by with_unfolding_all rfl)) ?_
  refine xe_get (v := .int (a 3 6)) hS rfl rfl (by decide) rfl ?_
  obtain ⟨r4, a5, e3, e⟩ := xb2_some e
  refine ex_cv1 (as := [.int (a 3 6)]) (rest := []) rfl rfl rfl rfl (hS.obj rfl (by decide)) rfl (by with_unfolding_all rfl) (by with_unfolding_all rfl) (tf28_byteAt hS e3) (fun H1 s2 => ?_)
  obtain ⟨r9, a10, e8, e⟩ := xb2_some e
  refine ex_cs1 (as := [.int r4]) (rest := []) rfl (by decide) rfl rfl (by with_unfolding_all rfl) (by with_unfolding_all rfl) (tf39_isNameByte s2 e8) (fun H6 s7 => ?_)
  refine ex_s (st_if rfl) ?_
  by_cases c11 : r9 = 0
  · have e := (if_pos c11).symm.trans e
    refine ex_pc (if_pos c11) ?_
    refine ex_s (am_nb (m := 3) (pc1 := 17) (ls1 := [(0, .ref 3)]) (st1 := [.ref 3, .int 1, .ref 3]) (H1 := H6) (k1 := 0) (n1 := 0) (by with_unfolding_all rfl)) ?_
    refine xe_get (v := .int (a10 3 6)) s7 rfl rfl (by decide) rfl ?_
    obtain ⟨r15, a16, e14, e⟩ := xb2_some e
    refine ex_cv1 (as := [.int 1, .int (a10 3 6)]) (rest := []) rfl rfl rfl rfl (s7.obj rfl (by decide)) rfl (by with_unfolding_all rfl) (by with_unfolding_all rfl) (tf26_failed s7 e14) (fun H12 s13 => ?_)
    obtain ⟨g17, e⟩ := xg_some e
    cases e
    exact ex_r (st_iret rfl rfl (xnar_z g17)) s13
  · have e := (if_neg c11).symm.trans e
    refine ex_pc (if_neg c11) ?_
    refine ex_s (am_nb (m := 1) (pc1 := 25) (ls1 := [(0, .ref 3)]) (st1 := [.ref 3]) (H1 := H6) (k1 := 0) (n1 := 0) (by with_unfolding_all rfl)) ?_
    refine xe_get (v := .int (a10 3 7)) s7 rfl rfl (by decide) rfl ?_
    refine ex_s (am_nb (m := 1) (pc1 := 29) (ls1 := [(0, .ref 3)]) (st1 := [.ref 3, .int (a10 3 7)]) (H1 := H6) (k1 := 0) (n1 := 0) (by with_unfolding_all rfl)) ?_
    refine xe_get (v := xN (a10 3 8)) s7 rfl rfl (by decide) rfl ?_
    by_cases c18 : (a10 3 8) = -1
    · have e := (if_pos c18).symm.trans e
      rw [show xN (a10 3 8) = .null from if_pos c18]
      refine ex_s (am_nb (m := 1) (pc1 := 35) (ls1 := [(0, .ref 3)]) (st1 := [.int (a10 3 7)]) (H1 := H6) (k1 := 0) (n1 := 0) (by with_unfolding_all rfl)) ?_
      refine ex_s (am_nb (m := 2) (pc1 := 40) (ls1 := [(0, .ref 3)]) (st1 := [.int 0, .int (a10 3 7)]) (H1 := H6) (k1 := 0) (n1 := 0) (by with_unfolding_all rfl)) ?_
      exact le_E (l1 := [(0, .ref 3)]) ⟨rfl, trivial⟩ rfl (tj62_40  s7 e)
    · have e := (if_neg c18).symm.trans e
      rw [show xN (a10 3 8) = .ref ((a10 3 8).toNatClampNeg) from if_neg c18]
      refine ex_s (am_nb (m := 1) (pc1 := 39) (ls1 := [(0, .ref 3)]) (st1 := [.int (a10 3 7)]) (H1 := H6) (k1 := 0) (n1 := 0) (by with_unfolding_all rfl)) ?_
      refine ex_s (am_nb (m := 1) (pc1 := 40) (ls1 := [(0, .ref 3)]) (st1 := [.int 1, .int (a10 3 7)]) (H1 := H6) (k1 := 0) (n1 := 0) (by with_unfolding_all rfl)) ?_
      exact le_E (l1 := [(0, .ref 3)]) ⟨rfl, trivial⟩ rfl (tj62_40  s7 e)

set_option maxRecDepth 100000 in
theorem tj23_125 {sL : Nat} {sx : Nat → Int32} {h b N : Nat} {T : List am_C} {R : Option Value} {F : am_H → Prop} {w2 : Int32} {z : Nat × Int32 × xA} {rc : Int32 → Int32 → xA → Option (Nat × Int32 × xA)} (k0 : z.1 = 0 → ∀ H2 : am_H, xS h b T z.2.2 H2 → am_E sL sx am_cs 23 131 [(0, .ref 3), (3, .int z.2.1)] [] H2 R F) (ih : ∀ (v3 : Int32) (v4 : Int32) (a : xA) (H : am_H), xS h b T a H → rc v3 v4 a = some z → am_E sL sx am_cs 23 43 [(0, .ref 3), (2, .int w2), (3, .int v3), (4, .int v4)] [] H R F) {q3 : Int32} {q4 : Int32} {a : xA} {H : am_H} (hS : xS h b T a H) (e : j23_125 N h b rc w2 q3 q4 a = some z) : am_E sL sx am_cs 23 125 [(0, .ref 3), (2, .int w2), (3, .int q3), (4, .int q4)] [] H R F := by
  unfold j23_125 at e
  refine ex_s (am_nb (m := 2) (pc1 := 43) (ls1 := [(4, .int (q4 + 1)), (0, .ref 3), (2, .int w2), (3, .int q3)]) (st1 := []) (H1 := H) (k1 := 0) (n1 := 0) (by with_unfolding_all rfl)) ?_
  exact le_E (l1 := [(0, .ref 3), (2, .int w2), (3, .int q3), (4, .int (q4 + 1))]) ⟨rfl, rfl, rfl, rfl, trivial⟩ rfl (ih q3 (q4 + 1) a H hS e)

set_option maxRecDepth 100000 in
theorem tj23_124 {sL : Nat} {sx : Nat → Int32} {h b N : Nat} {T : List am_C} {R : Option Value} {F : am_H → Prop} {w2 : Int32} {z : Nat × Int32 × xA} {rc : Int32 → Int32 → xA → Option (Nat × Int32 × xA)} (k0 : z.1 = 0 → ∀ H2 : am_H, xS h b T z.2.2 H2 → am_E sL sx am_cs 23 131 [(0, .ref 3), (3, .int z.2.1)] [] H2 R F) (ih : ∀ (v3 : Int32) (v4 : Int32) (a : xA) (H : am_H), xS h b T a H → rc v3 v4 a = some z → am_E sL sx am_cs 23 43 [(0, .ref 3), (2, .int w2), (3, .int v3), (4, .int v4)] [] H R F) {q4 : Int32} {t0 : Int32} {a : xA} {H : am_H} (hS : xS h b T a H) (e : j23_124 N h b rc w2 q4 t0 a = some z) : am_E sL sx am_cs 23 124 [(0, .ref 3), (2, .int w2), (4, .int q4)] [.int t0] H R F := by
  unfold j23_124 at e
  refine ex_s (am_nb (m := 1) (pc1 := 125) (ls1 := [(3, .int t0), (0, .ref 3), (2, .int w2), (4, .int q4)]) (st1 := []) (H1 := H) (k1 := 0) (n1 := 0) (by with_unfolding_all rfl)) ?_
  exact le_E (l1 := [(0, .ref 3), (2, .int w2), (3, .int t0), (4, .int q4)]) ⟨rfl, rfl, rfl, rfl, trivial⟩ rfl (tj23_125 k0 ih  hS e)

set_option maxRecDepth 100000 in
theorem tl23_43 {sL : Nat} {sx : Nat → Int32} {h b N : Nat} {T : List am_C} {R : Option Value} {F : am_H → Prop} {w2 : Int32} {z : Nat × Int32 × xA} (k0 : z.1 = 0 → ∀ H2 : am_H, xS h b T z.2.2 H2 → am_E sL sx am_cs 23 131 [(0, .ref 3), (3, .int z.2.1)] [] H2 R F) : ∀ (n : Nat) (v3 : Int32) (v4 : Int32) (a : xA) (H : am_H), xS h b T a H → l23_43 N h b w2 n v3 v4 a = some z → am_E sL sx am_cs 23 43 [(0, .ref 3), (2, .int w2), (3, .int v3), (4, .int v4)] [] H R F := by
  intro n
  induction n with
  | zero =>
    intro v3 v4 a H hS e
    cases e
  | succ n ih =>
    intro v3 v4 a H hS e
    unfold l23_43 at e
    refine ex_s (am_nb (m := 2) (pc1 := 46) (ls1 := [(0, .ref 3), (2, .int w2), (3, .int v3), (4, .int v4)]) (st1 := [.int w2, .int v4]) (H1 := H) (k1 := 0) (n1 := 0) (by with_unfolding_all rfl)) ?_
    refine ex_s (st_icmp rfl) ?_
    by_cases c23 : w2 ≤ v4
    · have e := (if_pos c23).symm.trans e
      refine ex_pc (if_pos c23) ?_
      cases e
      exact le_E (l1 := [(0, .ref 3), (3, .int v3)]) ⟨rfl, rfl, trivial⟩ rfl (k0 rfl H hS)
    · have e := (if_neg c23).symm.trans e
      refine ex_pc (if_neg c23) ?_
      refine ex_s (am_nb (m := 1) (pc1 := 50) (ls1 := [(0, .ref 3), (2, .int w2), (3, .int v3), (4, .int v4)]) (st1 := [.int v3]) (H1 := H) (k1 := 0) (n1 := 0) (by with_unfolding_all rfl)) ?_
      refine ex_s (st_if rfl) ?_
      by_cases c24 : v3 = 0
      · have e := (if_pos c24).symm.trans e
        refine ex_pc (if_pos c24) ?_
        cases e
        exact le_E (l1 := [(0, .ref 3), (3, .int v3)]) ⟨rfl, rfl, trivial⟩ rfl (k0 rfl H hS)
      · have e := (if_neg c24).symm.trans e
        refine ex_pc (if_neg c24) ?_
        refine ex_s (am_nb (m := 1) (pc1 := 54) (ls1 := [(0, .ref 3), (2, .int w2), (3, .int v3), (4, .int v4)]) (st1 := [.ref 3]) (H1 := H) (k1 := 0) (n1 := 0) (by with_unfolding_all rfl)) ?_
        refine xe_get (v := .int (a 3 6)) hS rfl rfl (by decide) rfl ?_
        refine ex_s (am_nb (m := 1) (pc1 := 58) (ls1 := [(0, .ref 3), (2, .int w2), (3, .int v3), (4, .int v4)]) (st1 := [.ref 3, .int (a 3 6)]) (H1 := H) (k1 := 0) (n1 := 0) (by with_unfolding_all rfl)) ?_
        refine xe_get (v := .int (a 3 5)) hS rfl rfl (by decide) rfl ?_
        refine ex_s (st_icmp rfl) ?_
        by_cases c25 : (a 3 5) ≤ (a 3 6)
        · have e := (if_pos c25).symm.trans e
          refine ex_pc (if_pos c25) ?_
          cases e
          exact le_E (l1 := [(0, .ref 3), (3, .int v3)]) ⟨rfl, rfl, trivial⟩ rfl (k0 rfl H hS)
        · have e := (if_neg c25).symm.trans e
          refine ex_pc (if_neg c25) ?_
          refine ex_s (am_nb (m := 1) (pc1 := 65) (ls1 := [(0, .ref 3), (2, .int w2), (3, .int v3), (4, .int v4)]) (st1 := [.ref 3]) (H1 := H) (k1 := 0) (n1 := 0) (by with_unfolding_all rfl)) ?_
          refine xe_get (v := xN (a 3 4)) hS rfl rfl (by decide) rfl ?_
          refine ex_s (am_nb (m := 1) (pc1 := 69) (ls1 := [(0, .ref 3), (2, .int w2), (3, .int v3), (4, .int v4)]) (st1 := [.ref 3, xN (a 3 4)]) (H1 := H) (k1 := 0) (n1 := 0) (by first | with_unfolding_all rfl | (unfold xN; (repeat' split) <;> with_unfolding_all rfl))) ?_
          refine xe_get (v := .int (a 3 6)) hS rfl rfl (by decide) rfl ?_
          obtain ⟨g26, e⟩ := xg_some e
          rw [show xN (a 3 4) = .ref ((a 3 4).toNatClampNeg) from if_neg g26]
          obtain ⟨g27, e⟩ := xg_some e
          obtain ⟨g28, e⟩ := xg_some e
          refine xe_iald hS rfl g27 g28 ?_
          refine ex_s (am_nb (m := 3) (pc1 := 79) (ls1 := [(5, .int (a ((a 3 4).toNatClampNeg) ((a 3 6).toNatClampNeg))), (0, .ref 3), (2, .int w2), (3, .int v3), (4, .int v4)]) (st1 := [.int 35, .int (a ((a 3 4).toNatClampNeg) ((a 3 6).toNatClampNeg))]) (H1 := H) (k1 := 0) (n1 := 0) (by first | with_unfolding_all rfl | (unfold xN; (repeat' split) <;> with_unfolding_all rfl))) ?_
          refine ex_s (st_icmp rfl) ?_
          by_cases c30 : (a ((a 3 4).toNatClampNeg) ((a 3 6).toNatClampNeg)) = 35
          · have e := (if_pos c30).symm.trans e
            refine ex_pc (if_pos c30) ?_
            refine ex_s (am_nb (m := 1) (pc1 := 83) (ls1 := [(5, .int (a ((a 3 4).toNatClampNeg) ((a 3 6).toNatClampNeg))), (0, .ref 3), (2, .int w2), (3, .int v3), (4, .int v4)]) (st1 := [.ref 3]) (H1 := H) (k1 := 0) (n1 := 0) (by with_unfolding_all rfl)) ?_
            obtain ⟨r34, a35, e33, e⟩ := xb2_some e
            refine ex_cv1 (as := []) (rest := []) rfl rfl rfl rfl (hS.obj rfl (by decide)) rfl (by with_unfolding_all rfl) (by with_unfolding_all rfl) (tf24_passComment hS e33) (fun H31 s32 => ?_)
            refine ex_s (am_nb (m := 2) (pc1 := 125) (ls1 := [(3, .int r34), (5, .int (a ((a 3 4).toNatClampNeg) ((a 3 6).toNatClampNeg))), (0, .ref 3), (2, .int w2), (4, .int v4)]) (st1 := []) (H1 := H31) (k1 := 0) (n1 := 0) (by with_unfolding_all rfl)) ?_
            exact le_E (l1 := [(0, .ref 3), (2, .int w2), (3, .int r34), (4, .int v4)]) ⟨rfl, rfl, rfl, rfl, trivial⟩ rfl (tj23_125 k0 ih  s32 e)
          · have e := (if_neg c30).symm.trans e
            refine ex_pc (if_neg c30) ?_
            refine ex_s (am_nb (m := 1) (pc1 := 92) (ls1 := [(5, .int (a ((a 3 4).toNatClampNeg) ((a 3 6).toNatClampNeg))), (0, .ref 3), (2, .int w2), (3, .int v3), (4, .int v4)]) (st1 := [.int (a ((a 3 4).toNatClampNeg) ((a 3 6).toNatClampNeg))]) (H1 := H) (k1 := 0) (n1 := 0) (by with_unfolding_all rfl)) ?_
            obtain ⟨r39, a40, e38, e⟩ := xb2_some e
            refine ex_cs1 (as := [.int (a ((a 3 4).toNatClampNeg) ((a 3 6).toNatClampNeg))]) (rest := []) rfl (by decide) rfl rfl (by with_unfolding_all rfl) (by with_unfolding_all rfl) (tf29_isBlank hS e38) (fun H36 s37 => ?_)
            refine ex_s (st_if rfl) ?_
            by_cases c43 : r39 = 0
            · have e := (if_pos c43).symm.trans e
              refine ex_pc (if_pos c43) ?_
              refine ex_s (am_nb (m := 2) (pc1 := 110) (ls1 := [(5, .int (a ((a 3 4).toNatClampNeg) ((a 3 6).toNatClampNeg))), (0, .ref 3), (2, .int w2), (3, .int v3), (4, .int v4)]) (st1 := [.int 10, .int (a ((a 3 4).toNatClampNeg) ((a 3 6).toNatClampNeg))]) (H1 := H36) (k1 := 0) (n1 := 0) (by with_unfolding_all rfl)) ?_
              refine ex_s (st_icmp rfl) ?_
              by_cases c45 : (a ((a 3 4).toNatClampNeg) ((a 3 6).toNatClampNeg)) = 10
              · have e := (if_pos c45).symm.trans e
                refine ex_pc (if_pos c45) ?_
                refine ex_s (am_nb (m := 1) (pc1 := 114) (ls1 := [(5, .int (a ((a 3 4).toNatClampNeg) ((a 3 6).toNatClampNeg))), (0, .ref 3), (2, .int w2), (3, .int v3), (4, .int v4)]) (st1 := [.ref 3]) (H1 := H36) (k1 := 0) (n1 := 0) (by with_unfolding_all rfl)) ?_
                obtain ⟨r49, a50, e48, e⟩ := xb2_some e
                refine ex_cv1 (as := []) (rest := []) rfl rfl rfl rfl (s37.obj rfl (by decide)) rfl (by with_unfolding_all rfl) (by with_unfolding_all rfl) (tf27_passLineEnd s37 e48) (fun H46 s47 => ?_)
                refine ex_s (am_nb (m := 1) (pc1 := 124) (ls1 := [(5, .int (a ((a 3 4).toNatClampNeg) ((a 3 6).toNatClampNeg))), (0, .ref 3), (2, .int w2), (3, .int v3), (4, .int v4)]) (st1 := [.int r49]) (H1 := H46) (k1 := 0) (n1 := 0) (by with_unfolding_all rfl)) ?_
                exact le_E (l1 := [(0, .ref 3), (2, .int w2), (4, .int v4)]) ⟨rfl, rfl, rfl, trivial⟩ rfl (tj23_124 k0 ih  s47 e)
              · have e := (if_neg c45).symm.trans e
                refine ex_pc (if_neg c45) ?_
                refine ex_s (am_nb (m := 1) (pc1 := 121) (ls1 := [(5, .int (a ((a 3 4).toNatClampNeg) ((a 3 6).toNatClampNeg))), (0, .ref 3), (2, .int w2), (3, .int v3), (4, .int v4)]) (st1 := [.ref 3]) (H1 := H36) (k1 := 0) (n1 := 0) (by with_unfolding_all rfl)) ?_
                obtain ⟨r54, a55, e53, e⟩ := xb2_some e
                refine ex_cv1 (as := []) (rest := []) rfl rfl rfl rfl (s37.obj rfl (by decide)) rfl (by with_unfolding_all rfl) (by with_unfolding_all rfl) (tf62_readNames s37 e53) (fun H51 s52 => ?_)
                exact le_E (l1 := [(0, .ref 3), (2, .int w2), (4, .int v4)]) ⟨rfl, rfl, rfl, trivial⟩ rfl (tj23_124 k0 ih  s52 e)
            · have e := (if_neg c43).symm.trans e
              refine ex_pc (if_neg c43) ?_
              refine ex_s (am_nb (m := 1) (pc1 := 99) (ls1 := [(5, .int (a ((a 3 4).toNatClampNeg) ((a 3 6).toNatClampNeg))), (0, .ref 3), (2, .int w2), (3, .int v3), (4, .int v4)]) (st1 := [.ref 3]) (H1 := H36) (k1 := 0) (n1 := 0) (by with_unfolding_all rfl)) ?_
              obtain ⟨r59, a60, e58, e⟩ := xb2_some e
              refine ex_cv1 (as := []) (rest := []) rfl rfl rfl rfl (s37.obj rfl (by decide)) rfl (by with_unfolding_all rfl) (by with_unfolding_all rfl) (tf30_readFields s37 e58) (fun H56 s57 => ?_)
              refine ex_s (am_nb (m := 2) (pc1 := 125) (ls1 := [(3, .int r59), (5, .int (a ((a 3 4).toNatClampNeg) ((a 3 6).toNatClampNeg))), (0, .ref 3), (2, .int w2), (4, .int v4)]) (st1 := []) (H1 := H56) (k1 := 0) (n1 := 0) (by with_unfolding_all rfl)) ?_
              exact le_E (l1 := [(0, .ref 3), (2, .int w2), (3, .int r59), (4, .int v4)]) ⟨rfl, rfl, rfl, rfl, trivial⟩ rfl (tj23_125 k0 ih  s57 e)

set_option maxRecDepth 100000 in
theorem tj23_131 {sL : Nat} {sx : Nat → Int32} {h b N : Nat} {T : List am_C} {r : Int32} {a' : xA} {q3 : Int32} {a : xA} {H : am_H} (hS : xS h b T a H) (e : j23_131 N h b q3 a = some (r, a')) : am_E sL sx am_cs 23 131 [(0, .ref 3), (3, .int q3)] [] H (some (.int r)) (fun H1 => xS h b T a' H1) := by
  unfold j23_131 at e
  refine ex_s (am_nb (m := 1) (pc1 := 132) (ls1 := [(0, .ref 3), (3, .int q3)]) (st1 := [.int q3]) (H1 := H) (k1 := 0) (n1 := 0) (by with_unfolding_all rfl)) ?_
  refine ex_s (st_if rfl) ?_
  by_cases c63 : q3 = 0
  · have e := (if_pos c63).symm.trans e
    refine ex_pc (if_pos c63) ?_
    refine ex_s (am_nb (m := 1) (pc1 := 136) (ls1 := [(0, .ref 3), (3, .int q3)]) (st1 := [.int (-1)]) (H1 := H) (k1 := 0) (n1 := 0) (by with_unfolding_all rfl)) ?_
    cases e
    exact ex_r (st_iret rfl rfl rfl) hS
  · have e := (if_neg c63).symm.trans e
    refine ex_pc (if_neg c63) ?_
    refine ex_s (am_nb (m := 1) (pc1 := 138) (ls1 := [(0, .ref 3), (3, .int q3)]) (st1 := [.ref 3]) (H1 := H) (k1 := 0) (n1 := 0) (by with_unfolding_all rfl)) ?_
    obtain ⟨a67, e66, e⟩ := xb1_some e
    refine ex_cv0 (as := []) (rest := []) rfl rfl rfl rfl (hS.obj rfl (by decide)) rfl (by with_unfolding_all rfl) (by with_unfolding_all rfl) (tf63_finishEntry hS e66) (fun H64 s65 => ?_)
    refine ex_s (am_nb (m := 2) (pc1 := 143) (ls1 := [(0, .ref 3), (3, .int q3)]) (st1 := [.ref 3, .ref 3]) (H1 := H64) (k1 := 0) (n1 := 0) (by with_unfolding_all rfl)) ?_
    refine xe_get (v := .int (a67 3 7)) s65 rfl rfl (by decide) rfl ?_
    obtain ⟨a68, ha68, e⟩ := xw_some e
    refine xe_put (w := (a67 3 7)) s65 rfl rfl (by decide) rfl rfl rfl rfl (fun H69 s70 => ?_)
    have s70 : xS h b T a68 H69 := by rw [ha68]; exact s70
    refine ex_s (am_nb (m := 1) (pc1 := 150) (ls1 := [(0, .ref 3), (3, .int q3)]) (st1 := [.ref 3]) (H1 := H69) (k1 := 0) (n1 := 0) (by with_unfolding_all rfl)) ?_
    refine xe_get (v := .int (a68 3 1)) s70 rfl rfl (by decide) rfl ?_
    cases e
    exact ex_r (st_iret rfl rfl rfl) s70

set_option maxRecDepth 100000 in
theorem tf23_readText {sL : Nat} {sx : Nat → Int32} {h b N : Nat} {T : List am_C} {r : Int32} {a' : xA} {x0 : Nat} {x1 : Int32} {a : xA} {H : am_H} (hS : xS h b T a H) (e : f23_readText N h b x0 x1 a = some (r, a')) : am_E sL sx am_cs 23 0 [(0, .ref 3), (1, .ref x0), (2, .int x1)] [] H (some (.int r)) (fun H1 => xS h b T a' H1) := by
  unfold f23_readText at e
  obtain ⟨g1, e⟩ := xg_some e
  refine ex_s (am_nb (m := 2) (pc1 := 2) (ls1 := [(0, .ref 3), (1, .ref x0), (2, .int x1)]) (st1 := [.ref x0, .ref 3]) (H1 := H) (k1 := 0) (n1 := 0) (by with_unfolding_all rfl)) ?_
  obtain ⟨a2, ha2, e⟩ := xw_some e
  refine xe_putN (w := (Int32.ofNat x0)) hS rfl rfl (by decide) rfl rfl (xN_of g1 (by decide)).symm xfit_a rfl (fun H3 s4 => ?_)
  have s4 : xS h b T a2 H3 := by rw [ha2]; exact s4
  refine ex_s (am_nb (m := 2) (pc1 := 7) (ls1 := [(0, .ref 3), (1, .ref x0), (2, .int x1)]) (st1 := [.int x1, .ref 3]) (H1 := H3) (k1 := 0) (n1 := 0) (by with_unfolding_all rfl)) ?_
  obtain ⟨a5, ha5, e⟩ := xw_some e
  refine xe_put (w := x1) s4 rfl rfl (by decide) rfl rfl rfl rfl (fun H6 s7 => ?_)
  have s7 : xS h b T a5 H6 := by rw [ha5]; exact s7
  refine ex_s (am_nb (m := 2) (pc1 := 12) (ls1 := [(0, .ref 3), (1, .ref x0), (2, .int x1)]) (st1 := [.int 0, .ref 3]) (H1 := H6) (k1 := 0) (n1 := 0) (by with_unfolding_all rfl)) ?_
  obtain ⟨a8, ha8, e⟩ := xw_some e
  refine xe_put (w := 0) s7 rfl rfl (by decide) rfl rfl rfl rfl (fun H9 s10 => ?_)
  have s10 : xS h b T a8 H9 := by rw [ha8]; exact s10
  refine ex_s (am_nb (m := 2) (pc1 := 17) (ls1 := [(0, .ref 3), (1, .ref x0), (2, .int x1)]) (st1 := [.ref 3, .ref 3]) (H1 := H9) (k1 := 0) (n1 := 0) (by with_unfolding_all rfl)) ?_
  refine xe_get (v := .int (a8 3 1)) s10 rfl rfl (by decide) rfl ?_
  obtain ⟨a11, ha11, e⟩ := xw_some e
  refine xe_put (w := (a8 3 1)) s10 rfl rfl (by decide) rfl rfl rfl rfl (fun H12 s13 => ?_)
  have s13 : xS h b T a11 H12 := by rw [ha11]; exact s13
  refine ex_s (am_nb (m := 2) (pc1 := 25) (ls1 := [(0, .ref 3), (1, .ref x0), (2, .int x1)]) (st1 := [.null, .ref 3]) (H1 := H12) (k1 := 0) (n1 := 0) (by with_unfolding_all rfl)) ?_
  obtain ⟨a14, ha14, e⟩ := xw_some e
  refine xe_putN (w := (-1)) s13 rfl rfl (by decide) rfl rfl rfl xfit_o rfl (fun H15 s16 => ?_)
  have s16 : xS h b T a14 H15 := by rw [ha14]; exact s16
  refine ex_s (am_nb (m := 2) (pc1 := 30) (ls1 := [(0, .ref 3), (1, .ref x0), (2, .int x1)]) (st1 := [.int 0, .ref 3]) (H1 := H15) (k1 := 0) (n1 := 0) (by with_unfolding_all rfl)) ?_
  obtain ⟨a17, ha17, e⟩ := xw_some e
  refine xe_put (w := 0) s16 rfl rfl (by decide) rfl rfl rfl rfl (fun H18 s19 => ?_)
  have s19 : xS h b T a17 H18 := by rw [ha17]; exact s19
  refine ex_s (am_nb (m := 2) (pc1 := 35) (ls1 := [(0, .ref 3), (1, .ref x0), (2, .int x1)]) (st1 := [.int (-1), .ref 3]) (H1 := H18) (k1 := 0) (n1 := 0) (by with_unfolding_all rfl)) ?_
  obtain ⟨a20, ha20, e⟩ := xw_some e
  refine xe_put (w := (-1)) s19 rfl rfl (by decide) rfl rfl rfl rfl (fun H21 s22 => ?_)
  have s22 : xS h b T a20 H21 := by rw [ha20]; exact s22
  refine ex_s (am_nb (m := 4) (pc1 := 43) (ls1 := [(4, .int 0), (3, .int 1), (0, .ref 3), (1, .ref x0), (2, .int x1)]) (st1 := []) (H1 := H21) (k1 := 0) (n1 := 0) (by with_unfolding_all rfl)) ?_
  obtain ⟨z61, e62, e⟩ := Option.bind_eq_some_iff.mp e
  refine le_E (l1 := [(0, .ref 3), (2, .int x1), (3, .int 1), (4, .int 0)]) ⟨rfl, rfl, rfl, rfl, trivial⟩ rfl (tl23_43 (z := z61)  (fun uz61_0 Hz610 sz610 => ?_) N 1 0 a20 H21 s22 e62)
  exact le_E (l1 := [(0, .ref 3), (3, .int z61.2.1)]) ⟨rfl, rfl, trivial⟩ rfl (tj23_131  sz610 e)

set_option maxRecDepth 100000 in
theorem tf22_describe {sL : Nat} {sx : Nat → Int32} {h b N : Nat} {T : List am_C} {r : Int32} {a' : xA} {a : xA} {H : am_H} (hS : xS h b T a H) (e : f22_describe N h b a = some (r, a')) : am_E sL sx am_cs 22 0 [(0, .ref 0)] [] H (some (.int r)) (fun H1 => xS h b T a' H1) := by
  unfold f22_describe at e
  refine ex_s (am_nb (m := 1) (pc1 := 1) (ls1 := [(0, .ref 0)]) (st1 := [.ref 0]) (H1 := H) (k1 := 0) (n1 := 0) (by with_unfolding_all rfl)) ?_
  refine xe_get (v := .ref 3) hS rfl rfl (by decide) rfl ?_
  refine ex_s (am_nb (m := 1) (pc1 := 5) (ls1 := [(0, .ref 0)]) (st1 := [.ref 0, .ref 3]) (H1 := H) (k1 := 0) (n1 := 0) (by with_unfolding_all rfl)) ?_
  refine xe_get (v := .ref 1) hS rfl rfl (by decide) rfl ?_
  refine ex_s (am_nb (m := 1) (pc1 := 9) (ls1 := [(0, .ref 0)]) (st1 := [.ref 0, .ref 1, .ref 3]) (H1 := H) (k1 := 0) (n1 := 0) (by with_unfolding_all rfl)) ?_
  refine xe_get (v := .int (a 0 1)) hS rfl rfl (by decide) rfl ?_
  obtain ⟨r4, a5, e3, e⟩ := xb2_some e
  refine ex_cv1 (as := [.ref 1, .int (a 0 1)]) (rest := []) rfl rfl rfl rfl (hS.obj rfl (by decide)) rfl (by with_unfolding_all rfl) (by with_unfolding_all rfl) (tf23_readText hS e3) (fun H1 s2 => ?_)
  refine ex_s (am_nb (m := 3) (pc1 := 18) (ls1 := [(1, .int r4), (0, .ref 0)]) (st1 := [.int 0, .ref 0]) (H1 := H1) (k1 := 0) (n1 := 0) (by with_unfolding_all rfl)) ?_
  obtain ⟨a6, ha6, e⟩ := xw_some e
  refine xe_put (w := 0) s2 rfl rfl (by decide) rfl rfl rfl rfl (fun H7 s8 => ?_)
  have s8 : xS h b T a6 H7 := by rw [ha6]; exact s8
  refine ex_s (am_nb (m := 1) (pc1 := 22) (ls1 := [(1, .int r4), (0, .ref 0)]) (st1 := [.int r4]) (H1 := H7) (k1 := 0) (n1 := 0) (by with_unfolding_all rfl)) ?_
  cases e
  exact ex_r (st_iret rfl rfl rfl) s8

set_option maxRecDepth 100000 in
theorem tf70_fault {sL : Nat} {sx : Nat → Int32} {h b N : Nat} {T : List am_C} {r : Int32} {a' : xA} {x0 : Int32} {a : xA} {H : am_H} (hS : xS h b T a H) (e : f70_fault N h b x0 a = some (r, a')) : am_E sL sx am_cs 70 0 [(0, .ref 0), (1, .int x0)] [] H (some (.int r)) (fun H1 => xS h b T a' H1) := by
  unfold f70_fault at e
  refine ex_s (am_nb (m := 1) (pc1 := 1) (ls1 := [(0, .ref 0), (1, .int x0)]) (st1 := [.int x0]) (H1 := H) (k1 := 0) (n1 := 0) (by with_unfolding_all rfl)) ?_
  refine ex_s (st_lsw rfl) ?_
  by_cases c1 : x0 = 0
  · have e := (if_pos c1).symm.trans e
    refine ex_pc (pc1 := 28) (by rw [c1]; with_unfolding_all rfl) ?_
    refine ex_s (am_nb (m := 1) (pc1 := 29) (ls1 := [(0, .ref 0), (1, .int x0)]) (st1 := [.ref 0]) (H1 := H) (k1 := 0) (n1 := 0) (by with_unfolding_all rfl)) ?_
    refine xe_get (v := .ref 3) hS rfl rfl (by decide) rfl ?_
    refine xe_get (v := .int (a 3 2)) hS rfl rfl (by decide) rfl ?_
    cases e
    exact ex_r (st_iret rfl rfl rfl) hS
  · have e := (if_neg c1).symm.trans e
    by_cases c2 : x0 = 1
    · have e := (if_pos c2).symm.trans e
      refine ex_pc (pc1 := 36) (by rw [c2]; with_unfolding_all rfl) ?_
      refine ex_s (am_nb (m := 1) (pc1 := 37) (ls1 := [(0, .ref 0), (1, .int x0)]) (st1 := [.ref 0]) (H1 := H) (k1 := 0) (n1 := 0) (by with_unfolding_all rfl)) ?_
      refine xe_get (v := .ref 3) hS rfl rfl (by decide) rfl ?_
      refine xe_get (v := .int (a 3 3)) hS rfl rfl (by decide) rfl ?_
      cases e
      exact ex_r (st_iret rfl rfl rfl) hS
    · have e := (if_neg c2).symm.trans e
      refine ex_pc (pc1 := 44) (am_sw_n (sw_c (Or.inl c1) (sw_c (Or.inl c2) sw_o))) ?_
      refine ex_s (am_nb (m := 1) (pc1 := 45) (ls1 := [(0, .ref 0), (1, .int x0)]) (st1 := [.int (-1)]) (H1 := H) (k1 := 0) (n1 := 0) (by with_unfolding_all rfl)) ?_
      cases e
      exact ex_r (st_iret rfl rfl rfl) hS

set_option maxRecDepth 100000 in
theorem tf72_entryNamed {sL : Nat} {sx : Nat → Int32} {h b N : Nat} {T : List am_C} {r : Int32} {a' : xA} {x0 : Nat} {x1 : Int32} {a : xA} {H : am_H} (hS : xS h b T a H) (e : f72_entryNamed N h b x0 x1 a = some (r, a')) : am_E sL sx am_cs 72 0 [(0, .ref 3), (1, .ref x0), (2, .int x1)] [] H (some (xN r)) (fun H1 => xS h b T a' H1) := by
  unfold f72_entryNamed at e
  obtain ⟨g1, e⟩ := xg_some e
  refine ex_s (am_nb (m := 5) (pc1 := 5) (ls1 := [(0, .ref 3), (1, .ref x0), (2, .int x1)]) (st1 := [.ref 3, .int x1, .int 0, .ref x0, .ref 3]) (H1 := H) (k1 := 0) (n1 := 0) (by with_unfolding_all rfl)) ?_
  refine xe_get (v := .int (a 3 1)) hS rfl rfl (by decide) rfl ?_
  obtain ⟨r5, a6, e4, e⟩ := xb2_some e
  refine ex_cv1 (as := [.ref x0, .int 0, .int x1, .int (a 3 1)]) (rest := []) rfl rfl rfl rfl (hS.obj rfl (by decide)) rfl (by with_unfolding_all rfl) (by with_unfolding_all rfl) (tf40_indexNamed hS e4) (fun H2 s3 => ?_)
  refine ex_s (am_nb (m := 3) (pc1 := 14) (ls1 := [(3, .int r5), (0, .ref 3), (1, .ref x0), (2, .int x1)]) (st1 := [.int (-1), .int r5]) (H1 := H2) (k1 := 0) (n1 := 0) (by with_unfolding_all rfl)) ?_
  refine ex_s (st_icmp rfl) ?_
  by_cases c8 : r5 = (-1)
  · have e := (if_pos c8).symm.trans e
    refine ex_pc (if_pos c8) ?_
    refine ex_s (am_nb (m := 2) (pc1 := 27) (ls1 := [(3, .int r5), (0, .ref 3), (1, .ref x0), (2, .int x1)]) (st1 := [.null]) (H1 := H2) (k1 := 0) (n1 := 0) (by with_unfolding_all rfl)) ?_
    cases e
    exact ex_r (st_aret rfl rfl rfl rfl) s3
  · have e := (if_neg c8).symm.trans e
    refine ex_pc (if_neg c8) ?_
    refine ex_s (am_nb (m := 1) (pc1 := 22) (ls1 := [(3, .int r5), (0, .ref 3), (1, .ref x0), (2, .int x1)]) (st1 := [.ref 3]) (H1 := H2) (k1 := 0) (n1 := 0) (by with_unfolding_all rfl)) ?_
    refine xe_get (v := .ref 4) s3 rfl rfl (by decide) rfl ?_
    refine ex_s (am_nb (m := 1) (pc1 := 26) (ls1 := [(3, .int r5), (0, .ref 3), (1, .ref x0), (2, .int x1)]) (st1 := [.int r5, .ref 4]) (H1 := H2) (k1 := 0) (n1 := 0) (by with_unfolding_all rfl)) ?_
    obtain ⟨g9, e⟩ := xg_some e
    refine xe_q4 s3 rfl g9 ?_
    cases e
    rw [(xN_of (xkq4 g9) (by decide))]
    exact ex_r (st_aret rfl rfl rfl rfl) s3

set_option maxRecDepth 100000 in
theorem tf74_has {sL : Nat} {sx : Nat → Int32} {h b N : Nat} {T : List am_C} {r : Int32} {a' : xA} {o : Nat} {x0 : Int32} {a : xA} {H : am_H} (hS : xS h b T a H) (e : f74_has N h b o x0 a = some (r, a')) : am_E sL sx am_cs 74 0 [(0, .ref o), (1, .int x0)] [] H (some (.int r)) (fun H1 => xS h b T a' H1) := by
  unfold f74_has at e
  obtain ⟨g1, e⟩ := xg_some e
  refine ex_s (am_nb (m := 1) (pc1 := 1) (ls1 := [(0, .ref o), (1, .int x0)]) (st1 := [.ref o]) (H1 := H) (k1 := 0) (n1 := 0) (by with_unfolding_all rfl)) ?_
  refine xe_get (v := .ref (o + 3)) hS rfl g1 (by decide) rfl ?_
  refine ex_s (am_nb (m := 1) (pc1 := 5) (ls1 := [(0, .ref o), (1, .int x0)]) (st1 := [.int x0, .ref (o + 3)]) (H1 := H) (k1 := 0) (n1 := 0) (by with_unfolding_all rfl)) ?_
  obtain ⟨g2, e⟩ := xg_some e
  refine xe_zald hS rfl (xd_2_3 g1) g2 ?_
  obtain ⟨g3, e⟩ := xg_some e
  cases e
  exact ex_r (st_iret rfl rfl (xnar_z g3)) hS

set_option maxRecDepth 100000 in
theorem tf73_isUsable {sL : Nat} {sx : Nat → Int32} {h b N : Nat} {T : List am_C} {r : Int32} {a' : xA} {o : Nat} {a : xA} {H : am_H} (hS : xS h b T a H) (e : f73_isUsable N h b o a = some (r, a')) : am_E sL sx am_cs 73 0 [(0, .ref o)] [] H (some (.int r)) (fun H1 => xS h b T a' H1) := by
  unfold f73_isUsable at e
  obtain ⟨g1, e⟩ := xg_some e
  refine ex_s (am_nb (m := 2) (pc1 := 2) (ls1 := [(0, .ref o)]) (st1 := [.int 3, .ref o]) (H1 := H) (k1 := 0) (n1 := 0) (by with_unfolding_all rfl)) ?_
  obtain ⟨r5, a6, e4, e⟩ := xb2_some e
  refine ex_cv1 (as := [.int 3]) (rest := []) rfl rfl rfl rfl (hS.obj g1 (by decide)) rfl (by with_unfolding_all rfl) (by with_unfolding_all rfl) (tf74_has hS e4) (fun H2 s3 => ?_)
  refine ex_s (st_if rfl) ?_
  by_cases c7 : r5 = 0
  · have e := (if_pos c7).symm.trans e
    refine ex_pc (if_pos c7) ?_
    refine ex_s (am_nb (m := 1) (pc1 := 81) (ls1 := [(0, .ref o)]) (st1 := [.int 0]) (H1 := H2) (k1 := 0) (n1 := 0) (by with_unfolding_all rfl)) ?_
    cases e
    exact ex_r (st_iret rfl rfl rfl) s3
  · have e := (if_neg c7).symm.trans e
    refine ex_pc (if_neg c7) ?_
    refine ex_s (am_nb (m := 1) (pc1 := 9) (ls1 := [(0, .ref o)]) (st1 := [.ref o]) (H1 := H2) (k1 := 0) (n1 := 0) (by with_unfolding_all rfl)) ?_
    refine xe_get (v := .ref (o + 4)) s3 rfl g1 (by decide) rfl ?_
    refine ex_s (am_nb (m := 1) (pc1 := 13) (ls1 := [(0, .ref o)]) (st1 := [.int 3, .ref (o + 4)]) (H1 := H2) (k1 := 0) (n1 := 0) (by with_unfolding_all rfl)) ?_
    obtain ⟨g8, e⟩ := xg_some e
    refine xe_iald s3 rfl (xd_2_4 g1) g8 ?_
    refine ex_s (am_nb (m := 1) (pc1 := 15) (ls1 := [(0, .ref o)]) (st1 := [.int 4, .int (a6 (o + 4) ((3 : Int32).toNatClampNeg))]) (H1 := H2) (k1 := 0) (n1 := 0) (by with_unfolding_all rfl)) ?_
    refine ex_s (st_icmp rfl) ?_
    by_cases c9 : (a6 (o + 4) ((3 : Int32).toNatClampNeg)) < 4
    · have e := (if_pos c9).symm.trans e
      refine ex_pc (if_pos c9) ?_
      refine ex_s (am_nb (m := 1) (pc1 := 81) (ls1 := [(0, .ref o)]) (st1 := [.int 0]) (H1 := H2) (k1 := 0) (n1 := 0) (by with_unfolding_all rfl)) ?_
      cases e
      exact ex_r (st_iret rfl rfl rfl) s3
    · have e := (if_neg c9).symm.trans e
      refine ex_pc (if_neg c9) ?_
      refine ex_s (am_nb (m := 1) (pc1 := 19) (ls1 := [(0, .ref o)]) (st1 := [.ref o]) (H1 := H2) (k1 := 0) (n1 := 0) (by with_unfolding_all rfl)) ?_
      refine xe_get (v := .ref (o + 4)) s3 rfl g1 (by decide) rfl ?_
      refine ex_s (am_nb (m := 1) (pc1 := 23) (ls1 := [(0, .ref o)]) (st1 := [.int 3, .ref (o + 4)]) (H1 := H2) (k1 := 0) (n1 := 0) (by with_unfolding_all rfl)) ?_
      refine xe_iald s3 rfl (xd_2_4 g1) g8 ?_
      refine ex_s (am_nb (m := 1) (pc1 := 26) (ls1 := [(0, .ref o)]) (st1 := [.int 80, .int (a6 (o + 4) ((3 : Int32).toNatClampNeg))]) (H1 := H2) (k1 := 0) (n1 := 0) (by with_unfolding_all rfl)) ?_
      refine ex_s (st_icmp rfl) ?_
      by_cases c11 : 80 < (a6 (o + 4) ((3 : Int32).toNatClampNeg))
      · have e := (if_pos c11).symm.trans e
        refine ex_pc (if_pos c11) ?_
        refine ex_s (am_nb (m := 1) (pc1 := 81) (ls1 := [(0, .ref o)]) (st1 := [.int 0]) (H1 := H2) (k1 := 0) (n1 := 0) (by with_unfolding_all rfl)) ?_
        cases e
        exact ex_r (st_iret rfl rfl rfl) s3
      · have e := (if_neg c11).symm.trans e
        refine ex_pc (if_neg c11) ?_
        refine ex_s (am_nb (m := 2) (pc1 := 31) (ls1 := [(0, .ref o)]) (st1 := [.int 4, .ref o]) (H1 := H2) (k1 := 0) (n1 := 0) (by with_unfolding_all rfl)) ?_
        obtain ⟨r15, a16, e14, e⟩ := xb2_some e
        refine ex_cv1 (as := [.int 4]) (rest := []) rfl rfl rfl rfl (s3.obj g1 (by decide)) rfl (by with_unfolding_all rfl) (by with_unfolding_all rfl) (tf74_has s3 e14) (fun H12 s13 => ?_)
        refine ex_s (st_if rfl) ?_
        by_cases c18 : r15 = 0
        · have e := (if_pos c18).symm.trans e
          refine ex_pc (if_pos c18) ?_
          refine ex_s (am_nb (m := 1) (pc1 := 81) (ls1 := [(0, .ref o)]) (st1 := [.int 0]) (H1 := H12) (k1 := 0) (n1 := 0) (by with_unfolding_all rfl)) ?_
          cases e
          exact ex_r (st_iret rfl rfl rfl) s13
        · have e := (if_neg c18).symm.trans e
          refine ex_pc (if_neg c18) ?_
          refine ex_s (am_nb (m := 1) (pc1 := 38) (ls1 := [(0, .ref o)]) (st1 := [.ref o]) (H1 := H12) (k1 := 0) (n1 := 0) (by with_unfolding_all rfl)) ?_
          refine xe_get (v := .ref (o + 4)) s13 rfl g1 (by decide) rfl ?_
          refine ex_s (am_nb (m := 1) (pc1 := 42) (ls1 := [(0, .ref o)]) (st1 := [.int 4, .ref (o + 4)]) (H1 := H12) (k1 := 0) (n1 := 0) (by with_unfolding_all rfl)) ?_
          obtain ⟨g19, e⟩ := xg_some e
          refine xe_iald s13 rfl (xd_2_4 g1) g19 ?_
          refine ex_s (am_nb (m := 1) (pc1 := 44) (ls1 := [(0, .ref o)]) (st1 := [.int 2, .int (a16 (o + 4) ((4 : Int32).toNatClampNeg))]) (H1 := H12) (k1 := 0) (n1 := 0) (by with_unfolding_all rfl)) ?_
          refine ex_s (st_icmp rfl) ?_
          by_cases c21 : (a16 (o + 4) ((4 : Int32).toNatClampNeg)) < 2
          · have e := (if_pos c21).symm.trans e
            refine ex_pc (if_pos c21) ?_
            refine ex_s (am_nb (m := 1) (pc1 := 81) (ls1 := [(0, .ref o)]) (st1 := [.int 0]) (H1 := H12) (k1 := 0) (n1 := 0) (by with_unfolding_all rfl)) ?_
            cases e
            exact ex_r (st_iret rfl rfl rfl) s13
          · have e := (if_neg c21).symm.trans e
            refine ex_pc (if_neg c21) ?_
            refine ex_s (am_nb (m := 1) (pc1 := 48) (ls1 := [(0, .ref o)]) (st1 := [.ref o]) (H1 := H12) (k1 := 0) (n1 := 0) (by with_unfolding_all rfl)) ?_
            refine xe_get (v := .ref (o + 4)) s13 rfl g1 (by decide) rfl ?_
            refine ex_s (am_nb (m := 1) (pc1 := 52) (ls1 := [(0, .ref o)]) (st1 := [.int 4, .ref (o + 4)]) (H1 := H12) (k1 := 0) (n1 := 0) (by with_unfolding_all rfl)) ?_
            refine xe_iald s13 rfl (xd_2_4 g1) g19 ?_
            refine ex_s (am_nb (m := 1) (pc1 := 55) (ls1 := [(0, .ref o)]) (st1 := [.int 24, .int (a16 (o + 4) ((4 : Int32).toNatClampNeg))]) (H1 := H12) (k1 := 0) (n1 := 0) (by with_unfolding_all rfl)) ?_
            refine ex_s (st_icmp rfl) ?_
            by_cases c23 : 24 < (a16 (o + 4) ((4 : Int32).toNatClampNeg))
            · have e := (if_pos c23).symm.trans e
              refine ex_pc (if_pos c23) ?_
              refine ex_s (am_nb (m := 1) (pc1 := 81) (ls1 := [(0, .ref o)]) (st1 := [.int 0]) (H1 := H12) (k1 := 0) (n1 := 0) (by with_unfolding_all rfl)) ?_
              cases e
              exact ex_r (st_iret rfl rfl rfl) s13
            · have e := (if_neg c23).symm.trans e
              refine ex_pc (if_neg c23) ?_
              refine ex_s (am_nb (m := 2) (pc1 := 61) (ls1 := [(0, .ref o)]) (st1 := [.int 7, .ref o]) (H1 := H12) (k1 := 0) (n1 := 0) (by with_unfolding_all rfl)) ?_
              obtain ⟨r27, a28, e26, e⟩ := xb2_some e
              refine ex_cv1 (as := [.int 7]) (rest := []) rfl rfl rfl rfl (s13.obj g1 (by decide)) rfl (by with_unfolding_all rfl) (by with_unfolding_all rfl) (tf74_has s13 e26) (fun H24 s25 => ?_)
              refine ex_s (st_if rfl) ?_
              by_cases c30 : r27 = 0
              · have e := (if_pos c30).symm.trans e
                refine ex_pc (if_pos c30) ?_
                refine ex_s (am_nb (m := 1) (pc1 := 81) (ls1 := [(0, .ref o)]) (st1 := [.int 0]) (H1 := H24) (k1 := 0) (n1 := 0) (by with_unfolding_all rfl)) ?_
                cases e
                exact ex_r (st_iret rfl rfl rfl) s25
              · have e := (if_neg c30).symm.trans e
                refine ex_pc (if_neg c30) ?_
                refine ex_s (am_nb (m := 2) (pc1 := 70) (ls1 := [(0, .ref o)]) (st1 := [.int 9, .ref o]) (H1 := H24) (k1 := 0) (n1 := 0) (by with_unfolding_all rfl)) ?_
                obtain ⟨r34, a35, e33, e⟩ := xb2_some e
                refine ex_cv1 (as := [.int 9]) (rest := []) rfl rfl rfl rfl (s25.obj g1 (by decide)) rfl (by with_unfolding_all rfl) (by with_unfolding_all rfl) (tf74_has s25 e33) (fun H31 s32 => ?_)
                have kk : am_E sL sx am_cs 73 81 [(0, .ref o)] [.int (if r34 = 0 then (0 : Int32) else (1 : Int32))] H31 (some (.int r)) (fun H1 => xS h b T a' H1) := by
                  obtain ⟨g37, e⟩ := xg_some e
                  cases e
                  exact ex_r (st_iret rfl rfl (xnar_z g37)) s32
                refine ex_s (st_if rfl) ?_
                by_cases c36 : r34 = 0
                · refine ex_pc (if_pos c36) ?_
                  refine ex_s (am_nb (m := 1) (pc1 := 81) (ls1 := [(0, .ref o)]) (st1 := [.int 0]) (H1 := H31) (k1 := 0) (n1 := 0) (by with_unfolding_all rfl)) ?_
                  rw [if_pos c36] at kk
                  exact kk
                · refine ex_pc (if_neg c36) ?_
                  refine ex_s (am_nb (m := 2) (pc1 := 81) (ls1 := [(0, .ref o)]) (st1 := [.int 1]) (H1 := H31) (k1 := 0) (n1 := 0) (by with_unfolding_all rfl)) ?_
                  rw [if_neg c36] at kk
                  exact kk

set_option maxRecDepth 100000 in
theorem tl75_2 {sL : Nat} {sx : Nat → Int32} {h b N : Nat} {T : List am_C} {R : Option Value} {F : am_H → Prop} {z : Nat × xA} (k0 : z.1 = 0 → ∀ H2 : am_H, xS h b T z.2 H2 → am_E sL sx am_cs 75 24 [] [] H2 R F) : ∀ (n : Nat) (v1 : Int32) (a : xA) (H : am_H), xS h b T a H → l75_2 N h b n v1 a = some z → am_E sL sx am_cs 75 2 [(0, .ref 0), (1, .int v1)] [] H R F := by
  intro n
  induction n with
  | zero =>
    intro v1 a H hS e
    cases e
  | succ n ih =>
    intro v1 a H hS e
    unfold l75_2 at e
    refine ex_s (am_nb (m := 2) (pc1 := 5) (ls1 := [(0, .ref 0), (1, .int v1)]) (st1 := [.int 8, .int v1]) (H1 := H) (k1 := 0) (n1 := 0) (by with_unfolding_all rfl)) ?_
    refine ex_s (st_icmp rfl) ?_
    by_cases c1 : 8 ≤ v1
    · have e := (if_pos c1).symm.trans e
      refine ex_pc (if_pos c1) ?_
      cases e
      exact le_E (l1 := []) trivial rfl (k0 rfl H hS)
    · have e := (if_neg c1).symm.trans e
      refine ex_pc (if_neg c1) ?_
      refine ex_s (am_nb (m := 1) (pc1 := 9) (ls1 := [(0, .ref 0), (1, .int v1)]) (st1 := [.ref 0]) (H1 := H) (k1 := 0) (n1 := 0) (by with_unfolding_all rfl)) ?_
      refine xe_get (v := .ref 115) hS rfl rfl (by decide) rfl ?_
      refine ex_s (am_nb (m := 1) (pc1 := 13) (ls1 := [(0, .ref 0), (1, .int v1)]) (st1 := [.int v1, .ref 115]) (H1 := H) (k1 := 0) (n1 := 0) (by with_unfolding_all rfl)) ?_
      obtain ⟨g2, e⟩ := xg_some e
      refine xe_q115 hS rfl g2 ?_
      refine ex_s (am_nb (m := 1) (pc1 := 15) (ls1 := [(0, .ref 0), (1, .int v1)]) (st1 := [.int 0, .ref (141 + 2 * v1.toNatClampNeg)]) (H1 := H) (k1 := 0) (n1 := 0) (by with_unfolding_all rfl)) ?_
      obtain ⟨a3, ha3, e⟩ := xw_some e
      refine xe_put (w := 0) hS rfl (xkq115 g2) (by decide) rfl rfl rfl rfl (fun H4 s5 => ?_)
      have s5 : xS h b T a3 H4 := by rw [ha3]; exact s5
      refine ex_s (am_nb (m := 2) (pc1 := 2) (ls1 := [(1, .int (v1 + 1)), (0, .ref 0)]) (st1 := []) (H1 := H4) (k1 := 0) (n1 := 0) (by with_unfolding_all rfl)) ?_
      exact le_E (l1 := [(0, .ref 0), (1, .int (v1 + 1))]) ⟨rfl, rfl, trivial⟩ rfl (ih (v1 + 1) a3 H4 s5 e)

set_option maxRecDepth 100000 in
theorem tf75_closeWindows {sL : Nat} {sx : Nat → Int32} {h b N : Nat} {T : List am_C} {a' : xA} {a : xA} {H : am_H} (hS : xS h b T a H) (e : f75_closeWindows N h b a = some a') : am_E sL sx am_cs 75 0 [(0, .ref 0)] [] H none (fun H1 => xS h b T a' H1) := by
  unfold f75_closeWindows at e
  refine ex_s (am_nb (m := 2) (pc1 := 2) (ls1 := [(1, .int 0), (0, .ref 0)]) (st1 := []) (H1 := H) (k1 := 0) (n1 := 0) (by with_unfolding_all rfl)) ?_
  obtain ⟨z6, e7, e⟩ := Option.bind_eq_some_iff.mp e
  refine le_E (l1 := [(0, .ref 0), (1, .int 0)]) ⟨rfl, rfl, trivial⟩ rfl (tl75_2 (z := z6)  (fun uz6_0 Hz60 sz60 => ?_) N 0 a H hS e7)
  cases e
  exact ex_r (st_vret rfl rfl) sz60

set_option maxRecDepth 100000 in
theorem tf77_number {sL : Nat} {sx : Nat → Int32} {h b N : Nat} {T : List am_C} {r : Int32} {a' : xA} {o : Nat} {x0 : Int32} {a : xA} {H : am_H} (hS : xS h b T a H) (e : f77_number N h b o x0 a = some (r, a')) : am_E sL sx am_cs 77 0 [(0, .ref o), (1, .int x0)] [] H (some (.int r)) (fun H1 => xS h b T a' H1) := by
  unfold f77_number at e
  obtain ⟨g1, e⟩ := xg_some e
  refine ex_s (am_nb (m := 1) (pc1 := 1) (ls1 := [(0, .ref o), (1, .int x0)]) (st1 := [.ref o]) (H1 := H) (k1 := 0) (n1 := 0) (by with_unfolding_all rfl)) ?_
  refine xe_get (v := .ref (o + 4)) hS rfl g1 (by decide) rfl ?_
  refine ex_s (am_nb (m := 1) (pc1 := 5) (ls1 := [(0, .ref o), (1, .int x0)]) (st1 := [.int x0, .ref (o + 4)]) (H1 := H) (k1 := 0) (n1 := 0) (by with_unfolding_all rfl)) ?_
  obtain ⟨g2, e⟩ := xg_some e
  refine xe_iald hS rfl (xd_2_4 g1) g2 ?_
  cases e
  exact ex_r (st_iret rfl rfl rfl) hS

set_option maxRecDepth 100000 in
theorem tf78_begin {sL : Nat} {sx : Nat → Int32} {h b N : Nat} {T : List am_C} {a' : xA} {o : Nat} {x0 : Int32} {x1 : Int32} {x2 : Int32} {x3 : Int32} {a : xA} {H : am_H} (hS : xS h b T a H) (e : f78_begin N h b o x0 x1 x2 x3 a = some a') : am_E sL sx am_cs 78 0 [(0, .ref o), (1, .int x0), (2, .int x1), (3, .int x2), (4, .int x3)] [] H none (fun H1 => xS h b T a' H1) := by
  unfold f78_begin at e
  obtain ⟨g1, e⟩ := xg_some e
  refine ex_s (am_nb (m := 2) (pc1 := 2) (ls1 := [(0, .ref o), (1, .int x0), (2, .int x1), (3, .int x2), (4, .int x3)]) (st1 := [.int 1, .ref o]) (H1 := H) (k1 := 0) (n1 := 0) (by with_unfolding_all rfl)) ?_
  obtain ⟨a2, ha2, e⟩ := xw_some e
  refine xe_put (w := 1) hS rfl g1 (by decide) rfl rfl rfl rfl (fun H3 s4 => ?_)
  have s4 : xS h b T a2 H3 := by rw [ha2]; exact s4
  refine ex_s (am_nb (m := 2) (pc1 := 7) (ls1 := [(0, .ref o), (1, .int x0), (2, .int x1), (3, .int x2), (4, .int x3)]) (st1 := [.int x0, .ref o]) (H1 := H3) (k1 := 0) (n1 := 0) (by with_unfolding_all rfl)) ?_
  obtain ⟨a5, ha5, e⟩ := xw_some e
  refine xe_put (w := x0) s4 rfl g1 (by decide) rfl rfl rfl rfl (fun H6 s7 => ?_)
  have s7 : xS h b T a5 H6 := by rw [ha5]; exact s7
  refine ex_s (am_nb (m := 2) (pc1 := 12) (ls1 := [(0, .ref o), (1, .int x0), (2, .int x1), (3, .int x2), (4, .int x3)]) (st1 := [.int x1, .ref o]) (H1 := H6) (k1 := 0) (n1 := 0) (by with_unfolding_all rfl)) ?_
  obtain ⟨a8, ha8, e⟩ := xw_some e
  refine xe_put (w := x1) s7 rfl g1 (by decide) rfl rfl rfl rfl (fun H9 s10 => ?_)
  have s10 : xS h b T a8 H9 := by rw [ha8]; exact s10
  refine ex_s (am_nb (m := 4) (pc1 := 20) (ls1 := [(0, .ref o), (1, .int x0), (2, .int x1), (3, .int x2), (4, .int x3)]) (st1 := [.int 24, .int 1, .int x2, .ref o]) (H1 := H9) (k1 := 0) (n1 := 0) (by with_unfolding_all rfl)) ?_
  obtain ⟨r14, a15, e13, e⟩ := xb2_some e
  refine ex_cs1 (as := [.int x2, .int 1, .int 24]) (rest := [.ref o]) rfl (by decide) rfl rfl (by with_unfolding_all rfl) (by with_unfolding_all rfl) (tf10_nearest s10 e13) (fun H11 s12 => ?_)
  obtain ⟨a16, ha16, e⟩ := xw_some e
  refine xe_put (w := r14) s12 rfl g1 (by decide) rfl rfl rfl rfl (fun H17 s18 => ?_)
  have s18 : xS h b T a16 H17 := by rw [ha16]; exact s18
  refine ex_s (am_nb (m := 4) (pc1 := 32) (ls1 := [(0, .ref o), (1, .int x0), (2, .int x1), (3, .int x2), (4, .int x3)]) (st1 := [.int 80, .int 1, .int x3, .ref o]) (H1 := H17) (k1 := 0) (n1 := 0) (by with_unfolding_all rfl)) ?_
  obtain ⟨r22, a23, e21, e⟩ := xb2_some e
  refine ex_cs1 (as := [.int x3, .int 1, .int 80]) (rest := [.ref o]) rfl (by decide) rfl rfl (by with_unfolding_all rfl) (by with_unfolding_all rfl) (tf10_nearest s18 e21) (fun H19 s20 => ?_)
  obtain ⟨a24, ha24, e⟩ := xw_some e
  refine xe_put (w := r22) s20 rfl g1 (by decide) rfl rfl rfl rfl (fun H25 s26 => ?_)
  have s26 : xS h b T a24 H25 := by rw [ha24]; exact s26
  refine ex_s (am_nb (m := 2) (pc1 := 40) (ls1 := [(0, .ref o), (1, .int x0), (2, .int x1), (3, .int x2), (4, .int x3)]) (st1 := [.int 0, .ref o]) (H1 := H25) (k1 := 0) (n1 := 0) (by with_unfolding_all rfl)) ?_
  obtain ⟨a27, ha27, e⟩ := xw_some e
  refine xe_put (w := 0) s26 rfl g1 (by decide) rfl rfl rfl rfl (fun H28 s29 => ?_)
  have s29 : xS h b T a27 H28 := by rw [ha27]; exact s29
  refine ex_s (am_nb (m := 2) (pc1 := 45) (ls1 := [(0, .ref o), (1, .int x0), (2, .int x1), (3, .int x2), (4, .int x3)]) (st1 := [.int 0, .ref o]) (H1 := H28) (k1 := 0) (n1 := 0) (by with_unfolding_all rfl)) ?_
  obtain ⟨a30, ha30, e⟩ := xw_some e
  refine xe_put (w := 0) s29 rfl g1 (by decide) rfl rfl rfl rfl (fun H31 s32 => ?_)
  have s32 : xS h b T a30 H31 := by rw [ha30]; exact s32
  refine ex_s (am_nb (m := 2) (pc1 := 50) (ls1 := [(0, .ref o), (1, .int x0), (2, .int x1), (3, .int x2), (4, .int x3)]) (st1 := [.int 0, .ref o]) (H1 := H31) (k1 := 0) (n1 := 0) (by with_unfolding_all rfl)) ?_
  obtain ⟨a33, ha33, e⟩ := xw_some e
  refine xe_put (w := 0) s32 rfl g1 (by decide) rfl rfl rfl rfl (fun H34 s35 => ?_)
  have s35 : xS h b T a33 H34 := by rw [ha33]; exact s35
  refine ex_s (am_nb (m := 2) (pc1 := 55) (ls1 := [(0, .ref o), (1, .int x0), (2, .int x1), (3, .int x2), (4, .int x3)]) (st1 := [.int 0, .ref o]) (H1 := H34) (k1 := 0) (n1 := 0) (by with_unfolding_all rfl)) ?_
  obtain ⟨a36, ha36, e⟩ := xw_some e
  refine xe_put (w := 0) s35 rfl g1 (by decide) rfl rfl rfl rfl (fun H37 s38 => ?_)
  have s38 : xS h b T a36 H37 := by rw [ha36]; exact s38
  refine ex_s (am_nb (m := 1) (pc1 := 59) (ls1 := [(0, .ref o), (1, .int x0), (2, .int x1), (3, .int x2), (4, .int x3)]) (st1 := [.ref o]) (H1 := H37) (k1 := 0) (n1 := 0) (by with_unfolding_all rfl)) ?_
  refine xe_get (v := .ref (o + 1)) s38 rfl g1 (by decide) rfl ?_
  refine ex_s (am_nb (m := 2) (pc1 := 64) (ls1 := [(0, .ref o), (1, .int x0), (2, .int x1), (3, .int x2), (4, .int x3)]) (st1 := [.ref o, .int 0, .ref (o + 1)]) (H1 := H37) (k1 := 0) (n1 := 0) (by with_unfolding_all rfl)) ?_
  refine xe_get (v := .int (a36 o 4)) s38 rfl g1 (by decide) rfl ?_
  refine ex_s (am_nb (m := 1) (pc1 := 68) (ls1 := [(0, .ref o), (1, .int x0), (2, .int x1), (3, .int x2), (4, .int x3)]) (st1 := [.ref o, .int (a36 o 4), .int 0, .ref (o + 1)]) (H1 := H37) (k1 := 0) (n1 := 0) (by with_unfolding_all rfl)) ?_
  refine xe_get (v := .int (a36 o 5)) s38 rfl g1 (by decide) rfl ?_
  refine ex_s (am_nb (m := 2) (pc1 := 74) (ls1 := [(0, .ref o), (1, .int x0), (2, .int x1), (3, .int x2), (4, .int x3)]) (st1 := [.int 32, .int ((a36 o 4) * (a36 o 5)), .int 0, .ref (o + 1)]) (H1 := H37) (k1 := 0) (n1 := 0) (by with_unfolding_all rfl)) ?_
  obtain ⟨a42, e41, e⟩ := xb1_some e
  refine ex_cs0 (as := [.ref (o + 1), .int 0, .int ((a36 o 4) * (a36 o 5)), .int 32]) (rest := []) rfl (by decide) rfl rfl (by with_unfolding_all rfl) (by with_unfolding_all rfl) (tf14_fill s38 e41) (fun H39 s40 => ?_)
  cases e
  exact ex_r (st_vret rfl rfl) s40

set_option maxRecDepth 100000 in
theorem tf81_setParameters {sL : Nat} {sx : Nat → Int32} {h b N : Nat} {T : List am_C} {a' : xA} {x0 : Int32} {x1 : Int32} {x2 : Int32} {x3 : Int32} {a : xA} {H : am_H} (hS : xS h b T a H) (e : f81_setParameters N h b x0 x1 x2 x3 a = some a') : am_E sL sx am_cs 81 0 [(0, .ref 93), (1, .int x0), (2, .int x1), (3, .int x2), (4, .int x3)] [] H none (fun H1 => xS h b T a' H1) := by
  unfold f81_setParameters at e
  refine ex_s (am_nb (m := 1) (pc1 := 1) (ls1 := [(0, .ref 93), (1, .int x0), (2, .int x1), (3, .int x2), (4, .int x3)]) (st1 := [.ref 93]) (H1 := H) (k1 := 0) (n1 := 0) (by with_unfolding_all rfl)) ?_
  refine xe_get (v := .ref 95) hS rfl rfl (by decide) rfl ?_
  refine ex_s (am_nb (m := 2) (pc1 := 6) (ls1 := [(0, .ref 93), (1, .int x0), (2, .int x1), (3, .int x2), (4, .int x3)]) (st1 := [.int x0, .int 0, .ref 95]) (H1 := H) (k1 := 0) (n1 := 0) (by with_unfolding_all rfl)) ?_
  obtain ⟨a1, ha1, e⟩ := xw_some e
  refine xe_iast hS rfl rfl (show ¬ ((0 : Int32) < 0 ∨ 4 ≤ ((0 : Int32)).toNatClampNeg) by decide) (fun H2 s3 => ?_)
  have s3 : xS h b T a1 H2 := by rw [ha1]; exact s3
  refine ex_s (am_nb (m := 1) (pc1 := 8) (ls1 := [(0, .ref 93), (1, .int x0), (2, .int x1), (3, .int x2), (4, .int x3)]) (st1 := [.ref 93]) (H1 := H2) (k1 := 0) (n1 := 0) (by with_unfolding_all rfl)) ?_
  refine xe_get (v := .ref 95) s3 rfl rfl (by decide) rfl ?_
  refine ex_s (am_nb (m := 2) (pc1 := 13) (ls1 := [(0, .ref 93), (1, .int x0), (2, .int x1), (3, .int x2), (4, .int x3)]) (st1 := [.int x1, .int 1, .ref 95]) (H1 := H2) (k1 := 0) (n1 := 0) (by with_unfolding_all rfl)) ?_
  obtain ⟨a4, ha4, e⟩ := xw_some e
  refine xe_iast s3 rfl rfl (show ¬ ((1 : Int32) < 0 ∨ 4 ≤ ((1 : Int32)).toNatClampNeg) by decide) (fun H5 s6 => ?_)
  have s6 : xS h b T a4 H5 := by rw [ha4]; exact s6
  refine ex_s (am_nb (m := 1) (pc1 := 15) (ls1 := [(0, .ref 93), (1, .int x0), (2, .int x1), (3, .int x2), (4, .int x3)]) (st1 := [.ref 93]) (H1 := H5) (k1 := 0) (n1 := 0) (by with_unfolding_all rfl)) ?_
  refine xe_get (v := .ref 95) s6 rfl rfl (by decide) rfl ?_
  refine ex_s (am_nb (m := 2) (pc1 := 20) (ls1 := [(0, .ref 93), (1, .int x0), (2, .int x1), (3, .int x2), (4, .int x3)]) (st1 := [.int x2, .int 2, .ref 95]) (H1 := H5) (k1 := 0) (n1 := 0) (by with_unfolding_all rfl)) ?_
  obtain ⟨a7, ha7, e⟩ := xw_some e
  refine xe_iast s6 rfl rfl (show ¬ ((2 : Int32) < 0 ∨ 4 ≤ ((2 : Int32)).toNatClampNeg) by decide) (fun H8 s9 => ?_)
  have s9 : xS h b T a7 H8 := by rw [ha7]; exact s9
  refine ex_s (am_nb (m := 1) (pc1 := 22) (ls1 := [(0, .ref 93), (1, .int x0), (2, .int x1), (3, .int x2), (4, .int x3)]) (st1 := [.ref 93]) (H1 := H8) (k1 := 0) (n1 := 0) (by with_unfolding_all rfl)) ?_
  refine xe_get (v := .ref 95) s9 rfl rfl (by decide) rfl ?_
  refine ex_s (am_nb (m := 2) (pc1 := 28) (ls1 := [(0, .ref 93), (1, .int x0), (2, .int x1), (3, .int x2), (4, .int x3)]) (st1 := [.int x3, .int 3, .ref 95]) (H1 := H8) (k1 := 0) (n1 := 0) (by with_unfolding_all rfl)) ?_
  obtain ⟨a10, ha10, e⟩ := xw_some e
  refine xe_iast s9 rfl rfl (show ¬ ((3 : Int32) < 0 ∨ 4 ≤ ((3 : Int32)).toNatClampNeg) by decide) (fun H11 s12 => ?_)
  have s12 : xS h b T a10 H11 := by rw [ha10]; exact s12
  cases e
  exact ex_r (st_vret rfl rfl) s12

set_option maxRecDepth 100000 in
theorem tf83_make {sL : Nat} {sx : Nat → Int32} {h b N : Nat} {T : List am_C} {a' : xA} {x0 : Int32} {a : xA} {H : am_H} (hS : xS h b T a H) (e : f83_make N h b x0 a = some a') : am_E sL sx am_cs 83 0 [(0, .ref 93), (1, .int x0)] [] H none (fun H1 => xS h b T a' H1) := by
  unfold f83_make at e
  refine ex_s (am_nb (m := 1) (pc1 := 1) (ls1 := [(0, .ref 93), (1, .int x0)]) (st1 := [.ref 93]) (H1 := H) (k1 := 0) (n1 := 0) (by with_unfolding_all rfl)) ?_
  refine xe_get (v := .int (a 93 4)) hS rfl rfl (by decide) rfl ?_
  refine ex_s (am_nb (m := 1) (pc1 := 6) (ls1 := [(0, .ref 93), (1, .int x0)]) (st1 := [.int 60, .int (a 93 4)]) (H1 := H) (k1 := 0) (n1 := 0) (by with_unfolding_all rfl)) ?_
  refine ex_s (st_icmp rfl) ?_
  by_cases c2 : 60 ≤ (a 93 4)
  · have e := (if_pos c2).symm.trans e
    refine ex_pc (if_pos c2) ?_
    cases e
    exact ex_r (st_vret rfl rfl) hS
  · have e := (if_neg c2).symm.trans e
    refine ex_pc (if_neg c2) ?_
    refine ex_s (am_nb (m := 1) (pc1 := 10) (ls1 := [(0, .ref 93), (1, .int x0)]) (st1 := [.ref 93]) (H1 := H) (k1 := 0) (n1 := 0) (by with_unfolding_all rfl)) ?_
    refine xe_get (v := .ref 96) hS rfl rfl (by decide) rfl ?_
    refine ex_s (am_nb (m := 1) (pc1 := 14) (ls1 := [(0, .ref 93), (1, .int x0)]) (st1 := [.ref 93, .ref 96]) (H1 := H) (k1 := 0) (n1 := 0) (by with_unfolding_all rfl)) ?_
    refine xe_get (v := .int (a 93 4)) hS rfl rfl (by decide) rfl ?_
    refine ex_s (am_nb (m := 1) (pc1 := 18) (ls1 := [(0, .ref 93), (1, .int x0)]) (st1 := [.int x0, .int (a 93 4), .ref 96]) (H1 := H) (k1 := 0) (n1 := 0) (by with_unfolding_all rfl)) ?_
    obtain ⟨g6, e⟩ := xg_some e
    obtain ⟨a3, ha3, e⟩ := xw_some e
    refine xe_iast hS rfl rfl g6 (fun H4 s5 => ?_)
    have s5 : xS h b T a3 H4 := by rw [ha3]; exact s5
    refine ex_s (am_nb (m := 2) (pc1 := 21) (ls1 := [(0, .ref 93), (1, .int x0)]) (st1 := [.ref 93, .ref 93]) (H1 := H4) (k1 := 0) (n1 := 0) (by with_unfolding_all rfl)) ?_
    refine xe_get (v := .int (a3 93 4)) s5 rfl rfl (by decide) rfl ?_
    refine ex_s (am_nb (m := 2) (pc1 := 26) (ls1 := [(0, .ref 93), (1, .int x0)]) (st1 := [.int ((a3 93 4) + 1), .ref 93]) (H1 := H4) (k1 := 0) (n1 := 0) (by with_unfolding_all rfl)) ?_
    obtain ⟨a7, ha7, e⟩ := xw_some e
    refine xe_put (w := ((a3 93 4) + 1)) s5 rfl rfl (by decide) rfl rfl rfl rfl (fun H8 s9 => ?_)
    have s9 : xS h b T a7 H8 := by rw [ha7]; exact s9
    cases e
    exact ex_r (st_vret rfl rfl) s9

set_option maxRecDepth 100000 in
theorem tf84_pop {sL : Nat} {sx : Nat → Int32} {h b N : Nat} {T : List am_C} {r : Int32} {a' : xA} {a : xA} {H : am_H} (hS : xS h b T a H) (e : f84_pop N h b a = some (r, a')) : am_E sL sx am_cs 84 0 [(0, .ref 93)] [] H (some (.int r)) (fun H1 => xS h b T a' H1) := by
  unfold f84_pop at e
  refine ex_s (am_nb (m := 1) (pc1 := 1) (ls1 := [(0, .ref 93)]) (st1 := [.ref 93]) (H1 := H) (k1 := 0) (n1 := 0) (by with_unfolding_all rfl)) ?_
  refine xe_get (v := .int (a 93 1)) hS rfl rfl (by decide) rfl ?_
  refine ex_s (st_if rfl) ?_
  by_cases c1 : (a 93 1) = 0
  · have e := (if_pos c1).symm.trans e
    refine ex_pc (if_pos c1) ?_
    refine ex_s (am_nb (m := 1) (pc1 := 8) (ls1 := [(0, .ref 93)]) (st1 := [.int 0]) (H1 := H) (k1 := 0) (n1 := 0) (by with_unfolding_all rfl)) ?_
    cases e
    exact ex_r (st_iret rfl rfl rfl) hS
  · have e := (if_neg c1).symm.trans e
    refine ex_pc (if_neg c1) ?_
    refine ex_s (am_nb (m := 2) (pc1 := 11) (ls1 := [(0, .ref 93)]) (st1 := [.ref 93, .ref 93]) (H1 := H) (k1 := 0) (n1 := 0) (by with_unfolding_all rfl)) ?_
    refine xe_get (v := .int (a 93 1)) hS rfl rfl (by decide) rfl ?_
    refine ex_s (am_nb (m := 2) (pc1 := 16) (ls1 := [(0, .ref 93)]) (st1 := [.int ((a 93 1) - 1), .ref 93]) (H1 := H) (k1 := 0) (n1 := 0) (by with_unfolding_all rfl)) ?_
    obtain ⟨a2, ha2, e⟩ := xw_some e
    refine xe_put (w := ((a 93 1) - 1)) hS rfl rfl (by decide) rfl rfl rfl rfl (fun H3 s4 => ?_)
    have s4 : xS h b T a2 H3 := by rw [ha2]; exact s4
    refine ex_s (am_nb (m := 1) (pc1 := 20) (ls1 := [(0, .ref 93)]) (st1 := [.ref 93]) (H1 := H3) (k1 := 0) (n1 := 0) (by with_unfolding_all rfl)) ?_
    refine xe_get (v := .ref 94) s4 rfl rfl (by decide) rfl ?_
    refine ex_s (am_nb (m := 1) (pc1 := 24) (ls1 := [(0, .ref 93)]) (st1 := [.ref 93, .ref 94]) (H1 := H3) (k1 := 0) (n1 := 0) (by with_unfolding_all rfl)) ?_
    refine xe_get (v := .int (a2 93 1)) s4 rfl rfl (by decide) rfl ?_
    obtain ⟨g5, e⟩ := xg_some e
    refine xe_iald s4 rfl rfl g5 ?_
    cases e
    exact ex_r (st_iret rfl rfl rfl) s4

set_option maxRecDepth 100000 in
theorem tj85_99 {sL : Nat} {sx : Nat → Int32} {h b N : Nat} {T : List am_C} {R : Option Value} {F : am_H → Prop} {w0 : Nat} {w2 : Int32} {w3 : Int32} {z : Nat × Int32 × xA} {rc : Int32 → Int32 → xA → Option (Nat × Int32 × xA)} (k0 : z.1 = 0 → ∀ H2 : am_H, xS h b T z.2.2 H2 → am_E sL sx am_cs 85 73 [(5, .int z.2.1)] [] H2 R F) (k1 : z.1 = 1 → ∀ H2 : am_H, xS h b T z.2.2 H2 → am_E sL sx am_cs 85 102 [(2, .int w2)] [] H2 R F) (ih : ∀ (v4 : Int32) (v5 : Int32) (a : xA) (H : am_H), xS h b T a H → rc v4 v5 a = some z → am_E sL sx am_cs 85 6 [(0, .ref w0), (2, .int w2), (3, .int w3), (4, .int v4), (5, .int v5)] [] H R F) {q4 : Int32} {q5 : Int32} {a : xA} {H : am_H} (kw0 : xk w0 = 100) (hS : xS h b T a H) (e : j85_99 N h b rc w0 w2 w3 q4 q5 a = some z) : am_E sL sx am_cs 85 99 [(0, .ref w0), (2, .int w2), (3, .int w3), (4, .int q4), (5, .int q5)] [] H R F := by
  unfold j85_99 at e
  refine ex_s (am_nb (m := 1) (pc1 := 6) (ls1 := [(0, .ref w0), (2, .int w2), (3, .int w3), (4, .int q4), (5, .int q5)]) (st1 := []) (H1 := H) (k1 := 0) (n1 := 0) (by with_unfolding_all rfl)) ?_
  exact le_E (l1 := [(0, .ref w0), (2, .int w2), (3, .int w3), (4, .int q4), (5, .int q5)]) ⟨rfl, rfl, rfl, rfl, rfl, trivial⟩ rfl (ih q4 q5 a H hS e)

set_option maxRecDepth 100000 in
theorem tj85_76 {sL : Nat} {sx : Nat → Int32} {h b N : Nat} {T : List am_C} {R : Option Value} {F : am_H → Prop} {w0 : Nat} {w2 : Int32} {w3 : Int32} {z : Nat × Int32 × xA} {rc : Int32 → Int32 → xA → Option (Nat × Int32 × xA)} (k0 : z.1 = 0 → ∀ H2 : am_H, xS h b T z.2.2 H2 → am_E sL sx am_cs 85 73 [(5, .int z.2.1)] [] H2 R F) (k1 : z.1 = 1 → ∀ H2 : am_H, xS h b T z.2.2 H2 → am_E sL sx am_cs 85 102 [(2, .int w2)] [] H2 R F) (ih : ∀ (v4 : Int32) (v5 : Int32) (a : xA) (H : am_H), xS h b T a H → rc v4 v5 a = some z → am_E sL sx am_cs 85 6 [(0, .ref w0), (2, .int w2), (3, .int w3), (4, .int v4), (5, .int v5)] [] H R F) {q4 : Int32} {q5 : Int32} {q7 : Int32} {a : xA} {H : am_H} (kw0 : xk w0 = 100) (hS : xS h b T a H) (e : j85_76 N h b rc w0 w2 w3 q4 q5 q7 a = some z) : am_E sL sx am_cs 85 76 [(0, .ref w0), (2, .int w2), (3, .int w3), (4, .int q4), (5, .int q5), (7, .int q7)] [] H R F := by
  unfold j85_76 at e
  refine ex_s (am_nb (m := 2) (pc1 := 80) (ls1 := [(0, .ref w0), (2, .int w2), (3, .int w3), (4, .int q4), (5, .int q5), (7, .int q7)]) (st1 := [.int 63, .int q7]) (H1 := H) (k1 := 0) (n1 := 0) (by with_unfolding_all rfl)) ?_
  refine ex_s (st_icmp rfl) ?_
  by_cases c24 : q7 = 63
  · have e := (if_pos c24).symm.trans e
    refine ex_pc (if_pos c24) ?_
    refine ex_s (am_nb (m := 2) (pc1 := 99) (ls1 := [(4, .int (q4 + 1)), (0, .ref w0), (2, .int w2), (3, .int w3), (5, .int q5), (7, .int q7)]) (st1 := []) (H1 := H) (k1 := 0) (n1 := 0) (by with_unfolding_all rfl)) ?_
    exact le_E (l1 := [(0, .ref w0), (2, .int w2), (3, .int w3), (4, .int (q4 + 1)), (5, .int q5)]) ⟨rfl, rfl, rfl, rfl, rfl, trivial⟩ rfl (tj85_99 k0 k1 ih kw0 hS e)
  · have e := (if_neg c24).symm.trans e
    refine ex_pc (if_neg c24) ?_
    refine ex_s (am_nb (m := 2) (pc1 := 93) (ls1 := [(0, .ref w0), (2, .int w2), (3, .int w3), (4, .int q4), (5, .int q5), (7, .int q7)]) (st1 := [.int 59, .int q7]) (H1 := H) (k1 := 0) (n1 := 0) (by with_unfolding_all rfl)) ?_
    refine ex_s (st_icmp rfl) ?_
    by_cases c26 : q7 = 59
    · have e := (if_pos c26).symm.trans e
      refine ex_pc (if_pos c26) ?_
      refine ex_s (am_nb (m := 1) (pc1 := 99) (ls1 := [(4, .int (q4 + (-1))), (0, .ref w0), (2, .int w2), (3, .int w3), (5, .int q5), (7, .int q7)]) (st1 := []) (H1 := H) (k1 := 0) (n1 := 0) (by with_unfolding_all rfl)) ?_
      exact le_E (l1 := [(0, .ref w0), (2, .int w2), (3, .int w3), (4, .int (q4 + (-1))), (5, .int q5)]) ⟨rfl, rfl, rfl, rfl, rfl, trivial⟩ rfl (tj85_99 k0 k1 ih kw0 hS e)
    · have e := (if_neg c26).symm.trans e
      refine ex_pc (if_neg c26) ?_
      exact le_E (l1 := [(0, .ref w0), (2, .int w2), (3, .int w3), (4, .int q4), (5, .int q5)]) ⟨rfl, rfl, rfl, rfl, rfl, trivial⟩ rfl (tj85_99 k0 k1 ih kw0 hS e)

set_option maxRecDepth 100000 in
theorem tj85_41 {sL : Nat} {sx : Nat → Int32} {h b N : Nat} {T : List am_C} {R : Option Value} {F : am_H → Prop} {w0 : Nat} {w2 : Int32} {w3 : Int32} {z : Nat × Int32 × xA} {rc : Int32 → Int32 → xA → Option (Nat × Int32 × xA)} (k0 : z.1 = 0 → ∀ H2 : am_H, xS h b T z.2.2 H2 → am_E sL sx am_cs 85 73 [(5, .int z.2.1)] [] H2 R F) (k1 : z.1 = 1 → ∀ H2 : am_H, xS h b T z.2.2 H2 → am_E sL sx am_cs 85 102 [(2, .int w2)] [] H2 R F) (ih : ∀ (v4 : Int32) (v5 : Int32) (a : xA) (H : am_H), xS h b T a H → rc v4 v5 a = some z → am_E sL sx am_cs 85 6 [(0, .ref w0), (2, .int w2), (3, .int w3), (4, .int v4), (5, .int v5)] [] H R F) {q4 : Int32} {q5 : Int32} {q6 : Int32} {t0 : Int32} {a : xA} {H : am_H} (kw0 : xk w0 = 100) (hS : xS h b T a H) (e : j85_41 N h b rc w0 w2 w3 q4 q5 q6 t0 a = some z) : am_E sL sx am_cs 85 41 [(0, .ref w0), (2, .int w2), (3, .int w3), (4, .int q4), (5, .int q5), (6, .int q6)] [.int t0] H R F := by
  unfold j85_41 at e
  refine ex_s (am_nb (m := 6) (pc1 := 52) (ls1 := [(5, .int (q5 + q6)), (7, .int t0), (0, .ref w0), (2, .int w2), (3, .int w3), (4, .int q4), (6, .int q6)]) (st1 := [.int q4]) (H1 := H) (k1 := 0) (n1 := 0) (by with_unfolding_all rfl)) ?_
  refine ex_s (st_if rfl) ?_
  by_cases c13 : q4 = 0
  · have e := (if_pos c13).symm.trans e
    refine ex_pc (if_pos c13) ?_
    refine ex_s (am_nb (m := 2) (pc1 := 59) (ls1 := [(5, .int (q5 + q6)), (7, .int t0), (0, .ref w0), (2, .int w2), (3, .int w3), (4, .int q4), (6, .int q6)]) (st1 := [.int 59, .int t0]) (H1 := H) (k1 := 0) (n1 := 0) (by with_unfolding_all rfl)) ?_
    refine ex_s (st_icmp rfl) ?_
    by_cases c18 : t0 = 59
    · have e := (if_pos c18).symm.trans e
      refine ex_pc (if_pos c18) ?_
      cases e
      exact le_E (l1 := [(5, .int (q5 + q6))]) ⟨rfl, trivial⟩ rfl (k0 rfl H hS)
    · have e := (if_neg c18).symm.trans e
      refine ex_pc (if_neg c18) ?_
      refine ex_s (am_nb (m := 2) (pc1 := 66) (ls1 := [(5, .int (q5 + q6)), (7, .int t0), (0, .ref w0), (2, .int w2), (3, .int w3), (4, .int q4), (6, .int q6)]) (st1 := [.int 101, .int t0]) (H1 := H) (k1 := 0) (n1 := 0) (by with_unfolding_all rfl)) ?_
      refine ex_s (st_icmp rfl) ?_
      by_cases c21 : t0 = 101
      · have e := (if_pos c21).symm.trans e
        refine ex_pc (if_pos c21) ?_
        refine ex_s (am_nb (m := 1) (pc1 := 70) (ls1 := [(5, .int (q5 + q6)), (7, .int t0), (0, .ref w0), (2, .int w2), (3, .int w3), (4, .int q4), (6, .int q6)]) (st1 := [.int w3]) (H1 := H) (k1 := 0) (n1 := 0) (by with_unfolding_all rfl)) ?_
        refine ex_s (st_if rfl) ?_
        by_cases c22 : w3 = 0
        · have e := (if_pos c22).symm.trans e
          refine ex_pc (if_pos c22) ?_
          exact le_E (l1 := [(0, .ref w0), (2, .int w2), (3, .int w3), (4, .int q4), (5, .int (q5 + q6)), (7, .int t0)]) ⟨rfl, rfl, rfl, rfl, rfl, rfl, trivial⟩ rfl (tj85_76 k0 k1 ih kw0 hS e)
        · have e := (if_neg c22).symm.trans e
          refine ex_pc (if_neg c22) ?_
          cases e
          exact le_E (l1 := [(5, .int (q5 + q6))]) ⟨rfl, trivial⟩ rfl (k0 rfl H hS)
      · have e := (if_neg c21).symm.trans e
        refine ex_pc (if_neg c21) ?_
        exact le_E (l1 := [(0, .ref w0), (2, .int w2), (3, .int w3), (4, .int q4), (5, .int (q5 + q6)), (7, .int t0)]) ⟨rfl, rfl, rfl, rfl, rfl, rfl, trivial⟩ rfl (tj85_76 k0 k1 ih kw0 hS e)
  · have e := (if_neg c13).symm.trans e
    refine ex_pc (if_neg c13) ?_
    exact le_E (l1 := [(0, .ref w0), (2, .int w2), (3, .int w3), (4, .int q4), (5, .int (q5 + q6)), (7, .int t0)]) ⟨rfl, rfl, rfl, rfl, rfl, rfl, trivial⟩ rfl (tj85_76 k0 k1 ih kw0 hS e)

set_option maxRecDepth 100000 in
theorem tl85_6 {sL : Nat} {sx : Nat → Int32} {h b N : Nat} {T : List am_C} {R : Option Value} {F : am_H → Prop} {w0 : Nat} {w2 : Int32} {w3 : Int32} {z : Nat × Int32 × xA} (kw0 : xk w0 = 100) (k0 : z.1 = 0 → ∀ H2 : am_H, xS h b T z.2.2 H2 → am_E sL sx am_cs 85 73 [(5, .int z.2.1)] [] H2 R F) (k1 : z.1 = 1 → ∀ H2 : am_H, xS h b T z.2.2 H2 → am_E sL sx am_cs 85 102 [(2, .int w2)] [] H2 R F) : ∀ (n : Nat) (v4 : Int32) (v5 : Int32) (a : xA) (H : am_H), xS h b T a H → l85_6 N h b w0 w2 w3 n v4 v5 a = some z → am_E sL sx am_cs 85 6 [(0, .ref w0), (2, .int w2), (3, .int w3), (4, .int v4), (5, .int v5)] [] H R F := by
  intro n
  induction n with
  | zero =>
    intro v4 v5 a H hS e
    cases e
  | succ n ih =>
    intro v4 v5 a H hS e
    unfold l85_6 at e
    refine ex_s (am_nb (m := 2) (pc1 := 9) (ls1 := [(0, .ref w0), (2, .int w2), (3, .int w3), (4, .int v4), (5, .int v5)]) (st1 := [.int w2, .int v5]) (H1 := H) (k1 := 0) (n1 := 0) (by with_unfolding_all rfl)) ?_
    refine ex_s (st_icmp rfl) ?_
    by_cases c2 : w2 ≤ v5
    · have e := (if_pos c2).symm.trans e
      refine ex_pc (if_pos c2) ?_
      cases e
      exact le_E (l1 := [(2, .int w2)]) ⟨rfl, trivial⟩ rfl (k1 rfl H hS)
    · have e := (if_neg c2).symm.trans e
      refine ex_pc (if_neg c2) ?_
      refine ex_s (am_nb (m := 4) (pc1 := 17) (ls1 := [(0, .ref w0), (2, .int w2), (3, .int w3), (4, .int v4), (5, .int v5)]) (st1 := [.int w2, .int v5, .ref w0, .int 1]) (H1 := H) (k1 := 0) (n1 := 0) (by with_unfolding_all rfl)) ?_
      obtain ⟨r6, a7, e5, e⟩ := xb2_some e
      refine ex_cs1 (as := [.ref w0, .int v5, .int w2]) (rest := [.int 1]) rfl (by decide) rfl rfl (by with_unfolding_all rfl) (by with_unfolding_all rfl) (tf58_tokenLength hS e5) (fun H3 s4 => ?_)
      refine ex_s (am_nb (m := 4) (pc1 := 28) (ls1 := [(6, .int (xmax 1 r6)), (0, .ref w0), (2, .int w2), (3, .int w3), (4, .int v4), (5, .int v5)]) (st1 := [.int 2, .int (xmax 1 r6)]) (H1 := H3) (k1 := 0) (n1 := 0) (by with_unfolding_all rfl)) ?_
      refine ex_s (st_icmp rfl) ?_
      by_cases c9 : (xmax 1 r6) = 2
      · have e := (if_pos c9).symm.trans e
        refine ex_pc (if_pos c9) ?_
        refine ex_s (am_nb (m := 4) (pc1 := 36) (ls1 := [(6, .int (xmax 1 r6)), (0, .ref w0), (2, .int w2), (3, .int w3), (4, .int v4), (5, .int v5)]) (st1 := [.int (v5 + 1), .ref w0]) (H1 := H3) (k1 := 0) (n1 := 0) (by with_unfolding_all rfl)) ?_
        obtain ⟨g10, e⟩ := xg_some e
        refine xe_iald s4 rfl kw0 g10 ?_
        refine ex_s (am_nb (m := 1) (pc1 := 41) (ls1 := [(6, .int (xmax 1 r6)), (0, .ref w0), (2, .int w2), (3, .int w3), (4, .int v4), (5, .int v5)]) (st1 := [.int (a7 w0 ((v5 + 1).toNatClampNeg))]) (H1 := H3) (k1 := 0) (n1 := 0) (by with_unfolding_all rfl)) ?_
        exact le_E (l1 := [(0, .ref w0), (2, .int w2), (3, .int w3), (4, .int v4), (5, .int v5), (6, .int (xmax 1 r6))]) ⟨rfl, rfl, rfl, rfl, rfl, rfl, trivial⟩ rfl (tj85_41 k0 k1 ih kw0 s4 e)
      · have e := (if_neg c9).symm.trans e
        refine ex_pc (if_neg c9) ?_
        refine ex_s (am_nb (m := 1) (pc1 := 41) (ls1 := [(6, .int (xmax 1 r6)), (0, .ref w0), (2, .int w2), (3, .int w3), (4, .int v4), (5, .int v5)]) (st1 := [.int (-1)]) (H1 := H3) (k1 := 0) (n1 := 0) (by with_unfolding_all rfl)) ?_
        exact le_E (l1 := [(0, .ref w0), (2, .int w2), (3, .int w3), (4, .int v4), (5, .int v5), (6, .int (xmax 1 r6))]) ⟨rfl, rfl, rfl, rfl, rfl, rfl, trivial⟩ rfl (tj85_41 k0 k1 ih kw0 s4 e)

set_option maxRecDepth 100000 in
theorem tf85_skip {sL : Nat} {sx : Nat → Int32} {h b N : Nat} {T : List am_C} {r : Int32} {a' : xA} {x0 : Nat} {x1 : Int32} {x2 : Int32} {x3 : Int32} {a : xA} {H : am_H} (hS : xS h b T a H) (e : f85_skip N h b x0 x1 x2 x3 a = some (r, a')) : am_E sL sx am_cs 85 0 [(0, .ref x0), (1, .int x1), (2, .int x2), (3, .int x3)] [] H (some (.int r)) (fun H1 => xS h b T a' H1) := by
  unfold f85_skip at e
  obtain ⟨g1, e⟩ := xg_some e
  refine ex_s (am_nb (m := 4) (pc1 := 6) (ls1 := [(5, .int x1), (4, .int 0), (0, .ref x0), (1, .int x1), (2, .int x2), (3, .int x3)]) (st1 := []) (H1 := H) (k1 := 0) (n1 := 0) (by with_unfolding_all rfl)) ?_
  obtain ⟨z27, e28, e⟩ := Option.bind_eq_some_iff.mp e
  refine le_E (l1 := [(0, .ref x0), (2, .int x2), (3, .int x3), (4, .int 0), (5, .int x1)]) ⟨rfl, rfl, rfl, rfl, rfl, trivial⟩ rfl (tl85_6 (z := z27) g1 (fun uz27_0 Hz270 sz270 => ?_) (fun uz27_1 Hz271 sz271 => ?_) N 0 x1 a H hS e28)
  · have e := (if_pos uz27_0).symm.trans e
    refine ex_s (am_nb (m := 1) (pc1 := 75) (ls1 := [(5, .int z27.2.1)]) (st1 := [.int z27.2.1]) (H1 := Hz270) (k1 := 0) (n1 := 0) (by with_unfolding_all rfl)) ?_
    cases e
    exact ex_r (st_iret rfl rfl rfl) sz270
  · have e := (if_neg (show ¬ z27.1 = 0 by rw [uz27_1]; decide)).symm.trans e
    refine ex_s (am_nb (m := 1) (pc1 := 103) (ls1 := [(2, .int x2)]) (st1 := [.int x2]) (H1 := Hz271) (k1 := 0) (n1 := 0) (by with_unfolding_all rfl)) ?_
    cases e
    exact ex_r (st_iret rfl rfl rfl) sz271

set_option maxRecDepth 100000 in
theorem tl86_28 {sL : Nat} {sx : Nat → Int32} {h b N : Nat} {T : List am_C} {R : Option Value} {F : am_H → Prop} {w1 : Int32} {w2 : Int32} {w3 : Int32} {w4 : Int64} {z : Nat × Int64 × Int32 × xA} (k0 : z.1 = 0 → ∀ H2 : am_H, xS h b T z.2.2.2 H2 → am_E sL sx am_cs 86 61 [(0, .ref 93), (1, .int w1), (2, .int w2), (3, .int w3), (4, .long w4), (6, .long z.2.1), (8, .int z.2.2.1)] [] H2 R F) : ∀ (n : Nat) (v6 : Int64) (v8 : Int32) (a : xA) (H : am_H), xS h b T a H → l86_28 N h b w1 w2 w3 w4 n v6 v8 a = some z → am_E sL sx am_cs 86 28 [(0, .ref 93), (1, .int w1), (2, .int w2), (3, .int w3), (4, .long w4), (6, .long v6), (8, .int v8)] [] H R F := by
  intro n
  induction n with
  | zero =>
    intro v6 v8 a H hS e
    cases e
  | succ n ih =>
    intro v6 v8 a H hS e
    unfold l86_28 at e
    refine ex_s (am_nb (m := 2) (pc1 := 32) (ls1 := [(0, .ref 93), (1, .int w1), (2, .int w2), (3, .int w3), (4, .long w4), (6, .long v6), (8, .int v8)]) (st1 := [.int 12, .int v8]) (H1 := H) (k1 := 0) (n1 := 0) (by with_unfolding_all rfl)) ?_
    refine ex_s (st_icmp rfl) ?_
    by_cases c5 : 12 ≤ v8
    · have e := (if_pos c5).symm.trans e
      refine ex_pc (if_pos c5) ?_
      cases e
      exact le_E (l1 := [(0, .ref 93), (1, .int w1), (2, .int w2), (3, .int w3), (4, .long w4), (6, .long v6), (8, .int v8)]) ⟨rfl, rfl, rfl, rfl, rfl, rfl, rfl, trivial⟩ rfl (k0 rfl H hS)
    · have e := (if_neg c5).symm.trans e
      refine ex_pc (if_neg c5) ?_
      refine ex_s (am_nb (m := 5) (pc1 := 44) (ls1 := [(0, .ref 93), (1, .int w1), (2, .int w2), (3, .int w3), (4, .long w4), (6, .long v6), (8, .int v8)]) (st1 := [.int (lg_cmp (w4 / 10) v6)]) (H1 := H) (k1 := 0) (n1 := 0) (by with_unfolding_all rfl)) ?_
      refine ex_s (st_if rfl) ?_
      by_cases c6 : (lg_cmp (w4 / 10) v6) < 0
      · have e := (if_pos c6).symm.trans e
        refine ex_pc (if_pos c6) ?_
        cases e
        exact le_E (l1 := [(0, .ref 93), (1, .int w1), (2, .int w2), (3, .int w3), (4, .long w4), (6, .long v6), (8, .int v8)]) ⟨rfl, rfl, rfl, rfl, rfl, rfl, rfl, trivial⟩ rfl (k0 rfl H hS)
      · have e := (if_neg c6).symm.trans e
        refine ex_pc (if_neg c6) ?_
        refine ex_s (am_nb (m := 6) (pc1 := 28) (ls1 := [(8, .int (v8 + 1)), (6, .long (v6 * 10)), (0, .ref 93), (1, .int w1), (2, .int w2), (3, .int w3), (4, .long w4)]) (st1 := []) (H1 := H) (k1 := 0) (n1 := 0) (by with_unfolding_all rfl)) ?_
        exact le_E (l1 := [(0, .ref 93), (1, .int w1), (2, .int w2), (3, .int w3), (4, .long w4), (6, .long (v6 * 10)), (8, .int (v8 + 1))]) ⟨rfl, rfl, rfl, rfl, rfl, rfl, rfl, trivial⟩ rfl (ih (v6 * 10) (v8 + 1) a H hS e)

set_option maxRecDepth 100000 in
theorem tl86_81 {sL : Nat} {sx : Nat → Int32} {h b N : Nat} {T : List am_C} {R : Option Value} {F : am_H → Prop} {w1 : Int32} {w2 : Int32} {w3 : Int32} {w4 : Int64} {w6 : Int64} {z : Nat × xA} (k0 : z.1 = 0 → ∀ H2 : am_H, xS h b T z.2 H2 → am_E sL sx am_cs 86 98 [(0, .ref 93), (1, .int w1), (3, .int w3), (4, .long w4), (6, .long w6)] [] H2 R F) : ∀ (n : Nat) (v9 : Int32) (a : xA) (H : am_H), xS h b T a H → l86_81 N h b w1 w2 w3 w4 w6 n v9 a = some z → am_E sL sx am_cs 86 81 [(0, .ref 93), (1, .int w1), (2, .int w2), (3, .int w3), (4, .long w4), (6, .long w6), (9, .int v9)] [] H R F := by
  intro n
  induction n with
  | zero =>
    intro v9 a H hS e
    cases e
  | succ n ih =>
    intro v9 a H hS e
    unfold l86_81 at e
    refine ex_s (am_nb (m := 2) (pc1 := 84) (ls1 := [(0, .ref 93), (1, .int w1), (2, .int w2), (3, .int w3), (4, .long w4), (6, .long w6), (9, .int v9)]) (st1 := [.int w2, .int v9]) (H1 := H) (k1 := 0) (n1 := 0) (by with_unfolding_all rfl)) ?_
    refine ex_s (st_icmp rfl) ?_
    by_cases c12 : w2 ≤ v9
    · have e := (if_pos c12).symm.trans e
      refine ex_pc (if_pos c12) ?_
      cases e
      exact le_E (l1 := [(0, .ref 93), (1, .int w1), (3, .int w3), (4, .long w4), (6, .long w6)]) ⟨rfl, rfl, rfl, rfl, rfl, trivial⟩ rfl (k0 rfl H hS)
    · have e := (if_neg c12).symm.trans e
      refine ex_pc (if_neg c12) ?_
      refine ex_s (am_nb (m := 2) (pc1 := 89) (ls1 := [(0, .ref 93), (1, .int w1), (2, .int w2), (3, .int w3), (4, .long w4), (6, .long w6), (9, .int v9)]) (st1 := [.int w3, .ref 93]) (H1 := H) (k1 := 0) (n1 := 0) (by with_unfolding_all rfl)) ?_
      obtain ⟨a16, e15, e⟩ := xb1_some e
      refine ex_cv0 (as := [.int w3]) (rest := []) rfl rfl rfl rfl (hS.obj rfl (by decide)) rfl (by with_unfolding_all rfl) (by with_unfolding_all rfl) (tf83_make hS e15) (fun H13 s14 => ?_)
      refine ex_s (am_nb (m := 2) (pc1 := 81) (ls1 := [(9, .int (v9 + 1)), (0, .ref 93), (1, .int w1), (2, .int w2), (3, .int w3), (4, .long w4), (6, .long w6)]) (st1 := []) (H1 := H13) (k1 := 0) (n1 := 0) (by with_unfolding_all rfl)) ?_
      exact le_E (l1 := [(0, .ref 93), (1, .int w1), (2, .int w2), (3, .int w3), (4, .long w4), (6, .long w6), (9, .int (v9 + 1))]) ⟨rfl, rfl, rfl, rfl, rfl, rfl, rfl, trivial⟩ rfl (ih (v9 + 1) a16 H13 s14 e)

set_option maxRecDepth 100000 in
theorem tl86_114 {sL : Nat} {sx : Nat → Int32} {h b N : Nat} {T : List am_C} {R : Option Value} {F : am_H → Prop} {w4 : Int64} {z : Nat × xA} (k0 : z.1 = 0 → ∀ H2 : am_H, xS h b T z.2 H2 → am_E sL sx am_cs 86 149 [] [] H2 R F) : ∀ (n : Nat) (v6 : Int64) (a : xA) (H : am_H), xS h b T a H → l86_114 N h b w4 n v6 a = some z → am_E sL sx am_cs 86 114 [(0, .ref 93), (4, .long w4), (6, .long v6)] [] H R F := by
  intro n
  induction n with
  | zero =>
    intro v6 a H hS e
    cases e
  | succ n ih =>
    intro v6 a H hS e
    unfold l86_114 at e
    refine ex_s (am_nb (m := 3) (pc1 := 118) (ls1 := [(0, .ref 93), (4, .long w4), (6, .long v6)]) (st1 := [.int (lg_cmp v6 0)]) (H1 := H) (k1 := 0) (n1 := 0) (by with_unfolding_all rfl)) ?_
    refine ex_s (st_if rfl) ?_
    by_cases c20 : (lg_cmp v6 0) ≤ 0
    · have e := (if_pos c20).symm.trans e
      refine ex_pc (if_pos c20) ?_
      cases e
      exact le_E (l1 := []) trivial rfl (k0 rfl H hS)
    · have e := (if_neg c20).symm.trans e
      refine ex_pc (if_neg c20) ?_
      refine ex_s (am_nb (m := 4) (pc1 := 128) (ls1 := [(0, .ref 93), (4, .long w4), (6, .long v6)]) (st1 := [.long v6, .long w4, .int 48, .ref 93]) (H1 := H) (k1 := 0) (n1 := 0) (by with_unfolding_all rfl)) ?_
      obtain ⟨g21, e⟩ := xg_some e
      refine ex_s (st_ldiv rfl g21) ?_
      refine ex_s (am_nb (m := 4) (pc1 := 135) (ls1 := [(0, .ref 93), (4, .long w4), (6, .long v6)]) (st1 := [.int (48 + (((w4 / v6) - (w4 / v6) / 10 * 10).toInt32)), .ref 93]) (H1 := H) (k1 := 0) (n1 := 0) (by with_unfolding_all rfl)) ?_
      obtain ⟨a25, e24, e⟩ := xb1_some e
      refine ex_cv0 (as := [.int (48 + (((w4 / v6) - (w4 / v6) / 10 * 10).toInt32))]) (rest := []) rfl rfl rfl rfl (hS.obj rfl (by decide)) rfl (by with_unfolding_all rfl) (by with_unfolding_all rfl) (tf83_make hS e24) (fun H22 s23 => ?_)
      refine ex_s (am_nb (m := 5) (pc1 := 114) (ls1 := [(6, .long (v6 / 10)), (0, .ref 93), (4, .long w4)]) (st1 := []) (H1 := H22) (k1 := 0) (n1 := 0) (by with_unfolding_all rfl)) ?_
      exact le_E (l1 := [(0, .ref 93), (4, .long w4), (6, .long (v6 / 10))]) ⟨rfl, rfl, rfl, trivial⟩ rfl (ih (v6 / 10) a25 H22 s23 e)

set_option maxRecDepth 100000 in
theorem tj86_77 {sL : Nat} {sx : Nat → Int32} {h b N : Nat} {T : List am_C} {a' : xA} {q1 : Int32} {q2 : Int32} {q3 : Int32} {q4 : Int64} {q6 : Int64} {q8 : Int32} {a : xA} {H : am_H} (hS : xS h b T a H) (e : j86_77 N h b q1 q2 q3 q4 q6 q8 a = some a') : am_E sL sx am_cs 86 77 [(0, .ref 93), (1, .int q1), (2, .int q2), (3, .int q3), (4, .long q4), (6, .long q6), (8, .int q8)] [] H none (fun H1 => xS h b T a' H1) := by
  unfold j86_77 at e
  refine ex_s (am_nb (m := 2) (pc1 := 81) (ls1 := [(9, .int q8), (0, .ref 93), (1, .int q1), (2, .int q2), (3, .int q3), (4, .long q4), (6, .long q6), (8, .int q8)]) (st1 := []) (H1 := H) (k1 := 0) (n1 := 0) (by with_unfolding_all rfl)) ?_
  obtain ⟨z17, e18, e⟩ := Option.bind_eq_some_iff.mp e
  refine le_E (l1 := [(0, .ref 93), (1, .int q1), (2, .int q2), (3, .int q3), (4, .long q4), (6, .long q6), (9, .int q8)]) ⟨rfl, rfl, rfl, rfl, rfl, rfl, rfl, trivial⟩ rfl (tl86_81 (z := z17)  (fun uz17_0 Hz170 sz170 => ?_) N q8 a H hS e18)
  refine ex_s (am_nb (m := 1) (pc1 := 99) (ls1 := [(0, .ref 93), (1, .int q1), (3, .int q3), (4, .long q4), (6, .long q6)]) (st1 := [.int q1]) (H1 := Hz170) (k1 := 0) (n1 := 0) (by with_unfolding_all rfl)) ?_
  refine ex_s (st_if rfl) ?_
  by_cases c19 : 0 ≤ q1
  · have e := (if_pos c19).symm.trans e
    refine ex_pc (if_pos c19) ?_
    obtain ⟨z26, e27, e⟩ := Option.bind_eq_some_iff.mp e
    refine le_E (l1 := [(0, .ref 93), (4, .long q4), (6, .long q6)]) ⟨rfl, rfl, rfl, trivial⟩ rfl (tl86_114 (z := z26)  (fun uz26_0 Hz260 sz260 => ?_) N q6 z17.2 Hz170 sz170 e27)
    cases e
    exact ex_r (st_vret rfl rfl) sz260
  · have e := (if_neg c19).symm.trans e
    refine ex_pc (if_neg c19) ?_
    refine ex_s (am_nb (m := 2) (pc1 := 105) (ls1 := [(0, .ref 93), (1, .int q1), (3, .int q3), (4, .long q4), (6, .long q6)]) (st1 := [.int 32, .int q3]) (H1 := Hz170) (k1 := 0) (n1 := 0) (by with_unfolding_all rfl)) ?_
    refine ex_s (st_icmp rfl) ?_
    by_cases c28 : q3 = 32
    · have e := (if_pos c28).symm.trans e
      refine ex_pc (if_pos c28) ?_
      refine ex_s (am_nb (m := 2) (pc1 := 111) (ls1 := [(0, .ref 93), (1, .int q1), (3, .int q3), (4, .long q4), (6, .long q6)]) (st1 := [.int 45, .ref 93]) (H1 := Hz170) (k1 := 0) (n1 := 0) (by with_unfolding_all rfl)) ?_
      obtain ⟨a32, e31, e⟩ := xb1_some e
      refine ex_cv0 (as := [.int 45]) (rest := []) rfl rfl rfl rfl (sz170.obj rfl (by decide)) rfl (by with_unfolding_all rfl) (by with_unfolding_all rfl) (tf83_make sz170 e31) (fun H29 s30 => ?_)
      obtain ⟨z33, e34, e⟩ := Option.bind_eq_some_iff.mp e
      refine le_E (l1 := [(0, .ref 93), (4, .long q4), (6, .long q6)]) ⟨rfl, rfl, rfl, trivial⟩ rfl (tl86_114 (z := z33)  (fun uz33_0 Hz330 sz330 => ?_) N q6 a32 H29 s30 e34)
      cases e
      exact ex_r (st_vret rfl rfl) sz330
    · have e := (if_neg c28).symm.trans e
      refine ex_pc (if_neg c28) ?_
      obtain ⟨z35, e36, e⟩ := Option.bind_eq_some_iff.mp e
      refine le_E (l1 := [(0, .ref 93), (4, .long q4), (6, .long q6)]) ⟨rfl, rfl, rfl, trivial⟩ rfl (tl86_114 (z := z35)  (fun uz35_0 Hz350 sz350 => ?_) N q6 z17.2 Hz170 sz170 e36)
      cases e
      exact ex_r (st_vret rfl rfl) sz350

set_option maxRecDepth 100000 in
theorem tj86_61 {sL : Nat} {sx : Nat → Int32} {h b N : Nat} {T : List am_C} {a' : xA} {q1 : Int32} {q2 : Int32} {q3 : Int32} {q4 : Int64} {q6 : Int64} {q8 : Int32} {a : xA} {H : am_H} (hS : xS h b T a H) (e : j86_61 N h b q1 q2 q3 q4 q6 q8 a = some a') : am_E sL sx am_cs 86 61 [(0, .ref 93), (1, .int q1), (2, .int q2), (3, .int q3), (4, .long q4), (6, .long q6), (8, .int q8)] [] H none (fun H1 => xS h b T a' H1) := by
  unfold j86_61 at e
  refine ex_s (am_nb (m := 1) (pc1 := 62) (ls1 := [(0, .ref 93), (1, .int q1), (2, .int q2), (3, .int q3), (4, .long q4), (6, .long q6), (8, .int q8)]) (st1 := [.int q1]) (H1 := H) (k1 := 0) (n1 := 0) (by with_unfolding_all rfl)) ?_
  refine ex_s (st_if rfl) ?_
  by_cases c11 : 0 ≤ q1
  · have e := (if_pos c11).symm.trans e
    refine ex_pc (if_pos c11) ?_
    exact le_E (l1 := [(0, .ref 93), (1, .int q1), (2, .int q2), (3, .int q3), (4, .long q4), (6, .long q6), (8, .int q8)]) ⟨rfl, rfl, rfl, rfl, rfl, rfl, rfl, trivial⟩ rfl (tj86_77  hS e)
  · have e := (if_neg c11).symm.trans e
    refine ex_pc (if_neg c11) ?_
    refine ex_s (am_nb (m := 2) (pc1 := 68) (ls1 := [(0, .ref 93), (1, .int q1), (2, .int q2), (3, .int q3), (4, .long q4), (6, .long q6), (8, .int q8)]) (st1 := [.int 32, .int q3]) (H1 := H) (k1 := 0) (n1 := 0) (by with_unfolding_all rfl)) ?_
    refine ex_s (st_icmp rfl) ?_
    by_cases c38 : q3 = 32
    · have e := (if_pos c38).symm.trans e
      refine ex_pc (if_pos c38) ?_
      exact le_E (l1 := [(0, .ref 93), (1, .int q1), (2, .int q2), (3, .int q3), (4, .long q4), (6, .long q6), (8, .int q8)]) ⟨rfl, rfl, rfl, rfl, rfl, rfl, rfl, trivial⟩ rfl (tj86_77  hS e)
    · have e := (if_neg c38).symm.trans e
      refine ex_pc (if_neg c38) ?_
      refine ex_s (am_nb (m := 2) (pc1 := 74) (ls1 := [(0, .ref 93), (1, .int q1), (2, .int q2), (3, .int q3), (4, .long q4), (6, .long q6), (8, .int q8)]) (st1 := [.int 45, .ref 93]) (H1 := H) (k1 := 0) (n1 := 0) (by with_unfolding_all rfl)) ?_
      obtain ⟨a42, e41, e⟩ := xb1_some e
      refine ex_cv0 (as := [.int 45]) (rest := []) rfl rfl rfl rfl (hS.obj rfl (by decide)) rfl (by with_unfolding_all rfl) (by with_unfolding_all rfl) (tf83_make hS e41) (fun H39 s40 => ?_)
      exact le_E (l1 := [(0, .ref 93), (1, .int q1), (2, .int q2), (3, .int q3), (4, .long q4), (6, .long q6), (8, .int q8)]) ⟨rfl, rfl, rfl, rfl, rfl, rfl, rfl, trivial⟩ rfl (tj86_77  s40 e)

set_option maxRecDepth 100000 in
theorem tj86_12 {sL : Nat} {sx : Nat → Int32} {h b N : Nat} {T : List am_C} {a' : xA} {q1 : Int32} {q2 : Int32} {q3 : Int32} {t0 : Int64} {a : xA} {H : am_H} (hS : xS h b T a H) (e : j86_12 N h b q1 q2 q3 t0 a = some a') : am_E sL sx am_cs 86 12 [(0, .ref 93), (1, .int q1), (2, .int q2), (3, .int q3)] [.long t0] H none (fun H1 => xS h b T a' H1) := by
  unfold j86_12 at e
  refine ex_s (am_nb (m := 4) (pc1 := 18) (ls1 := [(6, .long 1), (4, .long t0), (0, .ref 93), (1, .int q1), (2, .int q2), (3, .int q3)]) (st1 := [.int q1]) (H1 := H) (k1 := 0) (n1 := 0) (by with_unfolding_all rfl)) ?_
  have kk : am_E sL sx am_cs 86 26 [(6, .long 1), (4, .long t0), (0, .ref 93), (1, .int q1), (2, .int q2), (3, .int q3)] [.int (if 0 ≤ q1 then (1 : Int32) else (2 : Int32))] H none (fun H1 => xS h b T a' H1) := by
    refine ex_s (am_nb (m := 1) (pc1 := 28) (ls1 := [(8, .int (if 0 ≤ q1 then (1 : Int32) else (2 : Int32))), (6, .long 1), (4, .long t0), (0, .ref 93), (1, .int q1), (2, .int q2), (3, .int q3)]) (st1 := []) (H1 := H) (k1 := 0) (n1 := 0) (by with_unfolding_all rfl)) ?_
    obtain ⟨z7, e8, e⟩ := Option.bind_eq_some_iff.mp e
    refine le_E (l1 := [(0, .ref 93), (1, .int q1), (2, .int q2), (3, .int q3), (4, .long t0), (6, .long 1), (8, .int (if 0 ≤ q1 then (1 : Int32) else (2 : Int32)))]) ⟨rfl, rfl, rfl, rfl, rfl, rfl, rfl, trivial⟩ rfl (tl86_28 (z := z7)  (fun uz7_0 Hz70 sz70 => ?_) N 1 (if 0 ≤ q1 then (1 : Int32) else (2 : Int32)) a H hS e8)
    exact le_E (l1 := [(0, .ref 93), (1, .int q1), (2, .int q2), (3, .int q3), (4, .long t0), (6, .long z7.2.1), (8, .int z7.2.2.1)]) ⟨rfl, rfl, rfl, rfl, rfl, rfl, rfl, trivial⟩ rfl (tj86_61  sz70 e)
  refine ex_s (st_if rfl) ?_
  by_cases c3 : 0 ≤ q1
  · refine ex_pc (if_pos c3) ?_
    refine ex_s (am_nb (m := 1) (pc1 := 26) (ls1 := [(6, .long 1), (4, .long t0), (0, .ref 93), (1, .int q1), (2, .int q2), (3, .int q3)]) (st1 := [.int 1]) (H1 := H) (k1 := 0) (n1 := 0) (by with_unfolding_all rfl)) ?_
    rw [if_pos c3] at kk
    exact kk
  · refine ex_pc (if_neg c3) ?_
    refine ex_s (am_nb (m := 2) (pc1 := 26) (ls1 := [(6, .long 1), (4, .long t0), (0, .ref 93), (1, .int q1), (2, .int q2), (3, .int q3)]) (st1 := [.int 2]) (H1 := H) (k1 := 0) (n1 := 0) (by with_unfolding_all rfl)) ?_
    rw [if_neg c3] at kk
    exact kk

set_option maxRecDepth 100000 in
theorem tf86_makeDecimal {sL : Nat} {sx : Nat → Int32} {h b N : Nat} {T : List am_C} {a' : xA} {x0 : Int32} {x1 : Int32} {x2 : Int32} {a : xA} {H : am_H} (hS : xS h b T a H) (e : f86_makeDecimal N h b x0 x1 x2 a = some a') : am_E sL sx am_cs 86 0 [(0, .ref 93), (1, .int x0), (2, .int x1), (3, .int x2)] [] H none (fun H1 => xS h b T a' H1) := by
  unfold f86_makeDecimal at e
  refine ex_s (am_nb (m := 1) (pc1 := 1) (ls1 := [(0, .ref 93), (1, .int x0), (2, .int x1), (3, .int x2)]) (st1 := [.int x0]) (H1 := H) (k1 := 0) (n1 := 0) (by with_unfolding_all rfl)) ?_
  refine ex_s (st_if rfl) ?_
  by_cases c2 : 0 ≤ x0
  · have e := (if_pos c2).symm.trans e
    refine ex_pc (if_pos c2) ?_
    refine ex_s (am_nb (m := 2) (pc1 := 12) (ls1 := [(0, .ref 93), (1, .int x0), (2, .int x1), (3, .int x2)]) (st1 := [.long x0.toInt64]) (H1 := H) (k1 := 0) (n1 := 0) (by with_unfolding_all rfl)) ?_
    exact le_E (l1 := [(0, .ref 93), (1, .int x0), (2, .int x1), (3, .int x2)]) ⟨rfl, rfl, rfl, rfl, trivial⟩ rfl (tj86_12  hS e)
  · have e := (if_neg c2).symm.trans e
    refine ex_pc (if_neg c2) ?_
    refine ex_s (am_nb (m := 4) (pc1 := 12) (ls1 := [(0, .ref 93), (1, .int x0), (2, .int x1), (3, .int x2)]) (st1 := [.long (-x0.toInt64)]) (H1 := H) (k1 := 0) (n1 := 0) (by with_unfolding_all rfl)) ?_
    exact le_E (l1 := [(0, .ref 93), (1, .int x0), (2, .int x1), (3, .int x2)]) ⟨rfl, rfl, rfl, rfl, trivial⟩ rfl (tj86_12  hS e)

set_option maxRecDepth 100000 in
theorem tl87_5 {sL : Nat} {sx : Nat → Int32} {h b N : Nat} {T : List am_C} {R : Option Value} {F : am_H → Prop} {w0 : Nat} {w1 : Int32} {w2 : Int32} {z : Nat × Int32 × xA} (kw0 : xk w0 = 100) (k0 : z.1 = 0 → ∀ H2 : am_H, xS h b T z.2.2 H2 → am_E sL sx am_cs 87 52 [(3, .int z.2.1)] [] H2 R F) : ∀ (n : Nat) (v3 : Int32) (v4 : Int32) (a : xA) (H : am_H), xS h b T a H → l87_5 N h b w0 w1 w2 n v3 v4 a = some z → am_E sL sx am_cs 87 5 [(0, .ref w0), (1, .int w1), (2, .int w2), (3, .int v3), (4, .int v4)] [] H R F := by
  intro n
  induction n with
  | zero =>
    intro v3 v4 a H hS e
    cases e
  | succ n ih =>
    intro v3 v4 a H hS e
    unfold l87_5 at e
    refine ex_s (am_nb (m := 2) (pc1 := 8) (ls1 := [(0, .ref w0), (1, .int w1), (2, .int w2), (3, .int v3), (4, .int v4)]) (st1 := [.int 5, .int v4]) (H1 := H) (k1 := 0) (n1 := 0) (by with_unfolding_all rfl)) ?_
    refine ex_s (st_icmp rfl) ?_
    by_cases c4 : 5 ≤ v4
    · have e := (if_pos c4).symm.trans e
      refine ex_pc (if_pos c4) ?_
      cases e
      exact le_E (l1 := [(3, .int v3)]) ⟨rfl, trivial⟩ rfl (k0 rfl H hS)
    · have e := (if_neg c4).symm.trans e
      refine ex_pc (if_neg c4) ?_
      refine ex_s (am_nb (m := 4) (pc1 := 16) (ls1 := [(0, .ref w0), (1, .int w1), (2, .int w2), (3, .int v3), (4, .int v4)]) (st1 := [.int w2, .int (w1 + v4)]) (H1 := H) (k1 := 0) (n1 := 0) (by with_unfolding_all rfl)) ?_
      refine ex_s (st_icmp rfl) ?_
      by_cases c6 : w2 ≤ (w1 + v4)
      · have e := (if_pos c6).symm.trans e
        refine ex_pc (if_pos c6) ?_
        cases e
        exact le_E (l1 := [(3, .int v3)]) ⟨rfl, trivial⟩ rfl (k0 rfl H hS)
      · have e := (if_neg c6).symm.trans e
        refine ex_pc (if_neg c6) ?_
        refine ex_s (am_nb (m := 4) (pc1 := 24) (ls1 := [(0, .ref w0), (1, .int w1), (2, .int w2), (3, .int v3), (4, .int v4)]) (st1 := [.int (w1 + v4), .ref w0]) (H1 := H) (k1 := 0) (n1 := 0) (by with_unfolding_all rfl)) ?_
        obtain ⟨g7, e⟩ := xg_some e
        refine xe_iald hS rfl kw0 g7 ?_
        obtain ⟨r11, a12, e10, e⟩ := xb2_some e
        refine ex_cs1 (as := [.int (a w0 ((w1 + v4).toNatClampNeg))]) (rest := []) rfl (by decide) rfl rfl (by with_unfolding_all rfl) (by with_unfolding_all rfl) (tf35_isDigit hS e10) (fun H8 s9 => ?_)
        refine ex_s (st_if rfl) ?_
        by_cases c13 : r11 = 0
        · have e := (if_pos c13).symm.trans e
          refine ex_pc (if_pos c13) ?_
          cases e
          exact le_E (l1 := [(3, .int v3)]) ⟨rfl, trivial⟩ rfl (k0 rfl H8 s9)
        · have e := (if_neg c13).symm.trans e
          refine ex_pc (if_neg c13) ?_
          refine ex_s (am_nb (m := 7) (pc1 := 40) (ls1 := [(0, .ref w0), (1, .int w1), (2, .int w2), (3, .int v3), (4, .int v4)]) (st1 := [.int (w1 + v4), .ref w0, .int (v3 * 10)]) (H1 := H8) (k1 := 0) (n1 := 0) (by with_unfolding_all rfl)) ?_
          refine xe_iald s9 rfl kw0 g7 ?_
          refine ex_s (am_nb (m := 6) (pc1 := 5) (ls1 := [(4, .int (v4 + 1)), (3, .int (((v3 * 10) + (a12 w0 ((w1 + v4).toNatClampNeg))) - 48)), (0, .ref w0), (1, .int w1), (2, .int w2)]) (st1 := []) (H1 := H8) (k1 := 0) (n1 := 0) (by with_unfolding_all rfl)) ?_
          exact le_E (l1 := [(0, .ref w0), (1, .int w1), (2, .int w2), (3, .int (((v3 * 10) + (a12 w0 ((w1 + v4).toNatClampNeg))) - 48)), (4, .int (v4 + 1))]) ⟨rfl, rfl, rfl, rfl, rfl, trivial⟩ rfl (ih (((v3 * 10) + (a12 w0 ((w1 + v4).toNatClampNeg))) - 48) (v4 + 1) a12 H8 s9 e)

set_option maxRecDepth 100000 in
theorem tf87_numberAt {sL : Nat} {sx : Nat → Int32} {h b N : Nat} {T : List am_C} {r : Int32} {a' : xA} {x0 : Nat} {x1 : Int32} {x2 : Int32} {a : xA} {H : am_H} (hS : xS h b T a H) (e : f87_numberAt N h b x0 x1 x2 a = some (r, a')) : am_E sL sx am_cs 87 0 [(0, .ref x0), (1, .int x1), (2, .int x2)] [] H (some (.int r)) (fun H1 => xS h b T a' H1) := by
  unfold f87_numberAt at e
  obtain ⟨g1, e⟩ := xg_some e
  refine ex_s (am_nb (m := 4) (pc1 := 5) (ls1 := [(4, .int 0), (3, .int 0), (0, .ref x0), (1, .int x1), (2, .int x2)]) (st1 := []) (H1 := H) (k1 := 0) (n1 := 0) (by with_unfolding_all rfl)) ?_
  obtain ⟨z14, e15, e⟩ := Option.bind_eq_some_iff.mp e
  refine le_E (l1 := [(0, .ref x0), (1, .int x1), (2, .int x2), (3, .int 0), (4, .int 0)]) ⟨rfl, rfl, rfl, rfl, rfl, trivial⟩ rfl (tl87_5 (z := z14) g1 (fun uz14_0 Hz140 sz140 => ?_) N 0 0 a H hS e15)
  refine ex_s (am_nb (m := 1) (pc1 := 53) (ls1 := [(3, .int z14.2.1)]) (st1 := [.int z14.2.1]) (H1 := Hz140) (k1 := 0) (n1 := 0) (by with_unfolding_all rfl)) ?_
  cases e
  exact ex_r (st_iret rfl rfl rfl) sz140

set_option maxRecDepth 100000 in
theorem tf88_push {sL : Nat} {sx : Nat → Int32} {h b N : Nat} {T : List am_C} {a' : xA} {x0 : Int32} {a : xA} {H : am_H} (hS : xS h b T a H) (e : f88_push N h b x0 a = some a') : am_E sL sx am_cs 88 0 [(0, .ref 93), (1, .int x0)] [] H none (fun H1 => xS h b T a' H1) := by
  unfold f88_push at e
  refine ex_s (am_nb (m := 1) (pc1 := 1) (ls1 := [(0, .ref 93), (1, .int x0)]) (st1 := [.ref 93]) (H1 := H) (k1 := 0) (n1 := 0) (by with_unfolding_all rfl)) ?_
  refine xe_get (v := .int (a 93 1)) hS rfl rfl (by decide) rfl ?_
  refine ex_s (am_nb (m := 1) (pc1 := 6) (ls1 := [(0, .ref 93), (1, .int x0)]) (st1 := [.int 8, .int (a 93 1)]) (H1 := H) (k1 := 0) (n1 := 0) (by with_unfolding_all rfl)) ?_
  refine ex_s (st_icmp rfl) ?_
  by_cases c2 : 8 ≤ (a 93 1)
  · have e := (if_pos c2).symm.trans e
    refine ex_pc (if_pos c2) ?_
    cases e
    exact ex_r (st_vret rfl rfl) hS
  · have e := (if_neg c2).symm.trans e
    refine ex_pc (if_neg c2) ?_
    refine ex_s (am_nb (m := 1) (pc1 := 10) (ls1 := [(0, .ref 93), (1, .int x0)]) (st1 := [.ref 93]) (H1 := H) (k1 := 0) (n1 := 0) (by with_unfolding_all rfl)) ?_
    refine xe_get (v := .ref 94) hS rfl rfl (by decide) rfl ?_
    refine ex_s (am_nb (m := 1) (pc1 := 14) (ls1 := [(0, .ref 93), (1, .int x0)]) (st1 := [.ref 93, .ref 94]) (H1 := H) (k1 := 0) (n1 := 0) (by with_unfolding_all rfl)) ?_
    refine xe_get (v := .int (a 93 1)) hS rfl rfl (by decide) rfl ?_
    refine ex_s (am_nb (m := 1) (pc1 := 18) (ls1 := [(0, .ref 93), (1, .int x0)]) (st1 := [.int x0, .int (a 93 1), .ref 94]) (H1 := H) (k1 := 0) (n1 := 0) (by with_unfolding_all rfl)) ?_
    obtain ⟨g6, e⟩ := xg_some e
    obtain ⟨a3, ha3, e⟩ := xw_some e
    refine xe_iast hS rfl rfl g6 (fun H4 s5 => ?_)
    have s5 : xS h b T a3 H4 := by rw [ha3]; exact s5
    refine ex_s (am_nb (m := 2) (pc1 := 21) (ls1 := [(0, .ref 93), (1, .int x0)]) (st1 := [.ref 93, .ref 93]) (H1 := H4) (k1 := 0) (n1 := 0) (by with_unfolding_all rfl)) ?_
    refine xe_get (v := .int (a3 93 1)) s5 rfl rfl (by decide) rfl ?_
    refine ex_s (am_nb (m := 2) (pc1 := 26) (ls1 := [(0, .ref 93), (1, .int x0)]) (st1 := [.int ((a3 93 1) + 1), .ref 93]) (H1 := H4) (k1 := 0) (n1 := 0) (by with_unfolding_all rfl)) ?_
    obtain ⟨a7, ha7, e⟩ := xw_some e
    refine xe_put (w := ((a3 93 1) + 1)) s5 rfl rfl (by decide) rfl rfl rfl rfl (fun H8 s9 => ?_)
    have s9 : xS h b T a7 H8 := by rw [ha7]; exact s9
    cases e
    exact ex_r (st_vret rfl rfl) s9

set_option maxRecDepth 100000 in
theorem tj90_223 {sL : Nat} {sx : Nat → Int32} {h b N : Nat} {T : List am_C} {r : Int32} {a' : xA} {a : xA} {H : am_H} (hS : xS h b T a H) (e : j90_223 N h b a = some (r, a')) : am_E sL sx am_cs 90 223 [] [] H (some (.int r)) (fun H1 => xS h b T a' H1) := by
  unfold j90_223 at e
  refine ex_s (am_nb (m := 2) (pc1 := 228) (ls1 := []) (st1 := [.int 1]) (H1 := H) (k1 := 0) (n1 := 0) (by with_unfolding_all rfl)) ?_
  cases e
  exact ex_r (st_iret rfl rfl rfl) hS

set_option maxRecDepth 100000 in
theorem tf90_combined {sL : Nat} {sx : Nat → Int32} {h b N : Nat} {T : List am_C} {r : Int32} {a' : xA} {x0 : Int32} {x1 : Int32} {x2 : Int32} {a : xA} {H : am_H} (hS : xS h b T a H) (e : f90_combined N h b x0 x1 x2 a = some (r, a')) : am_E sL sx am_cs 90 0 [(0, .int x0), (1, .int x1), (2, .int x2)] [] H (some (.int r)) (fun H1 => xS h b T a' H1) := by
  unfold f90_combined at e
  refine ex_s (am_nb (m := 1) (pc1 := 1) (ls1 := [(0, .int x0), (1, .int x1), (2, .int x2)]) (st1 := [.int x0]) (H1 := H) (k1 := 0) (n1 := 0) (by with_unfolding_all rfl)) ?_
  refine ex_s (st_lsw rfl) ?_
  by_cases c1 : x0 = 38
  · have e := (if_pos c1).symm.trans e
    refine ex_pc (pc1 := 156) (by rw [c1]; with_unfolding_all rfl) ?_
    refine ex_s (am_nb (m := 3) (pc1 := 159) (ls1 := [(0, .int x0), (1, .int x1), (2, .int x2)]) (st1 := [.int (x1 &&& x2)]) (H1 := H) (k1 := 0) (n1 := 0) (by with_unfolding_all rfl)) ?_
    cases e
    exact ex_r (st_iret rfl rfl rfl) hS
  · have e := (if_neg c1).symm.trans e
    by_cases c2 : x0 = 42
    · have e := (if_pos c2).symm.trans e
      refine ex_pc (pc1 := 124) (by rw [c2]; with_unfolding_all rfl) ?_
      refine ex_s (am_nb (m := 3) (pc1 := 127) (ls1 := [(0, .int x0), (1, .int x1), (2, .int x2)]) (st1 := [.int (x1 * x2)]) (H1 := H) (k1 := 0) (n1 := 0) (by with_unfolding_all rfl)) ?_
      cases e
      exact ex_r (st_iret rfl rfl rfl) hS
    · have e := (if_neg c2).symm.trans e
      by_cases c3 : x0 = 43
      · have e := (if_pos c3).symm.trans e
        refine ex_pc (pc1 := 116) (by rw [c3]; with_unfolding_all rfl) ?_
        refine ex_s (am_nb (m := 3) (pc1 := 119) (ls1 := [(0, .int x0), (1, .int x1), (2, .int x2)]) (st1 := [.int (x1 + x2)]) (H1 := H) (k1 := 0) (n1 := 0) (by with_unfolding_all rfl)) ?_
        cases e
        exact ex_r (st_iret rfl rfl rfl) hS
      · have e := (if_neg c3).symm.trans e
        by_cases c4 : x0 = 45
        · have e := (if_pos c4).symm.trans e
          refine ex_pc (pc1 := 120) (by rw [c4]; with_unfolding_all rfl) ?_
          refine ex_s (am_nb (m := 3) (pc1 := 123) (ls1 := [(0, .int x0), (1, .int x1), (2, .int x2)]) (st1 := [.int (x1 - x2)]) (H1 := H) (k1 := 0) (n1 := 0) (by with_unfolding_all rfl)) ?_
          cases e
          exact ex_r (st_iret rfl rfl rfl) hS
        · have e := (if_neg c4).symm.trans e
          by_cases c5 : x0 = 47
          · have e := (if_pos c5).symm.trans e
            refine ex_pc (pc1 := 128) (by rw [c5]; with_unfolding_all rfl) ?_
            refine ex_s (am_nb (m := 1) (pc1 := 129) (ls1 := [(0, .int x0), (1, .int x1), (2, .int x2)]) (st1 := [.int x2]) (H1 := H) (k1 := 0) (n1 := 0) (by with_unfolding_all rfl)) ?_
            refine ex_s (st_if rfl) ?_
            by_cases c7 : x2 = 0
            · have e := (if_pos c7).symm.trans e
              refine ex_pc (if_pos c7) ?_
              refine ex_s (am_nb (m := 2) (pc1 := 139) (ls1 := [(0, .int x0), (1, .int x1), (2, .int x2)]) (st1 := [.int 0]) (H1 := H) (k1 := 0) (n1 := 0) (by with_unfolding_all rfl)) ?_
              cases e
              exact ex_r (st_iret rfl rfl rfl) hS
            · have e := (if_neg c7).symm.trans e
              refine ex_pc (if_neg c7) ?_
              refine ex_s (am_nb (m := 2) (pc1 := 138) (ls1 := [(0, .int x0), (1, .int x1), (2, .int x2)]) (st1 := [.int x2, .int x1]) (H1 := H) (k1 := 0) (n1 := 0) (by with_unfolding_all rfl)) ?_
              refine ex_s (st_idiv rfl c7) ?_
              cases e
              exact ex_r (st_iret rfl rfl rfl) hS
          · have e := (if_neg c5).symm.trans e
            by_cases c8 : x0 = 60
            · have e := (if_pos c8).symm.trans e
              refine ex_pc (pc1 := 179) (by rw [c8]; with_unfolding_all rfl) ?_
              refine ex_s (am_nb (m := 2) (pc1 := 181) (ls1 := [(0, .int x0), (1, .int x1), (2, .int x2)]) (st1 := [.int x2, .int x1]) (H1 := H) (k1 := 0) (n1 := 0) (by with_unfolding_all rfl)) ?_
              have kk : am_E sL sx am_cs 90 189 [(0, .int x0), (1, .int x1), (2, .int x2)] [.int (if x2 ≤ x1 then (0 : Int32) else (1 : Int32))] H (some (.int r)) (fun H1 => xS h b T a' H1) := by
                cases e
                exact ex_r (st_iret rfl rfl rfl) hS
              refine ex_s (st_icmp rfl) ?_
              by_cases c9 : x2 ≤ x1
              · refine ex_pc (if_pos c9) ?_
                refine ex_s (am_nb (m := 1) (pc1 := 189) (ls1 := [(0, .int x0), (1, .int x1), (2, .int x2)]) (st1 := [.int 0]) (H1 := H) (k1 := 0) (n1 := 0) (by with_unfolding_all rfl)) ?_
                rw [if_pos c9] at kk
                exact kk
              · refine ex_pc (if_neg c9) ?_
                refine ex_s (am_nb (m := 2) (pc1 := 189) (ls1 := [(0, .int x0), (1, .int x1), (2, .int x2)]) (st1 := [.int 1]) (H1 := H) (k1 := 0) (n1 := 0) (by with_unfolding_all rfl)) ?_
                rw [if_neg c9] at kk
                exact kk
            · have e := (if_neg c8).symm.trans e
              by_cases c10 : x0 = 61
              · have e := (if_pos c10).symm.trans e
                refine ex_pc (pc1 := 168) (by rw [c10]; with_unfolding_all rfl) ?_
                refine ex_s (am_nb (m := 2) (pc1 := 170) (ls1 := [(0, .int x0), (1, .int x1), (2, .int x2)]) (st1 := [.int x2, .int x1]) (H1 := H) (k1 := 0) (n1 := 0) (by with_unfolding_all rfl)) ?_
                have kk : am_E sL sx am_cs 90 178 [(0, .int x0), (1, .int x1), (2, .int x2)] [.int (if x1 = x2 then (1 : Int32) else (0 : Int32))] H (some (.int r)) (fun H1 => xS h b T a' H1) := by
                  cases e
                  exact ex_r (st_iret rfl rfl rfl) hS
                refine ex_s (st_icmp rfl) ?_
                by_cases c11 : x1 = x2
                · refine ex_pc (if_pos c11) ?_
                  refine ex_s (am_nb (m := 2) (pc1 := 178) (ls1 := [(0, .int x0), (1, .int x1), (2, .int x2)]) (st1 := [.int 1]) (H1 := H) (k1 := 0) (n1 := 0) (by with_unfolding_all rfl)) ?_
                  rw [if_pos c11] at kk
                  exact kk
                · refine ex_pc (if_neg c11) ?_
                  refine ex_s (am_nb (m := 1) (pc1 := 178) (ls1 := [(0, .int x0), (1, .int x1), (2, .int x2)]) (st1 := [.int 0]) (H1 := H) (k1 := 0) (n1 := 0) (by with_unfolding_all rfl)) ?_
                  rw [if_neg c11] at kk
                  exact kk
              · have e := (if_neg c10).symm.trans e
                by_cases c12 : x0 = 62
                · have e := (if_pos c12).symm.trans e
                  refine ex_pc (pc1 := 190) (by rw [c12]; with_unfolding_all rfl) ?_
                  refine ex_s (am_nb (m := 2) (pc1 := 192) (ls1 := [(0, .int x0), (1, .int x1), (2, .int x2)]) (st1 := [.int x2, .int x1]) (H1 := H) (k1 := 0) (n1 := 0) (by with_unfolding_all rfl)) ?_
                  have kk : am_E sL sx am_cs 90 200 [(0, .int x0), (1, .int x1), (2, .int x2)] [.int (if x1 ≤ x2 then (0 : Int32) else (1 : Int32))] H (some (.int r)) (fun H1 => xS h b T a' H1) := by
                    cases e
                    exact ex_r (st_iret rfl rfl rfl) hS
                  refine ex_s (st_icmp rfl) ?_
                  by_cases c13 : x1 ≤ x2
                  · refine ex_pc (if_pos c13) ?_
                    refine ex_s (am_nb (m := 1) (pc1 := 200) (ls1 := [(0, .int x0), (1, .int x1), (2, .int x2)]) (st1 := [.int 0]) (H1 := H) (k1 := 0) (n1 := 0) (by with_unfolding_all rfl)) ?_
                    rw [if_pos c13] at kk
                    exact kk
                  · refine ex_pc (if_neg c13) ?_
                    refine ex_s (am_nb (m := 2) (pc1 := 200) (ls1 := [(0, .int x0), (1, .int x1), (2, .int x2)]) (st1 := [.int 1]) (H1 := H) (k1 := 0) (n1 := 0) (by with_unfolding_all rfl)) ?_
                    rw [if_neg c13] at kk
                    exact kk
                · have e := (if_neg c12).symm.trans e
                  by_cases c14 : x0 = 65
                  · have e := (if_pos c14).symm.trans e
                    refine ex_pc (pc1 := 201) (by rw [c14]; with_unfolding_all rfl) ?_
                    refine ex_s (am_nb (m := 1) (pc1 := 202) (ls1 := [(0, .int x0), (1, .int x1), (2, .int x2)]) (st1 := [.int x1]) (H1 := H) (k1 := 0) (n1 := 0) (by with_unfolding_all rfl)) ?_
                    refine ex_s (st_if rfl) ?_
                    by_cases c17 : x1 = 0
                    · have e := (if_pos c17).symm.trans e
                      refine ex_pc (if_pos c17) ?_
                      refine ex_s (am_nb (m := 1) (pc1 := 214) (ls1 := [(0, .int x0), (1, .int x1), (2, .int x2)]) (st1 := [.int 0]) (H1 := H) (k1 := 0) (n1 := 0) (by with_unfolding_all rfl)) ?_
                      cases e
                      exact ex_r (st_iret rfl rfl rfl) hS
                    · have e := (if_neg c17).symm.trans e
                      refine ex_pc (if_neg c17) ?_
                      refine ex_s (am_nb (m := 1) (pc1 := 206) (ls1 := [(0, .int x0), (1, .int x1), (2, .int x2)]) (st1 := [.int x2]) (H1 := H) (k1 := 0) (n1 := 0) (by with_unfolding_all rfl)) ?_
                      have kk : am_E sL sx am_cs 90 214 [(0, .int x0), (1, .int x1), (2, .int x2)] [.int (if x2 = 0 then (0 : Int32) else (1 : Int32))] H (some (.int r)) (fun H1 => xS h b T a' H1) := by
                        cases e
                        exact ex_r (st_iret rfl rfl rfl) hS
                      refine ex_s (st_if rfl) ?_
                      by_cases c18 : x2 = 0
                      · refine ex_pc (if_pos c18) ?_
                        refine ex_s (am_nb (m := 1) (pc1 := 214) (ls1 := [(0, .int x0), (1, .int x1), (2, .int x2)]) (st1 := [.int 0]) (H1 := H) (k1 := 0) (n1 := 0) (by with_unfolding_all rfl)) ?_
                        rw [if_pos c18] at kk
                        exact kk
                      · refine ex_pc (if_neg c18) ?_
                        refine ex_s (am_nb (m := 2) (pc1 := 214) (ls1 := [(0, .int x0), (1, .int x1), (2, .int x2)]) (st1 := [.int 1]) (H1 := H) (k1 := 0) (n1 := 0) (by with_unfolding_all rfl)) ?_
                        rw [if_neg c18] at kk
                        exact kk
                  · have e := (if_neg c14).symm.trans e
                    by_cases c19 : x0 = 79
                    · have e := (if_pos c19).symm.trans e
                      refine ex_pc (pc1 := 215) (by rw [c19]; with_unfolding_all rfl) ?_
                      refine ex_s (am_nb (m := 1) (pc1 := 216) (ls1 := [(0, .int x0), (1, .int x1), (2, .int x2)]) (st1 := [.int x1]) (H1 := H) (k1 := 0) (n1 := 0) (by with_unfolding_all rfl)) ?_
                      refine ex_s (st_if rfl) ?_
                      by_cases c22 : x1 = 0
                      · have e := (if_pos c22).symm.trans e
                        refine ex_pc (if_pos c22) ?_
                        refine ex_s (am_nb (m := 1) (pc1 := 220) (ls1 := [(0, .int x0), (1, .int x1), (2, .int x2)]) (st1 := [.int x2]) (H1 := H) (k1 := 0) (n1 := 0) (by with_unfolding_all rfl)) ?_
                        have kk : am_E sL sx am_cs 90 228 [(0, .int x0), (1, .int x1), (2, .int x2)] [.int (if x2 = 0 then (0 : Int32) else (1 : Int32))] H (some (.int r)) (fun H1 => xS h b T a' H1) := by
                          cases e
                          exact ex_r (st_iret rfl rfl rfl) hS
                        refine ex_s (st_if rfl) ?_
                        by_cases c23 : x2 = 0
                        · refine ex_pc (if_pos c23) ?_
                          refine ex_s (am_nb (m := 1) (pc1 := 228) (ls1 := [(0, .int x0), (1, .int x1), (2, .int x2)]) (st1 := [.int 0]) (H1 := H) (k1 := 0) (n1 := 0) (by with_unfolding_all rfl)) ?_
                          rw [if_pos c23] at kk
                          exact kk
                        · refine ex_pc (if_neg c23) ?_
                          refine ex_s (am_nb (m := 2) (pc1 := 228) (ls1 := [(0, .int x0), (1, .int x1), (2, .int x2)]) (st1 := [.int 1]) (H1 := H) (k1 := 0) (n1 := 0) (by with_unfolding_all rfl)) ?_
                          rw [if_neg c23] at kk
                          exact kk
                      · have e := (if_neg c22).symm.trans e
                        refine ex_pc (if_neg c22) ?_
                        exact le_E (l1 := []) trivial rfl (tj90_223  hS e)
                    · have e := (if_neg c19).symm.trans e
                      by_cases c24 : x0 = 94
                      · have e := (if_pos c24).symm.trans e
                        refine ex_pc (pc1 := 164) (by rw [c24]; with_unfolding_all rfl) ?_
                        refine ex_s (am_nb (m := 3) (pc1 := 167) (ls1 := [(0, .int x0), (1, .int x1), (2, .int x2)]) (st1 := [.int (x1 ^^^ x2)]) (H1 := H) (k1 := 0) (n1 := 0) (by with_unfolding_all rfl)) ?_
                        cases e
                        exact ex_r (st_iret rfl rfl rfl) hS
                      · have e := (if_neg c24).symm.trans e
                        by_cases c25 : x0 = 109
                        · have e := (if_pos c25).symm.trans e
                          refine ex_pc (pc1 := 140) (by rw [c25]; with_unfolding_all rfl) ?_
                          refine ex_s (am_nb (m := 1) (pc1 := 141) (ls1 := [(0, .int x0), (1, .int x1), (2, .int x2)]) (st1 := [.int x2]) (H1 := H) (k1 := 0) (n1 := 0) (by with_unfolding_all rfl)) ?_
                          refine ex_s (st_if rfl) ?_
                          by_cases c27 : x2 = 0
                          · have e := (if_pos c27).symm.trans e
                            refine ex_pc (if_pos c27) ?_
                            refine ex_s (am_nb (m := 2) (pc1 := 155) (ls1 := [(0, .int x0), (1, .int x1), (2, .int x2)]) (st1 := [.int 0]) (H1 := H) (k1 := 0) (n1 := 0) (by with_unfolding_all rfl)) ?_
                            cases e
                            exact ex_r (st_iret rfl rfl rfl) hS
                          · have e := (if_neg c27).symm.trans e
                            refine ex_pc (if_neg c27) ?_
                            refine ex_s (am_nb (m := 3) (pc1 := 151) (ls1 := [(0, .int x0), (1, .int x1), (2, .int x2)]) (st1 := [.int x2, .int x1, .int x1]) (H1 := H) (k1 := 0) (n1 := 0) (by with_unfolding_all rfl)) ?_
                            refine ex_s (st_idiv rfl c27) ?_
                            refine ex_s (am_nb (m := 3) (pc1 := 155) (ls1 := [(0, .int x0), (1, .int x1), (2, .int x2)]) (st1 := [.int (x1 - ((x1 / x2) * x2))]) (H1 := H) (k1 := 0) (n1 := 0) (by with_unfolding_all rfl)) ?_
                            cases e
                            exact ex_r (st_iret rfl rfl rfl) hS
                        · have e := (if_neg c25).symm.trans e
                          by_cases c28 : x0 = 124
                          · have e := (if_pos c28).symm.trans e
                            refine ex_pc (pc1 := 160) (by rw [c28]; with_unfolding_all rfl) ?_
                            refine ex_s (am_nb (m := 3) (pc1 := 163) (ls1 := [(0, .int x0), (1, .int x1), (2, .int x2)]) (st1 := [.int (x1 ||| x2)]) (H1 := H) (k1 := 0) (n1 := 0) (by with_unfolding_all rfl)) ?_
                            cases e
                            exact ex_r (st_iret rfl rfl rfl) hS
                          · have e := (if_neg c28).symm.trans e
                            refine ex_pc (pc1 := 229) (am_sw_n (sw_c (Or.inl c1) (sw_c (Or.inl c2) (sw_c (Or.inl c3) (sw_c (Or.inl c4) (sw_c (Or.inl c5) (sw_c (Or.inl c8) (sw_c (Or.inl c10) (sw_c (Or.inl c12) (sw_c (Or.inl c14) (sw_c (Or.inl c19) (sw_c (Or.inl c24) (sw_c (Or.inl c25) (sw_c (Or.inl c28) sw_o)))))))))))))) ?_
                            refine ex_s (am_nb (m := 1) (pc1 := 230) (ls1 := [(0, .int x0), (1, .int x1), (2, .int x2)]) (st1 := [.int 0]) (H1 := H) (k1 := 0) (n1 := 0) (by with_unfolding_all rfl)) ?_
                            cases e
                            exact ex_r (st_iret rfl rfl rfl) hS

set_option maxRecDepth 100000 in
theorem tf89_operate {sL : Nat} {sx : Nat → Int32} {h b N : Nat} {T : List am_C} {a' : xA} {x0 : Int32} {a : xA} {H : am_H} (hS : xS h b T a H) (e : f89_operate N h b x0 a = some a') : am_E sL sx am_cs 89 0 [(0, .ref 93), (1, .int x0)] [] H none (fun H1 => xS h b T a' H1) := by
  unfold f89_operate at e
  refine ex_s (am_nb (m := 1) (pc1 := 1) (ls1 := [(0, .ref 93), (1, .int x0)]) (st1 := [.int x0]) (H1 := H) (k1 := 0) (n1 := 0) (by with_unfolding_all rfl)) ?_
  refine ex_s (st_lsw rfl) ?_
  by_cases c1 : x0 = 33
  · have e := (if_pos c1).symm.trans e
    refine ex_pc (pc1 := 115) (by rw [c1]; with_unfolding_all rfl) ?_
    refine ex_s (am_nb (m := 2) (pc1 := 117) (ls1 := [(0, .ref 93), (1, .int x0)]) (st1 := [.ref 93, .ref 93]) (H1 := H) (k1 := 0) (n1 := 0) (by with_unfolding_all rfl)) ?_
    obtain ⟨r5, a6, e4, e⟩ := xb2_some e
    refine ex_cv1 (as := []) (rest := [.ref 93]) rfl rfl rfl rfl (hS.obj rfl (by decide)) rfl (by with_unfolding_all rfl) (by with_unfolding_all rfl) (tf84_pop hS e4) (fun H2 s3 => ?_)
    have kk : am_E sL sx am_cs 89 128 [(0, .ref 93), (1, .int x0)] [.int (if r5 = 0 then (1 : Int32) else (0 : Int32)), .ref 93] H2 none (fun H1 => xS h b T a' H1) := by
      obtain ⟨a11, e10, e⟩ := xb1_some e
      refine ex_cv0 (as := [.int (if r5 = 0 then (1 : Int32) else (0 : Int32))]) (rest := []) rfl rfl rfl rfl (s3.obj rfl (by decide)) rfl (by with_unfolding_all rfl) (by with_unfolding_all rfl) (tf88_push s3 e10) (fun H8 s9 => ?_)
      refine ex_s (am_nb (m := 1) (pc1 := 170) (ls1 := [(0, .ref 93), (1, .int x0)]) (st1 := []) (H1 := H8) (k1 := 0) (n1 := 0) (by with_unfolding_all rfl)) ?_
      cases e
      exact ex_r (st_vret rfl rfl) s9
    refine ex_s (st_if rfl) ?_
    by_cases c7 : r5 = 0
    · refine ex_pc (if_pos c7) ?_
      refine ex_s (am_nb (m := 2) (pc1 := 128) (ls1 := [(0, .ref 93), (1, .int x0)]) (st1 := [.int 1, .ref 93]) (H1 := H2) (k1 := 0) (n1 := 0) (by with_unfolding_all rfl)) ?_
      rw [if_pos c7] at kk
      exact kk
    · refine ex_pc (if_neg c7) ?_
      refine ex_s (am_nb (m := 1) (pc1 := 128) (ls1 := [(0, .ref 93), (1, .int x0)]) (st1 := [.int 0, .ref 93]) (H1 := H2) (k1 := 0) (n1 := 0) (by with_unfolding_all rfl)) ?_
      rw [if_neg c7] at kk
      exact kk
  · have e := (if_neg c1).symm.trans e
    by_cases c12 : x0 = 37
    · have e := (if_pos c12).symm.trans e
      refine ex_pc (pc1 := 68) (by rw [c12]; with_unfolding_all rfl) ?_
      refine ex_s (am_nb (m := 2) (pc1 := 71) (ls1 := [(0, .ref 93), (1, .int x0)]) (st1 := [.int 37, .ref 93]) (H1 := H) (k1 := 0) (n1 := 0) (by with_unfolding_all rfl)) ?_
      obtain ⟨a16, e15, e⟩ := xb1_some e
      refine ex_cv0 (as := [.int 37]) (rest := []) rfl rfl rfl rfl (hS.obj rfl (by decide)) rfl (by with_unfolding_all rfl) (by with_unfolding_all rfl) (tf83_make hS e15) (fun H13 s14 => ?_)
      refine ex_s (am_nb (m := 1) (pc1 := 170) (ls1 := [(0, .ref 93), (1, .int x0)]) (st1 := []) (H1 := H13) (k1 := 0) (n1 := 0) (by with_unfolding_all rfl)) ?_
      cases e
      exact ex_r (st_vret rfl rfl) s14
    · have e := (if_neg c12).symm.trans e
      by_cases c17 : x0 = 59 ∨ x0 = 63
      · have e := (if_pos c17).symm.trans e
        refine ex_pc (pc1 := 147) (by rcases c17 with c17 | c17 <;> (rw [c17]; with_unfolding_all rfl)) ?_
        refine ex_s (am_nb (m := 1) (pc1 := 170) (ls1 := [(0, .ref 93), (1, .int x0)]) (st1 := []) (H1 := H) (k1 := 0) (n1 := 0) (by with_unfolding_all rfl)) ?_
        cases e
        exact ex_r (st_vret rfl rfl) hS
      · have e := (if_neg c17).symm.trans e
        by_cases c18 : x0 = 99
        · have e := (if_pos c18).symm.trans e
          refine ex_pc (pc1 := 77) (by rw [c18]; with_unfolding_all rfl) ?_
          refine ex_s (am_nb (m := 2) (pc1 := 79) (ls1 := [(0, .ref 93), (1, .int x0)]) (st1 := [.ref 93, .ref 93]) (H1 := H) (k1 := 0) (n1 := 0) (by with_unfolding_all rfl)) ?_
          obtain ⟨r22, a23, e21, e⟩ := xb2_some e
          refine ex_cv1 (as := []) (rest := [.ref 93]) rfl rfl rfl rfl (hS.obj rfl (by decide)) rfl (by with_unfolding_all rfl) (by with_unfolding_all rfl) (tf84_pop hS e21) (fun H19 s20 => ?_)
          refine ex_s (am_nb (m := 2) (pc1 := 86) (ls1 := [(0, .ref 93), (1, .int x0)]) (st1 := [.int (r22 &&& 255), .ref 93]) (H1 := H19) (k1 := 0) (n1 := 0) (by with_unfolding_all rfl)) ?_
          obtain ⟨a27, e26, e⟩ := xb1_some e
          refine ex_cv0 (as := [.int (r22 &&& 255)]) (rest := []) rfl rfl rfl rfl (s20.obj rfl (by decide)) rfl (by with_unfolding_all rfl) (by with_unfolding_all rfl) (tf83_make s20 e26) (fun H24 s25 => ?_)
          refine ex_s (am_nb (m := 1) (pc1 := 170) (ls1 := [(0, .ref 93), (1, .int x0)]) (st1 := []) (H1 := H24) (k1 := 0) (n1 := 0) (by with_unfolding_all rfl)) ?_
          cases e
          exact ex_r (st_vret rfl rfl) s25
        · have e := (if_neg c18).symm.trans e
          by_cases c28 : x0 = 105
          · have e := (if_pos c28).symm.trans e
            refine ex_pc (pc1 := 92) (by rw [c28]; with_unfolding_all rfl) ?_
            refine ex_s (am_nb (m := 1) (pc1 := 93) (ls1 := [(0, .ref 93), (1, .int x0)]) (st1 := [.ref 93]) (H1 := H) (k1 := 0) (n1 := 0) (by with_unfolding_all rfl)) ?_
            refine xe_get (v := .ref 95) hS rfl rfl (by decide) rfl ?_
            refine ex_s (am_nb (m := 2) (pc1 := 98) (ls1 := [(0, .ref 93), (1, .int x0)]) (st1 := [.int 0, .ref 95, .int 0, .ref 95]) (H1 := H) (k1 := 0) (n1 := 0) (by with_unfolding_all rfl)) ?_
            refine xe_ialdc (v := a 95 0) hS rfl rfl (show ¬ ((0 : Int32) < 0 ∨ 4 ≤ ((0 : Int32)).toNatClampNeg) by decide) rfl ?_
            refine ex_s (am_nb (m := 2) (pc1 := 101) (ls1 := [(0, .ref 93), (1, .int x0)]) (st1 := [.int ((a 95 0) + 1), .int 0, .ref 95]) (H1 := H) (k1 := 0) (n1 := 0) (by with_unfolding_all rfl)) ?_
            obtain ⟨a29, ha29, e⟩ := xw_some e
            refine xe_iast hS rfl rfl (show ¬ ((0 : Int32) < 0 ∨ 4 ≤ ((0 : Int32)).toNatClampNeg) by decide) (fun H30 s31 => ?_)
            have s31 : xS h b T a29 H30 := by rw [ha29]; exact s31
            refine ex_s (am_nb (m := 1) (pc1 := 103) (ls1 := [(0, .ref 93), (1, .int x0)]) (st1 := [.ref 93]) (H1 := H30) (k1 := 0) (n1 := 0) (by with_unfolding_all rfl)) ?_
            refine xe_get (v := .ref 95) s31 rfl rfl (by decide) rfl ?_
            refine ex_s (am_nb (m := 2) (pc1 := 108) (ls1 := [(0, .ref 93), (1, .int x0)]) (st1 := [.int 1, .ref 95, .int 1, .ref 95]) (H1 := H30) (k1 := 0) (n1 := 0) (by with_unfolding_all rfl)) ?_
            refine xe_ialdc (v := a29 95 1) s31 rfl rfl (show ¬ ((1 : Int32) < 0 ∨ 4 ≤ ((1 : Int32)).toNatClampNeg) by decide) rfl ?_
            refine ex_s (am_nb (m := 2) (pc1 := 111) (ls1 := [(0, .ref 93), (1, .int x0)]) (st1 := [.int ((a29 95 1) + 1), .int 1, .ref 95]) (H1 := H30) (k1 := 0) (n1 := 0) (by with_unfolding_all rfl)) ?_
            obtain ⟨a32, ha32, e⟩ := xw_some e
            refine xe_iast s31 rfl rfl (show ¬ ((1 : Int32) < 0 ∨ 4 ≤ ((1 : Int32)).toNatClampNeg) by decide) (fun H33 s34 => ?_)
            have s34 : xS h b T a32 H33 := by rw [ha32]; exact s34
            refine ex_s (am_nb (m := 1) (pc1 := 170) (ls1 := [(0, .ref 93), (1, .int x0)]) (st1 := []) (H1 := H33) (k1 := 0) (n1 := 0) (by with_unfolding_all rfl)) ?_
            cases e
            exact ex_r (st_vret rfl rfl) s34
          · have e := (if_neg c28).symm.trans e
            by_cases c35 : x0 = 126
            · have e := (if_pos c35).symm.trans e
              refine ex_pc (pc1 := 134) (by rw [c35]; with_unfolding_all rfl) ?_
              refine ex_s (am_nb (m := 2) (pc1 := 136) (ls1 := [(0, .ref 93), (1, .int x0)]) (st1 := [.ref 93, .ref 93]) (H1 := H) (k1 := 0) (n1 := 0) (by with_unfolding_all rfl)) ?_
              obtain ⟨r39, a40, e38, e⟩ := xb2_some e
              refine ex_cv1 (as := []) (rest := [.ref 93]) rfl rfl rfl rfl (hS.obj rfl (by decide)) rfl (by with_unfolding_all rfl) (by with_unfolding_all rfl) (tf84_pop hS e38) (fun H36 s37 => ?_)
              refine ex_s (am_nb (m := 2) (pc1 := 141) (ls1 := [(0, .ref 93), (1, .int x0)]) (st1 := [.int (r39 ^^^ (-1)), .ref 93]) (H1 := H36) (k1 := 0) (n1 := 0) (by with_unfolding_all rfl)) ?_
              obtain ⟨a44, e43, e⟩ := xb1_some e
              refine ex_cv0 (as := [.int (r39 ^^^ (-1))]) (rest := []) rfl rfl rfl rfl (s37.obj rfl (by decide)) rfl (by with_unfolding_all rfl) (by with_unfolding_all rfl) (tf88_push s37 e43) (fun H41 s42 => ?_)
              refine ex_s (am_nb (m := 1) (pc1 := 170) (ls1 := [(0, .ref 93), (1, .int x0)]) (st1 := []) (H1 := H41) (k1 := 0) (n1 := 0) (by with_unfolding_all rfl)) ?_
              cases e
              exact ex_r (st_vret rfl rfl) s42
            · have e := (if_neg c35).symm.trans e
              refine ex_pc (pc1 := 150) (am_sw_n (sw_c (Or.inl c1) (sw_c (Or.inl c12) (sw_c (Or.inl (fun q => c17 (Or.inl q))) (sw_c (Or.inl (fun q => c17 (Or.inr q))) (sw_c (Or.inl c18) (sw_c (Or.inl c28) (sw_c (Or.inl c35) sw_o)))))))) ?_
              refine ex_s (am_nb (m := 1) (pc1 := 151) (ls1 := [(0, .ref 93), (1, .int x0)]) (st1 := [.ref 93]) (H1 := H) (k1 := 0) (n1 := 0) (by with_unfolding_all rfl)) ?_
              obtain ⟨r48, a49, e47, e⟩ := xb2_some e
              refine ex_cv1 (as := []) (rest := []) rfl rfl rfl rfl (hS.obj rfl (by decide)) rfl (by with_unfolding_all rfl) (by with_unfolding_all rfl) (tf84_pop hS e47) (fun H45 s46 => ?_)
              refine ex_s (am_nb (m := 2) (pc1 := 156) (ls1 := [(2, .int r48), (0, .ref 93), (1, .int x0)]) (st1 := [.ref 93]) (H1 := H45) (k1 := 0) (n1 := 0) (by with_unfolding_all rfl)) ?_
              obtain ⟨r53, a54, e52, e⟩ := xb2_some e
              refine ex_cv1 (as := []) (rest := []) rfl rfl rfl rfl (s46.obj rfl (by decide)) rfl (by with_unfolding_all rfl) (by with_unfolding_all rfl) (tf84_pop s46 e52) (fun H50 s51 => ?_)
              refine ex_s (am_nb (m := 5) (pc1 := 164) (ls1 := [(3, .int r53), (2, .int r48), (0, .ref 93), (1, .int x0)]) (st1 := [.int r48, .int r53, .int x0, .ref 93]) (H1 := H50) (k1 := 0) (n1 := 0) (by with_unfolding_all rfl)) ?_
              obtain ⟨r58, a59, e57, e⟩ := xb2_some e
              refine ex_cs1 (as := [.int x0, .int r53, .int r48]) (rest := [.ref 93]) rfl (by decide) rfl rfl (by with_unfolding_all rfl) (by with_unfolding_all rfl) (tf90_combined s51 e57) (fun H55 s56 => ?_)
              obtain ⟨a63, e62, e⟩ := xb1_some e
              refine ex_cv0 (as := [.int r58]) (rest := []) rfl rfl rfl rfl (s56.obj rfl (by decide)) rfl (by with_unfolding_all rfl) (by with_unfolding_all rfl) (tf88_push s56 e62) (fun H60 s61 => ?_)
              cases e
              exact ex_r (st_vret rfl rfl) s61
