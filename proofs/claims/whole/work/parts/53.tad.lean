/-! The program does what the functions say. -/
set_option maxRecDepth 100000 in
theorem tj82_333 {sL : Nat} {sx : Nat → Int32} {h b N : Nat} {T : List am_C} {R : Option Value} {F : am_H → Prop} {w3 : Nat} {w5 : Int32} {z : Nat × xA} {rc : Int32 → Int32 → xA → Option (Nat × xA)} (k0 : z.1 = 0 → ∀ H2 : am_H, xS h b T z.2 H2 → am_E sL sx am_cs 82 343 [(0, .ref 93)] [] H2 R F) (ih : ∀ (v4 : Int32) (v6 : Int32) (a : xA) (H : am_H), xS h b T a H → rc v4 v6 a = some z → am_E sL sx am_cs 82 34 [(0, .ref 93), (3, .ref w3), (4, .int v4), (5, .int w5), (6, .int v6)] [] H R F) {q6 : Int32} {q8 : Int32} {a : xA} {H : am_H} (kw3 : xk w3 = 100) (hS : xS h b T a H) (e : j82_333 N h b rc w3 w5 q6 q8 a = some z) : am_E sL sx am_cs 82 333 [(0, .ref 93), (3, .ref w3), (5, .int w5), (6, .int q6), (8, .int q8)] [] H R F := by
  unfold j82_333 at e
  refine ex_s (am_nb (m := 4) (pc1 := 34) (ls1 := [(6, .int (q6 + 1)), (4, .int q8), (0, .ref 93), (3, .ref w3), (5, .int w5), (8, .int q8)]) (st1 := []) (H1 := H) (k1 := 0) (n1 := 0) (by with_unfolding_all rfl)) ?_
  exact le_E (l1 := [(0, .ref 93), (3, .ref w3), (4, .int q8), (5, .int w5), (6, .int (q6 + 1))]) ⟨rfl, rfl, rfl, rfl, rfl, trivial⟩ rfl (ih q8 (q6 + 1) a H hS e)

set_option maxRecDepth 100000 in
theorem tj82_201 {sL : Nat} {sx : Nat → Int32} {h b N : Nat} {T : List am_C} {R : Option Value} {F : am_H → Prop} {w3 : Nat} {w5 : Int32} {z : Nat × xA} {rc : Int32 → Int32 → xA → Option (Nat × xA)} (k0 : z.1 = 0 → ∀ H2 : am_H, xS h b T z.2 H2 → am_E sL sx am_cs 82 343 [(0, .ref 93)] [] H2 R F) (ih : ∀ (v4 : Int32) (v6 : Int32) (a : xA) (H : am_H), xS h b T a H → rc v4 v6 a = some z → am_E sL sx am_cs 82 34 [(0, .ref 93), (3, .ref w3), (4, .int v4), (5, .int w5), (6, .int v6)] [] H R F) {q6 : Int32} {t0 : Int32} {a : xA} {H : am_H} (kw3 : xk w3 = 100) (hS : xS h b T a H) (e : j82_201 N h b rc w3 w5 q6 t0 a = some z) : am_E sL sx am_cs 82 201 [(0, .ref 93), (3, .ref w3), (5, .int w5), (6, .int q6)] [.int t0] H R F := by
  unfold j82_201 at e
  refine ex_s (am_nb (m := 2) (pc1 := 333) (ls1 := [(8, .int t0), (0, .ref 93), (3, .ref w3), (5, .int w5), (6, .int q6)]) (st1 := []) (H1 := H) (k1 := 0) (n1 := 0) (by with_unfolding_all rfl)) ?_
  exact le_E (l1 := [(0, .ref 93), (3, .ref w3), (5, .int w5), (6, .int q6), (8, .int t0)]) ⟨rfl, rfl, rfl, rfl, rfl, trivial⟩ rfl (tj82_333 k0 ih kw3 hS e)

set_option maxRecDepth 100000 in
theorem tl82_34 {sL : Nat} {sx : Nat → Int32} {h b N : Nat} {T : List am_C} {R : Option Value} {F : am_H → Prop} {w3 : Nat} {w5 : Int32} {z : Nat × xA} (kw3 : xk w3 = 100) (k0 : z.1 = 0 → ∀ H2 : am_H, xS h b T z.2 H2 → am_E sL sx am_cs 82 343 [(0, .ref 93)] [] H2 R F) : ∀ (n : Nat) (v4 : Int32) (v6 : Int32) (a : xA) (H : am_H), xS h b T a H → l82_34 N h b w3 w5 n v4 v6 a = some z → am_E sL sx am_cs 82 34 [(0, .ref 93), (3, .ref w3), (4, .int v4), (5, .int w5), (6, .int v6)] [] H R F := by
  intro n
  induction n with
  | zero =>
    intro v4 v6 a H hS e
    cases e
  | succ n ih =>
    intro v4 v6 a H hS e
    unfold l82_34 at e
    refine ex_s (am_nb (m := 2) (pc1 := 38) (ls1 := [(0, .ref 93), (3, .ref w3), (4, .int v4), (5, .int w5), (6, .int v6)]) (st1 := [.int 40, .int v6]) (H1 := H) (k1 := 0) (n1 := 0) (by with_unfolding_all rfl)) ?_
    refine ex_s (st_icmp rfl) ?_
    by_cases c18 : 40 ≤ v6
    · have e := (if_pos c18).symm.trans e
      refine ex_pc (if_pos c18) ?_
      cases e
      exact le_E (l1 := [(0, .ref 93)]) ⟨rfl, trivial⟩ rfl (k0 rfl H hS)
    · have e := (if_neg c18).symm.trans e
      refine ex_pc (if_neg c18) ?_
      refine ex_s (am_nb (m := 2) (pc1 := 45) (ls1 := [(0, .ref 93), (3, .ref w3), (4, .int v4), (5, .int w5), (6, .int v6)]) (st1 := [.int w5, .int v4]) (H1 := H) (k1 := 0) (n1 := 0) (by with_unfolding_all rfl)) ?_
      refine ex_s (st_icmp rfl) ?_
      by_cases c19 : w5 ≤ v4
      · have e := (if_pos c19).symm.trans e
        refine ex_pc (if_pos c19) ?_
        cases e
        exact le_E (l1 := [(0, .ref 93)]) ⟨rfl, trivial⟩ rfl (k0 rfl H hS)
      · have e := (if_neg c19).symm.trans e
        refine ex_pc (if_neg c19) ?_
        refine ex_s (am_nb (m := 3) (pc1 := 53) (ls1 := [(0, .ref 93), (3, .ref w3), (4, .int v4), (5, .int w5), (6, .int v6)]) (st1 := [.int w5, .int v4, .ref w3]) (H1 := H) (k1 := 0) (n1 := 0) (by with_unfolding_all rfl)) ?_
        obtain ⟨r23, a24, e22, e⟩ := xb2_some e
        refine ex_cs1 (as := [.ref w3, .int v4, .int w5]) (rest := []) rfl (by decide) rfl rfl (by with_unfolding_all rfl) (by with_unfolding_all rfl) (tf58_tokenLength hS e22) (fun H20 s21 => ?_)
        refine ex_s (am_nb (m := 9) (pc1 := 72) (ls1 := [(8, .int (v4 + (xmax 1 r23))), (7, .int r23), (0, .ref 93), (3, .ref w3), (4, .int v4), (5, .int w5), (6, .int v6)]) (st1 := [.int 2, .int r23]) (H1 := H20) (k1 := 0) (n1 := 0) (by with_unfolding_all rfl)) ?_
        refine ex_s (st_icmp rfl) ?_
        by_cases c25 : 2 ≤ r23
        · have e := (if_pos c25).symm.trans e
          refine ex_pc (if_pos c25) ?_
          refine ex_s (am_nb (m := 4) (pc1 := 91) (ls1 := [(8, .int (v4 + (xmax 1 r23))), (7, .int r23), (0, .ref 93), (3, .ref w3), (4, .int v4), (5, .int w5), (6, .int v6)]) (st1 := [.int (v4 + 1), .ref w3]) (H1 := H20) (k1 := 0) (n1 := 0) (by with_unfolding_all rfl)) ?_
          obtain ⟨g26, e⟩ := xg_some e
          refine xe_iald s21 rfl kw3 g26 ?_
          refine ex_s (am_nb (m := 2) (pc1 := 96) (ls1 := [(9, .int (a24 w3 ((v4 + 1).toNatClampNeg))), (8, .int (v4 + (xmax 1 r23))), (7, .int r23), (0, .ref 93), (3, .ref w3), (4, .int v4), (5, .int w5), (6, .int v6)]) (st1 := [.int (a24 w3 ((v4 + 1).toNatClampNeg))]) (H1 := H20) (k1 := 0) (n1 := 0) (by with_unfolding_all rfl)) ?_
          refine ex_s (st_lsw rfl) ?_
          by_cases c27 : (a24 w3 ((v4 + 1).toNatClampNeg)) = 39
          · have e := (if_pos c27).symm.trans e
            refine ex_pc (pc1 := 314) (by rw [c27]; with_unfolding_all rfl) ?_
            refine ex_s (am_nb (m := 5) (pc1 := 320) (ls1 := [(9, .int (a24 w3 ((v4 + 1).toNatClampNeg))), (8, .int (v4 + (xmax 1 r23))), (7, .int r23), (0, .ref 93), (3, .ref w3), (4, .int v4), (5, .int w5), (6, .int v6)]) (st1 := [.int (v4 + 2), .ref w3, .ref 93]) (H1 := H20) (k1 := 0) (n1 := 0) (by with_unfolding_all rfl)) ?_
            obtain ⟨g28, e⟩ := xg_some e
            refine xe_iald s21 rfl kw3 g28 ?_
            obtain ⟨a32, e31, e⟩ := xb1_some e
            refine ex_cv0 (as := [.int (a24 w3 ((v4 + 2).toNatClampNeg))]) (rest := []) rfl rfl rfl rfl (s21.obj rfl (by decide)) rfl (by with_unfolding_all rfl) (by with_unfolding_all rfl) (tf88_push s21 e31) (fun H29 s30 => ?_)
            refine ex_s (am_nb (m := 1) (pc1 := 333) (ls1 := [(9, .int (a24 w3 ((v4 + 1).toNatClampNeg))), (8, .int (v4 + (xmax 1 r23))), (7, .int r23), (0, .ref 93), (3, .ref w3), (4, .int v4), (5, .int w5), (6, .int v6)]) (st1 := []) (H1 := H29) (k1 := 0) (n1 := 0) (by with_unfolding_all rfl)) ?_
            exact le_E (l1 := [(0, .ref 93), (3, .ref w3), (5, .int w5), (6, .int v6), (8, .int (v4 + (xmax 1 r23)))]) ⟨rfl, rfl, rfl, rfl, rfl, trivial⟩ rfl (tj82_333 k0 ih kw3 s30 e)
          · have e := (if_neg c27).symm.trans e
            by_cases c33 : (a24 w3 ((v4 + 1).toNatClampNeg)) = 48
            · have e := (if_pos c33).symm.trans e
              refine ex_pc (pc1 := 252) (by rw [c33]; with_unfolding_all rfl) ?_
              refine ex_s (am_nb (m := 2) (pc1 := 254) (ls1 := [(9, .int (a24 w3 ((v4 + 1).toNatClampNeg))), (8, .int (v4 + (xmax 1 r23))), (7, .int r23), (0, .ref 93), (3, .ref w3), (4, .int v4), (5, .int w5), (6, .int v6)]) (st1 := [.ref 93, .ref 93]) (H1 := H20) (k1 := 0) (n1 := 0) (by with_unfolding_all rfl)) ?_
              obtain ⟨r37, a38, e36, e⟩ := xb2_some e
              refine ex_cv1 (as := []) (rest := [.ref 93]) rfl rfl rfl rfl (s21.obj rfl (by decide)) rfl (by with_unfolding_all rfl) (by with_unfolding_all rfl) (tf84_pop s21 e36) (fun H34 s35 => ?_)
              refine ex_s (am_nb (m := 4) (pc1 := 262) (ls1 := [(9, .int (a24 w3 ((v4 + 1).toNatClampNeg))), (8, .int (v4 + (xmax 1 r23))), (7, .int r23), (0, .ref 93), (3, .ref w3), (4, .int v4), (5, .int w5), (6, .int v6)]) (st1 := [.int (v4 + 2), .ref w3, .int r37, .ref 93]) (H1 := H34) (k1 := 0) (n1 := 0) (by with_unfolding_all rfl)) ?_
              obtain ⟨g39, e⟩ := xg_some e
              refine xe_iald s35 rfl kw3 g39 ?_
              refine ex_s (am_nb (m := 3) (pc1 := 268) (ls1 := [(9, .int (a24 w3 ((v4 + 1).toNatClampNeg))), (8, .int (v4 + (xmax 1 r23))), (7, .int r23), (0, .ref 93), (3, .ref w3), (4, .int v4), (5, .int w5), (6, .int v6)]) (st1 := [.int 48, .int ((a38 w3 ((v4 + 2).toNatClampNeg)) - 48), .int r37, .ref 93]) (H1 := H34) (k1 := 0) (n1 := 0) (by with_unfolding_all rfl)) ?_
              obtain ⟨a43, e42, e⟩ := xb1_some e
              refine ex_cv0 (as := [.int r37, .int ((a38 w3 ((v4 + 2).toNatClampNeg)) - 48), .int 48]) (rest := []) rfl rfl rfl rfl (s35.obj rfl (by decide)) rfl (by with_unfolding_all rfl) (by with_unfolding_all rfl) (tf86_makeDecimal s35 e42) (fun H40 s41 => ?_)
              refine ex_s (am_nb (m := 1) (pc1 := 333) (ls1 := [(9, .int (a24 w3 ((v4 + 1).toNatClampNeg))), (8, .int (v4 + (xmax 1 r23))), (7, .int r23), (0, .ref 93), (3, .ref w3), (4, .int v4), (5, .int w5), (6, .int v6)]) (st1 := []) (H1 := H40) (k1 := 0) (n1 := 0) (by with_unfolding_all rfl)) ?_
              exact le_E (l1 := [(0, .ref 93), (3, .ref w3), (5, .int w5), (6, .int v6), (8, .int (v4 + (xmax 1 r23)))]) ⟨rfl, rfl, rfl, rfl, rfl, trivial⟩ rfl (tj82_333 k0 ih kw3 s41 e)
            · have e := (if_neg c33).symm.trans e
              by_cases c44 : (a24 w3 ((v4 + 1).toNatClampNeg)) = 50 ∨ (a24 w3 ((v4 + 1).toNatClampNeg)) = 51
              · have e := (if_pos c44).symm.trans e
                refine ex_pc (pc1 := 234) (by rcases c44 with c44 | c44 <;> (rw [c44]; with_unfolding_all rfl)) ?_
                refine ex_s (am_nb (m := 2) (pc1 := 236) (ls1 := [(9, .int (a24 w3 ((v4 + 1).toNatClampNeg))), (8, .int (v4 + (xmax 1 r23))), (7, .int r23), (0, .ref 93), (3, .ref w3), (4, .int v4), (5, .int w5), (6, .int v6)]) (st1 := [.ref 93, .ref 93]) (H1 := H20) (k1 := 0) (n1 := 0) (by with_unfolding_all rfl)) ?_
                obtain ⟨r48, a49, e47, e⟩ := xb2_some e
                refine ex_cv1 (as := []) (rest := [.ref 93]) rfl rfl rfl rfl (s21.obj rfl (by decide)) rfl (by with_unfolding_all rfl) (by with_unfolding_all rfl) (tf84_pop s21 e47) (fun H45 s46 => ?_)
                refine ex_s (am_nb (m := 4) (pc1 := 246) (ls1 := [(9, .int (a24 w3 ((v4 + 1).toNatClampNeg))), (8, .int (v4 + (xmax 1 r23))), (7, .int r23), (0, .ref 93), (3, .ref w3), (4, .int v4), (5, .int w5), (6, .int v6)]) (st1 := [.int 32, .int ((a24 w3 ((v4 + 1).toNatClampNeg)) - 48), .int r48, .ref 93]) (H1 := H45) (k1 := 0) (n1 := 0) (by with_unfolding_all rfl)) ?_
                obtain ⟨a53, e52, e⟩ := xb1_some e
                refine ex_cv0 (as := [.int r48, .int ((a24 w3 ((v4 + 1).toNatClampNeg)) - 48), .int 32]) (rest := []) rfl rfl rfl rfl (s46.obj rfl (by decide)) rfl (by with_unfolding_all rfl) (by with_unfolding_all rfl) (tf86_makeDecimal s46 e52) (fun H50 s51 => ?_)
                refine ex_s (am_nb (m := 1) (pc1 := 333) (ls1 := [(9, .int (a24 w3 ((v4 + 1).toNatClampNeg))), (8, .int (v4 + (xmax 1 r23))), (7, .int r23), (0, .ref 93), (3, .ref w3), (4, .int v4), (5, .int w5), (6, .int v6)]) (st1 := []) (H1 := H50) (k1 := 0) (n1 := 0) (by with_unfolding_all rfl)) ?_
                exact le_E (l1 := [(0, .ref 93), (3, .ref w3), (5, .int w5), (6, .int v6), (8, .int (v4 + (xmax 1 r23)))]) ⟨rfl, rfl, rfl, rfl, rfl, trivial⟩ rfl (tj82_333 k0 ih kw3 s51 e)
              · have e := (if_neg c44).symm.trans e
                by_cases c54 : (a24 w3 ((v4 + 1).toNatClampNeg)) = 100
                · have e := (if_pos c54).symm.trans e
                  refine ex_pc (pc1 := 220) (by rw [c54]; with_unfolding_all rfl) ?_
                  refine ex_s (am_nb (m := 2) (pc1 := 222) (ls1 := [(9, .int (a24 w3 ((v4 + 1).toNatClampNeg))), (8, .int (v4 + (xmax 1 r23))), (7, .int r23), (0, .ref 93), (3, .ref w3), (4, .int v4), (5, .int w5), (6, .int v6)]) (st1 := [.ref 93, .ref 93]) (H1 := H20) (k1 := 0) (n1 := 0) (by with_unfolding_all rfl)) ?_
                  obtain ⟨r58, a59, e57, e⟩ := xb2_some e
                  refine ex_cv1 (as := []) (rest := [.ref 93]) rfl rfl rfl rfl (s21.obj rfl (by decide)) rfl (by with_unfolding_all rfl) (by with_unfolding_all rfl) (tf84_pop s21 e57) (fun H55 s56 => ?_)
                  refine ex_s (am_nb (m := 2) (pc1 := 228) (ls1 := [(9, .int (a24 w3 ((v4 + 1).toNatClampNeg))), (8, .int (v4 + (xmax 1 r23))), (7, .int r23), (0, .ref 93), (3, .ref w3), (4, .int v4), (5, .int w5), (6, .int v6)]) (st1 := [.int 32, .int 0, .int r58, .ref 93]) (H1 := H55) (k1 := 0) (n1 := 0) (by with_unfolding_all rfl)) ?_
                  obtain ⟨a63, e62, e⟩ := xb1_some e
                  refine ex_cv0 (as := [.int r58, .int 0, .int 32]) (rest := []) rfl rfl rfl rfl (s56.obj rfl (by decide)) rfl (by with_unfolding_all rfl) (by with_unfolding_all rfl) (tf86_makeDecimal s56 e62) (fun H60 s61 => ?_)
                  refine ex_s (am_nb (m := 1) (pc1 := 333) (ls1 := [(9, .int (a24 w3 ((v4 + 1).toNatClampNeg))), (8, .int (v4 + (xmax 1 r23))), (7, .int r23), (0, .ref 93), (3, .ref w3), (4, .int v4), (5, .int w5), (6, .int v6)]) (st1 := []) (H1 := H60) (k1 := 0) (n1 := 0) (by with_unfolding_all rfl)) ?_
                  exact le_E (l1 := [(0, .ref 93), (3, .ref w3), (5, .int w5), (6, .int v6), (8, .int (v4 + (xmax 1 r23)))]) ⟨rfl, rfl, rfl, rfl, rfl, trivial⟩ rfl (tj82_333 k0 ih kw3 s61 e)
                · have e := (if_neg c54).symm.trans e
                  by_cases c64 : (a24 w3 ((v4 + 1).toNatClampNeg)) = 101
                  · have e := (if_pos c64).symm.trans e
                    refine ex_pc (pc1 := 206) (by rw [c64]; with_unfolding_all rfl) ?_
                    refine ex_s (am_nb (m := 4) (pc1 := 212) (ls1 := [(9, .int (a24 w3 ((v4 + 1).toNatClampNeg))), (8, .int (v4 + (xmax 1 r23))), (7, .int r23), (0, .ref 93), (3, .ref w3), (4, .int v4), (5, .int w5), (6, .int v6)]) (st1 := [.int 0, .int w5, .int (v4 + (xmax 1 r23)), .ref w3]) (H1 := H20) (k1 := 0) (n1 := 0) (by with_unfolding_all rfl)) ?_
                    obtain ⟨r68, a69, e67, e⟩ := xb2_some e
                    refine ex_cs1 (as := [.ref w3, .int (v4 + (xmax 1 r23)), .int w5, .int 0]) (rest := []) rfl (by decide) rfl rfl (by with_unfolding_all rfl) (by with_unfolding_all rfl) (tf85_skip s21 e67) (fun H65 s66 => ?_)
                    refine ex_s (am_nb (m := 2) (pc1 := 333) (ls1 := [(8, .int r68), (9, .int (a24 w3 ((v4 + 1).toNatClampNeg))), (7, .int r23), (0, .ref 93), (3, .ref w3), (4, .int v4), (5, .int w5), (6, .int v6)]) (st1 := []) (H1 := H65) (k1 := 0) (n1 := 0) (by with_unfolding_all rfl)) ?_
                    exact le_E (l1 := [(0, .ref 93), (3, .ref w3), (5, .int w5), (6, .int v6), (8, .int r68)]) ⟨rfl, rfl, rfl, rfl, rfl, trivial⟩ rfl (tj82_333 k0 ih kw3 s66 e)
                  · have e := (if_neg c64).symm.trans e
                    by_cases c70 : (a24 w3 ((v4 + 1).toNatClampNeg)) = 112
                    · have e := (if_pos c70).symm.trans e
                      refine ex_pc (pc1 := 291) (by rw [c70]; with_unfolding_all rfl) ?_
                      refine ex_s (am_nb (m := 2) (pc1 := 293) (ls1 := [(9, .int (a24 w3 ((v4 + 1).toNatClampNeg))), (8, .int (v4 + (xmax 1 r23))), (7, .int r23), (0, .ref 93), (3, .ref w3), (4, .int v4), (5, .int w5), (6, .int v6)]) (st1 := [.ref 93, .ref 93]) (H1 := H20) (k1 := 0) (n1 := 0) (by with_unfolding_all rfl)) ?_
                      refine xe_get (v := .ref 95) s21 rfl rfl (by decide) rfl ?_
                      refine ex_s (am_nb (m := 4) (pc1 := 301) (ls1 := [(9, .int (a24 w3 ((v4 + 1).toNatClampNeg))), (8, .int (v4 + (xmax 1 r23))), (7, .int r23), (0, .ref 93), (3, .ref w3), (4, .int v4), (5, .int w5), (6, .int v6)]) (st1 := [.int (v4 + 2), .ref w3, .ref 95, .ref 93]) (H1 := H20) (k1 := 0) (n1 := 0) (by with_unfolding_all rfl)) ?_
                      obtain ⟨g71, e⟩ := xg_some e
                      refine xe_iald s21 rfl kw3 g71 ?_
                      refine ex_s (am_nb (m := 4) (pc1 := 307) (ls1 := [(9, .int (a24 w3 ((v4 + 1).toNatClampNeg))), (8, .int (v4 + (xmax 1 r23))), (7, .int r23), (0, .ref 93), (3, .ref w3), (4, .int v4), (5, .int w5), (6, .int v6)]) (st1 := [.int (((a24 w3 ((v4 + 2).toNatClampNeg)) - 49) &&& 3), .ref 95, .ref 93]) (H1 := H20) (k1 := 0) (n1 := 0) (by with_unfolding_all rfl)) ?_
                      obtain ⟨g72, e⟩ := xg_some e
                      refine xe_iald s21 rfl rfl g72 ?_
                      obtain ⟨a76, e75, e⟩ := xb1_some e
                      refine ex_cv0 (as := [.int (a24 95 ((((a24 w3 ((v4 + 2).toNatClampNeg)) - 49) &&& 3).toNatClampNeg))]) (rest := []) rfl rfl rfl rfl (s21.obj rfl (by decide)) rfl (by with_unfolding_all rfl) (by with_unfolding_all rfl) (tf88_push s21 e75) (fun H73 s74 => ?_)
                      refine ex_s (am_nb (m := 1) (pc1 := 333) (ls1 := [(9, .int (a24 w3 ((v4 + 1).toNatClampNeg))), (8, .int (v4 + (xmax 1 r23))), (7, .int r23), (0, .ref 93), (3, .ref w3), (4, .int v4), (5, .int w5), (6, .int v6)]) (st1 := []) (H1 := H73) (k1 := 0) (n1 := 0) (by with_unfolding_all rfl)) ?_
                      exact le_E (l1 := [(0, .ref 93), (3, .ref w3), (5, .int w5), (6, .int v6), (8, .int (v4 + (xmax 1 r23)))]) ⟨rfl, rfl, rfl, rfl, rfl, trivial⟩ rfl (tj82_333 k0 ih kw3 s74 e)
                    · have e := (if_neg c70).symm.trans e
                      by_cases c77 : (a24 w3 ((v4 + 1).toNatClampNeg)) = 116
                      · have e := (if_pos c77).symm.trans e
                        refine ex_pc (pc1 := 180) (by rw [c77]; with_unfolding_all rfl) ?_
                        refine ex_s (am_nb (m := 1) (pc1 := 181) (ls1 := [(9, .int (a24 w3 ((v4 + 1).toNatClampNeg))), (8, .int (v4 + (xmax 1 r23))), (7, .int r23), (0, .ref 93), (3, .ref w3), (4, .int v4), (5, .int w5), (6, .int v6)]) (st1 := [.ref 93]) (H1 := H20) (k1 := 0) (n1 := 0) (by with_unfolding_all rfl)) ?_
                        obtain ⟨r81, a82, e80, e⟩ := xb2_some e
                        refine ex_cv1 (as := []) (rest := []) rfl rfl rfl rfl (s21.obj rfl (by decide)) rfl (by with_unfolding_all rfl) (by with_unfolding_all rfl) (tf84_pop s21 e80) (fun H78 s79 => ?_)
                        refine ex_s (st_if rfl) ?_
                        by_cases c84 : r81 = 0
                        · have e := (if_pos c84).symm.trans e
                          refine ex_pc (if_pos c84) ?_
                          refine ex_s (am_nb (m := 4) (pc1 := 193) (ls1 := [(9, .int (a24 w3 ((v4 + 1).toNatClampNeg))), (8, .int (v4 + (xmax 1 r23))), (7, .int r23), (0, .ref 93), (3, .ref w3), (4, .int v4), (5, .int w5), (6, .int v6)]) (st1 := [.int 1, .int w5, .int (v4 + (xmax 1 r23)), .ref w3]) (H1 := H78) (k1 := 0) (n1 := 0) (by with_unfolding_all rfl)) ?_
                          obtain ⟨r88, a89, e87, e⟩ := xb2_some e
                          refine ex_cs1 (as := [.ref w3, .int (v4 + (xmax 1 r23)), .int w5, .int 1]) (rest := []) rfl (by decide) rfl rfl (by with_unfolding_all rfl) (by with_unfolding_all rfl) (tf85_skip s79 e87) (fun H85 s86 => ?_)
                          refine ex_s (am_nb (m := 1) (pc1 := 201) (ls1 := [(9, .int (a24 w3 ((v4 + 1).toNatClampNeg))), (8, .int (v4 + (xmax 1 r23))), (7, .int r23), (0, .ref 93), (3, .ref w3), (4, .int v4), (5, .int w5), (6, .int v6)]) (st1 := [.int r88]) (H1 := H85) (k1 := 0) (n1 := 0) (by with_unfolding_all rfl)) ?_
                          exact le_E (l1 := [(0, .ref 93), (3, .ref w3), (5, .int w5), (6, .int v6)]) ⟨rfl, rfl, rfl, rfl, trivial⟩ rfl (tj82_201 k0 ih kw3 s86 e)
                        · have e := (if_neg c84).symm.trans e
                          refine ex_pc (if_neg c84) ?_
                          refine ex_s (am_nb (m := 1) (pc1 := 201) (ls1 := [(9, .int (a24 w3 ((v4 + 1).toNatClampNeg))), (8, .int (v4 + (xmax 1 r23))), (7, .int r23), (0, .ref 93), (3, .ref w3), (4, .int v4), (5, .int w5), (6, .int v6)]) (st1 := [.int (v4 + (xmax 1 r23))]) (H1 := H78) (k1 := 0) (n1 := 0) (by with_unfolding_all rfl)) ?_
                          exact le_E (l1 := [(0, .ref 93), (3, .ref w3), (5, .int w5), (6, .int v6)]) ⟨rfl, rfl, rfl, rfl, trivial⟩ rfl (tj82_201 k0 ih kw3 s79 e)
                      · have e := (if_neg c77).symm.trans e
                        by_cases c90 : (a24 w3 ((v4 + 1).toNatClampNeg)) = 123
                        · have e := (if_pos c90).symm.trans e
                          refine ex_pc (pc1 := 274) (by rw [c90]; with_unfolding_all rfl) ?_
                          refine ex_s (am_nb (m := 6) (pc1 := 282) (ls1 := [(9, .int (a24 w3 ((v4 + 1).toNatClampNeg))), (8, .int (v4 + (xmax 1 r23))), (7, .int r23), (0, .ref 93), (3, .ref w3), (4, .int v4), (5, .int w5), (6, .int v6)]) (st1 := [.int w5, .int (v4 + 2), .ref w3, .ref 93]) (H1 := H20) (k1 := 0) (n1 := 0) (by with_unfolding_all rfl)) ?_
                          obtain ⟨r94, a95, e93, e⟩ := xb2_some e
                          refine ex_cs1 (as := [.ref w3, .int (v4 + 2), .int w5]) (rest := [.ref 93]) rfl (by decide) rfl rfl (by with_unfolding_all rfl) (by with_unfolding_all rfl) (tf87_numberAt s21 e93) (fun H91 s92 => ?_)
                          obtain ⟨a99, e98, e⟩ := xb1_some e
                          refine ex_cv0 (as := [.int r94]) (rest := []) rfl rfl rfl rfl (s92.obj rfl (by decide)) rfl (by with_unfolding_all rfl) (by with_unfolding_all rfl) (tf88_push s92 e98) (fun H96 s97 => ?_)
                          refine ex_s (am_nb (m := 1) (pc1 := 333) (ls1 := [(9, .int (a24 w3 ((v4 + 1).toNatClampNeg))), (8, .int (v4 + (xmax 1 r23))), (7, .int r23), (0, .ref 93), (3, .ref w3), (4, .int v4), (5, .int w5), (6, .int v6)]) (st1 := []) (H1 := H96) (k1 := 0) (n1 := 0) (by with_unfolding_all rfl)) ?_
                          exact le_E (l1 := [(0, .ref 93), (3, .ref w3), (5, .int w5), (6, .int v6), (8, .int (v4 + (xmax 1 r23)))]) ⟨rfl, rfl, rfl, rfl, rfl, trivial⟩ rfl (tj82_333 k0 ih kw3 s97 e)
                        · have e := (if_neg c90).symm.trans e
                          refine ex_pc (pc1 := 327) (am_sw_n (sw_c (Or.inl c27) (sw_c (Or.inl c33) (sw_c (Or.inl (fun q => c44 (Or.inl q))) (sw_c (Or.inl (fun q => c44 (Or.inr q))) (sw_c (Or.inl c54) (sw_c (Or.inl c64) (sw_c (Or.inl c70) (sw_c (Or.inl c77) (sw_c (Or.inl c90) sw_o)))))))))) ?_
                          refine ex_s (am_nb (m := 2) (pc1 := 330) (ls1 := [(9, .int (a24 w3 ((v4 + 1).toNatClampNeg))), (8, .int (v4 + (xmax 1 r23))), (7, .int r23), (0, .ref 93), (3, .ref w3), (4, .int v4), (5, .int w5), (6, .int v6)]) (st1 := [.int (a24 w3 ((v4 + 1).toNatClampNeg)), .ref 93]) (H1 := H20) (k1 := 0) (n1 := 0) (by with_unfolding_all rfl)) ?_
                          obtain ⟨a103, e102, e⟩ := xb1_some e
                          refine ex_cv0 (as := [.int (a24 w3 ((v4 + 1).toNatClampNeg))]) (rest := []) rfl rfl rfl rfl (s21.obj rfl (by decide)) rfl (by with_unfolding_all rfl) (by with_unfolding_all rfl) (tf89_operate s21 e102) (fun H100 s101 => ?_)
                          exact le_E (l1 := [(0, .ref 93), (3, .ref w3), (5, .int w5), (6, .int v6), (8, .int (v4 + (xmax 1 r23)))]) ⟨rfl, rfl, rfl, rfl, rfl, trivial⟩ rfl (tj82_333 k0 ih kw3 s101 e)
        · have e := (if_neg c25).symm.trans e
          refine ex_pc (if_neg c25) ?_
          refine ex_s (am_nb (m := 3) (pc1 := 79) (ls1 := [(8, .int (v4 + (xmax 1 r23))), (7, .int r23), (0, .ref 93), (3, .ref w3), (4, .int v4), (5, .int w5), (6, .int v6)]) (st1 := [.int v4, .ref w3, .ref 93]) (H1 := H20) (k1 := 0) (n1 := 0) (by with_unfolding_all rfl)) ?_
          obtain ⟨g104, e⟩ := xg_some e
          refine xe_iald s21 rfl kw3 g104 ?_
          obtain ⟨a108, e107, e⟩ := xb1_some e
          refine ex_cv0 (as := [.int (a24 w3 (v4.toNatClampNeg))]) (rest := []) rfl rfl rfl rfl (s21.obj rfl (by decide)) rfl (by with_unfolding_all rfl) (by with_unfolding_all rfl) (tf83_make s21 e107) (fun H105 s106 => ?_)
          refine ex_s (am_nb (m := 1) (pc1 := 333) (ls1 := [(8, .int (v4 + (xmax 1 r23))), (7, .int r23), (0, .ref 93), (3, .ref w3), (4, .int v4), (5, .int w5), (6, .int v6)]) (st1 := []) (H1 := H105) (k1 := 0) (n1 := 0) (by with_unfolding_all rfl)) ?_
          exact le_E (l1 := [(0, .ref 93), (3, .ref w3), (5, .int w5), (6, .int v6), (8, .int (v4 + (xmax 1 r23)))]) ⟨rfl, rfl, rfl, rfl, rfl, trivial⟩ rfl (tj82_333 k0 ih kw3 s106 e)

set_option maxRecDepth 100000 in
theorem tf82_putTogether {sL : Nat} {sx : Nat → Int32} {h b N : Nat} {T : List am_C} {r : Int32} {a' : xA} {x0 : Nat} {x1 : Int32} {a : xA} {H : am_H} (hS : xS h b T a H) (e : f82_putTogether N h b x0 x1 a = some (r, a')) : am_E sL sx am_cs 82 0 [(0, .ref 93), (1, .ref x0), (2, .int x1)] [] H (some (.int r)) (fun H1 => xS h b T a' H1) := by
  unfold f82_putTogether at e
  obtain ⟨g1, e⟩ := xg_some e
  refine ex_s (am_nb (m := 1) (pc1 := 1) (ls1 := [(0, .ref 93), (1, .ref x0), (2, .int x1)]) (st1 := [.ref x0]) (H1 := H) (k1 := 0) (n1 := 0) (by with_unfolding_all rfl)) ?_
  refine xe_get (v := .ref (x0 + 5)) hS rfl g1 (by decide) rfl ?_
  refine ex_s (am_nb (m := 2) (pc1 := 6) (ls1 := [(3, .ref (x0 + 5)), (0, .ref 93), (1, .ref x0), (2, .int x1)]) (st1 := [.int x1]) (H1 := H) (k1 := 0) (n1 := 0) (by with_unfolding_all rfl)) ?_
  obtain ⟨r5, a6, e4, e⟩ := xb2_some e
  refine ex_cs1 (as := [.int x1]) (rest := []) rfl (by decide) rfl rfl (by with_unfolding_all rfl) (by with_unfolding_all rfl) (tf60_startOf hS e4) (fun H2 s3 => ?_)
  refine ex_s (am_nb (m := 4) (pc1 := 15) (ls1 := [(4, .int r5), (3, .ref (x0 + 5)), (0, .ref 93), (1, .ref x0), (2, .int x1)]) (st1 := [.int x1, .ref x0, .int r5]) (H1 := H2) (k1 := 0) (n1 := 0) (by with_unfolding_all rfl)) ?_
  obtain ⟨r10, a11, e9, e⟩ := xb2_some e
  refine ex_cv1 (as := [.int x1]) (rest := [.int r5]) rfl rfl rfl rfl (s3.obj g1 (by decide)) rfl (by with_unfolding_all rfl) (by with_unfolding_all rfl) (tf65_lengthOf s3 e9) (fun H7 s8 => ?_)
  refine ex_s (am_nb (m := 4) (pc1 := 23) (ls1 := [(5, .int (r5 + r10)), (4, .int r5), (3, .ref (x0 + 5)), (0, .ref 93), (1, .ref x0), (2, .int x1)]) (st1 := [.int 0, .ref 93]) (H1 := H7) (k1 := 0) (n1 := 0) (by with_unfolding_all rfl)) ?_
  obtain ⟨a12, ha12, e⟩ := xw_some e
  refine xe_put (w := 0) s8 rfl rfl (by decide) rfl rfl rfl rfl (fun H13 s14 => ?_)
  have s14 : xS h b T a12 H13 := by rw [ha12]; exact s14
  refine ex_s (am_nb (m := 2) (pc1 := 28) (ls1 := [(5, .int (r5 + r10)), (4, .int r5), (3, .ref (x0 + 5)), (0, .ref 93), (1, .ref x0), (2, .int x1)]) (st1 := [.int 0, .ref 93]) (H1 := H13) (k1 := 0) (n1 := 0) (by with_unfolding_all rfl)) ?_
  obtain ⟨a15, ha15, e⟩ := xw_some e
  refine xe_put (w := 0) s14 rfl rfl (by decide) rfl rfl rfl rfl (fun H16 s17 => ?_)
  have s17 : xS h b T a15 H16 := by rw [ha15]; exact s17
  refine ex_s (am_nb (m := 2) (pc1 := 34) (ls1 := [(6, .int 0), (5, .int (r5 + r10)), (4, .int r5), (3, .ref (x0 + 5)), (0, .ref 93), (1, .ref x0), (2, .int x1)]) (st1 := []) (H1 := H16) (k1 := 0) (n1 := 0) (by with_unfolding_all rfl)) ?_
  obtain ⟨z109, e110, e⟩ := Option.bind_eq_some_iff.mp e
  refine le_E (l1 := [(0, .ref 93), (3, .ref (x0 + 5)), (4, .int r5), (5, .int (r5 + r10)), (6, .int 0)]) ⟨rfl, rfl, rfl, rfl, rfl, trivial⟩ rfl (tl82_34 (z := z109) (xd_2_5 g1) (fun uz109_0 Hz1090 sz1090 => ?_) N r5 0 a15 H16 s17 e110)
  refine ex_s (am_nb (m := 1) (pc1 := 344) (ls1 := [(0, .ref 93)]) (st1 := [.ref 93]) (H1 := Hz1090) (k1 := 0) (n1 := 0) (by with_unfolding_all rfl)) ?_
  refine xe_get (v := .int (z109.2 93 4)) sz1090 rfl rfl (by decide) rfl ?_
  cases e
  exact ex_r (st_iret rfl rfl rfl) sz1090

set_option maxRecDepth 100000 in
theorem tf80_measured {sL : Nat} {sx : Nat → Int32} {h b N : Nat} {T : List am_C} {r : Int32} {a' : xA} {x0 : Int32} {x1 : Int32} {a : xA} {H : am_H} (hS : xS h b T a H) (e : f80_measured N h b x0 x1 a = some (r, a')) : am_E sL sx am_cs 80 0 [(0, .ref 97), (1, .int x0), (2, .int x1)] [] H (some (.int r)) (fun H1 => xS h b T a' H1) := by
  unfold f80_measured at e
  refine ex_s (am_nb (m := 1) (pc1 := 1) (ls1 := [(0, .ref 97), (1, .int x0), (2, .int x1)]) (st1 := [.ref 97]) (H1 := H) (k1 := 0) (n1 := 0) (by with_unfolding_all rfl)) ?_
  refine xe_get (v := xN (a 97 6)) hS rfl rfl (by decide) rfl ?_
  refine ex_s (am_nb (m := 1) (pc1 := 5) (ls1 := [(0, .ref 97), (1, .int x0), (2, .int x1)]) (st1 := [.int x0, xN (a 97 6)]) (H1 := H) (k1 := 0) (n1 := 0) (by first | with_unfolding_all rfl | (unfold xN; (repeat' split) <;> with_unfolding_all rfl))) ?_
  obtain ⟨g1, e⟩ := xg_some e
  rw [show xN (a 97 6) = .ref ((a 97 6).toNatClampNeg) from if_neg g1]
  obtain ⟨g2, e⟩ := xg_some e
  obtain ⟨r6, a7, e5, e⟩ := xb2_some e
  refine ex_cv1 (as := [.int x0]) (rest := []) rfl rfl rfl rfl (hS.obj g2 (by decide)) rfl (by with_unfolding_all rfl) (by with_unfolding_all rfl) (tf74_has hS e5) (fun H3 s4 => ?_)
  refine ex_s (st_if rfl) ?_
  by_cases c8 : r6 = 0
  · have e := (if_pos c8).symm.trans e
    refine ex_pc (if_pos c8) ?_
    refine ex_s (am_nb (m := 1) (pc1 := 13) (ls1 := [(0, .ref 97), (1, .int x0), (2, .int x1)]) (st1 := [.int 1000000]) (H1 := H3) (k1 := 0) (n1 := 0) (by with_unfolding_all rfl)) ?_
    cases e
    exact ex_r (st_iret rfl rfl rfl) s4
  · have e := (if_neg c8).symm.trans e
    refine ex_pc (if_neg c8) ?_
    refine ex_s (am_nb (m := 1) (pc1 := 15) (ls1 := [(0, .ref 97), (1, .int x0), (2, .int x1)]) (st1 := [.ref 97]) (H1 := H3) (k1 := 0) (n1 := 0) (by with_unfolding_all rfl)) ?_
    refine xe_get (v := xN (a7 97 7)) s4 rfl rfl (by decide) rfl ?_
    refine ex_s (am_nb (m := 4) (pc1 := 22) (ls1 := [(0, .ref 97), (1, .int x0), (2, .int x1)]) (st1 := [.int 0, .int 0, .int 0, .int x1, xN (a7 97 7)]) (H1 := H3) (k1 := 0) (n1 := 0) (by first | with_unfolding_all rfl | (unfold xN; (repeat' split) <;> with_unfolding_all rfl))) ?_
    obtain ⟨g9, e⟩ := xg_some e
    rw [show xN (a7 97 7) = .ref 93 by rw [g9]; rfl]
    obtain ⟨a13, e12, e⟩ := xb1_some e
    refine ex_cv0 (as := [.int x1, .int 0, .int 0, .int 0]) (rest := []) rfl rfl rfl rfl (s4.obj rfl (by decide)) rfl (by with_unfolding_all rfl) (by with_unfolding_all rfl) (tf81_setParameters s4 e12) (fun H10 s11 => ?_)
    refine ex_s (am_nb (m := 1) (pc1 := 26) (ls1 := [(0, .ref 97), (1, .int x0), (2, .int x1)]) (st1 := [.ref 97]) (H1 := H10) (k1 := 0) (n1 := 0) (by with_unfolding_all rfl)) ?_
    refine xe_get (v := xN (a13 97 7)) s11 rfl rfl (by decide) rfl ?_
    refine ex_s (am_nb (m := 1) (pc1 := 30) (ls1 := [(0, .ref 97), (1, .int x0), (2, .int x1)]) (st1 := [.ref 97, xN (a13 97 7)]) (H1 := H10) (k1 := 0) (n1 := 0) (by first | with_unfolding_all rfl | (unfold xN; (repeat' split) <;> with_unfolding_all rfl))) ?_
    refine xe_get (v := xN (a13 97 6)) s11 rfl rfl (by decide) rfl ?_
    refine ex_s (am_nb (m := 1) (pc1 := 34) (ls1 := [(0, .ref 97), (1, .int x0), (2, .int x1)]) (st1 := [.int x0, xN (a13 97 6), xN (a13 97 7)]) (H1 := H10) (k1 := 0) (n1 := 0) (by first | with_unfolding_all rfl | (unfold xN; (repeat' split) <;> with_unfolding_all rfl))) ?_
    obtain ⟨g14, e⟩ := xg_some e
    rw [show xN (a13 97 6) = .ref ((a13 97 6).toNatClampNeg) from if_neg g14]
    obtain ⟨g15, e⟩ := xg_some e
    rw [show xN (a13 97 7) = .ref 93 by rw [g15]; rfl]
    obtain ⟨r19, a20, e18, e⟩ := xb2_some e
    refine ex_cv1 (as := [.ref ((a13 97 6).toNatClampNeg), .int x0]) (rest := []) rfl rfl rfl rfl (s11.obj rfl (by decide)) rfl (by with_unfolding_all rfl) (by with_unfolding_all rfl) (tf82_putTogether s11 e18) (fun H16 s17 => ?_)
    cases e
    exact ex_r (st_iret rfl rfl rfl) s17

set_option maxRecDepth 100000 in
theorem tl79_3 {sL : Nat} {sx : Nat → Int32} {h b N : Nat} {T : List am_C} {R : Option Value} {F : am_H → Prop} {z : Nat × xA} (k0 : z.1 = 0 → ∀ H2 : am_H, xS h b T z.2 H2 → am_E sL sx am_cs 79 27 [(0, .ref 97)] [] H2 R F) : ∀ (n : Nat) (v1 : Int32) (a : xA) (H : am_H), xS h b T a H → l79_3 N h b n v1 a = some z → am_E sL sx am_cs 79 3 [(0, .ref 97), (1, .int v1)] [] H R F := by
  intro n
  induction n with
  | zero =>
    intro v1 a H hS e
    cases e
  | succ n ih =>
    intro v1 a H hS e
    unfold l79_3 at e
    refine ex_s (am_nb (m := 2) (pc1 := 6) (ls1 := [(0, .ref 97), (1, .int v1)]) (st1 := [.int 39, .int v1]) (H1 := H) (k1 := 0) (n1 := 0) (by with_unfolding_all rfl)) ?_
    refine ex_s (st_icmp rfl) ?_
    by_cases c1 : 39 ≤ v1
    · have e := (if_pos c1).symm.trans e
      refine ex_pc (if_pos c1) ?_
      cases e
      exact le_E (l1 := [(0, .ref 97)]) ⟨rfl, trivial⟩ rfl (k0 rfl H hS)
    · have e := (if_neg c1).symm.trans e
      refine ex_pc (if_neg c1) ?_
      refine ex_s (am_nb (m := 1) (pc1 := 10) (ls1 := [(0, .ref 97), (1, .int v1)]) (st1 := [.ref 97]) (H1 := H) (k1 := 0) (n1 := 0) (by with_unfolding_all rfl)) ?_
      refine xe_get (v := .ref 106) hS rfl rfl (by decide) rfl ?_
      refine ex_s (am_nb (m := 4) (pc1 := 17) (ls1 := [(0, .ref 97), (1, .int v1)]) (st1 := [.int 0, .int v1, .ref 97, .int v1, .ref 106]) (H1 := H) (k1 := 0) (n1 := 0) (by with_unfolding_all rfl)) ?_
      obtain ⟨r5, a6, e4, e⟩ := xb2_some e
      refine ex_cv1 (as := [.int v1, .int 0]) (rest := [.int v1, .ref 106]) rfl rfl rfl rfl (hS.obj rfl (by decide)) rfl (by with_unfolding_all rfl) (by with_unfolding_all rfl) (tf80_measured hS e4) (fun H2 s3 => ?_)
      obtain ⟨g10, e⟩ := xg_some e
      obtain ⟨a7, ha7, e⟩ := xw_some e
      refine xe_iast s3 rfl rfl g10 (fun H8 s9 => ?_)
      have s9 : xS h b T a7 H8 := by rw [ha7]; exact s9
      refine ex_s (am_nb (m := 2) (pc1 := 3) (ls1 := [(1, .int (v1 + 1)), (0, .ref 97)]) (st1 := []) (H1 := H8) (k1 := 0) (n1 := 0) (by with_unfolding_all rfl)) ?_
      exact le_E (l1 := [(0, .ref 97), (1, .int (v1 + 1))]) ⟨rfl, rfl, trivial⟩ rfl (ih (v1 + 1) a7 H8 s9 e)

set_option maxRecDepth 100000 in
theorem tl79_38 {sL : Nat} {sx : Nat → Int32} {h b N : Nat} {T : List am_C} {R : Option Value} {F : am_H → Prop} {w1 : Int32} {z : Nat × xA} (k0 : z.1 = 0 → ∀ H2 : am_H, xS h b T z.2 H2 → am_E sL sx am_cs 79 67 [(0, .ref 97), (1, .int w1)] [] H2 R F) : ∀ (n : Nat) (v2 : Int32) (a : xA) (H : am_H), xS h b T a H → l79_38 N h b w1 n v2 a = some z → am_E sL sx am_cs 79 38 [(0, .ref 97), (1, .int w1), (2, .int v2)] [] H R F := by
  intro n
  induction n with
  | zero =>
    intro v2 a H hS e
    cases e
  | succ n ih =>
    intro v2 a H hS e
    unfold l79_38 at e
    refine ex_s (am_nb (m := 2) (pc1 := 41) (ls1 := [(0, .ref 97), (1, .int w1), (2, .int v2)]) (st1 := [.int 80, .int v2]) (H1 := H) (k1 := 0) (n1 := 0) (by with_unfolding_all rfl)) ?_
    refine ex_s (st_icmp rfl) ?_
    by_cases c14 : 80 ≤ v2
    · have e := (if_pos c14).symm.trans e
      refine ex_pc (if_pos c14) ?_
      cases e
      exact le_E (l1 := [(0, .ref 97), (1, .int w1)]) ⟨rfl, rfl, trivial⟩ rfl (k0 rfl H hS)
    · have e := (if_neg c14).symm.trans e
      refine ex_pc (if_neg c14) ?_
      refine ex_s (am_nb (m := 1) (pc1 := 45) (ls1 := [(0, .ref 97), (1, .int w1), (2, .int v2)]) (st1 := [.ref 97]) (H1 := H) (k1 := 0) (n1 := 0) (by with_unfolding_all rfl)) ?_
      refine xe_get (v := .ref 107) hS rfl rfl (by decide) rfl ?_
      refine ex_s (am_nb (m := 3) (pc1 := 52) (ls1 := [(0, .ref 97), (1, .int w1), (2, .int v2)]) (st1 := [.int (w1 - 14), .ref 107]) (H1 := H) (k1 := 0) (n1 := 0) (by with_unfolding_all rfl)) ?_
      obtain ⟨g15, e⟩ := xg_some e
      refine xe_q107 hS rfl g15 ?_
      refine ex_s (am_nb (m := 4) (pc1 := 57) (ls1 := [(0, .ref 97), (1, .int w1), (2, .int v2)]) (st1 := [.int v2, .int w1, .ref 97, .int v2, .ref (108 + (w1 - 14).toNatClampNeg)]) (H1 := H) (k1 := 0) (n1 := 0) (by with_unfolding_all rfl)) ?_
      obtain ⟨r19, a20, e18, e⟩ := xb2_some e
      refine ex_cv1 (as := [.int w1, .int v2]) (rest := [.int v2, .ref (108 + (w1 - 14).toNatClampNeg)]) rfl rfl rfl rfl (hS.obj rfl (by decide)) rfl (by with_unfolding_all rfl) (by with_unfolding_all rfl) (tf80_measured hS e18) (fun H16 s17 => ?_)
      obtain ⟨g24, e⟩ := xg_some e
      obtain ⟨a21, ha21, e⟩ := xw_some e
      refine xe_iast s17 rfl (xkq107 g15) g24 (fun H22 s23 => ?_)
      have s23 : xS h b T a21 H22 := by rw [ha21]; exact s23
      refine ex_s (am_nb (m := 2) (pc1 := 38) (ls1 := [(2, .int (v2 + 1)), (0, .ref 97), (1, .int w1)]) (st1 := []) (H1 := H22) (k1 := 0) (n1 := 0) (by with_unfolding_all rfl)) ?_
      exact le_E (l1 := [(0, .ref 97), (1, .int w1), (2, .int (v2 + 1))]) ⟨rfl, rfl, rfl, trivial⟩ rfl (ih (v2 + 1) a21 H22 s23 e)

set_option maxRecDepth 100000 in
theorem tl79_30 {sL : Nat} {sx : Nat → Int32} {h b N : Nat} {T : List am_C} {R : Option Value} {F : am_H → Prop} {z : Nat × xA} (k0 : z.1 = 0 → ∀ H2 : am_H, xS h b T z.2 H2 → am_E sL sx am_cs 79 73 [] [] H2 R F) : ∀ (n : Nat) (v1 : Int32) (a : xA) (H : am_H), xS h b T a H → l79_30 N h b n v1 a = some z → am_E sL sx am_cs 79 30 [(0, .ref 97), (1, .int v1)] [] H R F := by
  intro n
  induction n with
  | zero =>
    intro v1 a H hS e
    cases e
  | succ n ih =>
    intro v1 a H hS e
    unfold l79_30 at e
    refine ex_s (am_nb (m := 2) (pc1 := 33) (ls1 := [(0, .ref 97), (1, .int v1)]) (st1 := [.int 19, .int v1]) (H1 := H) (k1 := 0) (n1 := 0) (by with_unfolding_all rfl)) ?_
    refine ex_s (st_icmp rfl) ?_
    by_cases c13 : 19 < v1
    · have e := (if_pos c13).symm.trans e
      refine ex_pc (if_pos c13) ?_
      cases e
      exact le_E (l1 := []) trivial rfl (k0 rfl H hS)
    · have e := (if_neg c13).symm.trans e
      refine ex_pc (if_neg c13) ?_
      refine ex_s (am_nb (m := 2) (pc1 := 38) (ls1 := [(2, .int 0), (0, .ref 97), (1, .int v1)]) (st1 := []) (H1 := H) (k1 := 0) (n1 := 0) (by with_unfolding_all rfl)) ?_
      obtain ⟨z25, e26, e⟩ := Option.bind_eq_some_iff.mp e
      refine le_E (l1 := [(0, .ref 97), (1, .int v1), (2, .int 0)]) ⟨rfl, rfl, rfl, trivial⟩ rfl (tl79_38 (z := z25)  (fun uz25_0 Hz250 sz250 => ?_) N 0 a H hS e26)
      refine ex_s (am_nb (m := 2) (pc1 := 30) (ls1 := [(1, .int (v1 + 1)), (0, .ref 97)]) (st1 := []) (H1 := Hz250) (k1 := 0) (n1 := 0) (by with_unfolding_all rfl)) ?_
      exact le_E (l1 := [(0, .ref 97), (1, .int (v1 + 1))]) ⟨rfl, rfl, trivial⟩ rfl (ih (v1 + 1) z25.2 Hz250 sz250 e)

set_option maxRecDepth 100000 in
theorem tf79_measureStrings {sL : Nat} {sx : Nat → Int32} {h b N : Nat} {T : List am_C} {a' : xA} {a : xA} {H : am_H} (hS : xS h b T a H) (e : f79_measureStrings N h b a = some a') : am_E sL sx am_cs 79 0 [(0, .ref 97)] [] H none (fun H1 => xS h b T a' H1) := by
  unfold f79_measureStrings at e
  refine ex_s (am_nb (m := 2) (pc1 := 3) (ls1 := [(1, .int 6), (0, .ref 97)]) (st1 := []) (H1 := H) (k1 := 0) (n1 := 0) (by with_unfolding_all rfl)) ?_
  obtain ⟨z11, e12, e⟩ := Option.bind_eq_some_iff.mp e
  refine le_E (l1 := [(0, .ref 97), (1, .int 6)]) ⟨rfl, rfl, trivial⟩ rfl (tl79_3 (z := z11)  (fun uz11_0 Hz110 sz110 => ?_) N 6 a H hS e12)
  refine ex_s (am_nb (m := 2) (pc1 := 30) (ls1 := [(1, .int 14), (0, .ref 97)]) (st1 := []) (H1 := Hz110) (k1 := 0) (n1 := 0) (by with_unfolding_all rfl)) ?_
  obtain ⟨z27, e28, e⟩ := Option.bind_eq_some_iff.mp e
  refine le_E (l1 := [(0, .ref 97), (1, .int 14)]) ⟨rfl, rfl, trivial⟩ rfl (tl79_30 (z := z27)  (fun uz27_0 Hz270 sz270 => ?_) N 14 z11.2 Hz110 sz110 e28)
  cases e
  exact ex_r (st_vret rfl rfl) sz270

set_option maxRecDepth 100000 in
theorem tj76_184 {sL : Nat} {sx : Nat → Int32} {h b N : Nat} {T : List am_C} {R : Option Value} {F : am_H → Prop} {z : Nat × xA} {rc : Int32 → xA → Option (Nat × xA)} (k0 : z.1 = 0 → ∀ H2 : am_H, xS h b T z.2 H2 → am_E sL sx am_cs 76 190 [(0, .ref 97)] [] H2 R F) (ih : ∀ (v3 : Int32) (a : xA) (H : am_H), xS h b T a H → rc v3 a = some z → am_E sL sx am_cs 76 141 [(0, .ref 97), (3, .int v3)] [] H R F) {q3 : Int32} {a : xA} {H : am_H} (hS : xS h b T a H) (e : j76_184 N h b rc q3 a = some z) : am_E sL sx am_cs 76 184 [(0, .ref 97), (3, .int q3)] [] H R F := by
  unfold j76_184 at e
  refine ex_s (am_nb (m := 2) (pc1 := 141) (ls1 := [(3, .int (q3 + 1)), (0, .ref 97)]) (st1 := []) (H1 := H) (k1 := 0) (n1 := 0) (by with_unfolding_all rfl)) ?_
  exact le_E (l1 := [(0, .ref 97), (3, .int (q3 + 1))]) ⟨rfl, rfl, trivial⟩ rfl (ih (q3 + 1) a H hS e)

set_option maxRecDepth 100000 in
theorem tl76_141 {sL : Nat} {sx : Nat → Int32} {h b N : Nat} {T : List am_C} {R : Option Value} {F : am_H → Prop} {z : Nat × xA} (k0 : z.1 = 0 → ∀ H2 : am_H, xS h b T z.2 H2 → am_E sL sx am_cs 76 190 [(0, .ref 97)] [] H2 R F) : ∀ (n : Nat) (v3 : Int32) (a : xA) (H : am_H), xS h b T a H → l76_141 N h b n v3 a = some z → am_E sL sx am_cs 76 141 [(0, .ref 97), (3, .int v3)] [] H R F := by
  intro n
  induction n with
  | zero =>
    intro v3 a H hS e
    cases e
  | succ n ih =>
    intro v3 a H hS e
    unfold l76_141 at e
    refine ex_s (am_nb (m := 2) (pc1 := 143) (ls1 := [(0, .ref 97), (3, .int v3)]) (st1 := [.int 4, .int v3]) (H1 := H) (k1 := 0) (n1 := 0) (by with_unfolding_all rfl)) ?_
    refine ex_s (st_icmp rfl) ?_
    by_cases c70 : 4 ≤ v3
    · have e := (if_pos c70).symm.trans e
      refine ex_pc (if_pos c70) ?_
      cases e
      exact le_E (l1 := [(0, .ref 97)]) ⟨rfl, trivial⟩ rfl (k0 rfl H hS)
    · have e := (if_neg c70).symm.trans e
      refine ex_pc (if_neg c70) ?_
      refine ex_s (am_nb (m := 1) (pc1 := 147) (ls1 := [(0, .ref 97), (3, .int v3)]) (st1 := [.ref 97]) (H1 := H) (k1 := 0) (n1 := 0) (by with_unfolding_all rfl)) ?_
      refine xe_get (v := xN (a 97 6)) hS rfl rfl (by decide) rfl ?_
      refine ex_s (am_nb (m := 3) (pc1 := 154) (ls1 := [(0, .ref 97), (3, .int v3)]) (st1 := [.int (26 + v3), xN (a 97 6)]) (H1 := H) (k1 := 0) (n1 := 0) (by first | with_unfolding_all rfl | (unfold xN; (repeat' split) <;> with_unfolding_all rfl))) ?_
      obtain ⟨g71, e⟩ := xg_some e
      rw [show xN (a 97 6) = .ref ((a 97 6).toNatClampNeg) from if_neg g71]
      obtain ⟨g72, e⟩ := xg_some e
      obtain ⟨r76, a77, e75, e⟩ := xb2_some e
      refine ex_cv1 (as := [.int (26 + v3)]) (rest := []) rfl rfl rfl rfl (hS.obj g72 (by decide)) rfl (by with_unfolding_all rfl) (by with_unfolding_all rfl) (tf74_has hS e75) (fun H73 s74 => ?_)
      refine ex_s (st_if rfl) ?_
      by_cases c79 : r76 = 0
      · have e := (if_pos c79).symm.trans e
        refine ex_pc (if_pos c79) ?_
        exact le_E (l1 := [(0, .ref 97), (3, .int v3)]) ⟨rfl, rfl, trivial⟩ rfl (tj76_184 k0 ih  s74 e)
      · have e := (if_neg c79).symm.trans e
        refine ex_pc (if_neg c79) ?_
        refine ex_s (am_nb (m := 1) (pc1 := 161) (ls1 := [(0, .ref 97), (3, .int v3)]) (st1 := [.ref 97]) (H1 := H73) (k1 := 0) (n1 := 0) (by with_unfolding_all rfl)) ?_
        refine xe_get (v := xN (a77 97 6)) s74 rfl rfl (by decide) rfl ?_
        refine ex_s (am_nb (m := 1) (pc1 := 166) (ls1 := [(0, .ref 97), (3, .int v3)]) (st1 := [.int 25, xN (a77 97 6)]) (H1 := H73) (k1 := 0) (n1 := 0) (by first | with_unfolding_all rfl | (unfold xN; (repeat' split) <;> with_unfolding_all rfl))) ?_
        obtain ⟨g80, e⟩ := xg_some e
        rw [show xN (a77 97 6) = .ref ((a77 97 6).toNatClampNeg) from if_neg g80]
        obtain ⟨g81, e⟩ := xg_some e
        obtain ⟨r85, a86, e84, e⟩ := xb2_some e
        refine ex_cv1 (as := [.int 25]) (rest := []) rfl rfl rfl rfl (s74.obj g81 (by decide)) rfl (by with_unfolding_all rfl) (by with_unfolding_all rfl) (tf74_has s74 e84) (fun H82 s83 => ?_)
        refine ex_s (st_if rfl) ?_
        by_cases c88 : r85 = 0
        · have e := (if_pos c88).symm.trans e
          refine ex_pc (if_pos c88) ?_
          exact le_E (l1 := [(0, .ref 97), (3, .int v3)]) ⟨rfl, rfl, trivial⟩ rfl (tj76_184 k0 ih  s83 e)
        · have e := (if_neg c88).symm.trans e
          refine ex_pc (if_neg c88) ?_
          refine ex_s (am_nb (m := 2) (pc1 := 174) (ls1 := [(0, .ref 97), (3, .int v3)]) (st1 := [.ref 97, .ref 97]) (H1 := H82) (k1 := 0) (n1 := 0) (by with_unfolding_all rfl)) ?_
          refine xe_get (v := .int (a86 97 10)) s83 rfl rfl (by decide) rfl ?_
          refine ex_s (am_nb (m := 4) (pc1 := 181) (ls1 := [(0, .ref 97), (3, .int v3)]) (st1 := [.int ((a86 97 10) ||| ((1 : Int32) <<< (v3 &&& 31))), .ref 97]) (H1 := H82) (k1 := 0) (n1 := 0) (by with_unfolding_all rfl)) ?_
          obtain ⟨a89, ha89, e⟩ := xw_some e
          refine xe_put (w := ((a86 97 10) ||| ((1 : Int32) <<< (v3 &&& 31)))) s83 rfl rfl (by decide) rfl rfl rfl rfl (fun H90 s91 => ?_)
          have s91 : xS h b T a89 H90 := by rw [ha89]; exact s91
          exact le_E (l1 := [(0, .ref 97), (3, .int v3)]) ⟨rfl, rfl, trivial⟩ rfl (tj76_184 k0 ih  s91 e)

set_option maxRecDepth 100000 in
theorem tj76_131 {sL : Nat} {sx : Nat → Int32} {h b N : Nat} {T : List am_C} {a' : xA} {t0 : Int32} {a : xA} {H : am_H} (hS : xS h b T a H) (e : j76_131 N h b t0 a = some a') : am_E sL sx am_cs 76 131 [(0, .ref 97)] [.int t0, .ref 97] H none (fun H1 => xS h b T a' H1) := by
  unfold j76_131 at e
  obtain ⟨a64, ha64, e⟩ := xw_some e
  refine xe_put (w := t0) hS rfl rfl (by decide) rfl rfl rfl rfl (fun H65 s66 => ?_)
  have s66 : xS h b T a64 H65 := by rw [ha64]; exact s66
  refine ex_s (am_nb (m := 2) (pc1 := 136) (ls1 := [(0, .ref 97)]) (st1 := [.int 0, .ref 97]) (H1 := H65) (k1 := 0) (n1 := 0) (by with_unfolding_all rfl)) ?_
  obtain ⟨a67, ha67, e⟩ := xw_some e
  refine xe_put (w := 0) s66 rfl rfl (by decide) rfl rfl rfl rfl (fun H68 s69 => ?_)
  have s69 : xS h b T a67 H68 := by rw [ha67]; exact s69
  refine ex_s (am_nb (m := 2) (pc1 := 141) (ls1 := [(3, .int 0), (0, .ref 97)]) (st1 := []) (H1 := H68) (k1 := 0) (n1 := 0) (by with_unfolding_all rfl)) ?_
  obtain ⟨z92, e93, e⟩ := Option.bind_eq_some_iff.mp e
  refine le_E (l1 := [(0, .ref 97), (3, .int 0)]) ⟨rfl, rfl, trivial⟩ rfl (tl76_141 (z := z92)  (fun uz92_0 Hz920 sz920 => ?_) N 0 a67 H68 s69 e93)
  refine ex_s (am_nb (m := 1) (pc1 := 191) (ls1 := [(0, .ref 97)]) (st1 := [.ref 97]) (H1 := Hz920) (k1 := 0) (n1 := 0) (by with_unfolding_all rfl)) ?_
  obtain ⟨a97, e96, e⟩ := xb1_some e
  refine ex_cv0 (as := []) (rest := []) rfl rfl rfl rfl (sz920.obj rfl (by decide)) rfl (by with_unfolding_all rfl) (by with_unfolding_all rfl) (tf79_measureStrings sz920 e96) (fun H94 s95 => ?_)
  cases e
  exact ex_r (st_vret rfl rfl) s95

set_option maxRecDepth 100000 in
theorem tj76_130 {sL : Nat} {sx : Nat → Int32} {h b N : Nat} {T : List am_C} {a' : xA} {a : xA} {H : am_H} (hS : xS h b T a H) (e : j76_130 N h b a = some a') : am_E sL sx am_cs 76 130 [(0, .ref 97)] [.ref 97] H none (fun H1 => xS h b T a' H1) := by
  unfold j76_130 at e
  refine ex_s (am_nb (m := 1) (pc1 := 131) (ls1 := [(0, .ref 97)]) (st1 := [.int 0, .ref 97]) (H1 := H) (k1 := 0) (n1 := 0) (by with_unfolding_all rfl)) ?_
  exact le_E (l1 := [(0, .ref 97)]) ⟨rfl, trivial⟩ rfl (tj76_131  hS e)

set_option maxRecDepth 100000 in
theorem tf76_begin {sL : Nat} {sx : Nat → Int32} {h b N : Nat} {T : List am_C} {a' : xA} {x0 : Nat} {a : xA} {H : am_H} (hS : xS h b T a H) (e : f76_begin N h b x0 a = some a') : am_E sL sx am_cs 76 0 [(0, .ref 97), (1, .ref x0), (2, .ref 93)] [] H none (fun H1 => xS h b T a' H1) := by
  unfold f76_begin at e
  obtain ⟨g1, e⟩ := xg_some e
  refine ex_s (am_nb (m := 2) (pc1 := 2) (ls1 := [(0, .ref 97), (1, .ref x0), (2, .ref 93)]) (st1 := [.ref x0, .ref 97]) (H1 := H) (k1 := 0) (n1 := 0) (by with_unfolding_all rfl)) ?_
  obtain ⟨a2, ha2, e⟩ := xw_some e
  refine xe_putN (w := (Int32.ofNat x0)) hS rfl rfl (by decide) rfl rfl (xN_of g1 (by decide)).symm xfit_o rfl (fun H3 s4 => ?_)
  have s4 : xS h b T a2 H3 := by rw [ha2]; exact s4
  refine ex_s (am_nb (m := 2) (pc1 := 7) (ls1 := [(0, .ref 97), (1, .ref x0), (2, .ref 93)]) (st1 := [.ref 93, .ref 97]) (H1 := H3) (k1 := 0) (n1 := 0) (by with_unfolding_all rfl)) ?_
  obtain ⟨a5, ha5, e⟩ := xw_some e
  refine xe_putN (w := (Int32.ofNat 93)) s4 rfl rfl (by decide) rfl rfl rfl xfit_o rfl (fun H6 s7 => ?_)
  have s7 : xS h b T a5 H6 := by rw [ha5]; exact s7
  refine ex_s (am_nb (m := 2) (pc1 := 12) (ls1 := [(0, .ref 97), (1, .ref x0), (2, .ref 93)]) (st1 := [.ref 97, .ref 97]) (H1 := H6) (k1 := 0) (n1 := 0) (by with_unfolding_all rfl)) ?_
  refine xe_get (v := xN (a5 97 6)) s7 rfl rfl (by decide) rfl ?_
  refine ex_s (am_nb (m := 1) (pc1 := 16) (ls1 := [(0, .ref 97), (1, .ref x0), (2, .ref 93)]) (st1 := [.int 4, xN (a5 97 6), .ref 97]) (H1 := H6) (k1 := 0) (n1 := 0) (by first | with_unfolding_all rfl | (unfold xN; (repeat' split) <;> with_unfolding_all rfl))) ?_
  obtain ⟨g8, e⟩ := xg_some e
  rw [show xN (a5 97 6) = .ref ((a5 97 6).toNatClampNeg) from if_neg g8]
  obtain ⟨g9, e⟩ := xg_some e
  obtain ⟨r13, a14, e12, e⟩ := xb2_some e
  refine ex_cv1 (as := [.int 4]) (rest := [.ref 97]) rfl rfl rfl rfl (s7.obj g9 (by decide)) rfl (by with_unfolding_all rfl) (by with_unfolding_all rfl) (tf77_number s7 e12) (fun H10 s11 => ?_)
  refine ex_s (am_nb (m := 2) (pc1 := 22) (ls1 := [(0, .ref 97), (1, .ref x0), (2, .ref 93)]) (st1 := [.int 24, .int 1, .int r13, .ref 97]) (H1 := H10) (k1 := 0) (n1 := 0) (by with_unfolding_all rfl)) ?_
  obtain ⟨r18, a19, e17, e⟩ := xb2_some e
  refine ex_cs1 (as := [.int r13, .int 1, .int 24]) (rest := [.ref 97]) rfl (by decide) rfl rfl (by with_unfolding_all rfl) (by with_unfolding_all rfl) (tf10_nearest s11 e17) (fun H15 s16 => ?_)
  obtain ⟨a20, ha20, e⟩ := xw_some e
  refine xe_put (w := r18) s16 rfl rfl (by decide) rfl rfl rfl rfl (fun H21 s22 => ?_)
  have s22 : xS h b T a20 H21 := by rw [ha20]; exact s22
  refine ex_s (am_nb (m := 2) (pc1 := 30) (ls1 := [(0, .ref 97), (1, .ref x0), (2, .ref 93)]) (st1 := [.ref 97, .ref 97]) (H1 := H21) (k1 := 0) (n1 := 0) (by with_unfolding_all rfl)) ?_
  refine xe_get (v := xN (a20 97 6)) s22 rfl rfl (by decide) rfl ?_
  refine ex_s (am_nb (m := 1) (pc1 := 34) (ls1 := [(0, .ref 97), (1, .ref x0), (2, .ref 93)]) (st1 := [.int 3, xN (a20 97 6), .ref 97]) (H1 := H21) (k1 := 0) (n1 := 0) (by first | with_unfolding_all rfl | (unfold xN; (repeat' split) <;> with_unfolding_all rfl))) ?_
  obtain ⟨g23, e⟩ := xg_some e
  rw [show xN (a20 97 6) = .ref ((a20 97 6).toNatClampNeg) from if_neg g23]
  obtain ⟨g24, e⟩ := xg_some e
  obtain ⟨r28, a29, e27, e⟩ := xb2_some e
  refine ex_cv1 (as := [.int 3]) (rest := [.ref 97]) rfl rfl rfl rfl (s22.obj g24 (by decide)) rfl (by with_unfolding_all rfl) (by with_unfolding_all rfl) (tf77_number s22 e27) (fun H25 s26 => ?_)
  refine ex_s (am_nb (m := 2) (pc1 := 40) (ls1 := [(0, .ref 97), (1, .ref x0), (2, .ref 93)]) (st1 := [.int 80, .int 1, .int r28, .ref 97]) (H1 := H25) (k1 := 0) (n1 := 0) (by with_unfolding_all rfl)) ?_
  obtain ⟨r33, a34, e32, e⟩ := xb2_some e
  refine ex_cs1 (as := [.int r28, .int 1, .int 80]) (rest := [.ref 97]) rfl (by decide) rfl rfl (by with_unfolding_all rfl) (by with_unfolding_all rfl) (tf10_nearest s26 e32) (fun H30 s31 => ?_)
  obtain ⟨a35, ha35, e⟩ := xw_some e
  refine xe_put (w := r33) s31 rfl rfl (by decide) rfl rfl rfl rfl (fun H36 s37 => ?_)
  have s37 : xS h b T a35 H36 := by rw [ha35]; exact s37
  refine ex_s (am_nb (m := 1) (pc1 := 47) (ls1 := [(0, .ref 97), (1, .ref x0), (2, .ref 93)]) (st1 := [.ref 97]) (H1 := H36) (k1 := 0) (n1 := 0) (by with_unfolding_all rfl)) ?_
  refine xe_get (v := .ref 98) s37 rfl rfl (by decide) rfl ?_
  refine ex_s (am_nb (m := 3) (pc1 := 53) (ls1 := [(0, .ref 97), (1, .ref x0), (2, .ref 93)]) (st1 := [.ref 97, .int 0, .int 0, .ref 98]) (H1 := H36) (k1 := 0) (n1 := 0) (by with_unfolding_all rfl)) ?_
  refine xe_get (v := .int (a35 97 8)) s37 rfl rfl (by decide) rfl ?_
  refine ex_s (am_nb (m := 1) (pc1 := 57) (ls1 := [(0, .ref 97), (1, .ref x0), (2, .ref 93)]) (st1 := [.ref 97, .int (a35 97 8), .int 0, .int 0, .ref 98]) (H1 := H36) (k1 := 0) (n1 := 0) (by with_unfolding_all rfl)) ?_
  refine xe_get (v := .int (a35 97 9)) s37 rfl rfl (by decide) rfl ?_
  obtain ⟨a41, e40, e⟩ := xb1_some e
  refine ex_cv0 (as := [.int 0, .int 0, .int (a35 97 8), .int (a35 97 9)]) (rest := []) rfl rfl rfl rfl (s37.obj rfl (by decide)) rfl (by with_unfolding_all rfl) (by with_unfolding_all rfl) (tf78_begin s37 e40) (fun H38 s39 => ?_)
  refine ex_s (am_nb (m := 1) (pc1 := 64) (ls1 := [(0, .ref 97), (1, .ref x0), (2, .ref 93)]) (st1 := [.ref 97]) (H1 := H38) (k1 := 0) (n1 := 0) (by with_unfolding_all rfl)) ?_
  refine xe_get (v := .ref 100) s39 rfl rfl (by decide) rfl ?_
  refine ex_s (am_nb (m := 3) (pc1 := 70) (ls1 := [(0, .ref 97), (1, .ref x0), (2, .ref 93)]) (st1 := [.ref 97, .int 0, .int 0, .ref 100]) (H1 := H38) (k1 := 0) (n1 := 0) (by with_unfolding_all rfl)) ?_
  refine xe_get (v := .int (a41 97 8)) s39 rfl rfl (by decide) rfl ?_
  refine ex_s (am_nb (m := 1) (pc1 := 74) (ls1 := [(0, .ref 97), (1, .ref x0), (2, .ref 93)]) (st1 := [.ref 97, .int (a41 97 8), .int 0, .int 0, .ref 100]) (H1 := H38) (k1 := 0) (n1 := 0) (by with_unfolding_all rfl)) ?_
  refine xe_get (v := .int (a41 97 9)) s39 rfl rfl (by decide) rfl ?_
  obtain ⟨a45, e44, e⟩ := xb1_some e
  refine ex_cv0 (as := [.int 0, .int 0, .int (a41 97 8), .int (a41 97 9)]) (rest := []) rfl rfl rfl rfl (s39.obj rfl (by decide)) rfl (by with_unfolding_all rfl) (by with_unfolding_all rfl) (tf78_begin s39 e44) (fun H42 s43 => ?_)
  refine ex_s (am_nb (m := 2) (pc1 := 82) (ls1 := [(0, .ref 97), (1, .ref x0), (2, .ref 93)]) (st1 := [.int 0, .ref 97]) (H1 := H42) (k1 := 0) (n1 := 0) (by with_unfolding_all rfl)) ?_
  obtain ⟨a46, ha46, e⟩ := xw_some e
  refine xe_put (w := 0) s43 rfl rfl (by decide) rfl rfl rfl rfl (fun H47 s48 => ?_)
  have s48 : xS h b T a46 H47 := by rw [ha46]; exact s48
  refine ex_s (am_nb (m := 2) (pc1 := 87) (ls1 := [(0, .ref 97), (1, .ref x0), (2, .ref 93)]) (st1 := [.int 1, .ref 97]) (H1 := H47) (k1 := 0) (n1 := 0) (by with_unfolding_all rfl)) ?_
  obtain ⟨a49, ha49, e⟩ := xw_some e
  refine xe_put (w := 1) s48 rfl rfl (by decide) rfl rfl rfl rfl (fun H50 s51 => ?_)
  have s51 : xS h b T a49 H50 := by rw [ha49]; exact s51
  refine ex_s (am_nb (m := 2) (pc1 := 92) (ls1 := [(0, .ref 97), (1, .ref x0), (2, .ref 93)]) (st1 := [.int 0, .ref 97]) (H1 := H50) (k1 := 0) (n1 := 0) (by with_unfolding_all rfl)) ?_
  obtain ⟨a52, ha52, e⟩ := xw_some e
  refine xe_put (w := 0) s51 rfl rfl (by decide) rfl rfl rfl rfl (fun H53 s54 => ?_)
  have s54 : xS h b T a52 H53 := by rw [ha52]; exact s54
  refine ex_s (am_nb (m := 2) (pc1 := 97) (ls1 := [(0, .ref 97), (1, .ref x0), (2, .ref 93)]) (st1 := [.ref 97, .ref 97]) (H1 := H53) (k1 := 0) (n1 := 0) (by with_unfolding_all rfl)) ?_
  refine xe_get (v := xN (a52 97 6)) s54 rfl rfl (by decide) rfl ?_
  refine ex_s (am_nb (m := 1) (pc1 := 102) (ls1 := [(0, .ref 97), (1, .ref x0), (2, .ref 93)]) (st1 := [.int 21, xN (a52 97 6), .ref 97]) (H1 := H53) (k1 := 0) (n1 := 0) (by first | with_unfolding_all rfl | (unfold xN; (repeat' split) <;> with_unfolding_all rfl))) ?_
  obtain ⟨g55, e⟩ := xg_some e
  rw [show xN (a52 97 6) = .ref ((a52 97 6).toNatClampNeg) from if_neg g55]
  obtain ⟨g56, e⟩ := xg_some e
  obtain ⟨r60, a61, e59, e⟩ := xb2_some e
  refine ex_cv1 (as := [.int 21]) (rest := [.ref 97]) rfl rfl rfl rfl (s54.obj g56 (by decide)) rfl (by with_unfolding_all rfl) (by with_unfolding_all rfl) (tf74_has s54 e59) (fun H57 s58 => ?_)
  refine ex_s (st_if rfl) ?_
  by_cases c63 : r60 = 0
  · have e := (if_pos c63).symm.trans e
    refine ex_pc (if_pos c63) ?_
    exact le_E (l1 := [(0, .ref 97)]) ⟨rfl, trivial⟩ rfl (tj76_130  s58 e)
  · have e := (if_neg c63).symm.trans e
    refine ex_pc (if_neg c63) ?_
    refine ex_s (am_nb (m := 1) (pc1 := 109) (ls1 := [(0, .ref 97), (1, .ref x0), (2, .ref 93)]) (st1 := [.ref 97, .ref 97]) (H1 := H57) (k1 := 0) (n1 := 0) (by with_unfolding_all rfl)) ?_
    refine xe_get (v := xN (a61 97 6)) s58 rfl rfl (by decide) rfl ?_
    refine ex_s (am_nb (m := 1) (pc1 := 113) (ls1 := [(0, .ref 97), (1, .ref x0), (2, .ref 93)]) (st1 := [.int 5, xN (a61 97 6), .ref 97]) (H1 := H57) (k1 := 0) (n1 := 0) (by first | with_unfolding_all rfl | (unfold xN; (repeat' split) <;> with_unfolding_all rfl))) ?_
    obtain ⟨g98, e⟩ := xg_some e
    rw [show xN (a61 97 6) = .ref ((a61 97 6).toNatClampNeg) from if_neg g98]
    obtain ⟨g99, e⟩ := xg_some e
    obtain ⟨r103, a104, e102, e⟩ := xb2_some e
    refine ex_cv1 (as := [.int 5]) (rest := [.ref 97]) rfl rfl rfl rfl (s58.obj g99 (by decide)) rfl (by with_unfolding_all rfl) (by with_unfolding_all rfl) (tf74_has s58 e102) (fun H100 s101 => ?_)
    refine ex_s (st_if rfl) ?_
    by_cases c106 : r103 = 0
    · have e := (if_pos c106).symm.trans e
      refine ex_pc (if_pos c106) ?_
      exact le_E (l1 := [(0, .ref 97)]) ⟨rfl, trivial⟩ rfl (tj76_130  s101 e)
    · have e := (if_neg c106).symm.trans e
      refine ex_pc (if_neg c106) ?_
      refine ex_s (am_nb (m := 1) (pc1 := 120) (ls1 := [(0, .ref 97), (1, .ref x0), (2, .ref 93)]) (st1 := [.ref 97, .ref 97]) (H1 := H100) (k1 := 0) (n1 := 0) (by with_unfolding_all rfl)) ?_
      refine xe_get (v := xN (a104 97 6)) s101 rfl rfl (by decide) rfl ?_
      refine ex_s (am_nb (m := 1) (pc1 := 124) (ls1 := [(0, .ref 97), (1, .ref x0), (2, .ref 93)]) (st1 := [.int 5, xN (a104 97 6), .ref 97]) (H1 := H100) (k1 := 0) (n1 := 0) (by first | with_unfolding_all rfl | (unfold xN; (repeat' split) <;> with_unfolding_all rfl))) ?_
      obtain ⟨g107, e⟩ := xg_some e
      rw [show xN (a104 97 6) = .ref ((a104 97 6).toNatClampNeg) from if_neg g107]
      obtain ⟨g108, e⟩ := xg_some e
      obtain ⟨r112, a113, e111, e⟩ := xb2_some e
      refine ex_cv1 (as := [.int 5]) (rest := [.ref 97]) rfl rfl rfl rfl (s101.obj g108 (by decide)) rfl (by with_unfolding_all rfl) (by with_unfolding_all rfl) (tf77_number s101 e111) (fun H109 s110 => ?_)
      refine ex_s (am_nb (m := 1) (pc1 := 131) (ls1 := [(0, .ref 97), (1, .ref x0), (2, .ref 93)]) (st1 := [.int r112, .ref 97]) (H1 := H109) (k1 := 0) (n1 := 0) (by with_unfolding_all rfl)) ?_
      exact le_E (l1 := [(0, .ref 97)]) ⟨rfl, trivial⟩ rfl (tj76_131  s110 e)

set_option maxRecDepth 100000 in
theorem tf71_use {sL : Nat} {sx : Nat → Int32} {h b N : Nat} {T : List am_C} {r : Int32} {a' : xA} {a : xA} {H : am_H} (hS : xS h b T a H) (e : f71_use N h b a = some (r, a')) : am_E sL sx am_cs 71 0 [(0, .ref 0)] [] H (some (.int r)) (fun H1 => xS h b T a' H1) := by
  unfold f71_use at e
  refine ex_s (am_nb (m := 1) (pc1 := 1) (ls1 := [(0, .ref 0)]) (st1 := [.ref 0]) (H1 := H) (k1 := 0) (n1 := 0) (by with_unfolding_all rfl)) ?_
  refine xe_get (v := .ref 3) hS rfl rfl (by decide) rfl ?_
  refine ex_s (am_nb (m := 1) (pc1 := 5) (ls1 := [(0, .ref 0)]) (st1 := [.ref 0, .ref 3]) (H1 := H) (k1 := 0) (n1 := 0) (by with_unfolding_all rfl)) ?_
  refine xe_get (v := .ref 1) hS rfl rfl (by decide) rfl ?_
  refine ex_s (am_nb (m := 1) (pc1 := 9) (ls1 := [(0, .ref 0)]) (st1 := [.ref 0, .ref 1, .ref 3]) (H1 := H) (k1 := 0) (n1 := 0) (by with_unfolding_all rfl)) ?_
  refine xe_get (v := .int (a 0 1)) hS rfl rfl (by decide) rfl ?_
  obtain ⟨r4, a5, e3, e⟩ := xb2_some e
  refine ex_cv1 (as := [.ref 1, .int (a 0 1)]) (rest := []) rfl rfl rfl rfl (hS.obj rfl (by decide)) rfl (by with_unfolding_all rfl) (by with_unfolding_all rfl) (tf72_entryNamed hS e3) (fun H1 s2 => ?_)
  refine ex_s (am_nb (m := 3) (pc1 := 18) (ls1 := [(1, xN r4), (0, .ref 0)]) (st1 := [.int 0, .ref 0]) (H1 := H1) (k1 := 0) (n1 := 0) (by first | with_unfolding_all rfl | (unfold xN; (repeat' split) <;> with_unfolding_all rfl))) ?_
  obtain ⟨a6, ha6, e⟩ := xw_some e
  refine xe_put (w := 0) s2 rfl rfl (by decide) rfl rfl rfl rfl (fun H7 s8 => ?_)
  have s8 : xS h b T a6 H7 := by rw [ha6]; exact s8
  refine ex_s (am_nb (m := 1) (pc1 := 22) (ls1 := [(1, xN r4), (0, .ref 0)]) (st1 := [xN r4]) (H1 := H7) (k1 := 0) (n1 := 0) (by first | with_unfolding_all rfl | (unfold xN; (repeat' split) <;> with_unfolding_all rfl))) ?_
  by_cases c9 : r4 = -1
  · have e := (if_pos c9).symm.trans e
    rw [show xN r4 = .null from if_pos c9]
    refine ex_s (am_nb (m := 1) (pc1 := 25) (ls1 := [(1, .null), (0, .ref 0)]) (st1 := []) (H1 := H7) (k1 := 0) (n1 := 0) (by with_unfolding_all rfl)) ?_
    refine ex_s (am_nb (m := 1) (pc1 := 26) (ls1 := [(1, .null), (0, .ref 0)]) (st1 := [.int (-1)]) (H1 := H7) (k1 := 0) (n1 := 0) (by with_unfolding_all rfl)) ?_
    cases e
    exact ex_r (st_iret rfl rfl rfl) s8
  · have e := (if_neg c9).symm.trans e
    rw [show xN r4 = .ref r4.toNatClampNeg from if_neg c9]
    refine ex_s (am_nb (m := 1) (pc1 := 27) (ls1 := [(1, .ref r4.toNatClampNeg), (0, .ref 0)]) (st1 := []) (H1 := H7) (k1 := 0) (n1 := 0) (by with_unfolding_all rfl)) ?_
    refine ex_s (am_nb (m := 1) (pc1 := 28) (ls1 := [(1, .ref r4.toNatClampNeg), (0, .ref 0)]) (st1 := [.ref r4.toNatClampNeg]) (H1 := H7) (k1 := 0) (n1 := 0) (by with_unfolding_all rfl)) ?_
    obtain ⟨g10, e⟩ := xg_some e
    obtain ⟨r14, a15, e13, e⟩ := xb2_some e
    refine ex_cv1 (as := []) (rest := []) rfl rfl rfl rfl (s8.obj g10 (by decide)) rfl (by with_unfolding_all rfl) (by with_unfolding_all rfl) (tf73_isUsable s8 e13) (fun H11 s12 => ?_)
    refine ex_s (st_if rfl) ?_
    by_cases c16 : r14 = 0
    · have e := (if_pos c16).symm.trans e
      refine ex_pc (if_pos c16) ?_
      refine ex_s (am_nb (m := 1) (pc1 := 36) (ls1 := [(1, .ref r4.toNatClampNeg), (0, .ref 0)]) (st1 := [.int (-2)]) (H1 := H11) (k1 := 0) (n1 := 0) (by with_unfolding_all rfl)) ?_
      cases e
      exact ex_r (st_iret rfl rfl rfl) s12
    · have e := (if_neg c16).symm.trans e
      refine ex_pc (if_neg c16) ?_
      refine ex_s (am_nb (m := 2) (pc1 := 39) (ls1 := [(1, .ref r4.toNatClampNeg), (0, .ref 0)]) (st1 := [.ref r4.toNatClampNeg, .ref 0]) (H1 := H11) (k1 := 0) (n1 := 0) (by with_unfolding_all rfl)) ?_
      obtain ⟨a17, ha17, e⟩ := xw_some e
      refine xe_putN (w := (Int32.ofNat r4.toNatClampNeg)) s12 rfl rfl (by decide) rfl rfl (xN_of g10 (by decide)).symm xfit_o rfl (fun H18 s19 => ?_)
      have s19 : xS h b T a17 H18 := by rw [ha17]; exact s19
      refine ex_s (am_nb (m := 1) (pc1 := 43) (ls1 := [(1, .ref r4.toNatClampNeg), (0, .ref 0)]) (st1 := [.ref 0]) (H1 := H18) (k1 := 0) (n1 := 0) (by with_unfolding_all rfl)) ?_
      obtain ⟨a23, e22, e⟩ := xb1_some e
      refine ex_cv0 (as := []) (rest := []) rfl rfl rfl rfl (s19.obj rfl (by decide)) rfl (by with_unfolding_all rfl) (by with_unfolding_all rfl) (tf75_closeWindows s19 e22) (fun H20 s21 => ?_)
      refine ex_s (am_nb (m := 1) (pc1 := 47) (ls1 := [(1, .ref r4.toNatClampNeg), (0, .ref 0)]) (st1 := [.ref 0]) (H1 := H20) (k1 := 0) (n1 := 0) (by with_unfolding_all rfl)) ?_
      refine xe_get (v := .ref 97) s21 rfl rfl (by decide) rfl ?_
      refine ex_s (am_nb (m := 2) (pc1 := 52) (ls1 := [(1, .ref r4.toNatClampNeg), (0, .ref 0)]) (st1 := [.ref 0, .ref r4.toNatClampNeg, .ref 97]) (H1 := H20) (k1 := 0) (n1 := 0) (by with_unfolding_all rfl)) ?_
      refine xe_get (v := .ref 93) s21 rfl rfl (by decide) rfl ?_
      obtain ⟨a27, e26, e⟩ := xb1_some e
      refine ex_cv0 (as := [.ref r4.toNatClampNeg, .ref 93]) (rest := []) rfl rfl rfl rfl (s21.obj rfl (by decide)) rfl (by with_unfolding_all rfl) (by with_unfolding_all rfl) (tf76_begin s21 e26) (fun H24 s25 => ?_)
      refine ex_s (am_nb (m := 1) (pc1 := 59) (ls1 := [(1, .ref r4.toNatClampNeg), (0, .ref 0)]) (st1 := [.int 0]) (H1 := H24) (k1 := 0) (n1 := 0) (by with_unfolding_all rfl)) ?_
      cases e
      exact ex_r (st_iret rfl rfl rfl) s25

set_option maxRecDepth 100000 in
theorem tf92_forget {sL : Nat} {sx : Nat → Int32} {h b N : Nat} {T : List am_C} {a' : xA} {a : xA} {H : am_H} (hS : xS h b T a H) (e : f92_forget N h b a = some a') : am_E sL sx am_cs 92 0 [(0, .ref 3)] [] H none (fun H1 => xS h b T a' H1) := by
  unfold f92_forget at e
  refine ex_s (am_nb (m := 2) (pc1 := 2) (ls1 := [(0, .ref 3)]) (st1 := [.int 0, .ref 3]) (H1 := H) (k1 := 0) (n1 := 0) (by with_unfolding_all rfl)) ?_
  obtain ⟨a1, ha1, e⟩ := xw_some e
  refine xe_put (w := 0) hS rfl rfl (by decide) rfl rfl rfl rfl (fun H2 s3 => ?_)
  have s3 : xS h b T a1 H2 := by rw [ha1]; exact s3
  cases e
  exact ex_r (st_vret rfl rfl) s3

set_option maxRecDepth 100000 in
theorem tf91_empty {sL : Nat} {sx : Nat → Int32} {h b N : Nat} {T : List am_C} {a' : xA} {a : xA} {H : am_H} (hS : xS h b T a H) (e : f91_empty N h b a = some a') : am_E sL sx am_cs 91 0 [(0, .ref 0)] [] H none (fun H1 => xS h b T a' H1) := by
  unfold f91_empty at e
  refine ex_s (am_nb (m := 1) (pc1 := 1) (ls1 := [(0, .ref 0)]) (st1 := [.ref 0]) (H1 := H) (k1 := 0) (n1 := 0) (by with_unfolding_all rfl)) ?_
  refine xe_get (v := .ref 3) hS rfl rfl (by decide) rfl ?_
  obtain ⟨a4, e3, e⟩ := xb1_some e
  refine ex_cv0 (as := []) (rest := []) rfl rfl rfl rfl (hS.obj rfl (by decide)) rfl (by with_unfolding_all rfl) (by with_unfolding_all rfl) (tf92_forget hS e3) (fun H1 s2 => ?_)
  refine ex_s (am_nb (m := 2) (pc1 := 9) (ls1 := [(0, .ref 0)]) (st1 := [.null, .ref 0]) (H1 := H1) (k1 := 0) (n1 := 0) (by with_unfolding_all rfl)) ?_
  obtain ⟨a5, ha5, e⟩ := xw_some e
  refine xe_putN (w := (-1)) s2 rfl rfl (by decide) rfl rfl rfl xfit_o rfl (fun H6 s7 => ?_)
  have s7 : xS h b T a5 H6 := by rw [ha5]; exact s7
  refine ex_s (am_nb (m := 1) (pc1 := 13) (ls1 := [(0, .ref 0)]) (st1 := [.ref 0]) (H1 := H6) (k1 := 0) (n1 := 0) (by with_unfolding_all rfl)) ?_
  obtain ⟨a11, e10, e⟩ := xb1_some e
  refine ex_cv0 (as := []) (rest := []) rfl rfl rfl rfl (s7.obj rfl (by decide)) rfl (by with_unfolding_all rfl) (by with_unfolding_all rfl) (tf75_closeWindows s7 e10) (fun H8 s9 => ?_)
  cases e
  exact ex_r (st_vret rfl rfl) s9

set_option maxRecDepth 100000 in
theorem tf93_ability {sL : Nat} {sx : Nat → Int32} {h b N : Nat} {T : List am_C} {r : Int32} {a' : xA} {a : xA} {H : am_H} (hS : xS h b T a H) (e : f93_ability N h b a = some (r, a')) : am_E sL sx am_cs 93 0 [(0, .ref 0)] [] H (some (.int r)) (fun H1 => xS h b T a' H1) := by
  unfold f93_ability at e
  refine ex_s (am_nb (m := 1) (pc1 := 1) (ls1 := [(0, .ref 0)]) (st1 := [.ref 0]) (H1 := H) (k1 := 0) (n1 := 0) (by with_unfolding_all rfl)) ?_
  refine xe_get (v := .ref 1) hS rfl rfl (by decide) rfl ?_
  refine ex_s (am_nb (m := 2) (pc1 := 6) (ls1 := [(0, .ref 0)]) (st1 := [.ref 0, .int 0, .ref 1]) (H1 := H) (k1 := 0) (n1 := 0) (by with_unfolding_all rfl)) ?_
  refine xe_get (v := .int (a 0 1)) hS rfl rfl (by decide) rfl ?_
  obtain ⟨r4, a5, e3, e⟩ := xb2_some e
  refine ex_cs1 (as := [.ref 1, .int 0, .int (a 0 1)]) (rest := []) rfl (by decide) rfl rfl (by with_unfolding_all rfl) (by with_unfolding_all rfl) (tf44_abilityNamed hS e3) (fun H1 s2 => ?_)
  refine ex_s (am_nb (m := 3) (pc1 := 15) (ls1 := [(1, .int r4), (0, .ref 0)]) (st1 := [.int 0, .ref 0]) (H1 := H1) (k1 := 0) (n1 := 0) (by with_unfolding_all rfl)) ?_
  obtain ⟨a6, ha6, e⟩ := xw_some e
  refine xe_put (w := 0) s2 rfl rfl (by decide) rfl rfl rfl rfl (fun H7 s8 => ?_)
  have s8 : xS h b T a6 H7 := by rw [ha6]; exact s8
  refine ex_s (am_nb (m := 1) (pc1 := 19) (ls1 := [(1, .int r4), (0, .ref 0)]) (st1 := [.ref 0]) (H1 := H7) (k1 := 0) (n1 := 0) (by with_unfolding_all rfl)) ?_
  refine xe_get (v := xN (a6 0 14)) s8 rfl rfl (by decide) rfl ?_
  by_cases c9 : (a6 0 14) = -1
  · have e := (if_pos c9).symm.trans e
    rw [show xN (a6 0 14) = .null from if_pos c9]
    refine ex_s (am_nb (m := 1) (pc1 := 30) (ls1 := [(1, .int r4), (0, .ref 0)]) (st1 := []) (H1 := H7) (k1 := 0) (n1 := 0) (by with_unfolding_all rfl)) ?_
    refine ex_s (am_nb (m := 1) (pc1 := 31) (ls1 := [(1, .int r4), (0, .ref 0)]) (st1 := [.int (-1)]) (H1 := H7) (k1 := 0) (n1 := 0) (by with_unfolding_all rfl)) ?_
    cases e
    exact ex_r (st_iret rfl rfl rfl) s8
  · have e := (if_neg c9).symm.trans e
    rw [show xN (a6 0 14) = .ref ((a6 0 14).toNatClampNeg) from if_neg c9]
    refine ex_s (am_nb (m := 1) (pc1 := 25) (ls1 := [(1, .int r4), (0, .ref 0)]) (st1 := []) (H1 := H7) (k1 := 0) (n1 := 0) (by with_unfolding_all rfl)) ?_
    refine ex_s (am_nb (m := 2) (pc1 := 27) (ls1 := [(1, .int r4), (0, .ref 0)]) (st1 := [.int (-1), .int r4]) (H1 := H7) (k1 := 0) (n1 := 0) (by with_unfolding_all rfl)) ?_
    refine ex_s (st_icmp rfl) ?_
    by_cases c10 : r4 = (-1)
    · have e := (if_pos c10).symm.trans e
      refine ex_pc (if_pos c10) ?_
      refine ex_s (am_nb (m := 1) (pc1 := 31) (ls1 := [(1, .int r4), (0, .ref 0)]) (st1 := [.int (-1)]) (H1 := H7) (k1 := 0) (n1 := 0) (by with_unfolding_all rfl)) ?_
      cases e
      exact ex_r (st_iret rfl rfl rfl) s8
    · have e := (if_neg c10).symm.trans e
      refine ex_pc (if_neg c10) ?_
      refine ex_s (am_nb (m := 2) (pc1 := 34) (ls1 := [(1, .int r4), (0, .ref 0)]) (st1 := [.int 3, .int r4]) (H1 := H7) (k1 := 0) (n1 := 0) (by with_unfolding_all rfl)) ?_
      refine ex_s (st_icmp rfl) ?_
      by_cases c11 : 3 ≤ r4
      · have e := (if_pos c11).symm.trans e
        refine ex_pc (if_pos c11) ?_
        refine ex_s (am_nb (m := 1) (pc1 := 55) (ls1 := [(1, .int r4), (0, .ref 0)]) (st1 := [.ref 0]) (H1 := H7) (k1 := 0) (n1 := 0) (by with_unfolding_all rfl)) ?_
        refine xe_get (v := xN (a6 0 14)) s8 rfl rfl (by decide) rfl ?_
        refine ex_s (am_nb (m := 1) (pc1 := 59) (ls1 := [(1, .int r4), (0, .ref 0)]) (st1 := [.int r4, xN (a6 0 14)]) (H1 := H7) (k1 := 0) (n1 := 0) (by first | with_unfolding_all rfl | (unfold xN; (repeat' split) <;> with_unfolding_all rfl))) ?_
        rw [show xN (a6 0 14) = .ref ((a6 0 14).toNatClampNeg) from if_neg c9]
        obtain ⟨g12, e⟩ := xg_some e
        obtain ⟨r16, a17, e15, e⟩ := xb2_some e
        refine ex_cv1 (as := [.int r4]) (rest := []) rfl rfl rfl rfl (s8.obj g12 (by decide)) rfl (by with_unfolding_all rfl) (by with_unfolding_all rfl) (tf74_has s8 e15) (fun H13 s14 => ?_)
        refine ex_s (st_if rfl) ?_
        by_cases c18 : r16 = 0
        · have e := (if_pos c18).symm.trans e
          refine ex_pc (if_pos c18) ?_
          refine ex_s (am_nb (m := 1) (pc1 := 66) (ls1 := [(1, .int r4), (0, .ref 0)]) (st1 := [.int (-1)]) (H1 := H13) (k1 := 0) (n1 := 0) (by with_unfolding_all rfl)) ?_
          cases e
          exact ex_r (st_iret rfl rfl rfl) s14
        · have e := (if_neg c18).symm.trans e
          refine ex_pc (if_neg c18) ?_
          refine ex_s (am_nb (m := 2) (pc1 := 70) (ls1 := [(1, .int r4), (0, .ref 0)]) (st1 := [.int 6, .int r4]) (H1 := H13) (k1 := 0) (n1 := 0) (by with_unfolding_all rfl)) ?_
          refine ex_s (st_icmp rfl) ?_
          by_cases c19 : 6 ≤ r4
          · have e := (if_pos c19).symm.trans e
            refine ex_pc (if_pos c19) ?_
            refine ex_s (am_nb (m := 1) (pc1 := 83) (ls1 := [(1, .int r4), (0, .ref 0)]) (st1 := [.ref 0]) (H1 := H13) (k1 := 0) (n1 := 0) (by with_unfolding_all rfl)) ?_
            refine xe_get (v := xN (a17 0 14)) s14 rfl rfl (by decide) rfl ?_
            refine ex_s (am_nb (m := 1) (pc1 := 87) (ls1 := [(1, .int r4), (0, .ref 0)]) (st1 := [.int r4, xN (a17 0 14)]) (H1 := H13) (k1 := 0) (n1 := 0) (by first | with_unfolding_all rfl | (unfold xN; (repeat' split) <;> with_unfolding_all rfl))) ?_
            obtain ⟨g20, e⟩ := xg_some e
            rw [show xN (a17 0 14) = .ref ((a17 0 14).toNatClampNeg) from if_neg g20]
            obtain ⟨g21, e⟩ := xg_some e
            obtain ⟨r25, a26, e24, e⟩ := xb2_some e
            refine ex_cv1 (as := [.int r4]) (rest := []) rfl rfl rfl rfl (s14.obj g21 (by decide)) rfl (by with_unfolding_all rfl) (by with_unfolding_all rfl) (tf65_lengthOf s14 e24) (fun H22 s23 => ?_)
            refine ex_s (am_nb (m := 2) (pc1 := 92) (ls1 := [(2, .int r25), (1, .int r4), (0, .ref 0)]) (st1 := [.ref 0]) (H1 := H22) (k1 := 0) (n1 := 0) (by with_unfolding_all rfl)) ?_
            refine xe_get (v := xN (a26 0 14)) s23 rfl rfl (by decide) rfl ?_
            obtain ⟨g27, e⟩ := xg_some e
            rw [show xN (a26 0 14) = .ref ((a26 0 14).toNatClampNeg) from if_neg g27]
            obtain ⟨g28, e⟩ := xg_some e
            refine xe_get (v := .ref ((a26 0 14).toNatClampNeg + 5)) s23 rfl g28 (by decide) rfl ?_
            refine ex_s (am_nb (m := 1) (pc1 := 99) (ls1 := [(2, .int r25), (1, .int r4), (0, .ref 0)]) (st1 := [.int r4, .ref ((a26 0 14).toNatClampNeg + 5)]) (H1 := H22) (k1 := 0) (n1 := 0) (by first | with_unfolding_all rfl | (unfold xN; (repeat' split) <;> with_unfolding_all rfl))) ?_
            obtain ⟨r32, a33, e31, e⟩ := xb2_some e
            refine ex_cs1 (as := [.int r4]) (rest := [.ref ((a26 0 14).toNatClampNeg + 5)]) rfl (by decide) rfl rfl (by with_unfolding_all rfl) (by with_unfolding_all rfl) (tf60_startOf s23 e31) (fun H29 s30 => ?_)
            refine ex_s (am_nb (m := 1) (pc1 := 103) (ls1 := [(2, .int r25), (1, .int r4), (0, .ref 0)]) (st1 := [.ref 0, .int r32, .ref ((a26 0 14).toNatClampNeg + 5)]) (H1 := H29) (k1 := 0) (n1 := 0) (by with_unfolding_all rfl)) ?_
            refine xe_get (v := .ref 2) s30 rfl rfl (by decide) rfl ?_
            refine ex_s (am_nb (m := 2) (pc1 := 108) (ls1 := [(2, .int r25), (1, .int r4), (0, .ref 0)]) (st1 := [.int r25, .int 0, .ref 2, .int r32, .ref ((a26 0 14).toNatClampNeg + 5)]) (H1 := H29) (k1 := 0) (n1 := 0) (by with_unfolding_all rfl)) ?_
            obtain ⟨g34, e⟩ := xg_some e
            obtain ⟨a35, ha35, e⟩ := xw_some e
            refine xe_copy s30 rfl (xd_2_5 g28) rfl g34 (by decide) (fun H36 s37 => ?_)
            have s37 : xS h b T a35 H36 := by rw [ha35]; exact s37
            refine ex_s (am_nb (m := 2) (pc1 := 113) (ls1 := [(2, .int r25), (1, .int r4), (0, .ref 0)]) (st1 := [.int r25, .ref 0]) (H1 := H36) (k1 := 0) (n1 := 0) (by with_unfolding_all rfl)) ?_
            obtain ⟨a38, ha38, e⟩ := xw_some e
            refine xe_put (w := r25) s37 rfl rfl (by decide) rfl rfl rfl rfl (fun H39 s40 => ?_)
            have s40 : xS h b T a38 H39 := by rw [ha38]; exact s40
            refine ex_s (am_nb (m := 1) (pc1 := 117) (ls1 := [(2, .int r25), (1, .int r4), (0, .ref 0)]) (st1 := [.int r25]) (H1 := H39) (k1 := 0) (n1 := 0) (by with_unfolding_all rfl)) ?_
            cases e
            exact ex_r (st_iret rfl rfl rfl) s40
          · have e := (if_neg c19).symm.trans e
            refine ex_pc (if_neg c19) ?_
            refine ex_s (am_nb (m := 1) (pc1 := 74) (ls1 := [(1, .int r4), (0, .ref 0)]) (st1 := [.ref 0]) (H1 := H13) (k1 := 0) (n1 := 0) (by with_unfolding_all rfl)) ?_
            refine xe_get (v := xN (a17 0 14)) s14 rfl rfl (by decide) rfl ?_
            refine ex_s (am_nb (m := 1) (pc1 := 78) (ls1 := [(1, .int r4), (0, .ref 0)]) (st1 := [.int r4, xN (a17 0 14)]) (H1 := H13) (k1 := 0) (n1 := 0) (by first | with_unfolding_all rfl | (unfold xN; (repeat' split) <;> with_unfolding_all rfl))) ?_
            obtain ⟨g41, e⟩ := xg_some e
            rw [show xN (a17 0 14) = .ref ((a17 0 14).toNatClampNeg) from if_neg g41]
            obtain ⟨g42, e⟩ := xg_some e
            obtain ⟨r46, a47, e45, e⟩ := xb2_some e
            refine ex_cv1 (as := [.int r4]) (rest := []) rfl rfl rfl rfl (s14.obj g42 (by decide)) rfl (by with_unfolding_all rfl) (by with_unfolding_all rfl) (tf77_number s14 e45) (fun H43 s44 => ?_)
            cases e
            exact ex_r (st_iret rfl rfl rfl) s44
      · have e := (if_neg c11).symm.trans e
        refine ex_pc (if_neg c11) ?_
        refine ex_s (am_nb (m := 1) (pc1 := 38) (ls1 := [(1, .int r4), (0, .ref 0)]) (st1 := [.ref 0]) (H1 := H7) (k1 := 0) (n1 := 0) (by with_unfolding_all rfl)) ?_
        refine xe_get (v := xN (a6 0 14)) s8 rfl rfl (by decide) rfl ?_
        refine ex_s (am_nb (m := 1) (pc1 := 42) (ls1 := [(1, .int r4), (0, .ref 0)]) (st1 := [.int r4, xN (a6 0 14)]) (H1 := H7) (k1 := 0) (n1 := 0) (by first | with_unfolding_all rfl | (unfold xN; (repeat' split) <;> with_unfolding_all rfl))) ?_
        rw [show xN (a6 0 14) = .ref ((a6 0 14).toNatClampNeg) from if_neg c9]
        obtain ⟨g48, e⟩ := xg_some e
        obtain ⟨r52, a53, e51, e⟩ := xb2_some e
        refine ex_cv1 (as := [.int r4]) (rest := []) rfl rfl rfl rfl (s8.obj g48 (by decide)) rfl (by with_unfolding_all rfl) (by with_unfolding_all rfl) (tf74_has s8 e51) (fun H49 s50 => ?_)
        have kk : am_E sL sx am_cs 93 53 [(1, .int r4), (0, .ref 0)] [.int (if r52 = 0 then (0 : Int32) else (1 : Int32))] H49 (some (.int r)) (fun H1 => xS h b T a' H1) := by
          cases e
          exact ex_r (st_iret rfl rfl rfl) s50
        refine ex_s (st_if rfl) ?_
        by_cases c54 : r52 = 0
        · refine ex_pc (if_pos c54) ?_
          refine ex_s (am_nb (m := 1) (pc1 := 53) (ls1 := [(1, .int r4), (0, .ref 0)]) (st1 := [.int 0]) (H1 := H49) (k1 := 0) (n1 := 0) (by with_unfolding_all rfl)) ?_
          rw [if_pos c54] at kk
          exact kk
        · refine ex_pc (if_neg c54) ?_
          refine ex_s (am_nb (m := 2) (pc1 := 53) (ls1 := [(1, .int r4), (0, .ref 0)]) (st1 := [.int 1]) (H1 := H49) (k1 := 0) (n1 := 0) (by with_unfolding_all rfl)) ?_
          rw [if_neg c54] at kk
          exact kk

set_option maxRecDepth 100000 in
theorem tf94_expand {sL : Nat} {sx : Nat → Int32} {h b N : Nat} {T : List am_C} {r : Int32} {a' : xA} {x0 : Int32} {x1 : Int32} {x2 : Int32} {x3 : Int32} {a : xA} {H : am_H} (hS : xS h b T a H) (e : f94_expand N h b x0 x1 x2 x3 a = some (r, a')) : am_E sL sx am_cs 94 0 [(0, .ref 0), (1, .int x0), (2, .int x1), (3, .int x2), (4, .int x3)] [] H (some (.int r)) (fun H1 => xS h b T a' H1) := by
  unfold f94_expand at e
  refine ex_s (am_nb (m := 1) (pc1 := 1) (ls1 := [(0, .ref 0), (1, .int x0), (2, .int x1), (3, .int x2), (4, .int x3)]) (st1 := [.ref 0]) (H1 := H) (k1 := 0) (n1 := 0) (by with_unfolding_all rfl)) ?_
  refine xe_get (v := .ref 1) hS rfl rfl (by decide) rfl ?_
  refine ex_s (am_nb (m := 2) (pc1 := 6) (ls1 := [(0, .ref 0), (1, .int x0), (2, .int x1), (3, .int x2), (4, .int x3)]) (st1 := [.ref 0, .int 0, .ref 1]) (H1 := H) (k1 := 0) (n1 := 0) (by with_unfolding_all rfl)) ?_
  refine xe_get (v := .int (a 0 1)) hS rfl rfl (by decide) rfl ?_
  obtain ⟨r4, a5, e3, e⟩ := xb2_some e
  refine ex_cs1 (as := [.ref 1, .int 0, .int (a 0 1)]) (rest := []) rfl (by decide) rfl rfl (by with_unfolding_all rfl) (by with_unfolding_all rfl) (tf44_abilityNamed hS e3) (fun H1 s2 => ?_)
  refine ex_s (am_nb (m := 3) (pc1 := 16) (ls1 := [(5, .int r4), (0, .ref 0), (1, .int x0), (2, .int x1), (3, .int x2), (4, .int x3)]) (st1 := [.int 0, .ref 0]) (H1 := H1) (k1 := 0) (n1 := 0) (by with_unfolding_all rfl)) ?_
  obtain ⟨a6, ha6, e⟩ := xw_some e
  refine xe_put (w := 0) s2 rfl rfl (by decide) rfl rfl rfl rfl (fun H7 s8 => ?_)
  have s8 : xS h b T a6 H7 := by rw [ha6]; exact s8
  refine ex_s (am_nb (m := 1) (pc1 := 20) (ls1 := [(5, .int r4), (0, .ref 0), (1, .int x0), (2, .int x1), (3, .int x2), (4, .int x3)]) (st1 := [.ref 0]) (H1 := H7) (k1 := 0) (n1 := 0) (by with_unfolding_all rfl)) ?_
  refine xe_get (v := xN (a6 0 14)) s8 rfl rfl (by decide) rfl ?_
  by_cases c9 : (a6 0 14) = -1
  · have e := (if_pos c9).symm.trans e
    rw [show xN (a6 0 14) = .null from if_pos c9]
    refine ex_s (am_nb (m := 1) (pc1 := 45) (ls1 := [(5, .int r4), (0, .ref 0), (1, .int x0), (2, .int x1), (3, .int x2), (4, .int x3)]) (st1 := []) (H1 := H7) (k1 := 0) (n1 := 0) (by with_unfolding_all rfl)) ?_
    refine ex_s (am_nb (m := 1) (pc1 := 46) (ls1 := [(5, .int r4), (0, .ref 0), (1, .int x0), (2, .int x1), (3, .int x2), (4, .int x3)]) (st1 := [.int (-1)]) (H1 := H7) (k1 := 0) (n1 := 0) (by with_unfolding_all rfl)) ?_
    cases e
    exact ex_r (st_iret rfl rfl rfl) s8
  · have e := (if_neg c9).symm.trans e
    rw [show xN (a6 0 14) = .ref ((a6 0 14).toNatClampNeg) from if_neg c9]
    refine ex_s (am_nb (m := 1) (pc1 := 26) (ls1 := [(5, .int r4), (0, .ref 0), (1, .int x0), (2, .int x1), (3, .int x2), (4, .int x3)]) (st1 := []) (H1 := H7) (k1 := 0) (n1 := 0) (by with_unfolding_all rfl)) ?_
    refine ex_s (am_nb (m := 2) (pc1 := 30) (ls1 := [(5, .int r4), (0, .ref 0), (1, .int x0), (2, .int x1), (3, .int x2), (4, .int x3)]) (st1 := [.int 6, .int r4]) (H1 := H7) (k1 := 0) (n1 := 0) (by with_unfolding_all rfl)) ?_
    refine ex_s (st_icmp rfl) ?_
    by_cases c11 : r4 < 6
    · have e := (if_pos c11).symm.trans e
      refine ex_pc (if_pos c11) ?_
      refine ex_s (am_nb (m := 1) (pc1 := 46) (ls1 := [(5, .int r4), (0, .ref 0), (1, .int x0), (2, .int x1), (3, .int x2), (4, .int x3)]) (st1 := [.int (-1)]) (H1 := H7) (k1 := 0) (n1 := 0) (by with_unfolding_all rfl)) ?_
      cases e
      exact ex_r (st_iret rfl rfl rfl) s8
    · have e := (if_neg c11).symm.trans e
      refine ex_pc (if_neg c11) ?_
      refine ex_s (am_nb (m := 1) (pc1 := 34) (ls1 := [(5, .int r4), (0, .ref 0), (1, .int x0), (2, .int x1), (3, .int x2), (4, .int x3)]) (st1 := [.ref 0]) (H1 := H7) (k1 := 0) (n1 := 0) (by with_unfolding_all rfl)) ?_
      refine xe_get (v := xN (a6 0 14)) s8 rfl rfl (by decide) rfl ?_
      refine ex_s (am_nb (m := 1) (pc1 := 39) (ls1 := [(5, .int r4), (0, .ref 0), (1, .int x0), (2, .int x1), (3, .int x2), (4, .int x3)]) (st1 := [.int r4, xN (a6 0 14)]) (H1 := H7) (k1 := 0) (n1 := 0) (by first | with_unfolding_all rfl | (unfold xN; (repeat' split) <;> with_unfolding_all rfl))) ?_
      rw [show xN (a6 0 14) = .ref ((a6 0 14).toNatClampNeg) from if_neg c9]
      obtain ⟨g12, e⟩ := xg_some e
      obtain ⟨r16, a17, e15, e⟩ := xb2_some e
      refine ex_cv1 (as := [.int r4]) (rest := []) rfl rfl rfl rfl (s8.obj g12 (by decide)) rfl (by with_unfolding_all rfl) (by with_unfolding_all rfl) (tf74_has s8 e15) (fun H13 s14 => ?_)
      refine ex_s (st_if rfl) ?_
      by_cases c18 : r16 = 0
      · have e := (if_pos c18).symm.trans e
        refine ex_pc (if_pos c18) ?_
        refine ex_s (am_nb (m := 1) (pc1 := 46) (ls1 := [(5, .int r4), (0, .ref 0), (1, .int x0), (2, .int x1), (3, .int x2), (4, .int x3)]) (st1 := [.int (-1)]) (H1 := H13) (k1 := 0) (n1 := 0) (by with_unfolding_all rfl)) ?_
        cases e
        exact ex_r (st_iret rfl rfl rfl) s14
      · have e := (if_neg c18).symm.trans e
        refine ex_pc (if_neg c18) ?_
        refine ex_s (am_nb (m := 1) (pc1 := 48) (ls1 := [(5, .int r4), (0, .ref 0), (1, .int x0), (2, .int x1), (3, .int x2), (4, .int x3)]) (st1 := [.ref 0]) (H1 := H13) (k1 := 0) (n1 := 0) (by with_unfolding_all rfl)) ?_
        refine xe_get (v := .ref 93) s14 rfl rfl (by decide) rfl ?_
        refine ex_s (am_nb (m := 4) (pc1 := 56) (ls1 := [(5, .int r4), (0, .ref 0), (1, .int x0), (2, .int x1), (3, .int x2), (4, .int x3)]) (st1 := [.int x3, .int x2, .int x1, .int x0, .ref 93]) (H1 := H13) (k1 := 0) (n1 := 0) (by with_unfolding_all rfl)) ?_
        obtain ⟨a22, e21, e⟩ := xb1_some e
        refine ex_cv0 (as := [.int x0, .int x1, .int x2, .int x3]) (rest := []) rfl rfl rfl rfl (s14.obj rfl (by decide)) rfl (by with_unfolding_all rfl) (by with_unfolding_all rfl) (tf81_setParameters s14 e21) (fun H19 s20 => ?_)
        refine ex_s (am_nb (m := 2) (pc1 := 61) (ls1 := [(5, .int r4), (0, .ref 0), (1, .int x0), (2, .int x1), (3, .int x2), (4, .int x3)]) (st1 := [.ref 0, .ref 0]) (H1 := H19) (k1 := 0) (n1 := 0) (by with_unfolding_all rfl)) ?_
        refine xe_get (v := .ref 93) s20 rfl rfl (by decide) rfl ?_
        refine ex_s (am_nb (m := 1) (pc1 := 65) (ls1 := [(5, .int r4), (0, .ref 0), (1, .int x0), (2, .int x1), (3, .int x2), (4, .int x3)]) (st1 := [.ref 0, .ref 93, .ref 0]) (H1 := H19) (k1 := 0) (n1 := 0) (by with_unfolding_all rfl)) ?_
        refine xe_get (v := xN (a22 0 14)) s20 rfl rfl (by decide) rfl ?_
        refine ex_s (am_nb (m := 1) (pc1 := 70) (ls1 := [(5, .int r4), (0, .ref 0), (1, .int x0), (2, .int x1), (3, .int x2), (4, .int x3)]) (st1 := [.int r4, xN (a22 0 14), .ref 93, .ref 0]) (H1 := H19) (k1 := 0) (n1 := 0) (by first | with_unfolding_all rfl | (unfold xN; (repeat' split) <;> with_unfolding_all rfl))) ?_
        obtain ⟨g23, e⟩ := xg_some e
        rw [show xN (a22 0 14) = .ref ((a22 0 14).toNatClampNeg) from if_neg g23]
        obtain ⟨r27, a28, e26, e⟩ := xb2_some e
        refine ex_cv1 (as := [.ref ((a22 0 14).toNatClampNeg), .int r4]) (rest := [.ref 0]) rfl rfl rfl rfl (s20.obj rfl (by decide)) rfl (by with_unfolding_all rfl) (by with_unfolding_all rfl) (tf82_putTogether s20 e26) (fun H24 s25 => ?_)
        obtain ⟨a29, ha29, e⟩ := xw_some e
        refine xe_put (w := r27) s25 rfl rfl (by decide) rfl rfl rfl rfl (fun H30 s31 => ?_)
        have s31 : xS h b T a29 H30 := by rw [ha29]; exact s31
        refine ex_s (am_nb (m := 1) (pc1 := 77) (ls1 := [(5, .int r4), (0, .ref 0), (1, .int x0), (2, .int x1), (3, .int x2), (4, .int x3)]) (st1 := [.ref 0]) (H1 := H30) (k1 := 0) (n1 := 0) (by with_unfolding_all rfl)) ?_
        refine xe_get (v := .ref 93) s31 rfl rfl (by decide) rfl ?_
        refine xe_get (v := .ref 96) s31 rfl rfl (by decide) rfl ?_
        refine ex_s (am_nb (m := 2) (pc1 := 85) (ls1 := [(5, .int r4), (0, .ref 0), (1, .int x0), (2, .int x1), (3, .int x2), (4, .int x3)]) (st1 := [.ref 0, .int 0, .ref 96]) (H1 := H30) (k1 := 0) (n1 := 0) (by with_unfolding_all rfl)) ?_
        refine xe_get (v := .ref 2) s31 rfl rfl (by decide) rfl ?_
        refine ex_s (am_nb (m := 2) (pc1 := 90) (ls1 := [(5, .int r4), (0, .ref 0), (1, .int x0), (2, .int x1), (3, .int x2), (4, .int x3)]) (st1 := [.ref 0, .int 0, .ref 2, .int 0, .ref 96]) (H1 := H30) (k1 := 0) (n1 := 0) (by with_unfolding_all rfl)) ?_
        refine xe_get (v := .int (a29 0 3)) s31 rfl rfl (by decide) rfl ?_
        obtain ⟨g32, e⟩ := xg_some e
        obtain ⟨a33, ha33, e⟩ := xw_some e
        refine xe_copy s31 rfl rfl rfl g32 (by decide) (fun H34 s35 => ?_)
        have s35 : xS h b T a33 H34 := by rw [ha33]; exact s35
        refine ex_s (am_nb (m := 1) (pc1 := 97) (ls1 := [(5, .int r4), (0, .ref 0), (1, .int x0), (2, .int x1), (3, .int x2), (4, .int x3)]) (st1 := [.ref 0]) (H1 := H34) (k1 := 0) (n1 := 0) (by with_unfolding_all rfl)) ?_
        refine xe_get (v := .int (a33 0 3)) s35 rfl rfl (by decide) rfl ?_
        cases e
        exact ex_r (st_iret rfl rfl rfl) s35

set_option maxRecDepth 100000 in
theorem tf96_wouldHold {sL : Nat} {sx : Nat → Int32} {h b N : Nat} {T : List am_C} {r : Int32} {a' : xA} {o : Nat} {x0 : Int32} {x1 : Int32} {x2 : Int32} {x3 : Int32} {a : xA} {H : am_H} (hS : xS h b T a H) (e : f96_wouldHold N h b o x0 x1 x2 x3 a = some (r, a')) : am_E sL sx am_cs 96 0 [(0, .ref o), (1, .int x0), (2, .int x1), (3, .int x2), (4, .int x3)] [] H (some (.int r)) (fun H1 => xS h b T a' H1) := by
  unfold f96_wouldHold at e
  obtain ⟨g1, e⟩ := xg_some e
  refine ex_s (am_nb (m := 2) (pc1 := 2) (ls1 := [(0, .ref o), (1, .int x0), (2, .int x1), (3, .int x2), (4, .int x3)]) (st1 := [.int 1, .int x2]) (H1 := H) (k1 := 0) (n1 := 0) (by with_unfolding_all rfl)) ?_
  refine ex_s (st_icmp rfl) ?_
  by_cases c10 : x2 < 1
  · have e := (if_pos c10).symm.trans e
    refine ex_pc (if_pos c10) ?_
    refine ex_s (am_nb (m := 1) (pc1 := 62) (ls1 := [(0, .ref o), (1, .int x0), (2, .int x1), (3, .int x2), (4, .int x3)]) (st1 := [.int 0]) (H1 := H) (k1 := 0) (n1 := 0) (by with_unfolding_all rfl)) ?_
    cases e
    exact ex_r (st_iret rfl rfl rfl) hS
  · have e := (if_neg c10).symm.trans e
    refine ex_pc (if_neg c10) ?_
    refine ex_s (am_nb (m := 2) (pc1 := 8) (ls1 := [(0, .ref o), (1, .int x0), (2, .int x1), (3, .int x2), (4, .int x3)]) (st1 := [.int 1, .int x3]) (H1 := H) (k1 := 0) (n1 := 0) (by with_unfolding_all rfl)) ?_
    refine ex_s (st_icmp rfl) ?_
    by_cases c18 : x3 < 1
    · have e := (if_pos c18).symm.trans e
      refine ex_pc (if_pos c18) ?_
      refine ex_s (am_nb (m := 1) (pc1 := 62) (ls1 := [(0, .ref o), (1, .int x0), (2, .int x1), (3, .int x2), (4, .int x3)]) (st1 := [.int 0]) (H1 := H) (k1 := 0) (n1 := 0) (by with_unfolding_all rfl)) ?_
      cases e
      exact ex_r (st_iret rfl rfl rfl) hS
    · have e := (if_neg c18).symm.trans e
      refine ex_pc (if_neg c18) ?_
      refine ex_s (am_nb (m := 2) (pc1 := 13) (ls1 := [(0, .ref o), (1, .int x0), (2, .int x1), (3, .int x2), (4, .int x3)]) (st1 := [.ref o, .int x2]) (H1 := H) (k1 := 0) (n1 := 0) (by with_unfolding_all rfl)) ?_
      refine xe_get (v := .int (a o 4)) hS rfl g1 (by decide) rfl ?_
      refine ex_s (st_icmp rfl) ?_
      by_cases c25 : (a o 4) < x2
      · have e := (if_pos c25).symm.trans e
        refine ex_pc (if_pos c25) ?_
        refine ex_s (am_nb (m := 1) (pc1 := 62) (ls1 := [(0, .ref o), (1, .int x0), (2, .int x1), (3, .int x2), (4, .int x3)]) (st1 := [.int 0]) (H1 := H) (k1 := 0) (n1 := 0) (by with_unfolding_all rfl)) ?_
        cases e
        exact ex_r (st_iret rfl rfl rfl) hS
      · have e := (if_neg c25).symm.trans e
        refine ex_pc (if_neg c25) ?_
        refine ex_s (am_nb (m := 2) (pc1 := 22) (ls1 := [(0, .ref o), (1, .int x0), (2, .int x1), (3, .int x2), (4, .int x3)]) (st1 := [.ref o, .int x3]) (H1 := H) (k1 := 0) (n1 := 0) (by with_unfolding_all rfl)) ?_
        refine xe_get (v := .int (a o 5)) hS rfl g1 (by decide) rfl ?_
        refine ex_s (st_icmp rfl) ?_
        by_cases c31 : (a o 5) < x3
        · have e := (if_pos c31).symm.trans e
          refine ex_pc (if_pos c31) ?_
          refine ex_s (am_nb (m := 1) (pc1 := 62) (ls1 := [(0, .ref o), (1, .int x0), (2, .int x1), (3, .int x2), (4, .int x3)]) (st1 := [.int 0]) (H1 := H) (k1 := 0) (n1 := 0) (by with_unfolding_all rfl)) ?_
          cases e
          exact ex_r (st_iret rfl rfl rfl) hS
        · have e := (if_neg c31).symm.trans e
          refine ex_pc (if_neg c31) ?_
          refine ex_s (am_nb (m := 1) (pc1 := 29) (ls1 := [(0, .ref o), (1, .int x0), (2, .int x1), (3, .int x2), (4, .int x3)]) (st1 := [.int x0]) (H1 := H) (k1 := 0) (n1 := 0) (by with_unfolding_all rfl)) ?_
          refine ex_s (st_if rfl) ?_
          by_cases c36 : x0 < 0
          · have e := (if_pos c36).symm.trans e
            refine ex_pc (if_pos c36) ?_
            refine ex_s (am_nb (m := 1) (pc1 := 62) (ls1 := [(0, .ref o), (1, .int x0), (2, .int x1), (3, .int x2), (4, .int x3)]) (st1 := [.int 0]) (H1 := H) (k1 := 0) (n1 := 0) (by with_unfolding_all rfl)) ?_
            cases e
            exact ex_r (st_iret rfl rfl rfl) hS
          · have e := (if_neg c36).symm.trans e
            refine ex_pc (if_neg c36) ?_
            refine ex_s (am_nb (m := 1) (pc1 := 33) (ls1 := [(0, .ref o), (1, .int x0), (2, .int x1), (3, .int x2), (4, .int x3)]) (st1 := [.int x1]) (H1 := H) (k1 := 0) (n1 := 0) (by with_unfolding_all rfl)) ?_
            refine ex_s (st_if rfl) ?_
            by_cases c40 : x1 < 0
            · have e := (if_pos c40).symm.trans e
              refine ex_pc (if_pos c40) ?_
              refine ex_s (am_nb (m := 1) (pc1 := 62) (ls1 := [(0, .ref o), (1, .int x0), (2, .int x1), (3, .int x2), (4, .int x3)]) (st1 := [.int 0]) (H1 := H) (k1 := 0) (n1 := 0) (by with_unfolding_all rfl)) ?_
              cases e
              exact ex_r (st_iret rfl rfl rfl) hS
            · have e := (if_neg c40).symm.trans e
              refine ex_pc (if_neg c40) ?_
              refine ex_s (am_nb (m := 2) (pc1 := 38) (ls1 := [(0, .ref o), (1, .int x0), (2, .int x1), (3, .int x2), (4, .int x3)]) (st1 := [.ref o, .int x0]) (H1 := H) (k1 := 0) (n1 := 0) (by with_unfolding_all rfl)) ?_
              refine xe_get (v := .int (a o 4)) hS rfl g1 (by decide) rfl ?_
              refine ex_s (am_nb (m := 2) (pc1 := 43) (ls1 := [(0, .ref o), (1, .int x0), (2, .int x1), (3, .int x2), (4, .int x3)]) (st1 := [.int ((a o 4) - x2), .int x0]) (H1 := H) (k1 := 0) (n1 := 0) (by with_unfolding_all rfl)) ?_
              refine ex_s (st_icmp rfl) ?_
              by_cases c43 : ((a o 4) - x2) < x0
              · have e := (if_pos c43).symm.trans e
                refine ex_pc (if_pos c43) ?_
                refine ex_s (am_nb (m := 1) (pc1 := 62) (ls1 := [(0, .ref o), (1, .int x0), (2, .int x1), (3, .int x2), (4, .int x3)]) (st1 := [.int 0]) (H1 := H) (k1 := 0) (n1 := 0) (by with_unfolding_all rfl)) ?_
                cases e
                exact ex_r (st_iret rfl rfl rfl) hS
              · have e := (if_neg c43).symm.trans e
                refine ex_pc (if_neg c43) ?_
                refine ex_s (am_nb (m := 2) (pc1 := 48) (ls1 := [(0, .ref o), (1, .int x0), (2, .int x1), (3, .int x2), (4, .int x3)]) (st1 := [.ref o, .int x1]) (H1 := H) (k1 := 0) (n1 := 0) (by with_unfolding_all rfl)) ?_
                refine xe_get (v := .int (a o 5)) hS rfl g1 (by decide) rfl ?_
                refine ex_s (am_nb (m := 2) (pc1 := 54) (ls1 := [(0, .ref o), (1, .int x0), (2, .int x1), (3, .int x2), (4, .int x3)]) (st1 := [.int ((a o 5) - x3), .int x1]) (H1 := H) (k1 := 0) (n1 := 0) (by with_unfolding_all rfl)) ?_
                have kk : am_E sL sx am_cs 96 62 [(0, .ref o), (1, .int x0), (2, .int x1), (3, .int x2), (4, .int x3)] [.int (if ((a o 5) - x3) < x1 then (0 : Int32) else (1 : Int32))] H (some (.int r)) (fun H1 => xS h b T a' H1) := by
                  obtain ⟨g45, e⟩ := xg_some e
                  cases e
                  exact ex_r (st_iret rfl rfl (xnar_z g45)) hS
                refine ex_s (st_icmp rfl) ?_
                by_cases c44 : ((a o 5) - x3) < x1
                · refine ex_pc (if_pos c44) ?_
                  refine ex_s (am_nb (m := 1) (pc1 := 62) (ls1 := [(0, .ref o), (1, .int x0), (2, .int x1), (3, .int x2), (4, .int x3)]) (st1 := [.int 0]) (H1 := H) (k1 := 0) (n1 := 0) (by with_unfolding_all rfl)) ?_
                  rw [if_pos c44] at kk
                  exact kk
                · refine ex_pc (if_neg c44) ?_
                  refine ex_s (am_nb (m := 2) (pc1 := 62) (ls1 := [(0, .ref o), (1, .int x0), (2, .int x1), (3, .int x2), (4, .int x3)]) (st1 := [.int 1]) (H1 := H) (k1 := 0) (n1 := 0) (by with_unfolding_all rfl)) ?_
                  rw [if_neg c44] at kk
                  exact kk

set_option maxRecDepth 100000 in
theorem tl95_30 {sL : Nat} {sx : Nat → Int32} {h b N : Nat} {T : List am_C} {R : Option Value} {F : am_H → Prop} {w1 : Int32} {w2 : Int32} {w3 : Int32} {w4 : Int32} {z : Nat × Int32 × xA} (k0 : z.1 = 0 → ∀ H2 : am_H, xS h b T z.2.2 H2 → am_E sL sx am_cs 95 50 [(0, .ref 0), (1, .int w1), (2, .int w2), (3, .int w3), (4, .int w4), (5, .int z.2.1)] [] H2 R F) (k1 : z.1 = 1 → ∀ H2 : am_H, xS h b T z.2.2 H2 → am_E sL sx am_cs 95 74 [] [] H2 R F) : ∀ (n : Nat) (v5 : Int32) (a : xA) (H : am_H), xS h b T a H → l95_30 N h b w1 w2 w3 w4 n v5 a = some z → am_E sL sx am_cs 95 30 [(0, .ref 0), (1, .int w1), (2, .int w2), (3, .int w3), (4, .int w4), (5, .int v5)] [] H R F := by
  intro n
  induction n with
  | zero =>
    intro v5 a H hS e
    cases e
  | succ n ih =>
    intro v5 a H hS e
    unfold l95_30 at e
    refine ex_s (am_nb (m := 2) (pc1 := 34) (ls1 := [(0, .ref 0), (1, .int w1), (2, .int w2), (3, .int w3), (4, .int w4), (5, .int v5)]) (st1 := [.int 8, .int v5]) (H1 := H) (k1 := 0) (n1 := 0) (by with_unfolding_all rfl)) ?_
    refine ex_s (st_icmp rfl) ?_
    by_cases c8 : 8 ≤ v5
    · have e := (if_pos c8).symm.trans e
      refine ex_pc (if_pos c8) ?_
      cases e
      exact le_E (l1 := []) trivial rfl (k1 rfl H hS)
    · have e := (if_neg c8).symm.trans e
      refine ex_pc (if_neg c8) ?_
      refine ex_s (am_nb (m := 1) (pc1 := 38) (ls1 := [(0, .ref 0), (1, .int w1), (2, .int w2), (3, .int w3), (4, .int w4), (5, .int v5)]) (st1 := [.ref 0]) (H1 := H) (k1 := 0) (n1 := 0) (by with_unfolding_all rfl)) ?_
      refine xe_get (v := .ref 115) hS rfl rfl (by decide) rfl ?_
      refine ex_s (am_nb (m := 1) (pc1 := 43) (ls1 := [(0, .ref 0), (1, .int w1), (2, .int w2), (3, .int w3), (4, .int w4), (5, .int v5)]) (st1 := [.int v5, .ref 115]) (H1 := H) (k1 := 0) (n1 := 0) (by with_unfolding_all rfl)) ?_
      obtain ⟨g9, e⟩ := xg_some e
      refine xe_q115 hS rfl g9 ?_
      refine xe_get (v := .int (a (141 + 2 * v5.toNatClampNeg) 1)) hS rfl (xkq115 g9) (by decide) rfl ?_
      refine ex_s (st_if rfl) ?_
      by_cases c10 : (a (141 + 2 * v5.toNatClampNeg) 1) = 0
      · have e := (if_pos c10).symm.trans e
        refine ex_pc (if_pos c10) ?_
        cases e
        exact le_E (l1 := [(0, .ref 0), (1, .int w1), (2, .int w2), (3, .int w3), (4, .int w4), (5, .int v5)]) ⟨rfl, rfl, rfl, rfl, rfl, rfl, trivial⟩ rfl (k0 rfl H hS)
      · have e := (if_neg c10).symm.trans e
        refine ex_pc (if_neg c10) ?_
        refine ex_s (am_nb (m := 2) (pc1 := 30) (ls1 := [(5, .int (v5 + 1)), (0, .ref 0), (1, .int w1), (2, .int w2), (3, .int w3), (4, .int w4)]) (st1 := []) (H1 := H) (k1 := 0) (n1 := 0) (by with_unfolding_all rfl)) ?_
        exact le_E (l1 := [(0, .ref 0), (1, .int w1), (2, .int w2), (3, .int w3), (4, .int w4), (5, .int (v5 + 1))]) ⟨rfl, rfl, rfl, rfl, rfl, rfl, trivial⟩ rfl (ih (v5 + 1) a H hS e)

set_option maxRecDepth 100000 in
theorem tf95_open {sL : Nat} {sx : Nat → Int32} {h b N : Nat} {T : List am_C} {r : Int32} {a' : xA} {x0 : Int32} {x1 : Int32} {x2 : Int32} {x3 : Int32} {a : xA} {H : am_H} (hS : xS h b T a H) (e : f95_open N h b x0 x1 x2 x3 a = some (r, a')) : am_E sL sx am_cs 95 0 [(0, .ref 0), (1, .int x0), (2, .int x1), (3, .int x2), (4, .int x3)] [] H (some (.int r)) (fun H1 => xS h b T a' H1) := by
  unfold f95_open at e
  refine ex_s (am_nb (m := 1) (pc1 := 1) (ls1 := [(0, .ref 0), (1, .int x0), (2, .int x1), (3, .int x2), (4, .int x3)]) (st1 := [.ref 0]) (H1 := H) (k1 := 0) (n1 := 0) (by with_unfolding_all rfl)) ?_
  refine xe_get (v := xN (a 0 14)) hS rfl rfl (by decide) rfl ?_
  by_cases c1 : (a 0 14) = -1
  · have e := (if_pos c1).symm.trans e
    rw [show xN (a 0 14) = .null from if_pos c1]
    refine ex_s (am_nb (m := 1) (pc1 := 25) (ls1 := [(0, .ref 0), (1, .int x0), (2, .int x1), (3, .int x2), (4, .int x3)]) (st1 := []) (H1 := H) (k1 := 0) (n1 := 0) (by with_unfolding_all rfl)) ?_
    refine ex_s (am_nb (m := 1) (pc1 := 26) (ls1 := [(0, .ref 0), (1, .int x0), (2, .int x1), (3, .int x2), (4, .int x3)]) (st1 := [.int (-1)]) (H1 := H) (k1 := 0) (n1 := 0) (by with_unfolding_all rfl)) ?_
    cases e
    exact ex_r (st_iret rfl rfl rfl) hS
  · have e := (if_neg c1).symm.trans e
    rw [show xN (a 0 14) = .ref ((a 0 14).toNatClampNeg) from if_neg c1]
    refine ex_s (am_nb (m := 1) (pc1 := 7) (ls1 := [(0, .ref 0), (1, .int x0), (2, .int x1), (3, .int x2), (4, .int x3)]) (st1 := []) (H1 := H) (k1 := 0) (n1 := 0) (by with_unfolding_all rfl)) ?_
    refine ex_s (am_nb (m := 1) (pc1 := 8) (ls1 := [(0, .ref 0), (1, .int x0), (2, .int x1), (3, .int x2), (4, .int x3)]) (st1 := [.ref 0]) (H1 := H) (k1 := 0) (n1 := 0) (by with_unfolding_all rfl)) ?_
    refine xe_get (v := .ref 97) hS rfl rfl (by decide) rfl ?_
    refine xe_get (v := .ref 98) hS rfl rfl (by decide) rfl ?_
    refine ex_s (am_nb (m := 4) (pc1 := 19) (ls1 := [(0, .ref 0), (1, .int x0), (2, .int x1), (3, .int x2), (4, .int x3)]) (st1 := [.int x3, .int x2, .int x1, .int x0, .ref 98]) (H1 := H) (k1 := 0) (n1 := 0) (by with_unfolding_all rfl)) ?_
    obtain ⟨r5, a6, e4, e⟩ := xb2_some e
    refine ex_cv1 (as := [.int x0, .int x1, .int x2, .int x3]) (rest := []) rfl rfl rfl rfl (hS.obj rfl (by decide)) rfl (by with_unfolding_all rfl) (by with_unfolding_all rfl) (tf96_wouldHold hS e4) (fun H2 s3 => ?_)
    refine ex_s (st_if rfl) ?_
    by_cases c7 : r5 = 0
    · have e := (if_pos c7).symm.trans e
      refine ex_pc (if_pos c7) ?_
      refine ex_s (am_nb (m := 1) (pc1 := 26) (ls1 := [(0, .ref 0), (1, .int x0), (2, .int x1), (3, .int x2), (4, .int x3)]) (st1 := [.int (-1)]) (H1 := H2) (k1 := 0) (n1 := 0) (by with_unfolding_all rfl)) ?_
      cases e
      exact ex_r (st_iret rfl rfl rfl) s3
    · have e := (if_neg c7).symm.trans e
      refine ex_pc (if_neg c7) ?_
      refine ex_s (am_nb (m := 2) (pc1 := 30) (ls1 := [(5, .int 0), (0, .ref 0), (1, .int x0), (2, .int x1), (3, .int x2), (4, .int x3)]) (st1 := []) (H1 := H2) (k1 := 0) (n1 := 0) (by with_unfolding_all rfl)) ?_
      obtain ⟨z11, e12, e⟩ := Option.bind_eq_some_iff.mp e
      refine le_E (l1 := [(0, .ref 0), (1, .int x0), (2, .int x1), (3, .int x2), (4, .int x3), (5, .int 0)]) ⟨rfl, rfl, rfl, rfl, rfl, rfl, trivial⟩ rfl (tl95_30 (z := z11)  (fun uz11_0 Hz110 sz110 => ?_) (fun uz11_1 Hz111 sz111 => ?_) N 0 a6 H2 s3 e12)
      · have e := (if_pos uz11_0).symm.trans e
        refine ex_s (am_nb (m := 1) (pc1 := 51) (ls1 := [(0, .ref 0), (1, .int x0), (2, .int x1), (3, .int x2), (4, .int x3), (5, .int z11.2.1)]) (st1 := [.ref 0]) (H1 := Hz110) (k1 := 0) (n1 := 0) (by with_unfolding_all rfl)) ?_
        refine xe_get (v := .ref 115) sz110 rfl rfl (by decide) rfl ?_
        refine ex_s (am_nb (m := 1) (pc1 := 56) (ls1 := [(0, .ref 0), (1, .int x0), (2, .int x1), (3, .int x2), (4, .int x3), (5, .int z11.2.1)]) (st1 := [.int z11.2.1, .ref 115]) (H1 := Hz110) (k1 := 0) (n1 := 0) (by with_unfolding_all rfl)) ?_
        obtain ⟨g13, e⟩ := xg_some e
        refine xe_q115 sz110 rfl g13 ?_
        refine ex_s (am_nb (m := 4) (pc1 := 62) (ls1 := [(0, .ref 0), (1, .int x0), (2, .int x1), (3, .int x2), (4, .int x3), (5, .int z11.2.1)]) (st1 := [.int x3, .int x2, .int x1, .int x0, .ref (141 + 2 * z11.2.1.toNatClampNeg)]) (H1 := Hz110) (k1 := 0) (n1 := 0) (by with_unfolding_all rfl)) ?_
        obtain ⟨a17, e16, e⟩ := xb1_some e
        refine ex_cv0 (as := [.int x0, .int x1, .int x2, .int x3]) (rest := []) rfl rfl rfl rfl (sz110.obj (xkq115 g13) (by decide)) rfl (by with_unfolding_all rfl) (by with_unfolding_all rfl) (tf78_begin sz110 e16) (fun H14 s15 => ?_)
        refine ex_s (am_nb (m := 1) (pc1 := 67) (ls1 := [(0, .ref 0), (1, .int x0), (2, .int x1), (3, .int x2), (4, .int x3), (5, .int z11.2.1)]) (st1 := [.int z11.2.1]) (H1 := H14) (k1 := 0) (n1 := 0) (by with_unfolding_all rfl)) ?_
        cases e
        exact ex_r (st_iret rfl rfl rfl) s15
      · have e := (if_neg (show ¬ z11.1 = 0 by rw [uz11_1]; decide)).symm.trans e
        refine ex_s (am_nb (m := 1) (pc1 := 75) (ls1 := []) (st1 := [.int (-1)]) (H1 := Hz111) (k1 := 0) (n1 := 0) (by with_unfolding_all rfl)) ?_
        cases e
        exact ex_r (st_iret rfl rfl rfl) sz111

set_option maxRecDepth 100000 in
theorem tf98_openWindow {sL : Nat} {sx : Nat → Int32} {h b N : Nat} {T : List am_C} {r : Int32} {a' : xA} {x0 : Int32} {a : xA} {H : am_H} (hS : xS h b T a H) (e : f98_openWindow N h b x0 a = some (r, a')) : am_E sL sx am_cs 98 0 [(0, .ref 0), (1, .int x0)] [] H (some (xN r)) (fun H1 => xS h b T a' H1) := by
  unfold f98_openWindow at e
  refine ex_s (am_nb (m := 1) (pc1 := 1) (ls1 := [(0, .ref 0), (1, .int x0)]) (st1 := [.int x0]) (H1 := H) (k1 := 0) (n1 := 0) (by with_unfolding_all rfl)) ?_
  refine ex_s (st_if rfl) ?_
  by_cases c3 : x0 < 0
  · have e := (if_pos c3).symm.trans e
    refine ex_pc (if_pos c3) ?_
    refine ex_s (am_nb (m := 1) (pc1 := 23) (ls1 := [(0, .ref 0), (1, .int x0)]) (st1 := [.null]) (H1 := H) (k1 := 0) (n1 := 0) (by with_unfolding_all rfl)) ?_
    cases e
    exact ex_r (st_aret rfl rfl rfl rfl) hS
  · have e := (if_neg c3).symm.trans e
    refine ex_pc (if_neg c3) ?_
    refine ex_s (am_nb (m := 2) (pc1 := 7) (ls1 := [(0, .ref 0), (1, .int x0)]) (st1 := [.int 8, .int x0]) (H1 := H) (k1 := 0) (n1 := 0) (by with_unfolding_all rfl)) ?_
    refine ex_s (st_icmp rfl) ?_
    by_cases c5 : 8 ≤ x0
    · have e := (if_pos c5).symm.trans e
      refine ex_pc (if_pos c5) ?_
      refine ex_s (am_nb (m := 1) (pc1 := 23) (ls1 := [(0, .ref 0), (1, .int x0)]) (st1 := [.null]) (H1 := H) (k1 := 0) (n1 := 0) (by with_unfolding_all rfl)) ?_
      cases e
      exact ex_r (st_aret rfl rfl rfl rfl) hS
    · have e := (if_neg c5).symm.trans e
      refine ex_pc (if_neg c5) ?_
      refine ex_s (am_nb (m := 1) (pc1 := 11) (ls1 := [(0, .ref 0), (1, .int x0)]) (st1 := [.ref 0]) (H1 := H) (k1 := 0) (n1 := 0) (by with_unfolding_all rfl)) ?_
      refine xe_get (v := .ref 115) hS rfl rfl (by decide) rfl ?_
      refine ex_s (am_nb (m := 1) (pc1 := 15) (ls1 := [(0, .ref 0), (1, .int x0)]) (st1 := [.int x0, .ref 115]) (H1 := H) (k1 := 0) (n1 := 0) (by with_unfolding_all rfl)) ?_
      obtain ⟨g6, e⟩ := xg_some e
      refine xe_q115 hS rfl g6 ?_
      refine xe_get (v := .int (a (141 + 2 * x0.toNatClampNeg) 1)) hS rfl (xkq115 g6) (by decide) rfl ?_
      refine ex_s (st_if rfl) ?_
      by_cases c7 : (a (141 + 2 * x0.toNatClampNeg) 1) = 0
      · have e := (if_pos c7).symm.trans e
        refine ex_pc (if_pos c7) ?_
        refine ex_s (am_nb (m := 1) (pc1 := 23) (ls1 := [(0, .ref 0), (1, .int x0)]) (st1 := [.null]) (H1 := H) (k1 := 0) (n1 := 0) (by with_unfolding_all rfl)) ?_
        cases e
        exact ex_r (st_aret rfl rfl rfl rfl) hS
      · have e := (if_neg c7).symm.trans e
        refine ex_pc (if_neg c7) ?_
        refine ex_s (am_nb (m := 1) (pc1 := 25) (ls1 := [(0, .ref 0), (1, .int x0)]) (st1 := [.ref 0]) (H1 := H) (k1 := 0) (n1 := 0) (by with_unfolding_all rfl)) ?_
        refine xe_get (v := .ref 115) hS rfl rfl (by decide) rfl ?_
        refine ex_s (am_nb (m := 1) (pc1 := 29) (ls1 := [(0, .ref 0), (1, .int x0)]) (st1 := [.int x0, .ref 115]) (H1 := H) (k1 := 0) (n1 := 0) (by with_unfolding_all rfl)) ?_
        refine xe_q115 hS rfl g6 ?_
        cases e
        rw [(xN_of (xkq115 g6) (by decide))]
        exact ex_r (st_aret rfl rfl rfl rfl) hS

set_option maxRecDepth 100000 in
theorem tf97_close {sL : Nat} {sx : Nat → Int32} {h b N : Nat} {T : List am_C} {r : Int32} {a' : xA} {x0 : Int32} {a : xA} {H : am_H} (hS : xS h b T a H) (e : f97_close N h b x0 a = some (r, a')) : am_E sL sx am_cs 97 0 [(0, .ref 0), (1, .int x0)] [] H (some (.int r)) (fun H1 => xS h b T a' H1) := by
  unfold f97_close at e
  refine ex_s (am_nb (m := 2) (pc1 := 2) (ls1 := [(0, .ref 0), (1, .int x0)]) (st1 := [.int x0, .ref 0]) (H1 := H) (k1 := 0) (n1 := 0) (by with_unfolding_all rfl)) ?_
  obtain ⟨r4, a5, e3, e⟩ := xb2_some e
  refine ex_cv1 (as := [.int x0]) (rest := []) rfl rfl rfl rfl (hS.obj rfl (by decide)) rfl (by with_unfolding_all rfl) (by with_unfolding_all rfl) (tf98_openWindow hS e3) (fun H1 s2 => ?_)
  refine ex_s (am_nb (m := 2) (pc1 := 7) (ls1 := [(2, xN r4), (0, .ref 0), (1, .int x0)]) (st1 := [xN r4]) (H1 := H1) (k1 := 0) (n1 := 0) (by first | with_unfolding_all rfl | (unfold xN; (repeat' split) <;> with_unfolding_all rfl))) ?_
  by_cases c6 : r4 = -1
  · have e := (if_pos c6).symm.trans e
    rw [show xN r4 = .null from if_pos c6]
    refine ex_s (am_nb (m := 1) (pc1 := 10) (ls1 := [(2, .null), (0, .ref 0), (1, .int x0)]) (st1 := []) (H1 := H1) (k1 := 0) (n1 := 0) (by with_unfolding_all rfl)) ?_
    refine ex_s (am_nb (m := 1) (pc1 := 11) (ls1 := [(2, .null), (0, .ref 0), (1, .int x0)]) (st1 := [.int 0]) (H1 := H1) (k1 := 0) (n1 := 0) (by with_unfolding_all rfl)) ?_
    cases e
    exact ex_r (st_iret rfl rfl rfl) s2
  · have e := (if_neg c6).symm.trans e
    rw [show xN r4 = .ref r4.toNatClampNeg from if_neg c6]
    refine ex_s (am_nb (m := 1) (pc1 := 12) (ls1 := [(2, .ref r4.toNatClampNeg), (0, .ref 0), (1, .int x0)]) (st1 := []) (H1 := H1) (k1 := 0) (n1 := 0) (by with_unfolding_all rfl)) ?_
    refine ex_s (am_nb (m := 2) (pc1 := 14) (ls1 := [(2, .ref r4.toNatClampNeg), (0, .ref 0), (1, .int x0)]) (st1 := [.int 0, .ref r4.toNatClampNeg]) (H1 := H1) (k1 := 0) (n1 := 0) (by with_unfolding_all rfl)) ?_
    obtain ⟨g7, e⟩ := xg_some e
    obtain ⟨a8, ha8, e⟩ := xw_some e
    refine xe_put (w := 0) s2 rfl g7 (by decide) rfl rfl rfl rfl (fun H9 s10 => ?_)
    have s10 : xS h b T a8 H9 := by rw [ha8]; exact s10
    refine ex_s (am_nb (m := 1) (pc1 := 18) (ls1 := [(2, .ref r4.toNatClampNeg), (0, .ref 0), (1, .int x0)]) (st1 := [.int 1]) (H1 := H9) (k1 := 0) (n1 := 0) (by with_unfolding_all rfl)) ?_
    cases e
    exact ex_r (st_iret rfl rfl rfl) s10

set_option maxRecDepth 100000 in
theorem tf100_hasCell {sL : Nat} {sx : Nat → Int32} {h b N : Nat} {T : List am_C} {r : Int32} {a' : xA} {o : Nat} {x0 : Int32} {x1 : Int32} {a : xA} {H : am_H} (hS : xS h b T a H) (e : f100_hasCell N h b o x0 x1 a = some (r, a')) : am_E sL sx am_cs 100 0 [(0, .ref o), (1, .int x0), (2, .int x1)] [] H (some (.int r)) (fun H1 => xS h b T a' H1) := by
  unfold f100_hasCell at e
  obtain ⟨g1, e⟩ := xg_some e
  refine ex_s (am_nb (m := 1) (pc1 := 1) (ls1 := [(0, .ref o), (1, .int x0), (2, .int x1)]) (st1 := [.int x0]) (H1 := H) (k1 := 0) (n1 := 0) (by with_unfolding_all rfl)) ?_
  refine ex_s (st_if rfl) ?_
  by_cases c6 : x0 < 0
  · have e := (if_pos c6).symm.trans e
    refine ex_pc (if_pos c6) ?_
    refine ex_s (am_nb (m := 1) (pc1 := 29) (ls1 := [(0, .ref o), (1, .int x0), (2, .int x1)]) (st1 := [.int 0]) (H1 := H) (k1 := 0) (n1 := 0) (by with_unfolding_all rfl)) ?_
    cases e
    exact ex_r (st_iret rfl rfl rfl) hS
  · have e := (if_neg c6).symm.trans e
    refine ex_pc (if_neg c6) ?_
    refine ex_s (am_nb (m := 2) (pc1 := 6) (ls1 := [(0, .ref o), (1, .int x0), (2, .int x1)]) (st1 := [.ref o, .int x0]) (H1 := H) (k1 := 0) (n1 := 0) (by with_unfolding_all rfl)) ?_
    refine xe_get (v := .int (a o 4)) hS rfl g1 (by decide) rfl ?_
    refine ex_s (st_icmp rfl) ?_
    by_cases c10 : (a o 4) ≤ x0
    · have e := (if_pos c10).symm.trans e
      refine ex_pc (if_pos c10) ?_
      refine ex_s (am_nb (m := 1) (pc1 := 29) (ls1 := [(0, .ref o), (1, .int x0), (2, .int x1)]) (st1 := [.int 0]) (H1 := H) (k1 := 0) (n1 := 0) (by with_unfolding_all rfl)) ?_
      cases e
      exact ex_r (st_iret rfl rfl rfl) hS
    · have e := (if_neg c10).symm.trans e
      refine ex_pc (if_neg c10) ?_
      refine ex_s (am_nb (m := 1) (pc1 := 13) (ls1 := [(0, .ref o), (1, .int x0), (2, .int x1)]) (st1 := [.int x1]) (H1 := H) (k1 := 0) (n1 := 0) (by with_unfolding_all rfl)) ?_
      refine ex_s (st_if rfl) ?_
      by_cases c13 : x1 < 0
      · have e := (if_pos c13).symm.trans e
        refine ex_pc (if_pos c13) ?_
        refine ex_s (am_nb (m := 1) (pc1 := 29) (ls1 := [(0, .ref o), (1, .int x0), (2, .int x1)]) (st1 := [.int 0]) (H1 := H) (k1 := 0) (n1 := 0) (by with_unfolding_all rfl)) ?_
        cases e
        exact ex_r (st_iret rfl rfl rfl) hS
      · have e := (if_neg c13).symm.trans e
        refine ex_pc (if_neg c13) ?_
        refine ex_s (am_nb (m := 2) (pc1 := 18) (ls1 := [(0, .ref o), (1, .int x0), (2, .int x1)]) (st1 := [.ref o, .int x1]) (H1 := H) (k1 := 0) (n1 := 0) (by with_unfolding_all rfl)) ?_
        refine xe_get (v := .int (a o 5)) hS rfl g1 (by decide) rfl ?_
        have kk : am_E sL sx am_cs 100 29 [(0, .ref o), (1, .int x0), (2, .int x1)] [.int (if (a o 5) ≤ x1 then (0 : Int32) else (1 : Int32))] H (some (.int r)) (fun H1 => xS h b T a' H1) := by
          obtain ⟨g15, e⟩ := xg_some e
          cases e
          exact ex_r (st_iret rfl rfl (xnar_z g15)) hS
        refine ex_s (st_icmp rfl) ?_
        by_cases c14 : (a o 5) ≤ x1
        · refine ex_pc (if_pos c14) ?_
          refine ex_s (am_nb (m := 1) (pc1 := 29) (ls1 := [(0, .ref o), (1, .int x0), (2, .int x1)]) (st1 := [.int 0]) (H1 := H) (k1 := 0) (n1 := 0) (by with_unfolding_all rfl)) ?_
          rw [if_pos c14] at kk
          exact kk
        · refine ex_pc (if_neg c14) ?_
          refine ex_s (am_nb (m := 2) (pc1 := 29) (ls1 := [(0, .ref o), (1, .int x0), (2, .int x1)]) (st1 := [.int 1]) (H1 := H) (k1 := 0) (n1 := 0) (by with_unfolding_all rfl)) ?_
          rw [if_neg c14] at kk
          exact kk

set_option maxRecDepth 100000 in
theorem tf99_at {sL : Nat} {sx : Nat → Int32} {h b N : Nat} {T : List am_C} {r : Int32} {a' : xA} {x0 : Int32} {x1 : Int32} {x2 : Int32} {a : xA} {H : am_H} (hS : xS h b T a H) (e : f99_at N h b x0 x1 x2 a = some (r, a')) : am_E sL sx am_cs 99 0 [(0, .ref 0), (1, .int x0), (2, .int x1), (3, .int x2)] [] H (some (.int r)) (fun H1 => xS h b T a' H1) := by
  unfold f99_at at e
  refine ex_s (am_nb (m := 2) (pc1 := 2) (ls1 := [(0, .ref 0), (1, .int x0), (2, .int x1), (3, .int x2)]) (st1 := [.int x0, .ref 0]) (H1 := H) (k1 := 0) (n1 := 0) (by with_unfolding_all rfl)) ?_
  obtain ⟨r4, a5, e3, e⟩ := xb2_some e
  refine ex_cv1 (as := [.int x0]) (rest := []) rfl rfl rfl rfl (hS.obj rfl (by decide)) rfl (by with_unfolding_all rfl) (by with_unfolding_all rfl) (tf98_openWindow hS e3) (fun H1 s2 => ?_)
  refine ex_s (am_nb (m := 2) (pc1 := 9) (ls1 := [(4, xN r4), (0, .ref 0), (1, .int x0), (2, .int x1), (3, .int x2)]) (st1 := [xN r4]) (H1 := H1) (k1 := 0) (n1 := 0) (by first | with_unfolding_all rfl | (unfold xN; (repeat' split) <;> with_unfolding_all rfl))) ?_
  by_cases c6 : r4 = -1
  · have e := (if_pos c6).symm.trans e
    rw [show xN r4 = .null from if_pos c6]
    refine ex_s (am_nb (m := 1) (pc1 := 22) (ls1 := [(4, .null), (0, .ref 0), (1, .int x0), (2, .int x1), (3, .int x2)]) (st1 := []) (H1 := H1) (k1 := 0) (n1 := 0) (by with_unfolding_all rfl)) ?_
    refine ex_s (am_nb (m := 1) (pc1 := 23) (ls1 := [(4, .null), (0, .ref 0), (1, .int x0), (2, .int x1), (3, .int x2)]) (st1 := [.int 0]) (H1 := H1) (k1 := 0) (n1 := 0) (by with_unfolding_all rfl)) ?_
    cases e
    exact ex_r (st_iret rfl rfl rfl) s2
  · have e := (if_neg c6).symm.trans e
    rw [show xN r4 = .ref r4.toNatClampNeg from if_neg c6]
    refine ex_s (am_nb (m := 1) (pc1 := 12) (ls1 := [(4, .ref r4.toNatClampNeg), (0, .ref 0), (1, .int x0), (2, .int x1), (3, .int x2)]) (st1 := []) (H1 := H1) (k1 := 0) (n1 := 0) (by with_unfolding_all rfl)) ?_
    refine ex_s (am_nb (m := 3) (pc1 := 16) (ls1 := [(4, .ref r4.toNatClampNeg), (0, .ref 0), (1, .int x0), (2, .int x1), (3, .int x2)]) (st1 := [.int x2, .int x1, .ref r4.toNatClampNeg]) (H1 := H1) (k1 := 0) (n1 := 0) (by with_unfolding_all rfl)) ?_
    obtain ⟨g7, e⟩ := xg_some e
    obtain ⟨r11, a12, e10, e⟩ := xb2_some e
    refine ex_cv1 (as := [.int x1, .int x2]) (rest := []) rfl rfl rfl rfl (s2.obj g7 (by decide)) rfl (by with_unfolding_all rfl) (by with_unfolding_all rfl) (tf100_hasCell s2 e10) (fun H8 s9 => ?_)
    refine ex_s (st_if rfl) ?_
    by_cases c13 : r11 = 0
    · have e := (if_pos c13).symm.trans e
      refine ex_pc (if_pos c13) ?_
      refine ex_s (am_nb (m := 1) (pc1 := 23) (ls1 := [(4, .ref r4.toNatClampNeg), (0, .ref 0), (1, .int x0), (2, .int x1), (3, .int x2)]) (st1 := [.int 0]) (H1 := H8) (k1 := 0) (n1 := 0) (by with_unfolding_all rfl)) ?_
      cases e
      exact ex_r (st_iret rfl rfl rfl) s9
    · have e := (if_neg c13).symm.trans e
      refine ex_pc (if_neg c13) ?_
      refine ex_s (am_nb (m := 2) (pc1 := 27) (ls1 := [(4, .ref r4.toNatClampNeg), (0, .ref 0), (1, .int x0), (2, .int x1), (3, .int x2)]) (st1 := [.int x1, .ref r4.toNatClampNeg]) (H1 := H8) (k1 := 0) (n1 := 0) (by with_unfolding_all rfl)) ?_
      obtain ⟨a14, ha14, e⟩ := xw_some e
      refine xe_put (w := x1) s9 rfl g7 (by decide) rfl rfl rfl rfl (fun H15 s16 => ?_)
      have s16 : xS h b T a14 H15 := by rw [ha14]; exact s16
      refine ex_s (am_nb (m := 2) (pc1 := 33) (ls1 := [(4, .ref r4.toNatClampNeg), (0, .ref 0), (1, .int x0), (2, .int x1), (3, .int x2)]) (st1 := [.int x2, .ref r4.toNatClampNeg]) (H1 := H15) (k1 := 0) (n1 := 0) (by with_unfolding_all rfl)) ?_
      obtain ⟨a17, ha17, e⟩ := xw_some e
      refine xe_put (w := x2) s16 rfl g7 (by decide) rfl rfl rfl rfl (fun H18 s19 => ?_)
      have s19 : xS h b T a17 H18 := by rw [ha17]; exact s19
      refine ex_s (am_nb (m := 1) (pc1 := 37) (ls1 := [(4, .ref r4.toNatClampNeg), (0, .ref 0), (1, .int x0), (2, .int x1), (3, .int x2)]) (st1 := [.int 1]) (H1 := H18) (k1 := 0) (n1 := 0) (by with_unfolding_all rfl)) ?_
      cases e
      exact ex_r (st_iret rfl rfl rfl) s19

set_option maxRecDepth 100000 in
theorem tf101_dress {sL : Nat} {sx : Nat → Int32} {h b N : Nat} {T : List am_C} {r : Int32} {a' : xA} {x0 : Int32} {x1 : Int32} {a : xA} {H : am_H} (hS : xS h b T a H) (e : f101_dress N h b x0 x1 a = some (r, a')) : am_E sL sx am_cs 101 0 [(0, .ref 0), (1, .int x0), (2, .int x1)] [] H (some (.int r)) (fun H1 => xS h b T a' H1) := by
  unfold f101_dress at e
  refine ex_s (am_nb (m := 2) (pc1 := 2) (ls1 := [(0, .ref 0), (1, .int x0), (2, .int x1)]) (st1 := [.int x0, .ref 0]) (H1 := H) (k1 := 0) (n1 := 0) (by with_unfolding_all rfl)) ?_
  obtain ⟨r4, a5, e3, e⟩ := xb2_some e
  refine ex_cv1 (as := [.int x0]) (rest := []) rfl rfl rfl rfl (hS.obj rfl (by decide)) rfl (by with_unfolding_all rfl) (by with_unfolding_all rfl) (tf98_openWindow hS e3) (fun H1 s2 => ?_)
  refine ex_s (am_nb (m := 2) (pc1 := 7) (ls1 := [(3, xN r4), (0, .ref 0), (1, .int x0), (2, .int x1)]) (st1 := [xN r4]) (H1 := H1) (k1 := 0) (n1 := 0) (by first | with_unfolding_all rfl | (unfold xN; (repeat' split) <;> with_unfolding_all rfl))) ?_
  by_cases c6 : r4 = -1
  · have e := (if_pos c6).symm.trans e
    rw [show xN r4 = .null from if_pos c6]
    refine ex_s (am_nb (m := 1) (pc1 := 20) (ls1 := [(3, .null), (0, .ref 0), (1, .int x0), (2, .int x1)]) (st1 := []) (H1 := H1) (k1 := 0) (n1 := 0) (by with_unfolding_all rfl)) ?_
    refine ex_s (am_nb (m := 1) (pc1 := 21) (ls1 := [(3, .null), (0, .ref 0), (1, .int x0), (2, .int x1)]) (st1 := [.int 0]) (H1 := H1) (k1 := 0) (n1 := 0) (by with_unfolding_all rfl)) ?_
    cases e
    exact ex_r (st_iret rfl rfl rfl) s2
  · have e := (if_neg c6).symm.trans e
    rw [show xN r4 = .ref r4.toNatClampNeg from if_neg c6]
    refine ex_s (am_nb (m := 1) (pc1 := 10) (ls1 := [(3, .ref r4.toNatClampNeg), (0, .ref 0), (1, .int x0), (2, .int x1)]) (st1 := []) (H1 := H1) (k1 := 0) (n1 := 0) (by with_unfolding_all rfl)) ?_
    refine ex_s (am_nb (m := 1) (pc1 := 11) (ls1 := [(3, .ref r4.toNatClampNeg), (0, .ref 0), (1, .int x0), (2, .int x1)]) (st1 := [.int x1]) (H1 := H1) (k1 := 0) (n1 := 0) (by with_unfolding_all rfl)) ?_
    refine ex_s (st_if rfl) ?_
    by_cases c9 : x1 < 0
    · have e := (if_pos c9).symm.trans e
      refine ex_pc (if_pos c9) ?_
      refine ex_s (am_nb (m := 1) (pc1 := 21) (ls1 := [(3, .ref r4.toNatClampNeg), (0, .ref 0), (1, .int x0), (2, .int x1)]) (st1 := [.int 0]) (H1 := H1) (k1 := 0) (n1 := 0) (by with_unfolding_all rfl)) ?_
      cases e
      exact ex_r (st_iret rfl rfl rfl) s2
    · have e := (if_neg c9).symm.trans e
      refine ex_pc (if_neg c9) ?_
      refine ex_s (am_nb (m := 2) (pc1 := 17) (ls1 := [(3, .ref r4.toNatClampNeg), (0, .ref 0), (1, .int x0), (2, .int x1)]) (st1 := [.int 15, .int x1]) (H1 := H1) (k1 := 0) (n1 := 0) (by with_unfolding_all rfl)) ?_
      refine ex_s (st_icmp rfl) ?_
      by_cases c10 : x1 ≤ 15
      · have e := (if_pos c10).symm.trans e
        refine ex_pc (if_pos c10) ?_
        refine ex_s (am_nb (m := 2) (pc1 := 24) (ls1 := [(3, .ref r4.toNatClampNeg), (0, .ref 0), (1, .int x0), (2, .int x1)]) (st1 := [.int x1, .ref r4.toNatClampNeg]) (H1 := H1) (k1 := 0) (n1 := 0) (by with_unfolding_all rfl)) ?_
        obtain ⟨g11, e⟩ := xg_some e
        obtain ⟨a12, ha12, e⟩ := xw_some e
        refine xe_put (w := x1) s2 rfl g11 (by decide) rfl rfl rfl rfl (fun H13 s14 => ?_)
        have s14 : xS h b T a12 H13 := by rw [ha12]; exact s14
        refine ex_s (am_nb (m := 1) (pc1 := 28) (ls1 := [(3, .ref r4.toNatClampNeg), (0, .ref 0), (1, .int x0), (2, .int x1)]) (st1 := [.int 1]) (H1 := H13) (k1 := 0) (n1 := 0) (by with_unfolding_all rfl)) ?_
        cases e
        exact ex_r (st_iret rfl rfl rfl) s14
      · have e := (if_neg c10).symm.trans e
        refine ex_pc (if_neg c10) ?_
        refine ex_s (am_nb (m := 1) (pc1 := 21) (ls1 := [(3, .ref r4.toNatClampNeg), (0, .ref 0), (1, .int x0), (2, .int x1)]) (st1 := [.int 0]) (H1 := H1) (k1 := 0) (n1 := 0) (by with_unfolding_all rfl)) ?_
        cases e
        exact ex_r (st_iret rfl rfl rfl) s2

set_option maxRecDepth 100000 in
theorem tf102_scrolls {sL : Nat} {sx : Nat → Int32} {h b N : Nat} {T : List am_C} {r : Int32} {a' : xA} {x0 : Int32} {x1 : Int32} {a : xA} {H : am_H} (hS : xS h b T a H) (e : f102_scrolls N h b x0 x1 a = some (r, a')) : am_E sL sx am_cs 102 0 [(0, .ref 0), (1, .int x0), (2, .int x1)] [] H (some (.int r)) (fun H1 => xS h b T a' H1) := by
  unfold f102_scrolls at e
  refine ex_s (am_nb (m := 2) (pc1 := 2) (ls1 := [(0, .ref 0), (1, .int x0), (2, .int x1)]) (st1 := [.int x0, .ref 0]) (H1 := H) (k1 := 0) (n1 := 0) (by with_unfolding_all rfl)) ?_
  obtain ⟨r4, a5, e3, e⟩ := xb2_some e
  refine ex_cv1 (as := [.int x0]) (rest := []) rfl rfl rfl rfl (hS.obj rfl (by decide)) rfl (by with_unfolding_all rfl) (by with_unfolding_all rfl) (tf98_openWindow hS e3) (fun H1 s2 => ?_)
  refine ex_s (am_nb (m := 2) (pc1 := 7) (ls1 := [(3, xN r4), (0, .ref 0), (1, .int x0), (2, .int x1)]) (st1 := [xN r4]) (H1 := H1) (k1 := 0) (n1 := 0) (by first | with_unfolding_all rfl | (unfold xN; (repeat' split) <;> with_unfolding_all rfl))) ?_
  by_cases c6 : r4 = -1
  · have e := (if_pos c6).symm.trans e
    rw [show xN r4 = .null from if_pos c6]
    refine ex_s (am_nb (m := 1) (pc1 := 10) (ls1 := [(3, .null), (0, .ref 0), (1, .int x0), (2, .int x1)]) (st1 := []) (H1 := H1) (k1 := 0) (n1 := 0) (by with_unfolding_all rfl)) ?_
    refine ex_s (am_nb (m := 1) (pc1 := 11) (ls1 := [(3, .null), (0, .ref 0), (1, .int x0), (2, .int x1)]) (st1 := [.int 0]) (H1 := H1) (k1 := 0) (n1 := 0) (by with_unfolding_all rfl)) ?_
    cases e
    exact ex_r (st_iret rfl rfl rfl) s2
  · have e := (if_neg c6).symm.trans e
    rw [show xN r4 = .ref r4.toNatClampNeg from if_neg c6]
    refine ex_s (am_nb (m := 1) (pc1 := 12) (ls1 := [(3, .ref r4.toNatClampNeg), (0, .ref 0), (1, .int x0), (2, .int x1)]) (st1 := []) (H1 := H1) (k1 := 0) (n1 := 0) (by with_unfolding_all rfl)) ?_
    refine ex_s (am_nb (m := 2) (pc1 := 14) (ls1 := [(3, .ref r4.toNatClampNeg), (0, .ref 0), (1, .int x0), (2, .int x1)]) (st1 := [.int x1, .ref r4.toNatClampNeg]) (H1 := H1) (k1 := 0) (n1 := 0) (by with_unfolding_all rfl)) ?_
    obtain ⟨g7, e⟩ := xg_some e
    obtain ⟨g11, e⟩ := xg_some e
    obtain ⟨a8, ha8, e⟩ := xw_some e
    refine xe_put (w := x1) s2 rfl g7 (by decide) rfl rfl (xfit_z g11) rfl (fun H9 s10 => ?_)
    have s10 : xS h b T a8 H9 := by rw [ha8]; exact s10
    refine ex_s (am_nb (m := 1) (pc1 := 18) (ls1 := [(3, .ref r4.toNatClampNeg), (0, .ref 0), (1, .int x0), (2, .int x1)]) (st1 := [.int 1]) (H1 := H9) (k1 := 0) (n1 := 0) (by with_unfolding_all rfl)) ?_
    cases e
    exact ex_r (st_iret rfl rfl rfl) s10

set_option maxRecDepth 100000 in
theorem tj108_28 {sL : Nat} {sx : Nat → Int32} {h b N : Nat} {T : List am_C} {a' : xA} {q0 : Nat} {q1 : Int32} {q2 : Int32} {q4 : Int32} {a : xA} {H : am_H} (kq0 : xk q0 = 100) (hS : xS h b T a H) (e : j108_28 N h b q0 q1 q2 q4 a = some a') : am_E sL sx am_cs 108 28 [(0, .ref q0), (1, .int q1), (2, .int q2), (4, .int q4)] [] H none (fun H1 => xS h b T a' H1) := by
  unfold j108_28 at e
  refine ex_s (am_nb (m := 6) (pc1 := 35) (ls1 := [(0, .ref q0), (1, .int q1), (2, .int q2), (4, .int q4)]) (st1 := [.int q4, .int (q1 + q2), .int q1, .ref q0]) (H1 := H) (k1 := 0) (n1 := 0) (by with_unfolding_all rfl)) ?_
  obtain ⟨a13, e12, e⟩ := xb1_some e
  refine ex_cs0 (as := [.ref q0, .int q1, .int (q1 + q2), .int q4]) (rest := []) rfl (by decide) rfl rfl (by with_unfolding_all rfl) (by with_unfolding_all rfl) (tf14_fill hS e12) (fun H10 s11 => ?_)
  refine ex_s (am_nb (m := 1) (pc1 := 96) (ls1 := [(0, .ref q0), (1, .int q1), (2, .int q2), (4, .int q4)]) (st1 := []) (H1 := H10) (k1 := 0) (n1 := 0) (by with_unfolding_all rfl)) ?_
  cases e
  exact ex_r (st_vret rfl rfl) s11

set_option maxRecDepth 100000 in
theorem tf108_slide {sL : Nat} {sx : Nat → Int32} {h b N : Nat} {T : List am_C} {a' : xA} {x0 : Nat} {x1 : Int32} {x2 : Int32} {x3 : Int32} {x4 : Int32} {a : xA} {H : am_H} (hS : xS h b T a H) (e : f108_slide N h b x0 x1 x2 x3 x4 a = some a') : am_E sL sx am_cs 108 0 [(0, .ref x0), (1, .int x1), (2, .int x2), (3, .int x3), (4, .int x4)] [] H none (fun H1 => xS h b T a' H1) := by
  unfold f108_slide at e
  obtain ⟨g1, e⟩ := xg_some e
  refine ex_s (am_nb (m := 1) (pc1 := 1) (ls1 := [(0, .ref x0), (1, .int x1), (2, .int x2), (3, .int x3), (4, .int x4)]) (st1 := [.int x1]) (H1 := H) (k1 := 0) (n1 := 0) (by with_unfolding_all rfl)) ?_
  refine ex_s (st_if rfl) ?_
  by_cases c4 : x1 < 0
  · have e := (if_pos c4).symm.trans e
    refine ex_pc (if_pos c4) ?_
    cases e
    exact ex_r (st_vret rfl rfl) hS
  · have e := (if_neg c4).symm.trans e
    refine ex_pc (if_neg c4) ?_
    refine ex_s (am_nb (m := 1) (pc1 := 5) (ls1 := [(0, .ref x0), (1, .int x1), (2, .int x2), (3, .int x3), (4, .int x4)]) (st1 := [.int x2]) (H1 := H) (k1 := 0) (n1 := 0) (by with_unfolding_all rfl)) ?_
    refine ex_s (st_if rfl) ?_
    by_cases c6 : x2 ≤ 0
    · have e := (if_pos c6).symm.trans e
      refine ex_pc (if_pos c6) ?_
      cases e
      exact ex_r (st_vret rfl rfl) hS
    · have e := (if_neg c6).symm.trans e
      refine ex_pc (if_neg c6) ?_
      refine ex_s (am_nb (m := 2) (pc1 := 10) (ls1 := [(0, .ref x0), (1, .int x1), (2, .int x2), (3, .int x3), (4, .int x4)]) (st1 := [.ref x0, .int x2]) (H1 := H) (k1 := 0) (n1 := 0) (by with_unfolding_all rfl)) ?_
      refine xe_alenc (v := Int32.ofNat (xl h b x0)) hS rfl g1 rfl ?_
      refine ex_s (am_nb (m := 2) (pc1 := 13) (ls1 := [(0, .ref x0), (1, .int x1), (2, .int x2), (3, .int x3), (4, .int x4)]) (st1 := [.int ((Int32.ofNat (xl h b x0)) - x1), .int x2]) (H1 := H) (k1 := 0) (n1 := 0) (by with_unfolding_all rfl)) ?_
      refine ex_s (st_icmp rfl) ?_
      by_cases c7 : x2 ≤ ((Int32.ofNat (xl h b x0)) - x1)
      · have e := (if_pos c7).symm.trans e
        refine ex_pc (if_pos c7) ?_
        refine ex_s (am_nb (m := 2) (pc1 := 19) (ls1 := [(0, .ref x0), (1, .int x1), (2, .int x2), (3, .int x3), (4, .int x4)]) (st1 := [.int x2, .int x3]) (H1 := H) (k1 := 0) (n1 := 0) (by with_unfolding_all rfl)) ?_
        refine ex_s (st_icmp rfl) ?_
        by_cases c9 : x2 ≤ x3
        · have e := (if_pos c9).symm.trans e
          refine ex_pc (if_pos c9) ?_
          exact le_E (l1 := [(0, .ref x0), (1, .int x1), (2, .int x2), (4, .int x4)]) ⟨rfl, rfl, rfl, rfl, trivial⟩ rfl (tj108_28 g1 hS e)
        · have e := (if_neg c9).symm.trans e
          refine ex_pc (if_neg c9) ?_
          refine ex_s (am_nb (m := 3) (pc1 := 25) (ls1 := [(0, .ref x0), (1, .int x1), (2, .int x2), (3, .int x3), (4, .int x4)]) (st1 := [.int (-x2), .int x3]) (H1 := H) (k1 := 0) (n1 := 0) (by with_unfolding_all rfl)) ?_
          refine ex_s (st_icmp rfl) ?_
          by_cases c14 : (-x2) < x3
          · have e := (if_pos c14).symm.trans e
            refine ex_pc (if_pos c14) ?_
            refine ex_s (am_nb (m := 1) (pc1 := 42) (ls1 := [(0, .ref x0), (1, .int x1), (2, .int x2), (3, .int x3), (4, .int x4)]) (st1 := [.int x3]) (H1 := H) (k1 := 0) (n1 := 0) (by with_unfolding_all rfl)) ?_
            refine ex_s (st_if rfl) ?_
            by_cases c16 : x3 < 0
            · have e := (if_pos c16).symm.trans e
              refine ex_pc (if_pos c16) ?_
              refine ex_s (am_nb (m := 9) (pc1 := 79) (ls1 := [(0, .ref x0), (1, .int x1), (2, .int x2), (3, .int x3), (4, .int x4)]) (st1 := [.int (x2 + x3), .int x1, .ref x0, .int (x1 - x3), .ref x0]) (H1 := H) (k1 := 0) (n1 := 0) (by with_unfolding_all rfl)) ?_
              obtain ⟨g17, e⟩ := xg_some e
              obtain ⟨a18, ha18, e⟩ := xw_some e
              refine xe_copy hS rfl g1 g1 g17 (by decide) (fun H19 s20 => ?_)
              have s20 : xS h b T a18 H19 := by rw [ha18]; exact s20
              refine ex_s (am_nb (m := 10) (pc1 := 93) (ls1 := [(0, .ref x0), (1, .int x1), (2, .int x2), (3, .int x3), (4, .int x4)]) (st1 := [.int x4, .int (x1 + x2), .int ((x1 + x2) + x3), .ref x0]) (H1 := H19) (k1 := 0) (n1 := 0) (by with_unfolding_all rfl)) ?_
              obtain ⟨a24, e23, e⟩ := xb1_some e
              refine ex_cs0 (as := [.ref x0, .int ((x1 + x2) + x3), .int (x1 + x2), .int x4]) (rest := []) rfl (by decide) rfl rfl (by with_unfolding_all rfl) (by with_unfolding_all rfl) (tf14_fill s20 e23) (fun H21 s22 => ?_)
              cases e
              exact ex_r (st_vret rfl rfl) s22
            · have e := (if_neg c16).symm.trans e
              refine ex_pc (if_neg c16) ?_
              refine ex_s (am_nb (m := 9) (pc1 := 54) (ls1 := [(0, .ref x0), (1, .int x1), (2, .int x2), (3, .int x3), (4, .int x4)]) (st1 := [.int (x2 - x3), .int (x1 + x3), .ref x0, .int x1, .ref x0]) (H1 := H) (k1 := 0) (n1 := 0) (by with_unfolding_all rfl)) ?_
              obtain ⟨g25, e⟩ := xg_some e
              obtain ⟨a26, ha26, e⟩ := xw_some e
              refine xe_copy hS rfl g1 g1 g25 (by decide) (fun H27 s28 => ?_)
              have s28 : xS h b T a26 H27 := by rw [ha26]; exact s28
              refine ex_s (am_nb (m := 6) (pc1 := 64) (ls1 := [(0, .ref x0), (1, .int x1), (2, .int x2), (3, .int x3), (4, .int x4)]) (st1 := [.int x4, .int (x1 + x3), .int x1, .ref x0]) (H1 := H27) (k1 := 0) (n1 := 0) (by with_unfolding_all rfl)) ?_
              obtain ⟨a32, e31, e⟩ := xb1_some e
              refine ex_cs0 (as := [.ref x0, .int x1, .int (x1 + x3), .int x4]) (rest := []) rfl (by decide) rfl rfl (by with_unfolding_all rfl) (by with_unfolding_all rfl) (tf14_fill s28 e31) (fun H29 s30 => ?_)
              refine ex_s (am_nb (m := 1) (pc1 := 96) (ls1 := [(0, .ref x0), (1, .int x1), (2, .int x2), (3, .int x3), (4, .int x4)]) (st1 := []) (H1 := H29) (k1 := 0) (n1 := 0) (by with_unfolding_all rfl)) ?_
              cases e
              exact ex_r (st_vret rfl rfl) s30
          · have e := (if_neg c14).symm.trans e
            refine ex_pc (if_neg c14) ?_
            exact le_E (l1 := [(0, .ref x0), (1, .int x1), (2, .int x2), (4, .int x4)]) ⟨rfl, rfl, rfl, rfl, trivial⟩ rfl (tj108_28 g1 hS e)
      · have e := (if_neg c7).symm.trans e
        refine ex_pc (if_neg c7) ?_
        cases e
        exact ex_r (st_vret rfl rfl) hS

set_option maxRecDepth 100000 in
theorem tf107_slideRows {sL : Nat} {sx : Nat → Int32} {h b N : Nat} {T : List am_C} {a' : xA} {o : Nat} {x0 : Int32} {x1 : Int32} {a : xA} {H : am_H} (hS : xS h b T a H) (e : f107_slideRows N h b o x0 x1 a = some a') : am_E sL sx am_cs 107 0 [(0, .ref o), (1, .int x0), (2, .int x1)] [] H none (fun H1 => xS h b T a' H1) := by
  unfold f107_slideRows at e
  obtain ⟨g1, e⟩ := xg_some e
  refine ex_s (am_nb (m := 2) (pc1 := 2) (ls1 := [(0, .ref o), (1, .int x0), (2, .int x1)]) (st1 := [.ref o, .int x1]) (H1 := H) (k1 := 0) (n1 := 0) (by with_unfolding_all rfl)) ?_
  refine xe_get (v := .int (a o 4)) hS rfl g1 (by decide) rfl ?_
  refine ex_s (am_nb (m := 2) (pc1 := 7) (ls1 := [(0, .ref o), (1, .int x0), (2, .int x1)]) (st1 := [.ref o, .int (-(a o 4)), .int x1]) (H1 := H) (k1 := 0) (n1 := 0) (by with_unfolding_all rfl)) ?_
  refine xe_get (v := .int (a o 4)) hS rfl g1 (by decide) rfl ?_
  obtain ⟨r5, a6, e4, e⟩ := xb2_some e
  refine ex_cs1 (as := [.int x1, .int (-(a o 4)), .int (a o 4)]) (rest := []) rfl (by decide) rfl rfl (by with_unfolding_all rfl) (by with_unfolding_all rfl) (tf10_nearest hS e4) (fun H2 s3 => ?_)
  refine ex_s (am_nb (m := 2) (pc1 := 15) (ls1 := [(3, .int r5), (0, .ref o), (1, .int x0), (2, .int x1)]) (st1 := [.ref o]) (H1 := H2) (k1 := 0) (n1 := 0) (by with_unfolding_all rfl)) ?_
  refine xe_get (v := .ref (o + 1)) s3 rfl g1 (by decide) rfl ?_
  refine ex_s (am_nb (m := 2) (pc1 := 20) (ls1 := [(3, .int r5), (0, .ref o), (1, .int x0), (2, .int x1)]) (st1 := [.ref o, .int x0, .ref (o + 1)]) (H1 := H2) (k1 := 0) (n1 := 0) (by with_unfolding_all rfl)) ?_
  refine xe_get (v := .int (a6 o 5)) s3 rfl g1 (by decide) rfl ?_
  refine ex_s (am_nb (m := 2) (pc1 := 25) (ls1 := [(3, .int r5), (0, .ref o), (1, .int x0), (2, .int x1)]) (st1 := [.ref o, .int (x0 * (a6 o 5)), .ref (o + 1)]) (H1 := H2) (k1 := 0) (n1 := 0) (by with_unfolding_all rfl)) ?_
  refine xe_get (v := .int (a6 o 4)) s3 rfl g1 (by decide) rfl ?_
  refine ex_s (am_nb (m := 3) (pc1 := 31) (ls1 := [(3, .int r5), (0, .ref o), (1, .int x0), (2, .int x1)]) (st1 := [.ref o, .int ((a6 o 4) - x0), .int (x0 * (a6 o 5)), .ref (o + 1)]) (H1 := H2) (k1 := 0) (n1 := 0) (by with_unfolding_all rfl)) ?_
  refine xe_get (v := .int (a6 o 5)) s3 rfl g1 (by decide) rfl ?_
  refine ex_s (am_nb (m := 3) (pc1 := 37) (ls1 := [(3, .int r5), (0, .ref o), (1, .int x0), (2, .int x1)]) (st1 := [.ref o, .int r5, .int (((a6 o 4) - x0) * (a6 o 5)), .int (x0 * (a6 o 5)), .ref (o + 1)]) (H1 := H2) (k1 := 0) (n1 := 0) (by with_unfolding_all rfl)) ?_
  refine xe_get (v := .int (a6 o 5)) s3 rfl g1 (by decide) rfl ?_
  refine ex_s (am_nb (m := 2) (pc1 := 43) (ls1 := [(3, .int r5), (0, .ref o), (1, .int x0), (2, .int x1)]) (st1 := [.int 32, .int (r5 * (a6 o 5)), .int (((a6 o 4) - x0) * (a6 o 5)), .int (x0 * (a6 o 5)), .ref (o + 1)]) (H1 := H2) (k1 := 0) (n1 := 0) (by with_unfolding_all rfl)) ?_
  obtain ⟨a10, e9, e⟩ := xb1_some e
  refine ex_cs0 (as := [.ref (o + 1), .int (x0 * (a6 o 5)), .int (((a6 o 4) - x0) * (a6 o 5)), .int (r5 * (a6 o 5)), .int 32]) (rest := []) rfl (by decide) rfl rfl (by with_unfolding_all rfl) (by with_unfolding_all rfl) (tf108_slide s3 e9) (fun H7 s8 => ?_)
  cases e
  exact ex_r (st_vret rfl rfl) s8

set_option maxRecDepth 100000 in
theorem tj106_44 {sL : Nat} {sx : Nat → Int32} {h b N : Nat} {T : List am_C} {r : Int32} {a' : xA} {q0 : Nat} {a : xA} {H : am_H} (kq0 : xk q0 = 10) (hS : xS h b T a H) (e : j106_44 N h b q0 a = some (r, a')) : am_E sL sx am_cs 106 44 [(0, .ref q0)] [] H (some (.int r)) (fun H1 => xS h b T a' H1) := by
  unfold j106_44 at e
  refine ex_s (am_nb (m := 2) (pc1 := 46) (ls1 := [(0, .ref q0)]) (st1 := [.int 0, .ref q0]) (H1 := H) (k1 := 0) (n1 := 0) (by with_unfolding_all rfl)) ?_
  obtain ⟨a10, ha10, e⟩ := xw_some e
  refine xe_put (w := 0) hS rfl kq0 (by decide) rfl rfl rfl rfl (fun H11 s12 => ?_)
  have s12 : xS h b T a10 H11 := by rw [ha10]; exact s12
  refine ex_s (am_nb (m := 1) (pc1 := 50) (ls1 := [(0, .ref q0)]) (st1 := [.int 1]) (H1 := H11) (k1 := 0) (n1 := 0) (by with_unfolding_all rfl)) ?_
  cases e
  exact ex_r (st_iret rfl rfl rfl) s12

set_option maxRecDepth 100000 in
theorem tf106_goToNextRow {sL : Nat} {sx : Nat → Int32} {h b N : Nat} {T : List am_C} {r : Int32} {a' : xA} {o : Nat} {a : xA} {H : am_H} (hS : xS h b T a H) (e : f106_goToNextRow N h b o a = some (r, a')) : am_E sL sx am_cs 106 0 [(0, .ref o)] [] H (some (.int r)) (fun H1 => xS h b T a' H1) := by
  unfold f106_goToNextRow at e
  obtain ⟨g1, e⟩ := xg_some e
  refine ex_s (am_nb (m := 1) (pc1 := 1) (ls1 := [(0, .ref o)]) (st1 := [.ref o]) (H1 := H) (k1 := 0) (n1 := 0) (by with_unfolding_all rfl)) ?_
  refine xe_get (v := .int (a o 6)) hS rfl g1 (by decide) rfl ?_
  refine ex_s (am_nb (m := 1) (pc1 := 5) (ls1 := [(0, .ref o)]) (st1 := [.ref o, .int (a o 6)]) (H1 := H) (k1 := 0) (n1 := 0) (by with_unfolding_all rfl)) ?_
  refine xe_get (v := .int (a o 4)) hS rfl g1 (by decide) rfl ?_
  refine ex_s (am_nb (m := 2) (pc1 := 10) (ls1 := [(0, .ref o)]) (st1 := [.int ((a o 4) - 1), .int (a o 6)]) (H1 := H) (k1 := 0) (n1 := 0) (by with_unfolding_all rfl)) ?_
  refine ex_s (st_icmp rfl) ?_
  by_cases c4 : ((a o 4) - 1) ≤ (a o 6)
  · have e := (if_pos c4).symm.trans e
    refine ex_pc (if_pos c4) ?_
    refine ex_s (am_nb (m := 1) (pc1 := 27) (ls1 := [(0, .ref o)]) (st1 := [.ref o]) (H1 := H) (k1 := 0) (n1 := 0) (by with_unfolding_all rfl)) ?_
    refine xe_get (v := .int (a o 9)) hS rfl g1 (by decide) rfl ?_
    refine ex_s (st_if rfl) ?_
    by_cases c5 : (a o 9) = 0
    · have e := (if_pos c5).symm.trans e
      refine ex_pc (if_pos c5) ?_
      refine ex_s (am_nb (m := 1) (pc1 := 43) (ls1 := [(0, .ref o)]) (st1 := [.int 0]) (H1 := H) (k1 := 0) (n1 := 0) (by with_unfolding_all rfl)) ?_
      cases e
      exact ex_r (st_iret rfl rfl rfl) hS
    · have e := (if_neg c5).symm.trans e
      refine ex_pc (if_neg c5) ?_
      refine ex_s (am_nb (m := 3) (pc1 := 36) (ls1 := [(0, .ref o)]) (st1 := [.int (-1), .int 0, .ref o]) (H1 := H) (k1 := 0) (n1 := 0) (by with_unfolding_all rfl)) ?_
      obtain ⟨a9, e8, e⟩ := xb1_some e
      refine ex_cv0 (as := [.int 0, .int (-1)]) (rest := []) rfl rfl rfl rfl (hS.obj g1 (by decide)) rfl (by with_unfolding_all rfl) (by with_unfolding_all rfl) (tf107_slideRows hS e8) (fun H6 s7 => ?_)
      refine ex_s (am_nb (m := 1) (pc1 := 44) (ls1 := [(0, .ref o)]) (st1 := []) (H1 := H6) (k1 := 0) (n1 := 0) (by with_unfolding_all rfl)) ?_
      exact le_E (l1 := [(0, .ref o)]) ⟨rfl, trivial⟩ rfl (tj106_44 g1 s7 e)
  · have e := (if_neg c4).symm.trans e
    refine ex_pc (if_neg c4) ?_
    refine ex_s (am_nb (m := 2) (pc1 := 15) (ls1 := [(0, .ref o)]) (st1 := [.ref o, .ref o]) (H1 := H) (k1 := 0) (n1 := 0) (by with_unfolding_all rfl)) ?_
    refine xe_get (v := .int (a o 6)) hS rfl g1 (by decide) rfl ?_
    refine ex_s (am_nb (m := 2) (pc1 := 20) (ls1 := [(0, .ref o)]) (st1 := [.int ((a o 6) + 1), .ref o]) (H1 := H) (k1 := 0) (n1 := 0) (by with_unfolding_all rfl)) ?_
    obtain ⟨a13, ha13, e⟩ := xw_some e
    refine xe_put (w := ((a o 6) + 1)) hS rfl g1 (by decide) rfl rfl rfl rfl (fun H14 s15 => ?_)
    have s15 : xS h b T a13 H14 := by rw [ha13]; exact s15
    refine ex_s (am_nb (m := 1) (pc1 := 44) (ls1 := [(0, .ref o)]) (st1 := []) (H1 := H14) (k1 := 0) (n1 := 0) (by with_unfolding_all rfl)) ?_
    exact le_E (l1 := [(0, .ref o)]) ⟨rfl, trivial⟩ rfl (tj106_44 g1 s15 e)

set_option maxRecDepth 100000 in
theorem tj105_22 {sL : Nat} {sx : Nat → Int32} {h b N : Nat} {T : List am_C} {r : Int32} {a' : xA} {q0 : Nat} {a : xA} {H : am_H} (kq0 : xk q0 = 10) (hS : xS h b T a H) (e : j105_22 N h b q0 a = some (r, a')) : am_E sL sx am_cs 105 22 [(0, .ref q0)] [] H (some (.int r)) (fun H1 => xS h b T a' H1) := by
  unfold j105_22 at e
  refine ex_s (am_nb (m := 1) (pc1 := 23) (ls1 := [(0, .ref q0)]) (st1 := [.ref q0]) (H1 := H) (k1 := 0) (n1 := 0) (by with_unfolding_all rfl)) ?_
  refine xe_get (v := .ref (q0 + 1)) hS rfl kq0 (by decide) rfl ?_
  refine ex_s (am_nb (m := 1) (pc1 := 27) (ls1 := [(0, .ref q0)]) (st1 := [.ref q0, .ref (q0 + 1)]) (H1 := H) (k1 := 0) (n1 := 0) (by with_unfolding_all rfl)) ?_
  refine xe_get (v := .int (a q0 6)) hS rfl kq0 (by decide) rfl ?_
  refine ex_s (am_nb (m := 1) (pc1 := 31) (ls1 := [(0, .ref q0)]) (st1 := [.ref q0, .int (a q0 6), .ref (q0 + 1)]) (H1 := H) (k1 := 0) (n1 := 0) (by with_unfolding_all rfl)) ?_
  refine xe_get (v := .int (a q0 5)) hS rfl kq0 (by decide) rfl ?_
  refine ex_s (am_nb (m := 2) (pc1 := 36) (ls1 := [(0, .ref q0)]) (st1 := [.ref q0, .int ((a q0 6) * (a q0 5)), .ref (q0 + 1)]) (H1 := H) (k1 := 0) (n1 := 0) (by with_unfolding_all rfl)) ?_
  refine xe_get (v := .int (a q0 7)) hS rfl kq0 (by decide) rfl ?_
  refine ex_s (am_nb (m := 2) (pc1 := 41) (ls1 := [(0, .ref q0)]) (st1 := [.ref q0, .int (((a q0 6) * (a q0 5)) + (a q0 7)), .ref (q0 + 1)]) (H1 := H) (k1 := 0) (n1 := 0) (by with_unfolding_all rfl)) ?_
  refine xe_get (v := .int (a q0 6)) hS rfl kq0 (by decide) rfl ?_
  refine ex_s (am_nb (m := 3) (pc1 := 47) (ls1 := [(0, .ref q0)]) (st1 := [.ref q0, .int ((a q0 6) + 1), .int (((a q0 6) * (a q0 5)) + (a q0 7)), .ref (q0 + 1)]) (H1 := H) (k1 := 0) (n1 := 0) (by with_unfolding_all rfl)) ?_
  refine xe_get (v := .int (a q0 5)) hS rfl kq0 (by decide) rfl ?_
  refine ex_s (am_nb (m := 2) (pc1 := 53) (ls1 := [(0, .ref q0)]) (st1 := [.int 32, .int (((a q0 6) + 1) * (a q0 5)), .int (((a q0 6) * (a q0 5)) + (a q0 7)), .ref (q0 + 1)]) (H1 := H) (k1 := 0) (n1 := 0) (by with_unfolding_all rfl)) ?_
  obtain ⟨a8, e7, e⟩ := xb1_some e
  refine ex_cs0 (as := [.ref (q0 + 1), .int (((a q0 6) * (a q0 5)) + (a q0 7)), .int (((a q0 6) + 1) * (a q0 5)), .int 32]) (rest := []) rfl (by decide) rfl rfl (by with_unfolding_all rfl) (by with_unfolding_all rfl) (tf14_fill hS e7) (fun H5 s6 => ?_)
  refine ex_s (am_nb (m := 1) (pc1 := 57) (ls1 := [(0, .ref q0)]) (st1 := [.ref q0]) (H1 := H5) (k1 := 0) (n1 := 0) (by with_unfolding_all rfl)) ?_
  obtain ⟨r12, a13, e11, e⟩ := xb2_some e
  refine ex_cv1 (as := []) (rest := []) rfl rfl rfl rfl (s6.obj kq0 (by decide)) rfl (by with_unfolding_all rfl) (by with_unfolding_all rfl) (tf106_goToNextRow s6 e11) (fun H9 s10 => ?_)
  obtain ⟨g14, e⟩ := xg_some e
  cases e
  exact ex_r (st_iret rfl rfl (xnar_z g14)) s10

set_option maxRecDepth 100000 in
theorem tf105_breakLine {sL : Nat} {sx : Nat → Int32} {h b N : Nat} {T : List am_C} {r : Int32} {a' : xA} {o : Nat} {a : xA} {H : am_H} (hS : xS h b T a H) (e : f105_breakLine N h b o a = some (r, a')) : am_E sL sx am_cs 105 0 [(0, .ref o)] [] H (some (.int r)) (fun H1 => xS h b T a' H1) := by
  unfold f105_breakLine at e
  obtain ⟨g1, e⟩ := xg_some e
  refine ex_s (am_nb (m := 1) (pc1 := 1) (ls1 := [(0, .ref o)]) (st1 := [.ref o]) (H1 := H) (k1 := 0) (n1 := 0) (by with_unfolding_all rfl)) ?_
  refine xe_get (v := .int (a o 6)) hS rfl g1 (by decide) rfl ?_
  refine ex_s (am_nb (m := 1) (pc1 := 5) (ls1 := [(0, .ref o)]) (st1 := [.ref o, .int (a o 6)]) (H1 := H) (k1 := 0) (n1 := 0) (by with_unfolding_all rfl)) ?_
  refine xe_get (v := .int (a o 4)) hS rfl g1 (by decide) rfl ?_
  refine ex_s (am_nb (m := 2) (pc1 := 10) (ls1 := [(0, .ref o)]) (st1 := [.int ((a o 4) - 1), .int (a o 6)]) (H1 := H) (k1 := 0) (n1 := 0) (by with_unfolding_all rfl)) ?_
  refine ex_s (st_icmp rfl) ?_
  by_cases c4 : (a o 6) < ((a o 4) - 1)
  · have e := (if_pos c4).symm.trans e
    refine ex_pc (if_pos c4) ?_
    exact le_E (l1 := [(0, .ref o)]) ⟨rfl, trivial⟩ rfl (tj105_22 g1 hS e)
  · have e := (if_neg c4).symm.trans e
    refine ex_pc (if_neg c4) ?_
    refine ex_s (am_nb (m := 1) (pc1 := 14) (ls1 := [(0, .ref o)]) (st1 := [.ref o]) (H1 := H) (k1 := 0) (n1 := 0) (by with_unfolding_all rfl)) ?_
    refine xe_get (v := .int (a o 9)) hS rfl g1 (by decide) rfl ?_
    refine ex_s (st_if rfl) ?_
    by_cases c15 : (a o 9) = 0
    · have e := (if_pos c15).symm.trans e
      refine ex_pc (if_pos c15) ?_
      refine ex_s (am_nb (m := 1) (pc1 := 21) (ls1 := [(0, .ref o)]) (st1 := [.int 0]) (H1 := H) (k1 := 0) (n1 := 0) (by with_unfolding_all rfl)) ?_
      cases e
      exact ex_r (st_iret rfl rfl rfl) hS
    · have e := (if_neg c15).symm.trans e
      refine ex_pc (if_neg c15) ?_
      exact le_E (l1 := [(0, .ref o)]) ⟨rfl, trivial⟩ rfl (tj105_22 g1 hS e)

set_option maxRecDepth 100000 in
theorem tf110_isPrintable {sL : Nat} {sx : Nat → Int32} {h b N : Nat} {T : List am_C} {r : Int32} {a' : xA} {x0 : Int32} {a : xA} {H : am_H} (hS : xS h b T a H) (e : f110_isPrintable N h b x0 a = some (r, a')) : am_E sL sx am_cs 110 0 [(0, .int x0)] [] H (some (.int r)) (fun H1 => xS h b T a' H1) := by
  unfold f110_isPrintable at e
  refine ex_s (am_nb (m := 2) (pc1 := 3) (ls1 := [(0, .int x0)]) (st1 := [.int 32, .int x0]) (H1 := H) (k1 := 0) (n1 := 0) (by with_unfolding_all rfl)) ?_
  refine ex_s (st_icmp rfl) ?_
  by_cases c3 : x0 < 32
  · have e := (if_pos c3).symm.trans e
    refine ex_pc (if_pos c3) ?_
    refine ex_s (am_nb (m := 1) (pc1 := 17) (ls1 := [(0, .int x0)]) (st1 := [.int 0]) (H1 := H) (k1 := 0) (n1 := 0) (by with_unfolding_all rfl)) ?_
    cases e
    exact ex_r (st_iret rfl rfl rfl) hS
  · have e := (if_neg c3).symm.trans e
    refine ex_pc (if_neg c3) ?_
    refine ex_s (am_nb (m := 2) (pc1 := 9) (ls1 := [(0, .int x0)]) (st1 := [.int 126, .int x0]) (H1 := H) (k1 := 0) (n1 := 0) (by with_unfolding_all rfl)) ?_
    have kk : am_E sL sx am_cs 110 17 [(0, .int x0)] [.int (if 126 < x0 then (0 : Int32) else (1 : Int32))] H (some (.int r)) (fun H1 => xS h b T a' H1) := by
      obtain ⟨g5, e⟩ := xg_some e
      cases e
      exact ex_r (st_iret rfl rfl (xnar_z g5)) hS
    refine ex_s (st_icmp rfl) ?_
    by_cases c4 : 126 < x0
    · refine ex_pc (if_pos c4) ?_
      refine ex_s (am_nb (m := 1) (pc1 := 17) (ls1 := [(0, .int x0)]) (st1 := [.int 0]) (H1 := H) (k1 := 0) (n1 := 0) (by with_unfolding_all rfl)) ?_
      rw [if_pos c4] at kk
      exact kk
    · refine ex_pc (if_neg c4) ?_
      refine ex_s (am_nb (m := 2) (pc1 := 17) (ls1 := [(0, .int x0)]) (st1 := [.int 1]) (H1 := H) (k1 := 0) (n1 := 0) (by with_unfolding_all rfl)) ?_
      rw [if_neg c4] at kk
      exact kk

set_option maxRecDepth 100000 in
theorem tf111_saySign {sL : Nat} {sx : Nat → Int32} {h b N : Nat} {T : List am_C} {r : Int32} {a' : xA} {o : Nat} {x0 : Int32} {a : xA} {H : am_H} (hS : xS h b T a H) (e : f111_saySign N h b o x0 a = some (r, a')) : am_E sL sx am_cs 111 0 [(0, .ref o), (1, .int x0)] [] H (some (.int r)) (fun H1 => xS h b T a' H1) := by
  unfold f111_saySign at e
  obtain ⟨g1, e⟩ := xg_some e
  refine ex_s (am_nb (m := 1) (pc1 := 1) (ls1 := [(0, .ref o), (1, .int x0)]) (st1 := [.ref o]) (H1 := H) (k1 := 0) (n1 := 0) (by with_unfolding_all rfl)) ?_
  refine xe_get (v := .ref (o + 1)) hS rfl g1 (by decide) rfl ?_
  refine ex_s (am_nb (m := 1) (pc1 := 5) (ls1 := [(0, .ref o), (1, .int x0)]) (st1 := [.ref o, .ref (o + 1)]) (H1 := H) (k1 := 0) (n1 := 0) (by with_unfolding_all rfl)) ?_
  refine xe_get (v := .int (a o 6)) hS rfl g1 (by decide) rfl ?_
  refine ex_s (am_nb (m := 1) (pc1 := 9) (ls1 := [(0, .ref o), (1, .int x0)]) (st1 := [.ref o, .int (a o 6), .ref (o + 1)]) (H1 := H) (k1 := 0) (n1 := 0) (by with_unfolding_all rfl)) ?_
  refine xe_get (v := .int (a o 5)) hS rfl g1 (by decide) rfl ?_
  refine ex_s (am_nb (m := 2) (pc1 := 14) (ls1 := [(0, .ref o), (1, .int x0)]) (st1 := [.ref o, .int ((a o 6) * (a o 5)), .ref (o + 1)]) (H1 := H) (k1 := 0) (n1 := 0) (by with_unfolding_all rfl)) ?_
  refine xe_get (v := .int (a o 7)) hS rfl g1 (by decide) rfl ?_
  refine ex_s (am_nb (m := 4) (pc1 := 23) (ls1 := [(0, .ref o), (1, .int x0)]) (st1 := [.ref o, .int 256, .int x0, .int (((a o 6) * (a o 5)) + (a o 7)), .ref (o + 1)]) (H1 := H) (k1 := 0) (n1 := 0) (by with_unfolding_all rfl)) ?_
  refine xe_get (v := .int (a o 8)) hS rfl g1 (by decide) rfl ?_
  refine ex_s (am_nb (m := 2) (pc1 := 28) (ls1 := [(0, .ref o), (1, .int x0)]) (st1 := [.int (x0 + (256 * (a o 8))), .int (((a o 6) * (a o 5)) + (a o 7)), .ref (o + 1)]) (H1 := H) (k1 := 0) (n1 := 0) (by with_unfolding_all rfl)) ?_
  obtain ⟨g5, e⟩ := xg_some e
  obtain ⟨a2, ha2, e⟩ := xw_some e
  refine xe_iast hS rfl (xd_9_1 g1) g5 (fun H3 s4 => ?_)
  have s4 : xS h b T a2 H3 := by rw [ha2]; exact s4
  refine ex_s (am_nb (m := 1) (pc1 := 30) (ls1 := [(0, .ref o), (1, .int x0)]) (st1 := [.ref o]) (H1 := H3) (k1 := 0) (n1 := 0) (by with_unfolding_all rfl)) ?_
  refine xe_get (v := .int (a2 o 7)) s4 rfl g1 (by decide) rfl ?_
  refine ex_s (am_nb (m := 1) (pc1 := 34) (ls1 := [(0, .ref o), (1, .int x0)]) (st1 := [.ref o, .int (a2 o 7)]) (H1 := H3) (k1 := 0) (n1 := 0) (by with_unfolding_all rfl)) ?_
  refine xe_get (v := .int (a2 o 5)) s4 rfl g1 (by decide) rfl ?_
  refine ex_s (am_nb (m := 2) (pc1 := 39) (ls1 := [(0, .ref o), (1, .int x0)]) (st1 := [.int ((a2 o 5) - 1), .int (a2 o 7)]) (H1 := H3) (k1 := 0) (n1 := 0) (by with_unfolding_all rfl)) ?_
  refine ex_s (st_icmp rfl) ?_
  by_cases c6 : ((a2 o 5) - 1) ≤ (a2 o 7)
  · have e := (if_pos c6).symm.trans e
    refine ex_pc (if_pos c6) ?_
    refine ex_s (am_nb (m := 1) (pc1 := 55) (ls1 := [(0, .ref o), (1, .int x0)]) (st1 := [.ref o]) (H1 := H3) (k1 := 0) (n1 := 0) (by with_unfolding_all rfl)) ?_
    obtain ⟨r10, a11, e9, e⟩ := xb2_some e
    refine ex_cv1 (as := []) (rest := []) rfl rfl rfl rfl (s4.obj g1 (by decide)) rfl (by with_unfolding_all rfl) (by with_unfolding_all rfl) (tf106_goToNextRow s4 e9) (fun H7 s8 => ?_)
    obtain ⟨g12, e⟩ := xg_some e
    cases e
    exact ex_r (st_iret rfl rfl (xnar_z g12)) s8
  · have e := (if_neg c6).symm.trans e
    refine ex_pc (if_neg c6) ?_
    refine ex_s (am_nb (m := 2) (pc1 := 44) (ls1 := [(0, .ref o), (1, .int x0)]) (st1 := [.ref o, .ref o]) (H1 := H3) (k1 := 0) (n1 := 0) (by with_unfolding_all rfl)) ?_
    refine xe_get (v := .int (a2 o 7)) s4 rfl g1 (by decide) rfl ?_
    refine ex_s (am_nb (m := 2) (pc1 := 49) (ls1 := [(0, .ref o), (1, .int x0)]) (st1 := [.int ((a2 o 7) + 1), .ref o]) (H1 := H3) (k1 := 0) (n1 := 0) (by with_unfolding_all rfl)) ?_
    obtain ⟨a13, ha13, e⟩ := xw_some e
    refine xe_put (w := ((a2 o 7) + 1)) s4 rfl g1 (by decide) rfl rfl rfl rfl (fun H14 s15 => ?_)
    have s15 : xS h b T a13 H14 := by rw [ha13]; exact s15
    refine ex_s (am_nb (m := 1) (pc1 := 53) (ls1 := [(0, .ref o), (1, .int x0)]) (st1 := [.int 1]) (H1 := H14) (k1 := 0) (n1 := 0) (by with_unfolding_all rfl)) ?_
    cases e
    exact ex_r (st_iret rfl rfl rfl) s15

set_option maxRecDepth 100000 in
theorem tl109_50 {sL : Nat} {sx : Nat → Int32} {h b N : Nat} {T : List am_C} {R : Option Value} {F : am_H → Prop} {w0 : Nat} {w3 : Int32} {z : Nat × Int32 × xA} (kw0 : xk w0 = 10) (k0 : z.1 = 0 → ∀ H2 : am_H, xS h b T z.2.2 H2 → am_E sL sx am_cs 109 73 [(2, .int z.2.1)] [] H2 R F) : ∀ (n : Nat) (v2 : Int32) (v4 : Int32) (a : xA) (H : am_H), xS h b T a H → l109_50 N h b w0 w3 n v2 v4 a = some z → am_E sL sx am_cs 109 50 [(0, .ref w0), (2, .int v2), (3, .int w3), (4, .int v4)] [] H R F := by
  intro n
  induction n with
  | zero =>
    intro v2 v4 a H hS e
    cases e
  | succ n ih =>
    intro v2 v4 a H hS e
    unfold l109_50 at e
    refine ex_s (am_nb (m := 2) (pc1 := 53) (ls1 := [(0, .ref w0), (2, .int v2), (3, .int w3), (4, .int v4)]) (st1 := [.int w3, .int v4]) (H1 := H) (k1 := 0) (n1 := 0) (by with_unfolding_all rfl)) ?_
    refine ex_s (st_icmp rfl) ?_
    by_cases c11 : w3 ≤ v4
    · have e := (if_pos c11).symm.trans e
      refine ex_pc (if_pos c11) ?_
      cases e
      exact le_E (l1 := [(2, .int v2)]) ⟨rfl, trivial⟩ rfl (k0 rfl H hS)
    · have e := (if_neg c11).symm.trans e
      refine ex_pc (if_neg c11) ?_
      refine ex_s (am_nb (m := 1) (pc1 := 57) (ls1 := [(0, .ref w0), (2, .int v2), (3, .int w3), (4, .int v4)]) (st1 := [.int v2]) (H1 := H) (k1 := 0) (n1 := 0) (by with_unfolding_all rfl)) ?_
      refine ex_s (st_if rfl) ?_
      by_cases c12 : v2 = 0
      · have e := (if_pos c12).symm.trans e
        refine ex_pc (if_pos c12) ?_
        cases e
        exact le_E (l1 := [(2, .int v2)]) ⟨rfl, trivial⟩ rfl (k0 rfl H hS)
      · have e := (if_neg c12).symm.trans e
        refine ex_pc (if_neg c12) ?_
        refine ex_s (am_nb (m := 2) (pc1 := 63) (ls1 := [(0, .ref w0), (2, .int v2), (3, .int w3), (4, .int v4)]) (st1 := [.int 32, .ref w0]) (H1 := H) (k1 := 0) (n1 := 0) (by with_unfolding_all rfl)) ?_
        obtain ⟨r16, a17, e15, e⟩ := xb2_some e
        refine ex_cv1 (as := [.int 32]) (rest := []) rfl rfl rfl rfl (hS.obj kw0 (by decide)) rfl (by with_unfolding_all rfl) (by with_unfolding_all rfl) (tf111_saySign hS e15) (fun H13 s14 => ?_)
        refine ex_s (am_nb (m := 3) (pc1 := 50) (ls1 := [(4, .int (v4 + 1)), (2, .int r16), (0, .ref w0), (3, .int w3)]) (st1 := []) (H1 := H13) (k1 := 0) (n1 := 0) (by with_unfolding_all rfl)) ?_
        exact le_E (l1 := [(0, .ref w0), (2, .int r16), (3, .int w3), (4, .int (v4 + 1))]) ⟨rfl, rfl, rfl, rfl, trivial⟩ rfl (ih r16 (v4 + 1) a17 H13 s14 e)

set_option maxRecDepth 100000 in
theorem tj109_73 {sL : Nat} {sx : Nat → Int32} {h b N : Nat} {T : List am_C} {r : Int32} {a' : xA} {q2 : Int32} {a : xA} {H : am_H} (hS : xS h b T a H) (e : j109_73 N h b q2 a = some (r, a')) : am_E sL sx am_cs 109 73 [(2, .int q2)] [] H (some (.int r)) (fun H1 => xS h b T a' H1) := by
  unfold j109_73 at e
  refine ex_s (am_nb (m := 2) (pc1 := 114) (ls1 := [(2, .int q2)]) (st1 := [.int q2]) (H1 := H) (k1 := 0) (n1 := 0) (by with_unfolding_all rfl)) ?_
  obtain ⟨g20, e⟩ := xg_some e
  cases e
  exact ex_r (st_iret rfl rfl (xnar_z g20)) hS

set_option maxRecDepth 100000 in
theorem tf109_sayByte {sL : Nat} {sx : Nat → Int32} {h b N : Nat} {T : List am_C} {r : Int32} {a' : xA} {o : Nat} {x0 : Int32} {a : xA} {H : am_H} (hS : xS h b T a H) (e : f109_sayByte N h b o x0 a = some (r, a')) : am_E sL sx am_cs 109 0 [(0, .ref o), (1, .int x0)] [] H (some (.int r)) (fun H1 => xS h b T a' H1) := by
  unfold f109_sayByte at e
  obtain ⟨g1, e⟩ := xg_some e
  refine ex_s (am_nb (m := 3) (pc1 := 3) (ls1 := [(2, .int 1), (0, .ref o), (1, .int x0)]) (st1 := [.int x0]) (H1 := H) (k1 := 0) (n1 := 0) (by with_unfolding_all rfl)) ?_
  obtain ⟨r5, a6, e4, e⟩ := xb2_some e
  refine ex_cs1 (as := [.int x0]) (rest := []) rfl (by decide) rfl rfl (by with_unfolding_all rfl) (by with_unfolding_all rfl) (tf110_isPrintable hS e4) (fun H2 s3 => ?_)
  refine ex_s (st_if rfl) ?_
  by_cases c7 : r5 = 0
  · have e := (if_pos c7).symm.trans e
    refine ex_pc (if_pos c7) ?_
    refine ex_s (am_nb (m := 2) (pc1 := 21) (ls1 := [(2, .int 1), (0, .ref o), (1, .int x0)]) (st1 := [.int 9, .int x0]) (H1 := H2) (k1 := 0) (n1 := 0) (by with_unfolding_all rfl)) ?_
    refine ex_s (st_icmp rfl) ?_
    by_cases c8 : x0 = 9
    · have e := (if_pos c8).symm.trans e
      refine ex_pc (if_pos c8) ?_
      refine ex_s (am_nb (m := 2) (pc1 := 27) (ls1 := [(2, .int 1), (0, .ref o), (1, .int x0)]) (st1 := [.ref o, .int 8]) (H1 := H2) (k1 := 0) (n1 := 0) (by with_unfolding_all rfl)) ?_
      refine xe_get (v := .int (a6 o 7)) s3 rfl g1 (by decide) rfl ?_
      refine ex_s (am_nb (m := 4) (pc1 := 35) (ls1 := [(2, .int 1), (0, .ref o), (1, .int x0)]) (st1 := [.ref o, .int (8 - ((a6 o 7) - (a6 o 7) / 8 * 8))]) (H1 := H2) (k1 := 0) (n1 := 0) (by with_unfolding_all rfl)) ?_
      refine xe_get (v := .int (a6 o 5)) s3 rfl g1 (by decide) rfl ?_
      refine ex_s (am_nb (m := 1) (pc1 := 39) (ls1 := [(2, .int 1), (0, .ref o), (1, .int x0)]) (st1 := [.ref o, .int (a6 o 5), .int (8 - ((a6 o 7) - (a6 o 7) / 8 * 8))]) (H1 := H2) (k1 := 0) (n1 := 0) (by with_unfolding_all rfl)) ?_
      refine xe_get (v := .int (a6 o 7)) s3 rfl g1 (by decide) rfl ?_
      refine ex_s (am_nb (m := 5) (pc1 := 50) (ls1 := [(4, .int 0), (3, .int (xmin (8 - ((a6 o 7) - (a6 o 7) / 8 * 8)) ((a6 o 5) - (a6 o 7)))), (2, .int 1), (0, .ref o), (1, .int x0)]) (st1 := []) (H1 := H2) (k1 := 0) (n1 := 0) (by with_unfolding_all rfl)) ?_
      obtain ⟨z18, e19, e⟩ := Option.bind_eq_some_iff.mp e
      refine le_E (l1 := [(0, .ref o), (2, .int 1), (3, .int (xmin (8 - ((a6 o 7) - (a6 o 7) / 8 * 8)) ((a6 o 5) - (a6 o 7)))), (4, .int 0)]) ⟨rfl, rfl, rfl, rfl, trivial⟩ rfl (tl109_50 (z := z18) g1 (fun uz18_0 Hz180 sz180 => ?_) N 1 0 a6 H2 s3 e19)
      exact le_E (l1 := [(2, .int z18.2.1)]) ⟨rfl, trivial⟩ rfl (tj109_73  sz180 e)
    · have e := (if_neg c8).symm.trans e
      refine ex_pc (if_neg c8) ?_
      refine ex_s (am_nb (m := 2) (pc1 := 79) (ls1 := [(2, .int 1), (0, .ref o), (1, .int x0)]) (st1 := [.int 13, .int x0]) (H1 := H2) (k1 := 0) (n1 := 0) (by with_unfolding_all rfl)) ?_
      refine ex_s (st_icmp rfl) ?_
      by_cases c22 : x0 = 13
      · have e := (if_pos c22).symm.trans e
        refine ex_pc (if_pos c22) ?_
        refine ex_s (am_nb (m := 2) (pc1 := 84) (ls1 := [(2, .int 1), (0, .ref o), (1, .int x0)]) (st1 := [.int 0, .ref o]) (H1 := H2) (k1 := 0) (n1 := 0) (by with_unfolding_all rfl)) ?_
        obtain ⟨a23, ha23, e⟩ := xw_some e
        refine xe_put (w := 0) s3 rfl g1 (by decide) rfl rfl rfl rfl (fun H24 s25 => ?_)
        have s25 : xS h b T a23 H24 := by rw [ha23]; exact s25
        refine ex_s (am_nb (m := 2) (pc1 := 114) (ls1 := [(2, .int 1), (0, .ref o), (1, .int x0)]) (st1 := [.int 1]) (H1 := H24) (k1 := 0) (n1 := 0) (by with_unfolding_all rfl)) ?_
        cases e
        exact ex_r (st_iret rfl rfl rfl) s25
      · have e := (if_neg c22).symm.trans e
        refine ex_pc (if_neg c22) ?_
        refine ex_s (am_nb (m := 2) (pc1 := 93) (ls1 := [(2, .int 1), (0, .ref o), (1, .int x0)]) (st1 := [.int 8, .int x0]) (H1 := H2) (k1 := 0) (n1 := 0) (by with_unfolding_all rfl)) ?_
        refine ex_s (st_icmp rfl) ?_
        by_cases c28 : x0 = 8
        · have e := (if_pos c28).symm.trans e
          refine ex_pc (if_pos c28) ?_
          refine ex_s (am_nb (m := 1) (pc1 := 97) (ls1 := [(2, .int 1), (0, .ref o), (1, .int x0)]) (st1 := [.ref o]) (H1 := H2) (k1 := 0) (n1 := 0) (by with_unfolding_all rfl)) ?_
          refine xe_get (v := .int (a6 o 7)) s3 rfl g1 (by decide) rfl ?_
          refine ex_s (st_if rfl) ?_
          by_cases c30 : (a6 o 7) ≤ 0
          · have e := (if_pos c30).symm.trans e
            refine ex_pc (if_pos c30) ?_
            refine ex_s (am_nb (m := 1) (pc1 := 114) (ls1 := [(2, .int 1), (0, .ref o), (1, .int x0)]) (st1 := [.int 1]) (H1 := H2) (k1 := 0) (n1 := 0) (by with_unfolding_all rfl)) ?_
            cases e
            exact ex_r (st_iret rfl rfl rfl) s3
          · have e := (if_neg c30).symm.trans e
            refine ex_pc (if_neg c30) ?_
            refine ex_s (am_nb (m := 2) (pc1 := 105) (ls1 := [(2, .int 1), (0, .ref o), (1, .int x0)]) (st1 := [.ref o, .ref o]) (H1 := H2) (k1 := 0) (n1 := 0) (by with_unfolding_all rfl)) ?_
            refine xe_get (v := .int (a6 o 7)) s3 rfl g1 (by decide) rfl ?_
            refine ex_s (am_nb (m := 2) (pc1 := 110) (ls1 := [(2, .int 1), (0, .ref o), (1, .int x0)]) (st1 := [.int ((a6 o 7) - 1), .ref o]) (H1 := H2) (k1 := 0) (n1 := 0) (by with_unfolding_all rfl)) ?_
            obtain ⟨a31, ha31, e⟩ := xw_some e
            refine xe_put (w := ((a6 o 7) - 1)) s3 rfl g1 (by decide) rfl rfl rfl rfl (fun H32 s33 => ?_)
            have s33 : xS h b T a31 H32 := by rw [ha31]; exact s33
            refine ex_s (am_nb (m := 1) (pc1 := 114) (ls1 := [(2, .int 1), (0, .ref o), (1, .int x0)]) (st1 := [.int 1]) (H1 := H32) (k1 := 0) (n1 := 0) (by with_unfolding_all rfl)) ?_
            cases e
            exact ex_r (st_iret rfl rfl rfl) s33
        · have e := (if_neg c28).symm.trans e
          refine ex_pc (if_neg c28) ?_
          refine ex_s (am_nb (m := 1) (pc1 := 114) (ls1 := [(2, .int 1), (0, .ref o), (1, .int x0)]) (st1 := [.int 1]) (H1 := H2) (k1 := 0) (n1 := 0) (by with_unfolding_all rfl)) ?_
          cases e
          exact ex_r (st_iret rfl rfl rfl) s3
  · have e := (if_neg c7).symm.trans e
    refine ex_pc (if_neg c7) ?_
    refine ex_s (am_nb (m := 2) (pc1 := 11) (ls1 := [(2, .int 1), (0, .ref o), (1, .int x0)]) (st1 := [.int x0, .ref o]) (H1 := H2) (k1 := 0) (n1 := 0) (by with_unfolding_all rfl)) ?_
    obtain ⟨r37, a38, e36, e⟩ := xb2_some e
    refine ex_cv1 (as := [.int x0]) (rest := []) rfl rfl rfl rfl (s3.obj g1 (by decide)) rfl (by with_unfolding_all rfl) (by with_unfolding_all rfl) (tf111_saySign s3 e36) (fun H34 s35 => ?_)
    refine ex_s (am_nb (m := 3) (pc1 := 114) (ls1 := [(2, .int r37), (0, .ref o), (1, .int x0)]) (st1 := [.int r37]) (H1 := H34) (k1 := 0) (n1 := 0) (by with_unfolding_all rfl)) ?_
    obtain ⟨g39, e⟩ := xg_some e
    cases e
    exact ex_r (st_iret rfl rfl (xnar_z g39)) s35

set_option maxRecDepth 100000 in
theorem tj104_61 {sL : Nat} {sx : Nat → Int32} {h b N : Nat} {T : List am_C} {R : Option Value} {F : am_H → Prop} {w1 : Nat} {z : Nat × Int32 × xA} {rc : Int32 → xA → Option (Nat × Int32 × xA)} (k0 : z.1 = 0 → ∀ H2 : am_H, xS h b T z.2.2 H2 → am_E sL sx am_cs 104 30 [(2, .int z.2.1)] [] H2 R F) (k1 : z.1 = 1 → ∀ H2 : am_H, xS h b T z.2.2 H2 → am_E sL sx am_cs 104 57 [(2, .int z.2.1)] [] H2 R F) (k2 : z.1 = 2 → ∀ H2 : am_H, xS h b T z.2.2 H2 → am_E sL sx am_cs 104 67 [(0, .ref 0)] [] H2 R F) (ih : ∀ (v2 : Int32) (a : xA) (H : am_H), xS h b T a H → rc v2 a = some z → am_E sL sx am_cs 104 2 [(0, .ref 0), (1, .ref w1), (2, .int v2)] [] H R F) {q2 : Int32} {a : xA} {H : am_H} (kw1 : xk w1 = 10) (hS : xS h b T a H) (e : j104_61 N h b rc w1 q2 a = some z) : am_E sL sx am_cs 104 61 [(0, .ref 0), (1, .ref w1), (2, .int q2)] [] H R F := by
  unfold j104_61 at e
  refine ex_s (am_nb (m := 2) (pc1 := 2) (ls1 := [(2, .int (q2 + 1)), (0, .ref 0), (1, .ref w1)]) (st1 := []) (H1 := H) (k1 := 0) (n1 := 0) (by with_unfolding_all rfl)) ?_
  exact le_E (l1 := [(0, .ref 0), (1, .ref w1), (2, .int (q2 + 1))]) ⟨rfl, rfl, rfl, trivial⟩ rfl (ih (q2 + 1) a H hS e)

set_option maxRecDepth 100000 in
theorem tl104_2 {sL : Nat} {sx : Nat → Int32} {h b N : Nat} {T : List am_C} {R : Option Value} {F : am_H → Prop} {w1 : Nat} {z : Nat × Int32 × xA} (kw1 : xk w1 = 10) (k0 : z.1 = 0 → ∀ H2 : am_H, xS h b T z.2.2 H2 → am_E sL sx am_cs 104 30 [(2, .int z.2.1)] [] H2 R F) (k1 : z.1 = 1 → ∀ H2 : am_H, xS h b T z.2.2 H2 → am_E sL sx am_cs 104 57 [(2, .int z.2.1)] [] H2 R F) (k2 : z.1 = 2 → ∀ H2 : am_H, xS h b T z.2.2 H2 → am_E sL sx am_cs 104 67 [(0, .ref 0)] [] H2 R F) : ∀ (n : Nat) (v2 : Int32) (a : xA) (H : am_H), xS h b T a H → l104_2 N h b w1 n v2 a = some z → am_E sL sx am_cs 104 2 [(0, .ref 0), (1, .ref w1), (2, .int v2)] [] H R F := by
  intro n
  induction n with
  | zero =>
    intro v2 a H hS e
    cases e
  | succ n ih =>
    intro v2 a H hS e
    unfold l104_2 at e
    refine ex_s (am_nb (m := 2) (pc1 := 4) (ls1 := [(0, .ref 0), (1, .ref w1), (2, .int v2)]) (st1 := [.ref 0, .int v2]) (H1 := H) (k1 := 0) (n1 := 0) (by with_unfolding_all rfl)) ?_
    refine xe_get (v := .int (a 0 1)) hS rfl rfl (by decide) rfl ?_
    refine ex_s (st_icmp rfl) ?_
    by_cases c2 : (a 0 1) ≤ v2
    · have e := (if_pos c2).symm.trans e
      refine ex_pc (if_pos c2) ?_
      cases e
      exact le_E (l1 := [(0, .ref 0)]) ⟨rfl, trivial⟩ rfl (k2 rfl H hS)
    · have e := (if_neg c2).symm.trans e
      refine ex_pc (if_neg c2) ?_
      refine ex_s (am_nb (m := 1) (pc1 := 11) (ls1 := [(0, .ref 0), (1, .ref w1), (2, .int v2)]) (st1 := [.ref 0]) (H1 := H) (k1 := 0) (n1 := 0) (by with_unfolding_all rfl)) ?_
      refine xe_get (v := .ref 1) hS rfl rfl (by decide) rfl ?_
      refine ex_s (am_nb (m := 1) (pc1 := 15) (ls1 := [(0, .ref 0), (1, .ref w1), (2, .int v2)]) (st1 := [.int v2, .ref 1]) (H1 := H) (k1 := 0) (n1 := 0) (by with_unfolding_all rfl)) ?_
      obtain ⟨g3, e⟩ := xg_some e
      refine xe_iald hS rfl rfl g3 ?_
      refine ex_s (am_nb (m := 3) (pc1 := 20) (ls1 := [(3, .int (a 1 (v2.toNatClampNeg))), (0, .ref 0), (1, .ref w1), (2, .int v2)]) (st1 := [.int 10, .int (a 1 (v2.toNatClampNeg))]) (H1 := H) (k1 := 0) (n1 := 0) (by with_unfolding_all rfl)) ?_
      refine ex_s (st_icmp rfl) ?_
      by_cases c5 : (a 1 (v2.toNatClampNeg)) = 10
      · have e := (if_pos c5).symm.trans e
        refine ex_pc (if_pos c5) ?_
        refine ex_s (am_nb (m := 1) (pc1 := 24) (ls1 := [(3, .int (a 1 (v2.toNatClampNeg))), (0, .ref 0), (1, .ref w1), (2, .int v2)]) (st1 := [.ref w1]) (H1 := H) (k1 := 0) (n1 := 0) (by with_unfolding_all rfl)) ?_
        obtain ⟨r9, a10, e8, e⟩ := xb2_some e
        refine ex_cv1 (as := []) (rest := []) rfl rfl rfl rfl (hS.obj kw1 (by decide)) rfl (by with_unfolding_all rfl) (by with_unfolding_all rfl) (tf105_breakLine hS e8) (fun H6 s7 => ?_)
        refine ex_s (st_if rfl) ?_
        by_cases c11 : r9 = 0
        · have e := (if_pos c11).symm.trans e
          refine ex_pc (if_pos c11) ?_
          cases e
          exact le_E (l1 := [(2, .int v2)]) ⟨rfl, trivial⟩ rfl (k0 rfl H6 s7)
        · have e := (if_neg c11).symm.trans e
          refine ex_pc (if_neg c11) ?_
          exact le_E (l1 := [(0, .ref 0), (1, .ref w1), (2, .int v2)]) ⟨rfl, rfl, rfl, trivial⟩ rfl (tj104_61 k0 k1 k2 ih kw1 s7 e)
      · have e := (if_neg c5).symm.trans e
        refine ex_pc (if_neg c5) ?_
        refine ex_s (am_nb (m := 2) (pc1 := 35) (ls1 := [(3, .int (a 1 (v2.toNatClampNeg))), (0, .ref 0), (1, .ref w1), (2, .int v2)]) (st1 := [.int 7, .int (a 1 (v2.toNatClampNeg))]) (H1 := H) (k1 := 0) (n1 := 0) (by with_unfolding_all rfl)) ?_
        refine ex_s (st_icmp rfl) ?_
        by_cases c13 : (a 1 (v2.toNatClampNeg)) = 7
        · have e := (if_pos c13).symm.trans e
          refine ex_pc (if_pos c13) ?_
          refine ex_s (am_nb (m := 1) (pc1 := 39) (ls1 := [(3, .int (a 1 (v2.toNatClampNeg))), (0, .ref 0), (1, .ref w1), (2, .int v2)]) (st1 := [.ref 0]) (H1 := H) (k1 := 0) (n1 := 0) (by with_unfolding_all rfl)) ?_
          refine xe_get (v := .ref 97) hS rfl rfl (by decide) rfl ?_
          refine ex_s (am_nb (m := 1) (pc1 := 43) (ls1 := [(3, .int (a 1 (v2.toNatClampNeg))), (0, .ref 0), (1, .ref w1), (2, .int v2)]) (st1 := [.int 1, .ref 97]) (H1 := H) (k1 := 0) (n1 := 0) (by with_unfolding_all rfl)) ?_
          obtain ⟨a14, ha14, e⟩ := xw_some e
          refine xe_put (w := 1) hS rfl rfl (by decide) rfl rfl rfl rfl (fun H15 s16 => ?_)
          have s16 : xS h b T a14 H15 := by rw [ha14]; exact s16
          refine ex_s (am_nb (m := 1) (pc1 := 61) (ls1 := [(3, .int (a 1 (v2.toNatClampNeg))), (0, .ref 0), (1, .ref w1), (2, .int v2)]) (st1 := []) (H1 := H15) (k1 := 0) (n1 := 0) (by with_unfolding_all rfl)) ?_
          exact le_E (l1 := [(0, .ref 0), (1, .ref w1), (2, .int v2)]) ⟨rfl, rfl, rfl, trivial⟩ rfl (tj104_61 k0 k1 k2 ih kw1 s16 e)
        · have e := (if_neg c13).symm.trans e
          refine ex_pc (if_neg c13) ?_
          refine ex_s (am_nb (m := 2) (pc1 := 51) (ls1 := [(3, .int (a 1 (v2.toNatClampNeg))), (0, .ref 0), (1, .ref w1), (2, .int v2)]) (st1 := [.int (a 1 (v2.toNatClampNeg)), .ref w1]) (H1 := H) (k1 := 0) (n1 := 0) (by with_unfolding_all rfl)) ?_
          obtain ⟨r20, a21, e19, e⟩ := xb2_some e
          refine ex_cv1 (as := [.int (a 1 (v2.toNatClampNeg))]) (rest := []) rfl rfl rfl rfl (hS.obj kw1 (by decide)) rfl (by with_unfolding_all rfl) (by with_unfolding_all rfl) (tf109_sayByte hS e19) (fun H17 s18 => ?_)
          refine ex_s (st_if rfl) ?_
          by_cases c22 : r20 = 0
          · have e := (if_pos c22).symm.trans e
            refine ex_pc (if_pos c22) ?_
            cases e
            exact le_E (l1 := [(2, .int v2)]) ⟨rfl, trivial⟩ rfl (k1 rfl H17 s18)
          · have e := (if_neg c22).symm.trans e
            refine ex_pc (if_neg c22) ?_
            exact le_E (l1 := [(0, .ref 0), (1, .ref w1), (2, .int v2)]) ⟨rfl, rfl, rfl, trivial⟩ rfl (tj104_61 k0 k1 k2 ih kw1 s18 e)
