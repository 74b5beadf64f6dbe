/-! The program does what the functions say. -/
set_option maxRecDepth 100000 in
theorem tl415_144 {sL : Nat} {sx : Nat → Int32} {h b N : Nat} {T : List am_C} {R : Option Value} {F : am_H → Prop} {z : Nat × Int32 × xA} (k0 : z.1 = 0 → ∀ H2 : am_H, xS h b T z.2.2 H2 → am_E sL sx am_cs 415 173 [(2, .int z.2.1)] [] H2 R F) : ∀ (n : Nat) (v2 : Int32) (v3 : Int32) (a : xA) (H : am_H), xS h b T a H → l415_144 N h b n v2 v3 a = some z → am_E sL sx am_cs 415 144 [(0, .ref 157), (2, .int v2), (3, .int v3)] [] H R F := by
  intro n
  induction n with
  | zero =>
    intro v2 v3 a H hS e
    cases e
  | succ n ih =>
    intro v2 v3 a H hS e
    unfold l415_144 at e
    refine ex_s (am_nb (m := 2) (pc1 := 147) (ls1 := [(0, .ref 157), (2, .int v2), (3, .int v3)]) (st1 := [.int 8, .int v3]) (H1 := H) (k1 := 0) (n1 := 0) (by with_unfolding_all rfl)) ?_
    refine ex_s (st_icmp rfl) ?_
    by_cases c11 : 8 ≤ v3
    · have e := (if_pos c11).symm.trans e
      refine ex_pc (if_pos c11) ?_
      cases e
      exact le_E (l1 := [(2, .int v2)]) ⟨rfl, trivial⟩ rfl (k0 rfl H hS)
    · have e := (if_neg c11).symm.trans e
      refine ex_pc (if_neg c11) ?_
      refine ex_s (am_nb (m := 2) (pc1 := 152) (ls1 := [(0, .ref 157), (2, .int v2), (3, .int v3)]) (st1 := [.ref 157, .int v2]) (H1 := H) (k1 := 0) (n1 := 0) (by with_unfolding_all rfl)) ?_
      refine xe_get (v := .ref 172) hS rfl rfl (by decide) rfl ?_
      refine ex_s (am_nb (m := 1) (pc1 := 156) (ls1 := [(0, .ref 157), (2, .int v2), (3, .int v3)]) (st1 := [.int v3, .ref 172, .int v2]) (H1 := H) (k1 := 0) (n1 := 0) (by with_unfolding_all rfl)) ?_
      obtain ⟨g12, e⟩ := xg_some e
      refine xe_zald hS rfl rfl g12 ?_
      have kk : am_E sL sx am_cs 415 165 [(0, .ref 157), (2, .int v2), (3, .int v3)] [.int (if (a 172 (v3.toNatClampNeg)) = 0 then (0 : Int32) else (1 : Int32)), .int v2] H R F := by
        refine ex_s (am_nb (m := 4) (pc1 := 144) (ls1 := [(3, .int (v3 + 1)), (2, .int (v2 + (if (a 172 (v3.toNatClampNeg)) = 0 then (0 : Int32) else (1 : Int32)))), (0, .ref 157)]) (st1 := []) (H1 := H) (k1 := 0) (n1 := 0) (by with_unfolding_all rfl)) ?_
        exact le_E (l1 := [(0, .ref 157), (2, .int (v2 + (if (a 172 (v3.toNatClampNeg)) = 0 then (0 : Int32) else (1 : Int32)))), (3, .int (v3 + 1))]) ⟨rfl, rfl, rfl, trivial⟩ rfl (ih (v2 + (if (a 172 (v3.toNatClampNeg)) = 0 then (0 : Int32) else (1 : Int32))) (v3 + 1) a H hS e)
      refine ex_s (st_if rfl) ?_
      by_cases c13 : (a 172 (v3.toNatClampNeg)) = 0
      · refine ex_pc (if_pos c13) ?_
        refine ex_s (am_nb (m := 1) (pc1 := 165) (ls1 := [(0, .ref 157), (2, .int v2), (3, .int v3)]) (st1 := [.int 0, .int v2]) (H1 := H) (k1 := 0) (n1 := 0) (by with_unfolding_all rfl)) ?_
        rw [if_pos c13] at kk
        exact kk
      · refine ex_pc (if_neg c13) ?_
        refine ex_s (am_nb (m := 2) (pc1 := 165) (ls1 := [(0, .ref 157), (2, .int v2), (3, .int v3)]) (st1 := [.int 1, .int v2]) (H1 := H) (k1 := 0) (n1 := 0) (by with_unfolding_all rfl)) ?_
        rw [if_neg c13] at kk
        exact kk

set_option maxRecDepth 100000 in
theorem tf415_count {sL : Nat} {sx : Nat → Int32} {h b N : Nat} {T : List am_C} {r : Int32} {a' : xA} {x0 : Int32} {a : xA} {H : am_H} (hS : xS h b T a H) (e : f415_count N h b x0 a = some (r, a')) : am_E sL sx am_cs 415 0 [(0, .ref 157), (1, .int x0)] [] H (some (.int r)) (fun H1 => xS h b T a' H1) := by
  unfold f415_count at e
  refine ex_s (am_nb (m := 2) (pc1 := 2) (ls1 := [(0, .ref 157), (1, .int x0)]) (st1 := [.int 0, .ref 157]) (H1 := H) (k1 := 0) (n1 := 0) (by with_unfolding_all rfl)) ?_
  obtain ⟨a1, ha1, e⟩ := xw_some e
  refine xe_put (w := 0) hS rfl rfl (by decide) rfl rfl rfl rfl (fun H2 s3 => ?_)
  have s3 : xS h b T a1 H2 := by rw [ha1]; exact s3
  refine ex_s (am_nb (m := 1) (pc1 := 6) (ls1 := [(0, .ref 157), (1, .int x0)]) (st1 := [.int x0]) (H1 := H2) (k1 := 0) (n1 := 0) (by with_unfolding_all rfl)) ?_
  refine ex_s (st_tsw rfl) ?_
  by_cases c4 : x0 = 0
  · have e := (if_pos c4).symm.trans e
    refine ex_pc (pc1 := 96) (by rw [c4]; with_unfolding_all rfl) ?_
    refine ex_s (am_nb (m := 1) (pc1 := 97) (ls1 := [(0, .ref 157), (1, .int x0)]) (st1 := [.ref 157]) (H1 := H2) (k1 := 0) (n1 := 0) (by with_unfolding_all rfl)) ?_
    refine xe_get (v := .int (a1 157 71)) s3 rfl rfl (by decide) rfl ?_
    cases e
    exact ex_r (st_iret rfl rfl rfl) s3
  · have e := (if_neg c4).symm.trans e
    by_cases c5 : x0 = 1
    · have e := (if_pos c5).symm.trans e
      refine ex_pc (pc1 := 101) (by rw [c5]; with_unfolding_all rfl) ?_
      refine ex_s (am_nb (m := 1) (pc1 := 102) (ls1 := [(0, .ref 157), (1, .int x0)]) (st1 := [.ref 157]) (H1 := H2) (k1 := 0) (n1 := 0) (by with_unfolding_all rfl)) ?_
      refine xe_get (v := .int (a1 157 5)) s3 rfl rfl (by decide) rfl ?_
      cases e
      exact ex_r (st_iret rfl rfl rfl) s3
    · have e := (if_neg c5).symm.trans e
      by_cases c6 : x0 = 2
      · have e := (if_pos c6).symm.trans e
        refine ex_pc (pc1 := 106) (by rw [c6]; with_unfolding_all rfl) ?_
        refine ex_s (am_nb (m := 1) (pc1 := 107) (ls1 := [(0, .ref 157), (1, .int x0)]) (st1 := [.ref 157]) (H1 := H2) (k1 := 0) (n1 := 0) (by with_unfolding_all rfl)) ?_
        refine xe_get (v := .int (a1 157 21)) s3 rfl rfl (by decide) rfl ?_
        refine ex_s (am_nb (m := 1) (pc1 := 111) (ls1 := [(0, .ref 157), (1, .int x0)]) (st1 := [.int (-1), .int (a1 157 21)]) (H1 := H2) (k1 := 0) (n1 := 0) (by with_unfolding_all rfl)) ?_
        have kk : am_E sL sx am_cs 415 122 [(0, .ref 157), (1, .int x0)] [.int (if (a1 157 21) = (-1) then (0 : Int32) else (a1 157 27))] H2 (some (.int r)) (fun H1 => xS h b T a' H1) := by
          cases e
          exact ex_r (st_iret rfl rfl rfl) s3
        refine ex_s (st_icmp rfl) ?_
        by_cases c7 : (a1 157 21) = (-1)
        · refine ex_pc (if_pos c7) ?_
          refine ex_s (am_nb (m := 2) (pc1 := 122) (ls1 := [(0, .ref 157), (1, .int x0)]) (st1 := [.int 0]) (H1 := H2) (k1 := 0) (n1 := 0) (by with_unfolding_all rfl)) ?_
          rw [if_pos c7] at kk
          exact kk
        · refine ex_pc (if_neg c7) ?_
          refine ex_s (am_nb (m := 1) (pc1 := 119) (ls1 := [(0, .ref 157), (1, .int x0)]) (st1 := [.ref 157]) (H1 := H2) (k1 := 0) (n1 := 0) (by with_unfolding_all rfl)) ?_
          refine xe_get (v := .int (a1 157 27)) s3 rfl rfl (by decide) rfl ?_
          rw [if_neg c7] at kk
          exact kk
      · have e := (if_neg c6).symm.trans e
        by_cases c8 : x0 = 3
        · have e := (if_pos c8).symm.trans e
          refine ex_pc (pc1 := 123) (by rw [c8]; with_unfolding_all rfl) ?_
          refine ex_s (am_nb (m := 1) (pc1 := 124) (ls1 := [(0, .ref 157), (1, .int x0)]) (st1 := [.ref 157]) (H1 := H2) (k1 := 0) (n1 := 0) (by with_unfolding_all rfl)) ?_
          refine xe_get (v := .int (a1 157 21)) s3 rfl rfl (by decide) rfl ?_
          refine ex_s (am_nb (m := 1) (pc1 := 128) (ls1 := [(0, .ref 157), (1, .int x0)]) (st1 := [.int (-1), .int (a1 157 21)]) (H1 := H2) (k1 := 0) (n1 := 0) (by with_unfolding_all rfl)) ?_
          have kk : am_E sL sx am_cs 415 139 [(0, .ref 157), (1, .int x0)] [.int (if (a1 157 21) = (-1) then (0 : Int32) else (a1 157 26))] H2 (some (.int r)) (fun H1 => xS h b T a' H1) := by
            cases e
            exact ex_r (st_iret rfl rfl rfl) s3
          refine ex_s (st_icmp rfl) ?_
          by_cases c9 : (a1 157 21) = (-1)
          · refine ex_pc (if_pos c9) ?_
            refine ex_s (am_nb (m := 2) (pc1 := 139) (ls1 := [(0, .ref 157), (1, .int x0)]) (st1 := [.int 0]) (H1 := H2) (k1 := 0) (n1 := 0) (by with_unfolding_all rfl)) ?_
            rw [if_pos c9] at kk
            exact kk
          · refine ex_pc (if_neg c9) ?_
            refine ex_s (am_nb (m := 1) (pc1 := 136) (ls1 := [(0, .ref 157), (1, .int x0)]) (st1 := [.ref 157]) (H1 := H2) (k1 := 0) (n1 := 0) (by with_unfolding_all rfl)) ?_
            refine xe_get (v := .int (a1 157 26)) s3 rfl rfl (by decide) rfl ?_
            rw [if_neg c9] at kk
            exact kk
        · have e := (if_neg c8).symm.trans e
          by_cases c10 : x0 = 4
          · have e := (if_pos c10).symm.trans e
            refine ex_pc (pc1 := 140) (by rw [c10]; with_unfolding_all rfl) ?_
            refine ex_s (am_nb (m := 4) (pc1 := 144) (ls1 := [(3, .int 0), (2, .int 0), (0, .ref 157), (1, .int x0)]) (st1 := []) (H1 := H2) (k1 := 0) (n1 := 0) (by with_unfolding_all rfl)) ?_
            obtain ⟨z14, e15, e⟩ := Option.bind_eq_some_iff.mp e
            refine le_E (l1 := [(0, .ref 157), (2, .int 0), (3, .int 0)]) ⟨rfl, rfl, rfl, trivial⟩ rfl (tl415_144 (z := z14)  (fun uz14_0 Hz140 sz140 => ?_) N 0 0 a1 H2 s3 e15)
            refine ex_s (am_nb (m := 1) (pc1 := 174) (ls1 := [(2, .int z14.2.1)]) (st1 := [.int z14.2.1]) (H1 := Hz140) (k1 := 0) (n1 := 0) (by with_unfolding_all rfl)) ?_
            cases e
            exact ex_r (st_iret rfl rfl rfl) sz140
          · have e := (if_neg c10).symm.trans e
            by_cases c16 : x0 = 5
            · have e := (if_pos c16).symm.trans e
              refine ex_pc (pc1 := 175) (by rw [c16]; with_unfolding_all rfl) ?_
              refine ex_s (am_nb (m := 1) (pc1 := 176) (ls1 := [(0, .ref 157), (1, .int x0)]) (st1 := [.ref 157]) (H1 := H2) (k1 := 0) (n1 := 0) (by with_unfolding_all rfl)) ?_
              refine xe_get (v := .int (a1 157 56)) s3 rfl rfl (by decide) rfl ?_
              cases e
              exact ex_r (st_iret rfl rfl rfl) s3
            · have e := (if_neg c16).symm.trans e
              by_cases c17 : x0 = 6
              · have e := (if_pos c17).symm.trans e
                refine ex_pc (pc1 := 180) (by rw [c17]; with_unfolding_all rfl) ?_
                refine ex_s (am_nb (m := 1) (pc1 := 181) (ls1 := [(0, .ref 157), (1, .int x0)]) (st1 := [.ref 157]) (H1 := H2) (k1 := 0) (n1 := 0) (by with_unfolding_all rfl)) ?_
                refine xe_get (v := .int (a1 157 62)) s3 rfl rfl (by decide) rfl ?_
                cases e
                exact ex_r (st_iret rfl rfl rfl) s3
              · have e := (if_neg c17).symm.trans e
                by_cases c18 : x0 = 7
                · have e := (if_pos c18).symm.trans e
                  refine ex_pc (pc1 := 185) (by rw [c18]; with_unfolding_all rfl) ?_
                  refine ex_s (am_nb (m := 1) (pc1 := 186) (ls1 := [(0, .ref 157), (1, .int x0)]) (st1 := [.ref 157]) (H1 := H2) (k1 := 0) (n1 := 0) (by with_unfolding_all rfl)) ?_
                  refine xe_get (v := .int (a1 157 65)) s3 rfl rfl (by decide) rfl ?_
                  cases e
                  exact ex_r (st_iret rfl rfl rfl) s3
                · have e := (if_neg c18).symm.trans e
                  by_cases c19 : x0 = 8
                  · have e := (if_pos c19).symm.trans e
                    refine ex_pc (pc1 := 190) (by rw [c19]; with_unfolding_all rfl) ?_
                    refine ex_s (am_nb (m := 1) (pc1 := 191) (ls1 := [(0, .ref 157), (1, .int x0)]) (st1 := [.ref 157]) (H1 := H2) (k1 := 0) (n1 := 0) (by with_unfolding_all rfl)) ?_
                    refine xe_get (v := .int (a1 157 67)) s3 rfl rfl (by decide) rfl ?_
                    cases e
                    exact ex_r (st_iret rfl rfl rfl) s3
                  · have e := (if_neg c19).symm.trans e
                    by_cases c20 : x0 = 9
                    · have e := (if_pos c20).symm.trans e
                      refine ex_pc (pc1 := 195) (by rw [c20]; with_unfolding_all rfl) ?_
                      refine ex_s (am_nb (m := 1) (pc1 := 196) (ls1 := [(0, .ref 157), (1, .int x0)]) (st1 := [.ref 157]) (H1 := H2) (k1 := 0) (n1 := 0) (by with_unfolding_all rfl)) ?_
                      refine xe_get (v := .int (a1 157 61)) s3 rfl rfl (by decide) rfl ?_
                      cases e
                      exact ex_r (st_iret rfl rfl rfl) s3
                    · have e := (if_neg c20).symm.trans e
                      by_cases c21 : x0 = 10
                      · have e := (if_pos c21).symm.trans e
                        refine ex_pc (pc1 := 200) (by rw [c21]; with_unfolding_all rfl) ?_
                        refine ex_s (am_nb (m := 1) (pc1 := 201) (ls1 := [(0, .ref 157), (1, .int x0)]) (st1 := [.ref 157]) (H1 := H2) (k1 := 0) (n1 := 0) (by with_unfolding_all rfl)) ?_
                        refine xe_get (v := .int (a1 157 59)) s3 rfl rfl (by decide) rfl ?_
                        cases e
                        exact ex_r (st_iret rfl rfl rfl) s3
                      · have e := (if_neg c21).symm.trans e
                        by_cases c22 : x0 = 11
                        · have e := (if_pos c22).symm.trans e
                          refine ex_pc (pc1 := 205) (by rw [c22]; with_unfolding_all rfl) ?_
                          refine ex_s (am_nb (m := 1) (pc1 := 206) (ls1 := [(0, .ref 157), (1, .int x0)]) (st1 := [.ref 157]) (H1 := H2) (k1 := 0) (n1 := 0) (by with_unfolding_all rfl)) ?_
                          refine xe_get (v := .int (a1 157 72)) s3 rfl rfl (by decide) rfl ?_
                          cases e
                          exact ex_r (st_iret rfl rfl rfl) s3
                        · have e := (if_neg c22).symm.trans e
                          by_cases c23 : x0 = 12
                          · have e := (if_pos c23).symm.trans e
                            refine ex_pc (pc1 := 210) (by rw [c23]; with_unfolding_all rfl) ?_
                            refine ex_s (am_nb (m := 1) (pc1 := 211) (ls1 := [(0, .ref 157), (1, .int x0)]) (st1 := [.ref 157]) (H1 := H2) (k1 := 0) (n1 := 0) (by with_unfolding_all rfl)) ?_
                            refine xe_get (v := .int (a1 157 73)) s3 rfl rfl (by decide) rfl ?_
                            cases e
                            exact ex_r (st_iret rfl rfl rfl) s3
                          · have e := (if_neg c23).symm.trans e
                            by_cases c24 : x0 = 13
                            · have e := (if_pos c24).symm.trans e
                              refine ex_pc (pc1 := 215) (by rw [c24]; with_unfolding_all rfl) ?_
                              refine ex_s (am_nb (m := 1) (pc1 := 216) (ls1 := [(0, .ref 157), (1, .int x0)]) (st1 := [.ref 157]) (H1 := H2) (k1 := 0) (n1 := 0) (by with_unfolding_all rfl)) ?_
                              refine xe_get (v := .int (a1 157 2)) s3 rfl rfl (by decide) rfl ?_
                              cases e
                              exact ex_r (st_iret rfl rfl rfl) s3
                            · have e := (if_neg c24).symm.trans e
                              by_cases c25 : x0 = 14
                              · have e := (if_pos c25).symm.trans e
                                refine ex_pc (pc1 := 220) (by rw [c25]; with_unfolding_all rfl) ?_
                                refine ex_s (am_nb (m := 1) (pc1 := 221) (ls1 := [(0, .ref 157), (1, .int x0)]) (st1 := [.ref 157]) (H1 := H2) (k1 := 0) (n1 := 0) (by with_unfolding_all rfl)) ?_
                                refine xe_get (v := .int (a1 157 34)) s3 rfl rfl (by decide) rfl ?_
                                cases e
                                exact ex_r (st_iret rfl rfl rfl) s3
                              · have e := (if_neg c25).symm.trans e
                                by_cases c26 : x0 = 15
                                · have e := (if_pos c26).symm.trans e
                                  refine ex_pc (pc1 := 225) (by rw [c26]; with_unfolding_all rfl) ?_
                                  refine ex_s (am_nb (m := 1) (pc1 := 226) (ls1 := [(0, .ref 157), (1, .int x0)]) (st1 := [.ref 157]) (H1 := H2) (k1 := 0) (n1 := 0) (by with_unfolding_all rfl)) ?_
                                  refine xe_get (v := .int (a1 157 32)) s3 rfl rfl (by decide) rfl ?_
                                  cases e
                                  exact ex_r (st_iret rfl rfl rfl) s3
                                · have e := (if_neg c26).symm.trans e
                                  by_cases c27 : x0 = 16
                                  · have e := (if_pos c27).symm.trans e
                                    refine ex_pc (pc1 := 230) (by rw [c27]; with_unfolding_all rfl) ?_
                                    refine ex_s (am_nb (m := 1) (pc1 := 231) (ls1 := [(0, .ref 157), (1, .int x0)]) (st1 := [.ref 157]) (H1 := H2) (k1 := 0) (n1 := 0) (by with_unfolding_all rfl)) ?_
                                    refine xe_get (v := .int (a1 157 33)) s3 rfl rfl (by decide) rfl ?_
                                    cases e
                                    exact ex_r (st_iret rfl rfl rfl) s3
                                  · have e := (if_neg c27).symm.trans e
                                    by_cases c28 : x0 = 17
                                    · have e := (if_pos c28).symm.trans e
                                      refine ex_pc (pc1 := 235) (by rw [c28]; with_unfolding_all rfl) ?_
                                      refine ex_s (am_nb (m := 1) (pc1 := 236) (ls1 := [(0, .ref 157), (1, .int x0)]) (st1 := [.ref 157]) (H1 := H2) (k1 := 0) (n1 := 0) (by with_unfolding_all rfl)) ?_
                                      refine xe_get (v := .int (a1 157 58)) s3 rfl rfl (by decide) rfl ?_
                                      cases e
                                      exact ex_r (st_iret rfl rfl rfl) s3
                                    · have e := (if_neg c28).symm.trans e
                                      by_cases c29 : x0 = 18
                                      · have e := (if_pos c29).symm.trans e
                                        refine ex_pc (pc1 := 240) (by rw [c29]; with_unfolding_all rfl) ?_
                                        refine ex_s (am_nb (m := 1) (pc1 := 241) (ls1 := [(0, .ref 157), (1, .int x0)]) (st1 := [.ref 157]) (H1 := H2) (k1 := 0) (n1 := 0) (by with_unfolding_all rfl)) ?_
                                        refine xe_get (v := .int (a1 157 57)) s3 rfl rfl (by decide) rfl ?_
                                        cases e
                                        exact ex_r (st_iret rfl rfl rfl) s3
                                      · have e := (if_neg c29).symm.trans e
                                        refine ex_pc (pc1 := 245) (am_sw_n (sw_c (Or.inl c4) (sw_c (Or.inl c5) (sw_c (Or.inl c6) (sw_c (Or.inl c8) (sw_c (Or.inl c10) (sw_c (Or.inl c16) (sw_c (Or.inl c17) (sw_c (Or.inl c18) (sw_c (Or.inl c19) (sw_c (Or.inl c20) (sw_c (Or.inl c21) (sw_c (Or.inl c22) (sw_c (Or.inl c23) (sw_c (Or.inl c24) (sw_c (Or.inl c25) (sw_c (Or.inl c26) (sw_c (Or.inl c27) (sw_c (Or.inl c28) (sw_c (Or.inl c29) sw_o)))))))))))))))))))) ?_
                                        refine ex_s (am_nb (m := 1) (pc1 := 246) (ls1 := [(0, .ref 157), (1, .int x0)]) (st1 := [.int (-1)]) (H1 := H2) (k1 := 0) (n1 := 0) (by with_unfolding_all rfl)) ?_
                                        cases e
                                        exact ex_r (st_iret rfl rfl rfl) s3

set_option maxRecDepth 100000 in
theorem tj416_29 {sL : Nat} {sx : Nat → Int32} {h b N : Nat} {T : List am_C} {r : Int32} {a' : xA} {a : xA} {H : am_H} (hS : xS h b T a H) (e : j416_29 N h b a = some (r, a')) : am_E sL sx am_cs 416 29 [] [] H (some (.int r)) (fun H1 => xS h b T a' H1) := by
  unfold j416_29 at e
  refine ex_s (am_nb (m := 2) (pc1 := 47) (ls1 := []) (st1 := [.int (-1)]) (H1 := H) (k1 := 0) (n1 := 0) (by with_unfolding_all rfl)) ?_
  cases e
  exact ex_r (st_iret rfl rfl rfl) hS

set_option maxRecDepth 100000 in
theorem tf416_stop {sL : Nat} {sx : Nat → Int32} {h b N : Nat} {T : List am_C} {r : Int32} {a' : xA} {x0 : Int32} {x1 : Int32} {a : xA} {H : am_H} (hS : xS h b T a H) (e : f416_stop N h b x0 x1 a = some (r, a')) : am_E sL sx am_cs 416 0 [(0, .ref 157), (1, .int x0), (2, .int x1)] [] H (some (.int r)) (fun H1 => xS h b T a' H1) := by
  unfold f416_stop at e
  refine ex_s (am_nb (m := 2) (pc1 := 2) (ls1 := [(0, .ref 157), (1, .int x0), (2, .int x1)]) (st1 := [.int 0, .ref 157]) (H1 := H) (k1 := 0) (n1 := 0) (by with_unfolding_all rfl)) ?_
  obtain ⟨a1, ha1, e⟩ := xw_some e
  refine xe_put (w := 0) hS rfl rfl (by decide) rfl rfl rfl rfl (fun H2 s3 => ?_)
  have s3 : xS h b T a1 H2 := by rw [ha1]; exact s3
  refine ex_s (am_nb (m := 1) (pc1 := 6) (ls1 := [(0, .ref 157), (1, .int x0), (2, .int x1)]) (st1 := [.int x0]) (H1 := H2) (k1 := 0) (n1 := 0) (by with_unfolding_all rfl)) ?_
  refine ex_s (st_if rfl) ?_
  by_cases c8 : x0 < 0
  · have e := (if_pos c8).symm.trans e
    refine ex_pc (if_pos c8) ?_
    exact le_E (l1 := []) trivial rfl (tj416_29  s3 e)
  · have e := (if_neg c8).symm.trans e
    refine ex_pc (if_neg c8) ?_
    refine ex_s (am_nb (m := 1) (pc1 := 10) (ls1 := [(0, .ref 157), (1, .int x0), (2, .int x1)]) (st1 := [.int x1]) (H1 := H2) (k1 := 0) (n1 := 0) (by with_unfolding_all rfl)) ?_
    refine ex_s (st_if rfl) ?_
    by_cases c12 : x1 < 0
    · have e := (if_pos c12).symm.trans e
      refine ex_pc (if_pos c12) ?_
      exact le_E (l1 := []) trivial rfl (tj416_29  s3 e)
    · have e := (if_neg c12).symm.trans e
      refine ex_pc (if_neg c12) ?_
      refine ex_s (am_nb (m := 2) (pc1 := 15) (ls1 := [(0, .ref 157), (1, .int x0), (2, .int x1)]) (st1 := [.ref 157, .int x0]) (H1 := H2) (k1 := 0) (n1 := 0) (by with_unfolding_all rfl)) ?_
      refine xe_get (v := .int (a1 157 68)) s3 rfl rfl (by decide) rfl ?_
      refine ex_s (st_icmp rfl) ?_
      by_cases c15 : (a1 157 68) ≤ x0
      · have e := (if_pos c15).symm.trans e
        refine ex_pc (if_pos c15) ?_
        exact le_E (l1 := []) trivial rfl (tj416_29  s3 e)
      · have e := (if_neg c15).symm.trans e
        refine ex_pc (if_neg c15) ?_
        refine ex_s (am_nb (m := 2) (pc1 := 23) (ls1 := [(0, .ref 157), (1, .int x0), (2, .int x1)]) (st1 := [.ref 157, .int x1]) (H1 := H2) (k1 := 0) (n1 := 0) (by with_unfolding_all rfl)) ?_
        refine xe_get (v := .int (a1 157 69)) s3 rfl rfl (by decide) rfl ?_
        refine ex_s (st_icmp rfl) ?_
        by_cases c17 : x1 < (a1 157 69)
        · have e := (if_pos c17).symm.trans e
          refine ex_pc (if_pos c17) ?_
          refine ex_s (am_nb (m := 1) (pc1 := 34) (ls1 := [(0, .ref 157), (1, .int x0), (2, .int x1)]) (st1 := [.ref 157]) (H1 := H2) (k1 := 0) (n1 := 0) (by with_unfolding_all rfl)) ?_
          refine xe_get (v := .ref 192) s3 rfl rfl (by decide) rfl ?_
          refine ex_s (am_nb (m := 1) (pc1 := 38) (ls1 := [(0, .ref 157), (1, .int x0), (2, .int x1)]) (st1 := [.int x1, .ref 192]) (H1 := H2) (k1 := 0) (n1 := 0) (by with_unfolding_all rfl)) ?_
          obtain ⟨g18, e⟩ := xg_some e
          refine xe_zald s3 rfl rfl g18 ?_
          have kk : am_E sL sx am_cs 416 47 [(0, .ref 157), (1, .int x0), (2, .int x1)] [.int (if (a1 192 (x1.toNatClampNeg)) = 0 then (0 : Int32) else (1 : Int32))] H2 (some (.int r)) (fun H1 => xS h b T a' H1) := by
            cases e
            exact ex_r (st_iret rfl rfl rfl) s3
          refine ex_s (st_if rfl) ?_
          by_cases c19 : (a1 192 (x1.toNatClampNeg)) = 0
          · refine ex_pc (if_pos c19) ?_
            refine ex_s (am_nb (m := 1) (pc1 := 47) (ls1 := [(0, .ref 157), (1, .int x0), (2, .int x1)]) (st1 := [.int 0]) (H1 := H2) (k1 := 0) (n1 := 0) (by with_unfolding_all rfl)) ?_
            rw [if_pos c19] at kk
            exact kk
          · refine ex_pc (if_neg c19) ?_
            refine ex_s (am_nb (m := 2) (pc1 := 47) (ls1 := [(0, .ref 157), (1, .int x0), (2, .int x1)]) (st1 := [.int 1]) (H1 := H2) (k1 := 0) (n1 := 0) (by with_unfolding_all rfl)) ?_
            rw [if_neg c19] at kk
            exact kk
        · have e := (if_neg c17).symm.trans e
          refine ex_pc (if_neg c17) ?_
          exact le_E (l1 := []) trivial rfl (tj416_29  s3 e)
