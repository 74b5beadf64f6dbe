/-! The program does what the functions say. -/
set_option maxRecDepth 100000 in
theorem tl51_4 {sL : Nat} {sx : Nat → Int32} {h b N : Nat} {T : List am_C} {R : Option Value} {F : am_H → Prop} {z : Nat × Int32 × Int32 × xA} (k0 : z.1 = 0 → ∀ H2 : am_H, xS h b T z.2.2.2 H2 → am_E sL sx am_cs 51 27 [(0, .ref 3), (2, .int z.2.2.1)] [] H2 R F) (k1 : z.1 = 1 → ∀ H2 : am_H, xS h b T z.2.2.2 H2 → am_E sL sx am_cs 51 51 [(0, .ref 3)] [] H2 R F) (k2 : z.1 = 2 → ∀ H2 : am_H, xS h b T z.2.2.2 H2 → am_E sL sx am_cs 51 78 [(0, .ref 3), (1, .int z.2.1)] [] H2 R F) : ∀ (n : Nat) (v1 : Int32) (v2 : Int32) (a : xA) (H : am_H), xS h b T a H → l51_4 N h b n v1 v2 a = some z → am_E sL sx am_cs 51 4 [(0, .ref 3), (1, .int v1), (2, .int v2)] [] H R F := by
  intro n
  induction n with
  | zero =>
    intro v1 v2 a H hS e
    cases e
  | succ n ih =>
    intro v1 v2 a H hS e
    unfold l51_4 at e
    refine ex_s (am_nb (m := 2) (pc1 := 6) (ls1 := [(0, .ref 3), (1, .int v1), (2, .int v2)]) (st1 := [.int 3, .int v2]) (H1 := H) (k1 := 0) (n1 := 0) (by with_unfolding_all rfl)) ?_
    refine ex_s (st_icmp rfl) ?_
    by_cases c1 : 3 < v2
    · have e := (if_pos c1).symm.trans e
      refine ex_pc (if_pos c1) ?_
      cases e
      exact le_E (l1 := [(0, .ref 3), (1, .int v1)]) ⟨rfl, rfl, trivial⟩ rfl (k2 rfl H hS)
    · have e := (if_neg c1).symm.trans e
      refine ex_pc (if_neg c1) ?_
      refine ex_s (am_nb (m := 2) (pc1 := 11) (ls1 := [(0, .ref 3), (1, .int v1), (2, .int v2)]) (st1 := [.ref 3, .ref 3]) (H1 := H) (k1 := 0) (n1 := 0) (by with_unfolding_all rfl)) ?_
      refine xe_get (v := .int (a 3 6)) hS rfl rfl (by decide) rfl ?_
      refine ex_s (am_nb (m := 2) (pc1 := 16) (ls1 := [(0, .ref 3), (1, .int v1), (2, .int v2)]) (st1 := [.int ((a 3 6) + v2), .ref 3]) (H1 := H) (k1 := 0) (n1 := 0) (by with_unfolding_all rfl)) ?_
      obtain ⟨r5, a6, e4, e⟩ := xb2_some e
      refine ex_cv1 (as := [.int ((a 3 6) + v2)]) (rest := []) rfl rfl rfl rfl (hS.obj rfl (by decide)) rfl (by with_unfolding_all rfl) (by with_unfolding_all rfl) (tf28_byteAt hS e4) (fun H2 s3 => ?_)
      refine ex_s (am_nb (m := 2) (pc1 := 21) (ls1 := [(3, .int r5), (0, .ref 3), (1, .int v1), (2, .int v2)]) (st1 := [.int r5]) (H1 := H2) (k1 := 0) (n1 := 0) (by with_unfolding_all rfl)) ?_
      obtain ⟨r10, a11, e9, e⟩ := xb2_some e
      refine ex_cs1 (as := [.int r5]) (rest := []) rfl (by decide) rfl rfl (by with_unfolding_all rfl) (by with_unfolding_all rfl) (tf25_isText s3 e9) (fun H7 s8 => ?_)
      refine ex_s (st_if rfl) ?_
      by_cases c12 : r10 = 0
      · have e := (if_pos c12).symm.trans e
        refine ex_pc (if_pos c12) ?_
        cases e
        exact le_E (l1 := [(0, .ref 3), (2, .int v2)]) ⟨rfl, rfl, trivial⟩ rfl (k0 rfl H7 s8)
      · have e := (if_neg c12).symm.trans e
        refine ex_pc (if_neg c12) ?_
        refine ex_s (am_nb (m := 2) (pc1 := 42) (ls1 := [(3, .int r5), (0, .ref 3), (1, .int v1), (2, .int v2)]) (st1 := [.int 48, .int r5]) (H1 := H7) (k1 := 0) (n1 := 0) (by with_unfolding_all rfl)) ?_
        refine ex_s (st_icmp rfl) ?_
        by_cases c15 : r5 < 48
        · have e := (if_pos c15).symm.trans e
          refine ex_pc (if_pos c15) ?_
          cases e
          exact le_E (l1 := [(0, .ref 3)]) ⟨rfl, trivial⟩ rfl (k1 rfl H7 s8)
        · have e := (if_neg c15).symm.trans e
          refine ex_pc (if_neg c15) ?_
          refine ex_s (am_nb (m := 2) (pc1 := 48) (ls1 := [(3, .int r5), (0, .ref 3), (1, .int v1), (2, .int v2)]) (st1 := [.int 55, .int r5]) (H1 := H7) (k1 := 0) (n1 := 0) (by with_unfolding_all rfl)) ?_
          refine ex_s (st_icmp rfl) ?_
          by_cases c16 : r5 ≤ 55
          · have e := (if_pos c16).symm.trans e
            refine ex_pc (if_pos c16) ?_
            refine ex_s (am_nb (m := 10) (pc1 := 4) (ls1 := [(2, .int (v2 + 1)), (1, .int (((v1 * 8) + r5) - 48)), (3, .int r5), (0, .ref 3)]) (st1 := []) (H1 := H7) (k1 := 0) (n1 := 0) (by with_unfolding_all rfl)) ?_
            exact le_E (l1 := [(0, .ref 3), (1, .int (((v1 * 8) + r5) - 48)), (2, .int (v2 + 1))]) ⟨rfl, rfl, rfl, trivial⟩ rfl (ih (((v1 * 8) + r5) - 48) (v2 + 1) a11 H7 s8 e)
          · have e := (if_neg c16).symm.trans e
            refine ex_pc (if_neg c16) ?_
            cases e
            exact le_E (l1 := [(0, .ref 3)]) ⟨rfl, trivial⟩ rfl (k1 rfl H7 s8)

set_option maxRecDepth 100000 in
theorem tj51_51 {sL : Nat} {sx : Nat → Int32} {h b N : Nat} {T : List am_C} {r : Int32} {a' : xA} {a : xA} {H : am_H} (hS : xS h b T a H) (e : j51_51 N h b a = some (r, a')) : am_E sL sx am_cs 51 51 [(0, .ref 3)] [] H (some (.int r)) (fun H1 => xS h b T a' H1) := by
  unfold j51_51 at e
  refine ex_s (am_nb (m := 3) (pc1 := 55) (ls1 := [(0, .ref 3)]) (st1 := [.ref 3, .int 10, .ref 3]) (H1 := H) (k1 := 0) (n1 := 0) (by with_unfolding_all rfl)) ?_
  refine xe_get (v := .int (a 3 6)) hS rfl rfl (by decide) rfl ?_
  obtain ⟨r28, a29, e27, e⟩ := xb2_some e
  refine ex_cv1 (as := [.int 10, .int (a 3 6)]) (rest := []) rfl rfl rfl rfl (hS.obj rfl (by decide)) rfl (by with_unfolding_all rfl) (by with_unfolding_all rfl) (tf26_failed hS e27) (fun H25 s26 => ?_)
  obtain ⟨g30, e⟩ := xg_some e
  cases e
  exact ex_r (st_iret rfl rfl (xnar_z g30)) s26

set_option maxRecDepth 100000 in
theorem tj51_90 {sL : Nat} {sx : Nat → Int32} {h b N : Nat} {T : List am_C} {r : Int32} {a' : xA} {a : xA} {H : am_H} (hS : xS h b T a H) (e : j51_90 N h b a = some (r, a')) : am_E sL sx am_cs 51 90 [(0, .ref 3)] [] H (some (.int r)) (fun H1 => xS h b T a' H1) := by
  unfold j51_90 at e
  refine ex_s (am_nb (m := 3) (pc1 := 94) (ls1 := [(0, .ref 3)]) (st1 := [.ref 3, .int 10, .ref 3]) (H1 := H) (k1 := 0) (n1 := 0) (by with_unfolding_all rfl)) ?_
  refine xe_get (v := .int (a 3 6)) hS rfl rfl (by decide) rfl ?_
  obtain ⟨r37, a38, e36, e⟩ := xb2_some e
  refine ex_cv1 (as := [.int 10, .int (a 3 6)]) (rest := []) rfl rfl rfl rfl (hS.obj rfl (by decide)) rfl (by with_unfolding_all rfl) (by with_unfolding_all rfl) (tf26_failed hS e36) (fun H34 s35 => ?_)
  obtain ⟨g39, e⟩ := xg_some e
  cases e
  exact ex_r (st_iret rfl rfl (xnar_z g39)) s35

set_option maxRecDepth 100000 in
theorem tf51_readOctal {sL : Nat} {sx : Nat → Int32} {h b N : Nat} {T : List am_C} {r : Int32} {a' : xA} {a : xA} {H : am_H} (hS : xS h b T a H) (e : f51_readOctal N h b a = some (r, a')) : am_E sL sx am_cs 51 0 [(0, .ref 3)] [] H (some (.int r)) (fun H1 => xS h b T a' H1) := by
  unfold f51_readOctal at e
  refine ex_s (am_nb (m := 4) (pc1 := 4) (ls1 := [(2, .int 1), (1, .int 0), (0, .ref 3)]) (st1 := []) (H1 := H) (k1 := 0) (n1 := 0) (by with_unfolding_all rfl)) ?_
  obtain ⟨z17, e18, e⟩ := Option.bind_eq_some_iff.mp e
  refine le_E (l1 := [(0, .ref 3), (1, .int 0), (2, .int 1)]) ⟨rfl, rfl, rfl, trivial⟩ rfl (tl51_4 (z := z17)  (fun uz17_0 Hz170 sz170 => ?_) (fun uz17_1 Hz171 sz171 => ?_) (fun uz17_2 Hz172 sz172 => ?_) N 0 1 a H hS e18)
  · have e := (if_pos uz17_0).symm.trans e
    refine ex_s (am_nb (m := 3) (pc1 := 30) (ls1 := [(0, .ref 3), (2, .int z17.2.2.1)]) (st1 := [.ref 3, .int 1, .ref 3]) (H1 := Hz170) (k1 := 0) (n1 := 0) (by with_unfolding_all rfl)) ?_
    refine xe_get (v := .int (z17.2.2.2 3 6)) sz170 rfl rfl (by decide) rfl ?_
    refine ex_s (am_nb (m := 2) (pc1 := 35) (ls1 := [(0, .ref 3), (2, .int z17.2.2.1)]) (st1 := [.int ((z17.2.2.2 3 6) + z17.2.2.1), .int 1, .ref 3]) (H1 := Hz170) (k1 := 0) (n1 := 0) (by with_unfolding_all rfl)) ?_
    obtain ⟨r22, a23, e21, e⟩ := xb2_some e
    refine ex_cv1 (as := [.int 1, .int ((z17.2.2.2 3 6) + z17.2.2.1)]) (rest := []) rfl rfl rfl rfl (sz170.obj rfl (by decide)) rfl (by with_unfolding_all rfl) (by with_unfolding_all rfl) (tf26_failed sz170 e21) (fun H19 s20 => ?_)
    obtain ⟨g24, e⟩ := xg_some e
    cases e
    exact ex_r (st_iret rfl rfl (xnar_z g24)) s20
  · have e := (if_neg (show ¬ z17.1 = 0 by rw [uz17_1]; decide)).symm.trans e
    have e := (if_pos uz17_1).symm.trans e
    exact le_E (l1 := [(0, .ref 3)]) ⟨rfl, trivial⟩ rfl (tj51_51  sz171 e)
  · have e := (if_neg (show ¬ z17.1 = 0 by rw [uz17_2]; decide)).symm.trans e
    have e := (if_neg (show ¬ z17.1 = 1 by rw [uz17_2]; decide)).symm.trans e
    refine ex_s (am_nb (m := 2) (pc1 := 80) (ls1 := [(0, .ref 3), (1, .int z17.2.1)]) (st1 := [.int 1, .int z17.2.1]) (H1 := Hz172) (k1 := 0) (n1 := 0) (by with_unfolding_all rfl)) ?_
    refine ex_s (st_icmp rfl) ?_
    by_cases c33 : z17.2.1 < 1
    · have e := (if_pos c33).symm.trans e
      refine ex_pc (if_pos c33) ?_
      exact le_E (l1 := [(0, .ref 3)]) ⟨rfl, trivial⟩ rfl (tj51_90  sz172 e)
    · have e := (if_neg c33).symm.trans e
      refine ex_pc (if_neg c33) ?_
      refine ex_s (am_nb (m := 2) (pc1 := 87) (ls1 := [(0, .ref 3), (1, .int z17.2.1)]) (st1 := [.int 255, .int z17.2.1]) (H1 := Hz172) (k1 := 0) (n1 := 0) (by with_unfolding_all rfl)) ?_
      refine ex_s (st_icmp rfl) ?_
      by_cases c40 : z17.2.1 ≤ 255
      · have e := (if_pos c40).symm.trans e
        refine ex_pc (if_pos c40) ?_
        refine ex_s (am_nb (m := 2) (pc1 := 103) (ls1 := [(0, .ref 3), (1, .int z17.2.1)]) (st1 := [.int z17.2.1, .ref 3]) (H1 := Hz172) (k1 := 0) (n1 := 0) (by with_unfolding_all rfl)) ?_
        obtain ⟨a44, e43, e⟩ := xb1_some e
        refine ex_cv0 (as := [.int z17.2.1]) (rest := []) rfl rfl rfl rfl (sz172.obj rfl (by decide)) rfl (by with_unfolding_all rfl) (by with_unfolding_all rfl) (tf52_make sz172 e43) (fun H41 s42 => ?_)
        refine ex_s (am_nb (m := 2) (pc1 := 108) (ls1 := [(0, .ref 3), (1, .int z17.2.1)]) (st1 := [.ref 3, .ref 3]) (H1 := H41) (k1 := 0) (n1 := 0) (by with_unfolding_all rfl)) ?_
        refine xe_get (v := .int (a44 3 6)) s42 rfl rfl (by decide) rfl ?_
        refine ex_s (am_nb (m := 2) (pc1 := 113) (ls1 := [(0, .ref 3), (1, .int z17.2.1)]) (st1 := [.int ((a44 3 6) + 4), .ref 3]) (H1 := H41) (k1 := 0) (n1 := 0) (by with_unfolding_all rfl)) ?_
        obtain ⟨a45, ha45, e⟩ := xw_some e
        refine xe_put (w := ((a44 3 6) + 4)) s42 rfl rfl (by decide) rfl rfl rfl rfl (fun H46 s47 => ?_)
        have s47 : xS h b T a45 H46 := by rw [ha45]; exact s47
        refine ex_s (am_nb (m := 1) (pc1 := 117) (ls1 := [(0, .ref 3), (1, .int z17.2.1)]) (st1 := [.int 1]) (H1 := H46) (k1 := 0) (n1 := 0) (by with_unfolding_all rfl)) ?_
        cases e
        exact ex_r (st_iret rfl rfl rfl) s47
      · have e := (if_neg c40).symm.trans e
        refine ex_pc (if_neg c40) ?_
        exact le_E (l1 := [(0, .ref 3)]) ⟨rfl, trivial⟩ rfl (tj51_90  sz172 e)

set_option maxRecDepth 100000 in
theorem tf53_escaped {sL : Nat} {sx : Nat → Int32} {h b N : Nat} {T : List am_C} {r : Int32} {a' : xA} {x0 : Int32} {a : xA} {H : am_H} (hS : xS h b T a H) (e : f53_escaped N h b x0 a = some (r, a')) : am_E sL sx am_cs 53 0 [(0, .int x0)] [] H (some (.int r)) (fun H1 => xS h b T a' H1) := by
  unfold f53_escaped at e
  refine ex_s (am_nb (m := 1) (pc1 := 1) (ls1 := [(0, .int x0)]) (st1 := [.int x0]) (H1 := H) (k1 := 0) (n1 := 0) (by with_unfolding_all rfl)) ?_
  refine ex_s (st_lsw rfl) ?_
  by_cases c1 : x0 = 44 ∨ x0 = 58 ∨ x0 = 92 ∨ x0 = 94
  · have e := (if_pos c1).symm.trans e
    refine ex_pc (pc1 := 121) (by rcases c1 with c1 | c1 | c1 | c1 <;> (rw [c1]; with_unfolding_all rfl)) ?_
    refine ex_s (am_nb (m := 1) (pc1 := 122) (ls1 := [(0, .int x0)]) (st1 := [.int x0]) (H1 := H) (k1 := 0) (n1 := 0) (by with_unfolding_all rfl)) ?_
    cases e
    exact ex_r (st_iret rfl rfl rfl) hS
  · have e := (if_neg c1).symm.trans e
    by_cases c2 : x0 = 69
    · have e := (if_pos c2).symm.trans e
      refine ex_pc (pc1 := 100) (by rw [c2]; with_unfolding_all rfl) ?_
      refine ex_s (am_nb (m := 1) (pc1 := 102) (ls1 := [(0, .int x0)]) (st1 := [.int 27]) (H1 := H) (k1 := 0) (n1 := 0) (by with_unfolding_all rfl)) ?_
      cases e
      exact ex_r (st_iret rfl rfl rfl) hS
    · have e := (if_neg c2).symm.trans e
      by_cases c3 : x0 = 98
      · have e := (if_pos c3).symm.trans e
        refine ex_pc (pc1 := 112) (by rw [c3]; with_unfolding_all rfl) ?_
        refine ex_s (am_nb (m := 1) (pc1 := 114) (ls1 := [(0, .int x0)]) (st1 := [.int 8]) (H1 := H) (k1 := 0) (n1 := 0) (by with_unfolding_all rfl)) ?_
        cases e
        exact ex_r (st_iret rfl rfl rfl) hS
      · have e := (if_neg c3).symm.trans e
        by_cases c4 : x0 = 102
        · have e := (if_pos c4).symm.trans e
          refine ex_pc (pc1 := 115) (by rw [c4]; with_unfolding_all rfl) ?_
          refine ex_s (am_nb (m := 1) (pc1 := 117) (ls1 := [(0, .int x0)]) (st1 := [.int 12]) (H1 := H) (k1 := 0) (n1 := 0) (by with_unfolding_all rfl)) ?_
          cases e
          exact ex_r (st_iret rfl rfl rfl) hS
        · have e := (if_neg c4).symm.trans e
          by_cases c5 : x0 = 110
          · have e := (if_pos c5).symm.trans e
            refine ex_pc (pc1 := 103) (by rw [c5]; with_unfolding_all rfl) ?_
            refine ex_s (am_nb (m := 1) (pc1 := 105) (ls1 := [(0, .int x0)]) (st1 := [.int 10]) (H1 := H) (k1 := 0) (n1 := 0) (by with_unfolding_all rfl)) ?_
            cases e
            exact ex_r (st_iret rfl rfl rfl) hS
          · have e := (if_neg c5).symm.trans e
            by_cases c6 : x0 = 114
            · have e := (if_pos c6).symm.trans e
              refine ex_pc (pc1 := 106) (by rw [c6]; with_unfolding_all rfl) ?_
              refine ex_s (am_nb (m := 1) (pc1 := 108) (ls1 := [(0, .int x0)]) (st1 := [.int 13]) (H1 := H) (k1 := 0) (n1 := 0) (by with_unfolding_all rfl)) ?_
              cases e
              exact ex_r (st_iret rfl rfl rfl) hS
            · have e := (if_neg c6).symm.trans e
              by_cases c7 : x0 = 115
              · have e := (if_pos c7).symm.trans e
                refine ex_pc (pc1 := 118) (by rw [c7]; with_unfolding_all rfl) ?_
                refine ex_s (am_nb (m := 1) (pc1 := 120) (ls1 := [(0, .int x0)]) (st1 := [.int 32]) (H1 := H) (k1 := 0) (n1 := 0) (by with_unfolding_all rfl)) ?_
                cases e
                exact ex_r (st_iret rfl rfl rfl) hS
              · have e := (if_neg c7).symm.trans e
                by_cases c8 : x0 = 116
                · have e := (if_pos c8).symm.trans e
                  refine ex_pc (pc1 := 109) (by rw [c8]; with_unfolding_all rfl) ?_
                  refine ex_s (am_nb (m := 1) (pc1 := 111) (ls1 := [(0, .int x0)]) (st1 := [.int 9]) (H1 := H) (k1 := 0) (n1 := 0) (by with_unfolding_all rfl)) ?_
                  cases e
                  exact ex_r (st_iret rfl rfl rfl) hS
                · have e := (if_neg c8).symm.trans e
                  refine ex_pc (pc1 := 123) (am_sw_n (sw_c (Or.inl (fun q => c1 (Or.inl q))) (sw_c (Or.inl (fun q => c1 (Or.inr (Or.inl q)))) (sw_c (Or.inl c2) (sw_c (Or.inl (fun q => c1 (Or.inr (Or.inr (Or.inl q))))) (sw_c (Or.inl (fun q => c1 (Or.inr (Or.inr (Or.inr q))))) (sw_c (Or.inl c3) (sw_c (Or.inl c4) (sw_c (Or.inl c5) (sw_c (Or.inl c6) (sw_c (Or.inl c7) (sw_c (Or.inl c8) sw_o)))))))))))) ?_
                  refine ex_s (am_nb (m := 1) (pc1 := 124) (ls1 := [(0, .int x0)]) (st1 := [.int (-1)]) (H1 := H) (k1 := 0) (n1 := 0) (by with_unfolding_all rfl)) ?_
                  cases e
                  exact ex_r (st_iret rfl rfl rfl) hS

set_option maxRecDepth 100000 in
theorem tj50_47 {sL : Nat} {sx : Nat → Int32} {h b N : Nat} {T : List am_C} {r : Int32} {a' : xA} {q1 : Int32} {a : xA} {H : am_H} (hS : xS h b T a H) (e : j50_47 N h b q1 a = some (r, a')) : am_E sL sx am_cs 50 47 [(0, .ref 3), (1, .int q1)] [] H (some (.int r)) (fun H1 => xS h b T a' H1) := by
  unfold j50_47 at e
  refine ex_s (am_nb (m := 1) (pc1 := 48) (ls1 := [(0, .ref 3), (1, .int q1)]) (st1 := [.int q1]) (H1 := H) (k1 := 0) (n1 := 0) (by with_unfolding_all rfl)) ?_
  obtain ⟨r24, a25, e23, e⟩ := xb2_some e
  refine ex_cs1 (as := [.int q1]) (rest := []) rfl (by decide) rfl rfl (by with_unfolding_all rfl) (by with_unfolding_all rfl) (tf53_escaped hS e23) (fun H21 s22 => ?_)
  refine ex_s (am_nb (m := 3) (pc1 := 54) (ls1 := [(2, .int r24), (0, .ref 3), (1, .int q1)]) (st1 := [.int (-1), .int r24]) (H1 := H21) (k1 := 0) (n1 := 0) (by with_unfolding_all rfl)) ?_
  refine ex_s (st_icmp rfl) ?_
  by_cases c26 : r24 = (-1)
  · have e := (if_pos c26).symm.trans e
    refine ex_pc (if_pos c26) ?_
    refine ex_s (am_nb (m := 3) (pc1 := 61) (ls1 := [(2, .int r24), (0, .ref 3), (1, .int q1)]) (st1 := [.ref 3, .int 10, .ref 3]) (H1 := H21) (k1 := 0) (n1 := 0) (by with_unfolding_all rfl)) ?_
    refine xe_get (v := .int (a25 3 6)) s22 rfl rfl (by decide) rfl ?_
    obtain ⟨r30, a31, e29, e⟩ := xb2_some e
    refine ex_cv1 (as := [.int 10, .int (a25 3 6)]) (rest := []) rfl rfl rfl rfl (s22.obj rfl (by decide)) rfl (by with_unfolding_all rfl) (by with_unfolding_all rfl) (tf26_failed s22 e29) (fun H27 s28 => ?_)
    obtain ⟨g32, e⟩ := xg_some e
    cases e
    exact ex_r (st_iret rfl rfl (xnar_z g32)) s28
  · have e := (if_neg c26).symm.trans e
    refine ex_pc (if_neg c26) ?_
    refine ex_s (am_nb (m := 2) (pc1 := 70) (ls1 := [(2, .int r24), (0, .ref 3), (1, .int q1)]) (st1 := [.int r24, .ref 3]) (H1 := H21) (k1 := 0) (n1 := 0) (by with_unfolding_all rfl)) ?_
    obtain ⟨a36, e35, e⟩ := xb1_some e
    refine ex_cv0 (as := [.int r24]) (rest := []) rfl rfl rfl rfl (s22.obj rfl (by decide)) rfl (by with_unfolding_all rfl) (by with_unfolding_all rfl) (tf52_make s22 e35) (fun H33 s34 => ?_)
    refine ex_s (am_nb (m := 2) (pc1 := 75) (ls1 := [(2, .int r24), (0, .ref 3), (1, .int q1)]) (st1 := [.ref 3, .ref 3]) (H1 := H33) (k1 := 0) (n1 := 0) (by with_unfolding_all rfl)) ?_
    refine xe_get (v := .int (a36 3 6)) s34 rfl rfl (by decide) rfl ?_
    refine ex_s (am_nb (m := 2) (pc1 := 80) (ls1 := [(2, .int r24), (0, .ref 3), (1, .int q1)]) (st1 := [.int ((a36 3 6) + 2), .ref 3]) (H1 := H33) (k1 := 0) (n1 := 0) (by with_unfolding_all rfl)) ?_
    obtain ⟨a37, ha37, e⟩ := xw_some e
    refine xe_put (w := ((a36 3 6) + 2)) s34 rfl rfl (by decide) rfl rfl rfl rfl (fun H38 s39 => ?_)
    have s39 : xS h b T a37 H38 := by rw [ha37]; exact s39
    refine ex_s (am_nb (m := 1) (pc1 := 84) (ls1 := [(2, .int r24), (0, .ref 3), (1, .int q1)]) (st1 := [.int 1]) (H1 := H38) (k1 := 0) (n1 := 0) (by with_unfolding_all rfl)) ?_
    cases e
    exact ex_r (st_iret rfl rfl rfl) s39

set_option maxRecDepth 100000 in
theorem tf50_readBackslash {sL : Nat} {sx : Nat → Int32} {h b N : Nat} {T : List am_C} {r : Int32} {a' : xA} {a : xA} {H : am_H} (hS : xS h b T a H) (e : f50_readBackslash N h b a = some (r, a')) : am_E sL sx am_cs 50 0 [(0, .ref 3)] [] H (some (.int r)) (fun H1 => xS h b T a' H1) := by
  unfold f50_readBackslash at e
  refine ex_s (am_nb (m := 2) (pc1 := 2) (ls1 := [(0, .ref 3)]) (st1 := [.ref 3, .ref 3]) (H1 := H) (k1 := 0) (n1 := 0) (by with_unfolding_all rfl)) ?_
  refine xe_get (v := .int (a 3 6)) hS rfl rfl (by decide) rfl ?_
  refine ex_s (am_nb (m := 2) (pc1 := 7) (ls1 := [(0, .ref 3)]) (st1 := [.int ((a 3 6) + 1), .ref 3]) (H1 := H) (k1 := 0) (n1 := 0) (by with_unfolding_all rfl)) ?_
  obtain ⟨r4, a5, e3, e⟩ := xb2_some e
  refine ex_cv1 (as := [.int ((a 3 6) + 1)]) (rest := []) rfl rfl rfl rfl (hS.obj rfl (by decide)) rfl (by with_unfolding_all rfl) (by with_unfolding_all rfl) (tf28_byteAt hS e3) (fun H1 s2 => ?_)
  refine ex_s (am_nb (m := 2) (pc1 := 12) (ls1 := [(1, .int r4), (0, .ref 3)]) (st1 := [.int r4]) (H1 := H1) (k1 := 0) (n1 := 0) (by with_unfolding_all rfl)) ?_
  obtain ⟨r9, a10, e8, e⟩ := xb2_some e
  refine ex_cs1 (as := [.int r4]) (rest := []) rfl (by decide) rfl rfl (by with_unfolding_all rfl) (by with_unfolding_all rfl) (tf25_isText s2 e8) (fun H6 s7 => ?_)
  refine ex_s (st_if rfl) ?_
  by_cases c11 : r9 = 0
  · have e := (if_pos c11).symm.trans e
    refine ex_pc (if_pos c11) ?_
    refine ex_s (am_nb (m := 3) (pc1 := 21) (ls1 := [(1, .int r4), (0, .ref 3)]) (st1 := [.ref 3, .int 1, .ref 3]) (H1 := H6) (k1 := 0) (n1 := 0) (by with_unfolding_all rfl)) ?_
    refine xe_get (v := .int (a10 3 6)) s7 rfl rfl (by decide) rfl ?_
    refine ex_s (am_nb (m := 2) (pc1 := 26) (ls1 := [(1, .int r4), (0, .ref 3)]) (st1 := [.int ((a10 3 6) + 1), .int 1, .ref 3]) (H1 := H6) (k1 := 0) (n1 := 0) (by with_unfolding_all rfl)) ?_
    obtain ⟨r15, a16, e14, e⟩ := xb2_some e
    refine ex_cv1 (as := [.int 1, .int ((a10 3 6) + 1)]) (rest := []) rfl rfl rfl rfl (s7.obj rfl (by decide)) rfl (by with_unfolding_all rfl) (by with_unfolding_all rfl) (tf26_failed s7 e14) (fun H12 s13 => ?_)
    obtain ⟨g17, e⟩ := xg_some e
    cases e
    exact ex_r (st_iret rfl rfl (xnar_z g17)) s13
  · have e := (if_neg c11).symm.trans e
    refine ex_pc (if_neg c11) ?_
    refine ex_s (am_nb (m := 2) (pc1 := 33) (ls1 := [(1, .int r4), (0, .ref 3)]) (st1 := [.int 48, .int r4]) (H1 := H6) (k1 := 0) (n1 := 0) (by with_unfolding_all rfl)) ?_
    refine ex_s (st_icmp rfl) ?_
    by_cases c20 : r4 < 48
    · have e := (if_pos c20).symm.trans e
      refine ex_pc (if_pos c20) ?_
      exact le_E (l1 := [(0, .ref 3), (1, .int r4)]) ⟨rfl, rfl, trivial⟩ rfl (tj50_47  s7 e)
    · have e := (if_neg c20).symm.trans e
      refine ex_pc (if_neg c20) ?_
      refine ex_s (am_nb (m := 2) (pc1 := 39) (ls1 := [(1, .int r4), (0, .ref 3)]) (st1 := [.int 55, .int r4]) (H1 := H6) (k1 := 0) (n1 := 0) (by with_unfolding_all rfl)) ?_
      refine ex_s (st_icmp rfl) ?_
      by_cases c40 : 55 < r4
      · have e := (if_pos c40).symm.trans e
        refine ex_pc (if_pos c40) ?_
        exact le_E (l1 := [(0, .ref 3), (1, .int r4)]) ⟨rfl, rfl, trivial⟩ rfl (tj50_47  s7 e)
      · have e := (if_neg c40).symm.trans e
        refine ex_pc (if_neg c40) ?_
        refine ex_s (am_nb (m := 1) (pc1 := 43) (ls1 := [(1, .int r4), (0, .ref 3)]) (st1 := [.ref 3]) (H1 := H6) (k1 := 0) (n1 := 0) (by with_unfolding_all rfl)) ?_
        obtain ⟨r44, a45, e43, e⟩ := xb2_some e
        refine ex_cv1 (as := []) (rest := []) rfl rfl rfl rfl (s7.obj rfl (by decide)) rfl (by with_unfolding_all rfl) (by with_unfolding_all rfl) (tf51_readOctal s7 e43) (fun H41 s42 => ?_)
        obtain ⟨g46, e⟩ := xg_some e
        cases e
        exact ex_r (st_iret rfl rfl (xnar_z g46)) s42

set_option maxRecDepth 100000 in
theorem tj54_59 {sL : Nat} {sx : Nat → Int32} {h b N : Nat} {T : List am_C} {r : Int32} {a' : xA} {q1 : Int32} {a : xA} {H : am_H} (hS : xS h b T a H) (e : j54_59 N h b q1 a = some (r, a')) : am_E sL sx am_cs 54 59 [(0, .ref 3), (1, .int q1)] [] H (some (.int r)) (fun H1 => xS h b T a' H1) := by
  unfold j54_59 at e
  refine ex_s (am_nb (m := 3) (pc1 := 63) (ls1 := [(0, .ref 3), (1, .int q1)]) (st1 := [.int 63, .int q1, .ref 3]) (H1 := H) (k1 := 0) (n1 := 0) (by with_unfolding_all rfl)) ?_
  have kk : am_E sL sx am_cs 54 75 [(0, .ref 3), (1, .int q1)] [.int (if q1 = 63 then (127 : Int32) else (q1 - 64)), .ref 3] H (some (.int r)) (fun H1 => xS h b T a' H1) := by
    obtain ⟨a25, e24, e⟩ := xb1_some e
    refine ex_cv0 (as := [.int (if q1 = 63 then (127 : Int32) else (q1 - 64))]) (rest := []) rfl rfl rfl rfl (hS.obj rfl (by decide)) rfl (by with_unfolding_all rfl) (by with_unfolding_all rfl) (tf52_make hS e24) (fun H22 s23 => ?_)
    refine ex_s (am_nb (m := 2) (pc1 := 80) (ls1 := [(0, .ref 3), (1, .int q1)]) (st1 := [.ref 3, .ref 3]) (H1 := H22) (k1 := 0) (n1 := 0) (by with_unfolding_all rfl)) ?_
    refine xe_get (v := .int (a25 3 6)) s23 rfl rfl (by decide) rfl ?_
    refine ex_s (am_nb (m := 2) (pc1 := 85) (ls1 := [(0, .ref 3), (1, .int q1)]) (st1 := [.int ((a25 3 6) + 2), .ref 3]) (H1 := H22) (k1 := 0) (n1 := 0) (by with_unfolding_all rfl)) ?_
    obtain ⟨a26, ha26, e⟩ := xw_some e
    refine xe_put (w := ((a25 3 6) + 2)) s23 rfl rfl (by decide) rfl rfl rfl rfl (fun H27 s28 => ?_)
    have s28 : xS h b T a26 H27 := by rw [ha26]; exact s28
    refine ex_s (am_nb (m := 1) (pc1 := 89) (ls1 := [(0, .ref 3), (1, .int q1)]) (st1 := [.int 1]) (H1 := H27) (k1 := 0) (n1 := 0) (by with_unfolding_all rfl)) ?_
    cases e
    exact ex_r (st_iret rfl rfl rfl) s28
  refine ex_s (st_icmp rfl) ?_
  by_cases c21 : q1 = 63
  · refine ex_pc (if_pos c21) ?_
    refine ex_s (am_nb (m := 2) (pc1 := 75) (ls1 := [(0, .ref 3), (1, .int q1)]) (st1 := [.int 127, .ref 3]) (H1 := H) (k1 := 0) (n1 := 0) (by with_unfolding_all rfl)) ?_
    rw [if_pos c21] at kk
    exact kk
  · refine ex_pc (if_neg c21) ?_
    refine ex_s (am_nb (m := 3) (pc1 := 75) (ls1 := [(0, .ref 3), (1, .int q1)]) (st1 := [.int (q1 - 64), .ref 3]) (H1 := H) (k1 := 0) (n1 := 0) (by with_unfolding_all rfl)) ?_
    rw [if_neg c21] at kk
    exact kk

set_option maxRecDepth 100000 in
theorem tj54_48 {sL : Nat} {sx : Nat → Int32} {h b N : Nat} {T : List am_C} {r : Int32} {a' : xA} {a : xA} {H : am_H} (hS : xS h b T a H) (e : j54_48 N h b a = some (r, a')) : am_E sL sx am_cs 54 48 [(0, .ref 3)] [] H (some (.int r)) (fun H1 => xS h b T a' H1) := by
  unfold j54_48 at e
  refine ex_s (am_nb (m := 3) (pc1 := 52) (ls1 := [(0, .ref 3)]) (st1 := [.ref 3, .int 10, .ref 3]) (H1 := H) (k1 := 0) (n1 := 0) (by with_unfolding_all rfl)) ?_
  refine xe_get (v := .int (a 3 6)) hS rfl rfl (by decide) rfl ?_
  obtain ⟨r36, a37, e35, e⟩ := xb2_some e
  refine ex_cv1 (as := [.int 10, .int (a 3 6)]) (rest := []) rfl rfl rfl rfl (hS.obj rfl (by decide)) rfl (by with_unfolding_all rfl) (by with_unfolding_all rfl) (tf26_failed hS e35) (fun H33 s34 => ?_)
  obtain ⟨g38, e⟩ := xg_some e
  cases e
  exact ex_r (st_iret rfl rfl (xnar_z g38)) s34

set_option maxRecDepth 100000 in
theorem tf54_readCaret {sL : Nat} {sx : Nat → Int32} {h b N : Nat} {T : List am_C} {r : Int32} {a' : xA} {a : xA} {H : am_H} (hS : xS h b T a H) (e : f54_readCaret N h b a = some (r, a')) : am_E sL sx am_cs 54 0 [(0, .ref 3)] [] H (some (.int r)) (fun H1 => xS h b T a' H1) := by
  unfold f54_readCaret at e
  refine ex_s (am_nb (m := 2) (pc1 := 2) (ls1 := [(0, .ref 3)]) (st1 := [.ref 3, .ref 3]) (H1 := H) (k1 := 0) (n1 := 0) (by with_unfolding_all rfl)) ?_
  refine xe_get (v := .int (a 3 6)) hS rfl rfl (by decide) rfl ?_
  refine ex_s (am_nb (m := 2) (pc1 := 7) (ls1 := [(0, .ref 3)]) (st1 := [.int ((a 3 6) + 1), .ref 3]) (H1 := H) (k1 := 0) (n1 := 0) (by with_unfolding_all rfl)) ?_
  obtain ⟨r4, a5, e3, e⟩ := xb2_some e
  refine ex_cv1 (as := [.int ((a 3 6) + 1)]) (rest := []) rfl rfl rfl rfl (hS.obj rfl (by decide)) rfl (by with_unfolding_all rfl) (by with_unfolding_all rfl) (tf28_byteAt hS e3) (fun H1 s2 => ?_)
  refine ex_s (am_nb (m := 2) (pc1 := 12) (ls1 := [(1, .int r4), (0, .ref 3)]) (st1 := [.int r4]) (H1 := H1) (k1 := 0) (n1 := 0) (by with_unfolding_all rfl)) ?_
  obtain ⟨r9, a10, e8, e⟩ := xb2_some e
  refine ex_cs1 (as := [.int r4]) (rest := []) rfl (by decide) rfl rfl (by with_unfolding_all rfl) (by with_unfolding_all rfl) (tf25_isText s2 e8) (fun H6 s7 => ?_)
  refine ex_s (st_if rfl) ?_
  by_cases c11 : r9 = 0
  · have e := (if_pos c11).symm.trans e
    refine ex_pc (if_pos c11) ?_
    refine ex_s (am_nb (m := 3) (pc1 := 21) (ls1 := [(1, .int r4), (0, .ref 3)]) (st1 := [.ref 3, .int 1, .ref 3]) (H1 := H6) (k1 := 0) (n1 := 0) (by with_unfolding_all rfl)) ?_
    refine xe_get (v := .int (a10 3 6)) s7 rfl rfl (by decide) rfl ?_
    refine ex_s (am_nb (m := 2) (pc1 := 26) (ls1 := [(1, .int r4), (0, .ref 3)]) (st1 := [.int ((a10 3 6) + 1), .int 1, .ref 3]) (H1 := H6) (k1 := 0) (n1 := 0) (by with_unfolding_all rfl)) ?_
    obtain ⟨r15, a16, e14, e⟩ := xb2_some e
    refine ex_cv1 (as := [.int 1, .int ((a10 3 6) + 1)]) (rest := []) rfl rfl rfl rfl (s7.obj rfl (by decide)) rfl (by with_unfolding_all rfl) (by with_unfolding_all rfl) (tf26_failed s7 e14) (fun H12 s13 => ?_)
    obtain ⟨g17, e⟩ := xg_some e
    cases e
    exact ex_r (st_iret rfl rfl (xnar_z g17)) s13
  · have e := (if_neg c11).symm.trans e
    refine ex_pc (if_neg c11) ?_
    refine ex_s (am_nb (m := 2) (pc1 := 33) (ls1 := [(1, .int r4), (0, .ref 3)]) (st1 := [.int 63, .int r4]) (H1 := H6) (k1 := 0) (n1 := 0) (by with_unfolding_all rfl)) ?_
    refine ex_s (st_icmp rfl) ?_
    by_cases c20 : r4 = 63
    · have e := (if_pos c20).symm.trans e
      refine ex_pc (if_pos c20) ?_
      exact le_E (l1 := [(0, .ref 3), (1, .int r4)]) ⟨rfl, rfl, trivial⟩ rfl (tj54_59  s7 e)
    · have e := (if_neg c20).symm.trans e
      refine ex_pc (if_neg c20) ?_
      refine ex_s (am_nb (m := 2) (pc1 := 39) (ls1 := [(1, .int r4), (0, .ref 3)]) (st1 := [.int 64, .int r4]) (H1 := H6) (k1 := 0) (n1 := 0) (by with_unfolding_all rfl)) ?_
      refine ex_s (st_icmp rfl) ?_
      by_cases c32 : r4 < 64
      · have e := (if_pos c32).symm.trans e
        refine ex_pc (if_pos c32) ?_
        exact le_E (l1 := [(0, .ref 3)]) ⟨rfl, trivial⟩ rfl (tj54_48  s7 e)
      · have e := (if_neg c32).symm.trans e
        refine ex_pc (if_neg c32) ?_
        refine ex_s (am_nb (m := 2) (pc1 := 45) (ls1 := [(1, .int r4), (0, .ref 3)]) (st1 := [.int 95, .int r4]) (H1 := H6) (k1 := 0) (n1 := 0) (by with_unfolding_all rfl)) ?_
        refine ex_s (st_icmp rfl) ?_
        by_cases c39 : r4 ≤ 95
        · have e := (if_pos c39).symm.trans e
          refine ex_pc (if_pos c39) ?_
          exact le_E (l1 := [(0, .ref 3), (1, .int r4)]) ⟨rfl, rfl, trivial⟩ rfl (tj54_59  s7 e)
        · have e := (if_neg c39).symm.trans e
          refine ex_pc (if_neg c39) ?_
          exact le_E (l1 := [(0, .ref 3)]) ⟨rfl, trivial⟩ rfl (tj54_48  s7 e)

set_option maxRecDepth 100000 in
theorem tl56_19 {sL : Nat} {sx : Nat → Int32} {h b N : Nat} {T : List am_C} {R : Option Value} {F : am_H → Prop} {z : Nat × Int32 × xA} (k0 : z.1 = 0 → ∀ H2 : am_H, xS h b T z.2.2 H2 → am_E sL sx am_cs 56 48 [(0, .ref 3), (1, .int z.2.1)] [] H2 R F) : ∀ (n : Nat) (v1 : Int32) (a : xA) (H : am_H), xS h b T a H → l56_19 N h b n v1 a = some z → am_E sL sx am_cs 56 19 [(0, .ref 3), (1, .int v1)] [] H R F := by
  intro n
  induction n with
  | zero =>
    intro v1 a H hS e
    cases e
  | succ n ih =>
    intro v1 a H hS e
    unfold l56_19 at e
    refine ex_s (am_nb (m := 2) (pc1 := 21) (ls1 := [(0, .ref 3), (1, .int v1)]) (st1 := [.int 3, .int v1]) (H1 := H) (k1 := 0) (n1 := 0) (by with_unfolding_all rfl)) ?_
    refine ex_s (st_icmp rfl) ?_
    by_cases c8 : 3 ≤ v1
    · have e := (if_pos c8).symm.trans e
      refine ex_pc (if_pos c8) ?_
      cases e
      exact le_E (l1 := [(0, .ref 3), (1, .int v1)]) ⟨rfl, rfl, trivial⟩ rfl (k0 rfl H hS)
    · have e := (if_neg c8).symm.trans e
      refine ex_pc (if_neg c8) ?_
      refine ex_s (am_nb (m := 2) (pc1 := 26) (ls1 := [(0, .ref 3), (1, .int v1)]) (st1 := [.ref 3, .ref 3]) (H1 := H) (k1 := 0) (n1 := 0) (by with_unfolding_all rfl)) ?_
      refine xe_get (v := .int (a 3 6)) hS rfl rfl (by decide) rfl ?_
      refine ex_s (am_nb (m := 4) (pc1 := 33) (ls1 := [(0, .ref 3), (1, .int v1)]) (st1 := [.int (((a 3 6) + 2) + v1), .ref 3]) (H1 := H) (k1 := 0) (n1 := 0) (by with_unfolding_all rfl)) ?_
      obtain ⟨r12, a13, e11, e⟩ := xb2_some e
      refine ex_cv1 (as := [.int (((a 3 6) + 2) + v1)]) (rest := []) rfl rfl rfl rfl (hS.obj rfl (by decide)) rfl (by with_unfolding_all rfl) (by with_unfolding_all rfl) (tf28_byteAt hS e11) (fun H9 s10 => ?_)
      obtain ⟨r17, a18, e16, e⟩ := xb2_some e
      refine ex_cs1 (as := [.int r12]) (rest := []) rfl (by decide) rfl rfl (by with_unfolding_all rfl) (by with_unfolding_all rfl) (tf35_isDigit s10 e16) (fun H14 s15 => ?_)
      refine ex_s (st_if rfl) ?_
      by_cases c19 : r17 = 0
      · have e := (if_pos c19).symm.trans e
        refine ex_pc (if_pos c19) ?_
        cases e
        exact le_E (l1 := [(0, .ref 3), (1, .int v1)]) ⟨rfl, rfl, trivial⟩ rfl (k0 rfl H14 s15)
      · have e := (if_neg c19).symm.trans e
        refine ex_pc (if_neg c19) ?_
        refine ex_s (am_nb (m := 2) (pc1 := 19) (ls1 := [(1, .int (v1 + 1)), (0, .ref 3)]) (st1 := []) (H1 := H14) (k1 := 0) (n1 := 0) (by with_unfolding_all rfl)) ?_
        exact le_E (l1 := [(0, .ref 3), (1, .int (v1 + 1))]) ⟨rfl, rfl, trivial⟩ rfl (ih (v1 + 1) a18 H14 s15 e)

set_option maxRecDepth 100000 in
theorem tj56_48 {sL : Nat} {sx : Nat → Int32} {h b N : Nat} {T : List am_C} {r : Int32} {a' : xA} {q1 : Int32} {a : xA} {H : am_H} (hS : xS h b T a H) (e : j56_48 N h b q1 a = some (r, a')) : am_E sL sx am_cs 56 48 [(0, .ref 3), (1, .int q1)] [] H (some (.int r)) (fun H1 => xS h b T a' H1) := by
  unfold j56_48 at e
  refine ex_s (am_nb (m := 1) (pc1 := 49) (ls1 := [(0, .ref 3), (1, .int q1)]) (st1 := [.int q1]) (H1 := H) (k1 := 0) (n1 := 0) (by with_unfolding_all rfl)) ?_
  refine ex_s (st_if rfl) ?_
  by_cases c23 : q1 ≤ 0
  · have e := (if_pos c23).symm.trans e
    refine ex_pc (if_pos c23) ?_
    refine ex_s (am_nb (m := 1) (pc1 := 76) (ls1 := [(0, .ref 3), (1, .int q1)]) (st1 := [.int 0]) (H1 := H) (k1 := 0) (n1 := 0) (by with_unfolding_all rfl)) ?_
    cases e
    exact ex_r (st_iret rfl rfl rfl) hS
  · have e := (if_neg c23).symm.trans e
    refine ex_pc (if_neg c23) ?_
    refine ex_s (am_nb (m := 2) (pc1 := 54) (ls1 := [(0, .ref 3), (1, .int q1)]) (st1 := [.ref 3, .ref 3]) (H1 := H) (k1 := 0) (n1 := 0) (by with_unfolding_all rfl)) ?_
    refine xe_get (v := .int (a 3 6)) hS rfl rfl (by decide) rfl ?_
    refine ex_s (am_nb (m := 4) (pc1 := 61) (ls1 := [(0, .ref 3), (1, .int q1)]) (st1 := [.int (((a 3 6) + 2) + q1), .ref 3]) (H1 := H) (k1 := 0) (n1 := 0) (by with_unfolding_all rfl)) ?_
    obtain ⟨r27, a28, e26, e⟩ := xb2_some e
    refine ex_cv1 (as := [.int (((a 3 6) + 2) + q1)]) (rest := []) rfl rfl rfl rfl (hS.obj rfl (by decide)) rfl (by with_unfolding_all rfl) (by with_unfolding_all rfl) (tf28_byteAt hS e26) (fun H24 s25 => ?_)
    refine ex_s (am_nb (m := 1) (pc1 := 66) (ls1 := [(0, .ref 3), (1, .int q1)]) (st1 := [.int 62, .int r27]) (H1 := H24) (k1 := 0) (n1 := 0) (by with_unfolding_all rfl)) ?_
    have kk : am_E sL sx am_cs 56 76 [(0, .ref 3), (1, .int q1)] [.int (if r27 = 62 then (q1 + 3) else (0 : Int32))] H24 (some (.int r)) (fun H1 => xS h b T a' H1) := by
      cases e
      exact ex_r (st_iret rfl rfl rfl) s25
    refine ex_s (st_icmp rfl) ?_
    by_cases c29 : r27 = 62
    · refine ex_pc (if_pos c29) ?_
      refine ex_s (am_nb (m := 4) (pc1 := 76) (ls1 := [(0, .ref 3), (1, .int q1)]) (st1 := [.int (q1 + 3)]) (H1 := H24) (k1 := 0) (n1 := 0) (by with_unfolding_all rfl)) ?_
      rw [if_pos c29] at kk
      exact kk
    · refine ex_pc (if_neg c29) ?_
      refine ex_s (am_nb (m := 1) (pc1 := 76) (ls1 := [(0, .ref 3), (1, .int q1)]) (st1 := [.int 0]) (H1 := H24) (k1 := 0) (n1 := 0) (by with_unfolding_all rfl)) ?_
      rw [if_neg c29] at kk
      exact kk

set_option maxRecDepth 100000 in
theorem tf56_delayLength {sL : Nat} {sx : Nat → Int32} {h b N : Nat} {T : List am_C} {r : Int32} {a' : xA} {a : xA} {H : am_H} (hS : xS h b T a H) (e : f56_delayLength N h b a = some (r, a')) : am_E sL sx am_cs 56 0 [(0, .ref 3)] [] H (some (.int r)) (fun H1 => xS h b T a' H1) := by
  unfold f56_delayLength at e
  refine ex_s (am_nb (m := 2) (pc1 := 2) (ls1 := [(0, .ref 3)]) (st1 := [.ref 3, .ref 3]) (H1 := H) (k1 := 0) (n1 := 0) (by with_unfolding_all rfl)) ?_
  refine xe_get (v := .int (a 3 6)) hS rfl rfl (by decide) rfl ?_
  refine ex_s (am_nb (m := 2) (pc1 := 7) (ls1 := [(0, .ref 3)]) (st1 := [.int ((a 3 6) + 1), .ref 3]) (H1 := H) (k1 := 0) (n1 := 0) (by with_unfolding_all rfl)) ?_
  obtain ⟨r4, a5, e3, e⟩ := xb2_some e
  refine ex_cv1 (as := [.int ((a 3 6) + 1)]) (rest := []) rfl rfl rfl rfl (hS.obj rfl (by decide)) rfl (by with_unfolding_all rfl) (by with_unfolding_all rfl) (tf28_byteAt hS e3) (fun H1 s2 => ?_)
  refine ex_s (am_nb (m := 1) (pc1 := 12) (ls1 := [(0, .ref 3)]) (st1 := [.int 60, .int r4]) (H1 := H1) (k1 := 0) (n1 := 0) (by with_unfolding_all rfl)) ?_
  refine ex_s (st_icmp rfl) ?_
  by_cases c6 : r4 = 60
  · have e := (if_pos c6).symm.trans e
    refine ex_pc (if_pos c6) ?_
    refine ex_s (am_nb (m := 2) (pc1 := 19) (ls1 := [(1, .int 0), (0, .ref 3)]) (st1 := []) (H1 := H1) (k1 := 0) (n1 := 0) (by with_unfolding_all rfl)) ?_
    obtain ⟨z20, e21, e⟩ := Option.bind_eq_some_iff.mp e
    refine le_E (l1 := [(0, .ref 3), (1, .int 0)]) ⟨rfl, rfl, trivial⟩ rfl (tl56_19 (z := z20)  (fun uz20_0 Hz200 sz200 => ?_) N 0 a5 H1 s2 e21)
    exact le_E (l1 := [(0, .ref 3), (1, .int z20.2.1)]) ⟨rfl, rfl, trivial⟩ rfl (tj56_48  sz200 e)
  · have e := (if_neg c6).symm.trans e
    refine ex_pc (if_neg c6) ?_
    refine ex_s (am_nb (m := 1) (pc1 := 16) (ls1 := [(0, .ref 3)]) (st1 := [.int 0]) (H1 := H1) (k1 := 0) (n1 := 0) (by with_unfolding_all rfl)) ?_
    cases e
    exact ex_r (st_iret rfl rfl rfl) s2

set_option maxRecDepth 100000 in
theorem tj55_24 {sL : Nat} {sx : Nat → Int32} {h b N : Nat} {T : List am_C} {a' : xA} {q2 : Int32} {a : xA} {H : am_H} (hS : xS h b T a H) (e : j55_24 N h b q2 a = some a') : am_E sL sx am_cs 55 24 [(0, .ref 3), (2, .int q2)] [] H none (fun H1 => xS h b T a' H1) := by
  unfold j55_24 at e
  refine ex_s (am_nb (m := 2) (pc1 := 26) (ls1 := [(0, .ref 3), (2, .int q2)]) (st1 := [.ref 3, .ref 3]) (H1 := H) (k1 := 0) (n1 := 0) (by with_unfolding_all rfl)) ?_
  refine xe_get (v := .int (a 3 6)) hS rfl rfl (by decide) rfl ?_
  refine ex_s (am_nb (m := 4) (pc1 := 35) (ls1 := [(0, .ref 3), (2, .int q2)]) (st1 := [.int ((a 3 6) + (xmax 1 q2)), .ref 3]) (H1 := H) (k1 := 0) (n1 := 0) (by with_unfolding_all rfl)) ?_
  obtain ⟨a14, ha14, e⟩ := xw_some e
  refine xe_put (w := ((a 3 6) + (xmax 1 q2))) hS rfl rfl (by decide) rfl rfl rfl rfl (fun H15 s16 => ?_)
  have s16 : xS h b T a14 H15 := by rw [ha14]; exact s16
  cases e
  exact ex_r (st_vret rfl rfl) s16

set_option maxRecDepth 100000 in
theorem tj55_14 {sL : Nat} {sx : Nat → Int32} {h b N : Nat} {T : List am_C} {a' : xA} {q1 : Int32} {t0 : Int32} {a : xA} {H : am_H} (hS : xS h b T a H) (e : j55_14 N h b q1 t0 a = some a') : am_E sL sx am_cs 55 14 [(0, .ref 3), (1, .int q1)] [.int t0] H none (fun H1 => xS h b T a' H1) := by
  unfold j55_14 at e
  refine ex_s (am_nb (m := 2) (pc1 := 16) (ls1 := [(2, .int t0), (0, .ref 3), (1, .int q1)]) (st1 := [.int t0]) (H1 := H) (k1 := 0) (n1 := 0) (by with_unfolding_all rfl)) ?_
  refine ex_s (st_if rfl) ?_
  by_cases c9 : t0 = 0
  · have e := (if_pos c9).symm.trans e
    refine ex_pc (if_pos c9) ?_
    refine ex_s (am_nb (m := 2) (pc1 := 21) (ls1 := [(2, .int t0), (0, .ref 3), (1, .int q1)]) (st1 := [.int q1, .ref 3]) (H1 := H) (k1 := 0) (n1 := 0) (by with_unfolding_all rfl)) ?_
    obtain ⟨a13, e12, e⟩ := xb1_some e
    refine ex_cv0 (as := [.int q1]) (rest := []) rfl rfl rfl rfl (hS.obj rfl (by decide)) rfl (by with_unfolding_all rfl) (by with_unfolding_all rfl) (tf52_make hS e12) (fun H10 s11 => ?_)
    exact le_E (l1 := [(0, .ref 3), (2, .int t0)]) ⟨rfl, rfl, trivial⟩ rfl (tj55_24  s11 e)
  · have e := (if_neg c9).symm.trans e
    refine ex_pc (if_neg c9) ?_
    exact le_E (l1 := [(0, .ref 3), (2, .int t0)]) ⟨rfl, rfl, trivial⟩ rfl (tj55_24  hS e)

set_option maxRecDepth 100000 in
theorem tf55_readPlain {sL : Nat} {sx : Nat → Int32} {h b N : Nat} {T : List am_C} {a' : xA} {x0 : Int32} {a : xA} {H : am_H} (hS : xS h b T a H) (e : f55_readPlain N h b x0 a = some a') : am_E sL sx am_cs 55 0 [(0, .ref 3), (1, .int x0)] [] H none (fun H1 => xS h b T a' H1) := by
  unfold f55_readPlain at e
  refine ex_s (am_nb (m := 2) (pc1 := 3) (ls1 := [(0, .ref 3), (1, .int x0)]) (st1 := [.int 36, .int x0]) (H1 := H) (k1 := 0) (n1 := 0) (by with_unfolding_all rfl)) ?_
  refine ex_s (st_icmp rfl) ?_
  by_cases c2 : x0 = 36
  · have e := (if_pos c2).symm.trans e
    refine ex_pc (if_pos c2) ?_
    refine ex_s (am_nb (m := 1) (pc1 := 7) (ls1 := [(0, .ref 3), (1, .int x0)]) (st1 := [.ref 3]) (H1 := H) (k1 := 0) (n1 := 0) (by with_unfolding_all rfl)) ?_
    obtain ⟨r6, a7, e5, e⟩ := xb2_some e
    refine ex_cv1 (as := []) (rest := []) rfl rfl rfl rfl (hS.obj rfl (by decide)) rfl (by with_unfolding_all rfl) (by with_unfolding_all rfl) (tf56_delayLength hS e5) (fun H3 s4 => ?_)
    refine ex_s (am_nb (m := 1) (pc1 := 14) (ls1 := [(0, .ref 3), (1, .int x0)]) (st1 := [.int r6]) (H1 := H3) (k1 := 0) (n1 := 0) (by with_unfolding_all rfl)) ?_
    exact le_E (l1 := [(0, .ref 3), (1, .int x0)]) ⟨rfl, rfl, trivial⟩ rfl (tj55_14  s4 e)
  · have e := (if_neg c2).symm.trans e
    refine ex_pc (if_neg c2) ?_
    refine ex_s (am_nb (m := 1) (pc1 := 14) (ls1 := [(0, .ref 3), (1, .int x0)]) (st1 := [.int 0]) (H1 := H) (k1 := 0) (n1 := 0) (by with_unfolding_all rfl)) ?_
    exact le_E (l1 := [(0, .ref 3), (1, .int x0)]) ⟨rfl, rfl, trivial⟩ rfl (tj55_14  hS e)

set_option maxRecDepth 100000 in
theorem tj58_499 {sL : Nat} {sx : Nat → Int32} {h b N : Nat} {T : List am_C} {r : Int32} {a' : xA} {q5 : Int32} {a : xA} {H : am_H} (hS : xS h b T a H) (e : j58_499 N h b q5 a = some (r, a')) : am_E sL sx am_cs 58 499 [(5, .int q5)] [] H (some (.int r)) (fun H1 => xS h b T a' H1) := by
  unfold j58_499 at e
  refine ex_s (am_nb (m := 2) (pc1 := 503) (ls1 := [(5, .int q5)]) (st1 := [.int 100, .int q5]) (H1 := H) (k1 := 0) (n1 := 0) (by with_unfolding_all rfl)) ?_
  have kk : am_E sL sx am_cs 58 511 [(5, .int q5)] [.int (if q5 = 100 then (4 : Int32) else (0 : Int32))] H (some (.int r)) (fun H1 => xS h b T a' H1) := by
    cases e
    exact ex_r (st_iret rfl rfl rfl) hS
  refine ex_s (st_icmp rfl) ?_
  by_cases c19 : q5 = 100
  · refine ex_pc (if_pos c19) ?_
    refine ex_s (am_nb (m := 2) (pc1 := 511) (ls1 := [(5, .int q5)]) (st1 := [.int 4]) (H1 := H) (k1 := 0) (n1 := 0) (by with_unfolding_all rfl)) ?_
    rw [if_pos c19] at kk
    exact kk
  · refine ex_pc (if_neg c19) ?_
    refine ex_s (am_nb (m := 1) (pc1 := 511) (ls1 := [(5, .int q5)]) (st1 := [.int 0]) (H1 := H) (k1 := 0) (n1 := 0) (by with_unfolding_all rfl)) ?_
    rw [if_neg c19] at kk
    exact kk

set_option maxRecDepth 100000 in
theorem tl58_540 {sL : Nat} {sx : Nat → Int32} {h b N : Nat} {T : List am_C} {R : Option Value} {F : am_H → Prop} {w0 : Nat} {w1 : Int32} {w2 : Int32} {z : Nat × Int32 × Int32 × xA} (kw0 : xk w0 = 100) (k0 : z.1 = 0 → ∀ H2 : am_H, xS h b T z.2.2.2 H2 → am_E sL sx am_cs 58 595 [(0, .ref w0), (1, .int w1), (2, .int w2), (6, .int z.2.1), (7, .int z.2.2.1)] [] H2 R F) : ∀ (n : Nat) (v6 : Int32) (v7 : Int32) (a : xA) (H : am_H), xS h b T a H → l58_540 N h b w0 w1 w2 n v6 v7 a = some z → am_E sL sx am_cs 58 540 [(0, .ref w0), (1, .int w1), (2, .int w2), (6, .int v6), (7, .int v7)] [] H R F := by
  intro n
  induction n with
  | zero =>
    intro v6 v7 a H hS e
    cases e
  | succ n ih =>
    intro v6 v7 a H hS e
    unfold l58_540 at e
    refine ex_s (am_nb (m := 2) (pc1 := 543) (ls1 := [(0, .ref w0), (1, .int w1), (2, .int w2), (6, .int v6), (7, .int v7)]) (st1 := [.int w2, .int v7]) (H1 := H) (k1 := 0) (n1 := 0) (by with_unfolding_all rfl)) ?_
    refine ex_s (st_icmp rfl) ?_
    by_cases c33 : w2 ≤ v7
    · have e := (if_pos c33).symm.trans e
      refine ex_pc (if_pos c33) ?_
      cases e
      exact le_E (l1 := [(0, .ref w0), (1, .int w1), (2, .int w2), (6, .int v6), (7, .int v7)]) ⟨rfl, rfl, rfl, rfl, rfl, trivial⟩ rfl (k0 rfl H hS)
    · have e := (if_neg c33).symm.trans e
      refine ex_pc (if_neg c33) ?_
      refine ex_s (am_nb (m := 6) (pc1 := 553) (ls1 := [(0, .ref w0), (1, .int w1), (2, .int w2), (6, .int v6), (7, .int v7)]) (st1 := [.int ((w1 + 2) + 5), .int v7]) (H1 := H) (k1 := 0) (n1 := 0) (by with_unfolding_all rfl)) ?_
      refine ex_s (st_icmp rfl) ?_
      by_cases c35 : ((w1 + 2) + 5) ≤ v7
      · have e := (if_pos c35).symm.trans e
        refine ex_pc (if_pos c35) ?_
        cases e
        exact le_E (l1 := [(0, .ref w0), (1, .int w1), (2, .int w2), (6, .int v6), (7, .int v7)]) ⟨rfl, rfl, rfl, rfl, rfl, trivial⟩ rfl (k0 rfl H hS)
      · have e := (if_neg c35).symm.trans e
        refine ex_pc (if_neg c35) ?_
        refine ex_s (am_nb (m := 2) (pc1 := 559) (ls1 := [(0, .ref w0), (1, .int w1), (2, .int w2), (6, .int v6), (7, .int v7)]) (st1 := [.int v7, .ref w0]) (H1 := H) (k1 := 0) (n1 := 0) (by with_unfolding_all rfl)) ?_
        obtain ⟨g36, e⟩ := xg_some e
        refine xe_iald hS rfl kw0 g36 ?_
        refine ex_s (am_nb (m := 1) (pc1 := 562) (ls1 := [(0, .ref w0), (1, .int w1), (2, .int w2), (6, .int v6), (7, .int v7)]) (st1 := [.int 48, .int (a w0 (v7.toNatClampNeg))]) (H1 := H) (k1 := 0) (n1 := 0) (by with_unfolding_all rfl)) ?_
        refine ex_s (st_icmp rfl) ?_
        by_cases c38 : (a w0 (v7.toNatClampNeg)) < 48
        · have e := (if_pos c38).symm.trans e
          refine ex_pc (if_pos c38) ?_
          cases e
          exact le_E (l1 := [(0, .ref w0), (1, .int w1), (2, .int w2), (6, .int v6), (7, .int v7)]) ⟨rfl, rfl, rfl, rfl, rfl, trivial⟩ rfl (k0 rfl H hS)
        · have e := (if_neg c38).symm.trans e
          refine ex_pc (if_neg c38) ?_
          refine ex_s (am_nb (m := 2) (pc1 := 568) (ls1 := [(0, .ref w0), (1, .int w1), (2, .int w2), (6, .int v6), (7, .int v7)]) (st1 := [.int v7, .ref w0]) (H1 := H) (k1 := 0) (n1 := 0) (by with_unfolding_all rfl)) ?_
          refine xe_iald hS rfl kw0 g36 ?_
          refine ex_s (am_nb (m := 1) (pc1 := 571) (ls1 := [(0, .ref w0), (1, .int w1), (2, .int w2), (6, .int v6), (7, .int v7)]) (st1 := [.int 57, .int (a w0 (v7.toNatClampNeg))]) (H1 := H) (k1 := 0) (n1 := 0) (by with_unfolding_all rfl)) ?_
          refine ex_s (st_icmp rfl) ?_
          by_cases c39 : 57 < (a w0 (v7.toNatClampNeg))
          · have e := (if_pos c39).symm.trans e
            refine ex_pc (if_pos c39) ?_
            cases e
            exact le_E (l1 := [(0, .ref w0), (1, .int w1), (2, .int w2), (6, .int v6), (7, .int v7)]) ⟨rfl, rfl, rfl, rfl, rfl, trivial⟩ rfl (k0 rfl H hS)
          · have e := (if_neg c39).symm.trans e
            refine ex_pc (if_neg c39) ?_
            refine ex_s (am_nb (m := 5) (pc1 := 582) (ls1 := [(0, .ref w0), (1, .int w1), (2, .int w2), (6, .int v6), (7, .int v7)]) (st1 := [.int v7, .ref w0, .int (v6 * 10)]) (H1 := H) (k1 := 0) (n1 := 0) (by with_unfolding_all rfl)) ?_
            refine xe_iald hS rfl kw0 g36 ?_
            refine ex_s (am_nb (m := 6) (pc1 := 540) (ls1 := [(7, .int (v7 + 1)), (6, .int (((v6 * 10) + (a w0 (v7.toNatClampNeg))) - 48)), (0, .ref w0), (1, .int w1), (2, .int w2)]) (st1 := []) (H1 := H) (k1 := 0) (n1 := 0) (by with_unfolding_all rfl)) ?_
            exact le_E (l1 := [(0, .ref w0), (1, .int w1), (2, .int w2), (6, .int (((v6 * 10) + (a w0 (v7.toNatClampNeg))) - 48)), (7, .int (v7 + 1))]) ⟨rfl, rfl, rfl, rfl, rfl, trivial⟩ rfl (ih (((v6 * 10) + (a w0 (v7.toNatClampNeg))) - 48) (v7 + 1) a H hS e)

set_option maxRecDepth 100000 in
theorem tj58_631 {sL : Nat} {sx : Nat → Int32} {h b N : Nat} {T : List am_C} {r : Int32} {a' : xA} {q1 : Int32} {q7 : Int32} {t0 : Int32} {a : xA} {H : am_H} (hS : xS h b T a H) (e : j58_631 N h b q1 q7 t0 a = some (r, a')) : am_E sL sx am_cs 58 631 [(1, .int q1), (7, .int q7)] [.int t0] H (some (.int r)) (fun H1 => xS h b T a' H1) := by
  unfold j58_631 at e
  refine ex_s (am_nb (m := 2) (pc1 := 635) (ls1 := [(8, .int t0), (1, .int q1), (7, .int q7)]) (st1 := [.int t0]) (H1 := H) (k1 := 0) (n1 := 0) (by with_unfolding_all rfl)) ?_
  have kk : am_E sL sx am_cs 58 648 [(8, .int t0), (1, .int q1), (7, .int q7)] [.int (if t0 = 0 then (0 : Int32) else ((q7 + 1) - q1))] H (some (.int r)) (fun H1 => xS h b T a' H1) := by
    cases e
    exact ex_r (st_iret rfl rfl rfl) hS
  refine ex_s (st_if rfl) ?_
  by_cases c46 : t0 = 0
  · refine ex_pc (if_pos c46) ?_
    refine ex_s (am_nb (m := 1) (pc1 := 648) (ls1 := [(8, .int t0), (1, .int q1), (7, .int q7)]) (st1 := [.int 0]) (H1 := H) (k1 := 0) (n1 := 0) (by with_unfolding_all rfl)) ?_
    rw [if_pos c46] at kk
    exact kk
  · refine ex_pc (if_neg c46) ?_
    refine ex_s (am_nb (m := 6) (pc1 := 648) (ls1 := [(8, .int t0), (1, .int q1), (7, .int q7)]) (st1 := [.int ((q7 + 1) - q1)]) (H1 := H) (k1 := 0) (n1 := 0) (by with_unfolding_all rfl)) ?_
    rw [if_neg c46] at kk
    exact kk

set_option maxRecDepth 100000 in
theorem tj58_630 {sL : Nat} {sx : Nat → Int32} {h b N : Nat} {T : List am_C} {r : Int32} {a' : xA} {q1 : Int32} {q7 : Int32} {a : xA} {H : am_H} (hS : xS h b T a H) (e : j58_630 N h b q1 q7 a = some (r, a')) : am_E sL sx am_cs 58 630 [(1, .int q1), (7, .int q7)] [] H (some (.int r)) (fun H1 => xS h b T a' H1) := by
  unfold j58_630 at e
  refine ex_s (am_nb (m := 1) (pc1 := 631) (ls1 := [(1, .int q1), (7, .int q7)]) (st1 := [.int 0]) (H1 := H) (k1 := 0) (n1 := 0) (by with_unfolding_all rfl)) ?_
  exact le_E (l1 := [(1, .int q1), (7, .int q7)]) ⟨rfl, rfl, trivial⟩ rfl (tj58_631  hS e)

set_option maxRecDepth 100000 in
theorem tj58_595 {sL : Nat} {sx : Nat → Int32} {h b N : Nat} {T : List am_C} {r : Int32} {a' : xA} {q0 : Nat} {q1 : Int32} {q2 : Int32} {q6 : Int32} {q7 : Int32} {a : xA} {H : am_H} (kq0 : xk q0 = 100) (hS : xS h b T a H) (e : j58_595 N h b q0 q1 q2 q6 q7 a = some (r, a')) : am_E sL sx am_cs 58 595 [(0, .ref q0), (1, .int q1), (2, .int q2), (6, .int q6), (7, .int q7)] [] H (some (.int r)) (fun H1 => xS h b T a' H1) := by
  unfold j58_595 at e
  refine ex_s (am_nb (m := 4) (pc1 := 600) (ls1 := [(0, .ref q0), (1, .int q1), (2, .int q2), (6, .int q6), (7, .int q7)]) (st1 := [.int (q1 + 2), .int q7]) (H1 := H) (k1 := 0) (n1 := 0) (by with_unfolding_all rfl)) ?_
  refine ex_s (st_icmp rfl) ?_
  by_cases c45 : q7 ≤ (q1 + 2)
  · have e := (if_pos c45).symm.trans e
    refine ex_pc (if_pos c45) ?_
    exact le_E (l1 := [(1, .int q1), (7, .int q7)]) ⟨rfl, rfl, trivial⟩ rfl (tj58_630  hS e)
  · have e := (if_neg c45).symm.trans e
    refine ex_pc (if_neg c45) ?_
    refine ex_s (am_nb (m := 2) (pc1 := 608) (ls1 := [(0, .ref q0), (1, .int q1), (2, .int q2), (6, .int q6), (7, .int q7)]) (st1 := [.int 32767, .int q6]) (H1 := H) (k1 := 0) (n1 := 0) (by with_unfolding_all rfl)) ?_
    refine ex_s (st_icmp rfl) ?_
    by_cases c49 : 32767 < q6
    · have e := (if_pos c49).symm.trans e
      refine ex_pc (if_pos c49) ?_
      exact le_E (l1 := [(1, .int q1), (7, .int q7)]) ⟨rfl, rfl, trivial⟩ rfl (tj58_630  hS e)
    · have e := (if_neg c49).symm.trans e
      refine ex_pc (if_neg c49) ?_
      refine ex_s (am_nb (m := 2) (pc1 := 614) (ls1 := [(0, .ref q0), (1, .int q1), (2, .int q2), (6, .int q6), (7, .int q7)]) (st1 := [.int q2, .int q7]) (H1 := H) (k1 := 0) (n1 := 0) (by with_unfolding_all rfl)) ?_
      refine ex_s (st_icmp rfl) ?_
      by_cases c51 : q2 ≤ q7
      · have e := (if_pos c51).symm.trans e
        refine ex_pc (if_pos c51) ?_
        exact le_E (l1 := [(1, .int q1), (7, .int q7)]) ⟨rfl, rfl, trivial⟩ rfl (tj58_630  hS e)
      · have e := (if_neg c51).symm.trans e
        refine ex_pc (if_neg c51) ?_
        refine ex_s (am_nb (m := 2) (pc1 := 620) (ls1 := [(0, .ref q0), (1, .int q1), (2, .int q2), (6, .int q6), (7, .int q7)]) (st1 := [.int q7, .ref q0]) (H1 := H) (k1 := 0) (n1 := 0) (by with_unfolding_all rfl)) ?_
        obtain ⟨g52, e⟩ := xg_some e
        refine xe_iald hS rfl kq0 g52 ?_
        refine ex_s (am_nb (m := 1) (pc1 := 623) (ls1 := [(0, .ref q0), (1, .int q1), (2, .int q2), (6, .int q6), (7, .int q7)]) (st1 := [.int 125, .int (a q0 (q7.toNatClampNeg))]) (H1 := H) (k1 := 0) (n1 := 0) (by with_unfolding_all rfl)) ?_
        have kk : am_E sL sx am_cs 58 631 [(0, .ref q0), (1, .int q1), (2, .int q2), (6, .int q6), (7, .int q7)] [.int (if (a q0 (q7.toNatClampNeg)) = 125 then (1 : Int32) else (0 : Int32))] H (some (.int r)) (fun H1 => xS h b T a' H1) := by
          refine ex_s (am_nb (m := 2) (pc1 := 635) (ls1 := [(8, .int (if (a q0 (q7.toNatClampNeg)) = 125 then (1 : Int32) else (0 : Int32))), (0, .ref q0), (1, .int q1), (2, .int q2), (6, .int q6), (7, .int q7)]) (st1 := [.int (if (a q0 (q7.toNatClampNeg)) = 125 then (1 : Int32) else (0 : Int32))]) (H1 := H) (k1 := 0) (n1 := 0) (by with_unfolding_all rfl)) ?_
          have kk : am_E sL sx am_cs 58 648 [(8, .int (if (a q0 (q7.toNatClampNeg)) = 125 then (1 : Int32) else (0 : Int32))), (0, .ref q0), (1, .int q1), (2, .int q2), (6, .int q6), (7, .int q7)] [.int (if (if (a q0 (q7.toNatClampNeg)) = 125 then (1 : Int32) else (0 : Int32)) = 0 then (0 : Int32) else ((q7 + 1) - q1))] H (some (.int r)) (fun H1 => xS h b T a' H1) := by
            cases e
            exact ex_r (st_iret rfl rfl rfl) hS
          refine ex_s (st_if rfl) ?_
          by_cases c54 : (if (a q0 (q7.toNatClampNeg)) = 125 then (1 : Int32) else (0 : Int32)) = 0
          · refine ex_pc (if_pos c54) ?_
            refine ex_s (am_nb (m := 1) (pc1 := 648) (ls1 := [(8, .int (if (a q0 (q7.toNatClampNeg)) = 125 then (1 : Int32) else (0 : Int32))), (0, .ref q0), (1, .int q1), (2, .int q2), (6, .int q6), (7, .int q7)]) (st1 := [.int 0]) (H1 := H) (k1 := 0) (n1 := 0) (by with_unfolding_all rfl)) ?_
            rw [if_pos c54] at kk
            exact kk
          · refine ex_pc (if_neg c54) ?_
            refine ex_s (am_nb (m := 6) (pc1 := 648) (ls1 := [(8, .int (if (a q0 (q7.toNatClampNeg)) = 125 then (1 : Int32) else (0 : Int32))), (0, .ref q0), (1, .int q1), (2, .int q2), (6, .int q6), (7, .int q7)]) (st1 := [.int ((q7 + 1) - q1)]) (H1 := H) (k1 := 0) (n1 := 0) (by with_unfolding_all rfl)) ?_
            rw [if_neg c54] at kk
            exact kk
        refine ex_s (st_icmp rfl) ?_
        by_cases c53 : (a q0 (q7.toNatClampNeg)) = 125
        · refine ex_pc (if_pos c53) ?_
          refine ex_s (am_nb (m := 2) (pc1 := 631) (ls1 := [(0, .ref q0), (1, .int q1), (2, .int q2), (6, .int q6), (7, .int q7)]) (st1 := [.int 1]) (H1 := H) (k1 := 0) (n1 := 0) (by with_unfolding_all rfl)) ?_
          rw [if_pos c53] at kk
          exact kk
        · refine ex_pc (if_neg c53) ?_
          refine ex_s (am_nb (m := 1) (pc1 := 631) (ls1 := [(0, .ref q0), (1, .int q1), (2, .int q2), (6, .int q6), (7, .int q7)]) (st1 := [.int 0]) (H1 := H) (k1 := 0) (n1 := 0) (by with_unfolding_all rfl)) ?_
          rw [if_neg c53] at kk
          exact kk

set_option maxRecDepth 100000 in
theorem tj58_56 {sL : Nat} {sx : Nat → Int32} {h b N : Nat} {T : List am_C} {r : Int32} {a' : xA} {q0 : Nat} {q1 : Int32} {q2 : Int32} {q4 : Int32} {t0 : Int32} {a : xA} {H : am_H} (kq0 : xk q0 = 100) (hS : xS h b T a H) (e : j58_56 N h b q0 q1 q2 q4 t0 a = some (r, a')) : am_E sL sx am_cs 58 56 [(0, .ref q0), (1, .int q1), (2, .int q2), (4, .int q4)] [.int t0] H (some (.int r)) (fun H1 => xS h b T a' H1) := by
  unfold j58_56 at e
  refine ex_s (am_nb (m := 5) (pc1 := 62) (ls1 := [(5, .int t0), (0, .ref q0), (1, .int q1), (2, .int q2), (4, .int q4)]) (st1 := [.int (q1 + 1), .ref q0]) (H1 := H) (k1 := 0) (n1 := 0) (by with_unfolding_all rfl)) ?_
  obtain ⟨g11, e⟩ := xg_some e
  refine xe_iald hS rfl kq0 g11 ?_
  refine ex_s (st_tsw rfl) ?_
  by_cases c12 : (a q0 ((q1 + 1).toNatClampNeg)) = 33 ∨ (a q0 ((q1 + 1).toNatClampNeg)) = 37 ∨ (a q0 ((q1 + 1).toNatClampNeg)) = 38 ∨ (a q0 ((q1 + 1).toNatClampNeg)) = 42 ∨ (a q0 ((q1 + 1).toNatClampNeg)) = 43 ∨ (a q0 ((q1 + 1).toNatClampNeg)) = 45 ∨ (a q0 ((q1 + 1).toNatClampNeg)) = 47 ∨ (a q0 ((q1 + 1).toNatClampNeg)) = 59 ∨ (a q0 ((q1 + 1).toNatClampNeg)) = 60 ∨ (a q0 ((q1 + 1).toNatClampNeg)) = 61 ∨ (a q0 ((q1 + 1).toNatClampNeg)) = 62 ∨ (a q0 ((q1 + 1).toNatClampNeg)) = 63 ∨ (a q0 ((q1 + 1).toNatClampNeg)) = 65 ∨ (a q0 ((q1 + 1).toNatClampNeg)) = 79 ∨ (a q0 ((q1 + 1).toNatClampNeg)) = 94 ∨ (a q0 ((q1 + 1).toNatClampNeg)) = 99 ∨ (a q0 ((q1 + 1).toNatClampNeg)) = 100 ∨ (a q0 ((q1 + 1).toNatClampNeg)) = 101 ∨ (a q0 ((q1 + 1).toNatClampNeg)) = 105 ∨ (a q0 ((q1 + 1).toNatClampNeg)) = 109 ∨ (a q0 ((q1 + 1).toNatClampNeg)) = 116 ∨ (a q0 ((q1 + 1).toNatClampNeg)) = 124 ∨ (a q0 ((q1 + 1).toNatClampNeg)) = 126
  · have e := (if_pos c12).symm.trans e
    refine ex_pc (pc1 := 528) (by rcases c12 with c12 | c12 | c12 | c12 | c12 | c12 | c12 | c12 | c12 | c12 | c12 | c12 | c12 | c12 | c12 | c12 | c12 | c12 | c12 | c12 | c12 | c12 | c12 <;> (rw [c12]; with_unfolding_all rfl)) ?_
    refine ex_s (am_nb (m := 1) (pc1 := 529) (ls1 := [(5, .int t0), (0, .ref q0), (1, .int q1), (2, .int q2), (4, .int q4)]) (st1 := [.int 2]) (H1 := H) (k1 := 0) (n1 := 0) (by with_unfolding_all rfl)) ?_
    cases e
    exact ex_r (st_iret rfl rfl rfl) hS
  · have e := (if_neg c12).symm.trans e
    by_cases c13 : (a q0 ((q1 + 1).toNatClampNeg)) = 39
    · have e := (if_pos c13).symm.trans e
      refine ex_pc (pc1 := 512) (by rw [c13]; with_unfolding_all rfl) ?_
      refine ex_s (am_nb (m := 2) (pc1 := 516) (ls1 := [(5, .int t0), (0, .ref q0), (1, .int q1), (2, .int q2), (4, .int q4)]) (st1 := [.int 39, .int t0]) (H1 := H) (k1 := 0) (n1 := 0) (by with_unfolding_all rfl)) ?_
      have kk : am_E sL sx am_cs 58 524 [(5, .int t0), (0, .ref q0), (1, .int q1), (2, .int q2), (4, .int q4)] [.int (if t0 = 39 then (4 : Int32) else (0 : Int32))] H (some (.int r)) (fun H1 => xS h b T a' H1) := by
        cases e
        exact ex_r (st_iret rfl rfl rfl) hS
      refine ex_s (st_icmp rfl) ?_
      by_cases c14 : t0 = 39
      · refine ex_pc (if_pos c14) ?_
        refine ex_s (am_nb (m := 2) (pc1 := 524) (ls1 := [(5, .int t0), (0, .ref q0), (1, .int q1), (2, .int q2), (4, .int q4)]) (st1 := [.int 4]) (H1 := H) (k1 := 0) (n1 := 0) (by with_unfolding_all rfl)) ?_
        rw [if_pos c14] at kk
        exact kk
      · refine ex_pc (if_neg c14) ?_
        refine ex_s (am_nb (m := 1) (pc1 := 524) (ls1 := [(5, .int t0), (0, .ref q0), (1, .int q1), (2, .int q2), (4, .int q4)]) (st1 := [.int 0]) (H1 := H) (k1 := 0) (n1 := 0) (by with_unfolding_all rfl)) ?_
        rw [if_neg c14] at kk
        exact kk
    · have e := (if_neg c13).symm.trans e
      by_cases c15 : (a q0 ((q1 + 1).toNatClampNeg)) = 48
      · have e := (if_pos c15).symm.trans e
        refine ex_pc (pc1 := 485) (by rw [c15]; with_unfolding_all rfl) ?_
        refine ex_s (am_nb (m := 2) (pc1 := 489) (ls1 := [(5, .int t0), (0, .ref q0), (1, .int q1), (2, .int q2), (4, .int q4)]) (st1 := [.int 50, .int q4]) (H1 := H) (k1 := 0) (n1 := 0) (by with_unfolding_all rfl)) ?_
        refine ex_s (st_icmp rfl) ?_
        by_cases c18 : q4 = 50
        · have e := (if_pos c18).symm.trans e
          refine ex_pc (if_pos c18) ?_
          exact le_E (l1 := [(5, .int t0)]) ⟨rfl, trivial⟩ rfl (tj58_499  hS e)
        · have e := (if_neg c18).symm.trans e
          refine ex_pc (if_neg c18) ?_
          refine ex_s (am_nb (m := 2) (pc1 := 496) (ls1 := [(5, .int t0), (0, .ref q0), (1, .int q1), (2, .int q2), (4, .int q4)]) (st1 := [.int 51, .int q4]) (H1 := H) (k1 := 0) (n1 := 0) (by with_unfolding_all rfl)) ?_
          refine ex_s (st_icmp rfl) ?_
          by_cases c22 : q4 = 51
          · have e := (if_pos c22).symm.trans e
            refine ex_pc (if_pos c22) ?_
            exact le_E (l1 := [(5, .int t0)]) ⟨rfl, trivial⟩ rfl (tj58_499  hS e)
          · have e := (if_neg c22).symm.trans e
            refine ex_pc (if_neg c22) ?_
            refine ex_s (am_nb (m := 1) (pc1 := 511) (ls1 := [(5, .int t0), (0, .ref q0), (1, .int q1), (2, .int q2), (4, .int q4)]) (st1 := [.int 0]) (H1 := H) (k1 := 0) (n1 := 0) (by with_unfolding_all rfl)) ?_
            cases e
            exact ex_r (st_iret rfl rfl rfl) hS
      · have e := (if_neg c15).symm.trans e
        by_cases c23 : (a q0 ((q1 + 1).toNatClampNeg)) = 50 ∨ (a q0 ((q1 + 1).toNatClampNeg)) = 51
        · have e := (if_pos c23).symm.trans e
          refine ex_pc (pc1 := 472) (by rcases c23 with c23 | c23 <;> (rw [c23]; with_unfolding_all rfl)) ?_
          refine ex_s (am_nb (m := 2) (pc1 := 476) (ls1 := [(5, .int t0), (0, .ref q0), (1, .int q1), (2, .int q2), (4, .int q4)]) (st1 := [.int 100, .int q4]) (H1 := H) (k1 := 0) (n1 := 0) (by with_unfolding_all rfl)) ?_
          have kk : am_E sL sx am_cs 58 484 [(5, .int t0), (0, .ref q0), (1, .int q1), (2, .int q2), (4, .int q4)] [.int (if q4 = 100 then (3 : Int32) else (0 : Int32))] H (some (.int r)) (fun H1 => xS h b T a' H1) := by
            cases e
            exact ex_r (st_iret rfl rfl rfl) hS
          refine ex_s (st_icmp rfl) ?_
          by_cases c24 : q4 = 100
          · refine ex_pc (if_pos c24) ?_
            refine ex_s (am_nb (m := 2) (pc1 := 484) (ls1 := [(5, .int t0), (0, .ref q0), (1, .int q1), (2, .int q2), (4, .int q4)]) (st1 := [.int 3]) (H1 := H) (k1 := 0) (n1 := 0) (by with_unfolding_all rfl)) ?_
            rw [if_pos c24] at kk
            exact kk
          · refine ex_pc (if_neg c24) ?_
            refine ex_s (am_nb (m := 1) (pc1 := 484) (ls1 := [(5, .int t0), (0, .ref q0), (1, .int q1), (2, .int q2), (4, .int q4)]) (st1 := [.int 0]) (H1 := H) (k1 := 0) (n1 := 0) (by with_unfolding_all rfl)) ?_
            rw [if_neg c24] at kk
            exact kk
        · have e := (if_neg c23).symm.trans e
          by_cases c25 : (a q0 ((q1 + 1).toNatClampNeg)) = 112
          · have e := (if_pos c25).symm.trans e
            refine ex_pc (pc1 := 452) (by rw [c25]; with_unfolding_all rfl) ?_
            refine ex_s (am_nb (m := 2) (pc1 := 456) (ls1 := [(5, .int t0), (0, .ref q0), (1, .int q1), (2, .int q2), (4, .int q4)]) (st1 := [.int 49, .int q4]) (H1 := H) (k1 := 0) (n1 := 0) (by with_unfolding_all rfl)) ?_
            refine ex_s (st_icmp rfl) ?_
            by_cases c28 : q4 < 49
            · have e := (if_pos c28).symm.trans e
              refine ex_pc (if_pos c28) ?_
              refine ex_s (am_nb (m := 1) (pc1 := 471) (ls1 := [(5, .int t0), (0, .ref q0), (1, .int q1), (2, .int q2), (4, .int q4)]) (st1 := [.int 0]) (H1 := H) (k1 := 0) (n1 := 0) (by with_unfolding_all rfl)) ?_
              cases e
              exact ex_r (st_iret rfl rfl rfl) hS
            · have e := (if_neg c28).symm.trans e
              refine ex_pc (if_neg c28) ?_
              refine ex_s (am_nb (m := 2) (pc1 := 463) (ls1 := [(5, .int t0), (0, .ref q0), (1, .int q1), (2, .int q2), (4, .int q4)]) (st1 := [.int 52, .int q4]) (H1 := H) (k1 := 0) (n1 := 0) (by with_unfolding_all rfl)) ?_
              have kk : am_E sL sx am_cs 58 471 [(5, .int t0), (0, .ref q0), (1, .int q1), (2, .int q2), (4, .int q4)] [.int (if 52 < q4 then (0 : Int32) else (3 : Int32))] H (some (.int r)) (fun H1 => xS h b T a' H1) := by
                cases e
                exact ex_r (st_iret rfl rfl rfl) hS
              refine ex_s (st_icmp rfl) ?_
              by_cases c29 : 52 < q4
              · refine ex_pc (if_pos c29) ?_
                refine ex_s (am_nb (m := 1) (pc1 := 471) (ls1 := [(5, .int t0), (0, .ref q0), (1, .int q1), (2, .int q2), (4, .int q4)]) (st1 := [.int 0]) (H1 := H) (k1 := 0) (n1 := 0) (by with_unfolding_all rfl)) ?_
                rw [if_pos c29] at kk
                exact kk
              · refine ex_pc (if_neg c29) ?_
                refine ex_s (am_nb (m := 2) (pc1 := 471) (ls1 := [(5, .int t0), (0, .ref q0), (1, .int q1), (2, .int q2), (4, .int q4)]) (st1 := [.int 3]) (H1 := H) (k1 := 0) (n1 := 0) (by with_unfolding_all rfl)) ?_
                rw [if_neg c29] at kk
                exact kk
          · have e := (if_neg c25).symm.trans e
            by_cases c30 : (a q0 ((q1 + 1).toNatClampNeg)) = 123
            · have e := (if_pos c30).symm.trans e
              refine ex_pc (pc1 := 525) (by rw [c30]; with_unfolding_all rfl) ?_
              refine ex_s (am_nb (m := 7) (pc1 := 540) (ls1 := [(7, .int (q1 + 2)), (6, .int 0), (5, .int t0), (0, .ref q0), (1, .int q1), (2, .int q2), (4, .int q4)]) (st1 := []) (H1 := H) (k1 := 0) (n1 := 0) (by with_unfolding_all rfl)) ?_
              obtain ⟨z40, e41, e⟩ := Option.bind_eq_some_iff.mp e
              refine le_E (l1 := [(0, .ref q0), (1, .int q1), (2, .int q2), (6, .int 0), (7, .int (q1 + 2))]) ⟨rfl, rfl, rfl, rfl, rfl, trivial⟩ rfl (tl58_540 (z := z40) kq0 (fun uz40_0 Hz400 sz400 => ?_) N 0 (q1 + 2) a H hS e41)
              exact le_E (l1 := [(0, .ref q0), (1, .int q1), (2, .int q2), (6, .int z40.2.1), (7, .int z40.2.2.1)]) ⟨rfl, rfl, rfl, rfl, rfl, trivial⟩ rfl (tj58_595 kq0 sz400 e)
            · have e := (if_neg c30).symm.trans e
              refine ex_pc (pc1 := 530) (am_sw_n (sw_c (Or.inl (fun q => c12 (Or.inl q))) (sw_c (Or.inr rfl) (sw_c (Or.inr rfl) (sw_c (Or.inr rfl) (sw_c (Or.inl (fun q => c12 (Or.inr (Or.inl q)))) (sw_c (Or.inl (fun q => c12 (Or.inr (Or.inr (Or.inl q))))) (sw_c (Or.inl c13) (sw_c (Or.inr rfl) (sw_c (Or.inr rfl) (sw_c (Or.inl (fun q => c12 (Or.inr (Or.inr (Or.inr (Or.inl q)))))) (sw_c (Or.inl (fun q => c12 (Or.inr (Or.inr (Or.inr (Or.inr (Or.inl q))))))) (sw_c (Or.inr rfl) (sw_c (Or.inl (fun q => c12 (Or.inr (Or.inr (Or.inr (Or.inr (Or.inr (Or.inl q)))))))) (sw_c (Or.inr rfl) (sw_c (Or.inl (fun q => c12 (Or.inr (Or.inr (Or.inr (Or.inr (Or.inr (Or.inr (Or.inl q))))))))) (sw_c (Or.inl c15) (sw_c (Or.inr rfl) (sw_c (Or.inl (fun q => c23 (Or.inl q))) (sw_c (Or.inl (fun q => c23 (Or.inr q))) (sw_c (Or.inr rfl) (sw_c (Or.inr rfl) (sw_c (Or.inr rfl) (sw_c (Or.inr rfl) (sw_c (Or.inr rfl) (sw_c (Or.inr rfl) (sw_c (Or.inr rfl) (sw_c (Or.inl (fun q => c12 (Or.inr (Or.inr (Or.inr (Or.inr (Or.inr (Or.inr (Or.inr (Or.inl q)))))))))) (sw_c (Or.inl (fun q => c12 (Or.inr (Or.inr (Or.inr (Or.inr (Or.inr (Or.inr (Or.inr (Or.inr (Or.inl q))))))))))) (sw_c (Or.inl (fun q => c12 (Or.inr (Or.inr (Or.inr (Or.inr (Or.inr (Or.inr (Or.inr (Or.inr (Or.inr (Or.inl q)))))))))))) (sw_c (Or.inl (fun q => c12 (Or.inr (Or.inr (Or.inr (Or.inr (Or.inr (Or.inr (Or.inr (Or.inr (Or.inr (Or.inr (Or.inl q))))))))))))) (sw_c (Or.inl (fun q => c12 (Or.inr (Or.inr (Or.inr (Or.inr (Or.inr (Or.inr (Or.inr (Or.inr (Or.inr (Or.inr (Or.inr (Or.inl q)))))))))))))) (sw_c (Or.inr rfl) (sw_c (Or.inl (fun q => c12 (Or.inr (Or.inr (Or.inr (Or.inr (Or.inr (Or.inr (Or.inr (Or.inr (Or.inr (Or.inr (Or.inr (Or.inr (Or.inl q))))))))))))))) (sw_c (Or.inr rfl) (sw_c (Or.inr rfl) (sw_c (Or.inr rfl) (sw_c (Or.inr rfl) (sw_c (Or.inr rfl) (sw_c (Or.inr rfl) (sw_c (Or.inr rfl) (sw_c (Or.inr rfl) (sw_c (Or.inr rfl) (sw_c (Or.inr rfl) (sw_c (Or.inr rfl) (sw_c (Or.inr rfl) (sw_c (Or.inr rfl) (sw_c (Or.inl (fun q => c12 (Or.inr (Or.inr (Or.inr (Or.inr (Or.inr (Or.inr (Or.inr (Or.inr (Or.inr (Or.inr (Or.inr (Or.inr (Or.inr (Or.inl q)))))))))))))))) (sw_c (Or.inr rfl) (sw_c (Or.inr rfl) (sw_c (Or.inr rfl) (sw_c (Or.inr rfl) (sw_c (Or.inr rfl) (sw_c (Or.inr rfl) (sw_c (Or.inr rfl) (sw_c (Or.inr rfl) (sw_c (Or.inr rfl) (sw_c (Or.inr rfl) (sw_c (Or.inr rfl) (sw_c (Or.inr rfl) (sw_c (Or.inr rfl) (sw_c (Or.inr rfl) (sw_c (Or.inl (fun q => c12 (Or.inr (Or.inr (Or.inr (Or.inr (Or.inr (Or.inr (Or.inr (Or.inr (Or.inr (Or.inr (Or.inr (Or.inr (Or.inr (Or.inr (Or.inl q))))))))))))))))) (sw_c (Or.inr rfl) (sw_c (Or.inr rfl) (sw_c (Or.inr rfl) (sw_c (Or.inr rfl) (sw_c (Or.inl (fun q => c12 (Or.inr (Or.inr (Or.inr (Or.inr (Or.inr (Or.inr (Or.inr (Or.inr (Or.inr (Or.inr (Or.inr (Or.inr (Or.inr (Or.inr (Or.inr (Or.inl q)))))))))))))))))) (sw_c (Or.inl (fun q => c12 (Or.inr (Or.inr (Or.inr (Or.inr (Or.inr (Or.inr (Or.inr (Or.inr (Or.inr (Or.inr (Or.inr (Or.inr (Or.inr (Or.inr (Or.inr (Or.inr (Or.inl q))))))))))))))))))) (sw_c (Or.inl (fun q => c12 (Or.inr (Or.inr (Or.inr (Or.inr (Or.inr (Or.inr (Or.inr (Or.inr (Or.inr (Or.inr (Or.inr (Or.inr (Or.inr (Or.inr (Or.inr (Or.inr (Or.inr (Or.inl q)))))))))))))))))))) (sw_c (Or.inr rfl) (sw_c (Or.inr rfl) (sw_c (Or.inr rfl) (sw_c (Or.inl (fun q => c12 (Or.inr (Or.inr (Or.inr (Or.inr (Or.inr (Or.inr (Or.inr (Or.inr (Or.inr (Or.inr (Or.inr (Or.inr (Or.inr (Or.inr (Or.inr (Or.inr (Or.inr (Or.inr (Or.inl q))))))))))))))))))))) (sw_c (Or.inr rfl) (sw_c (Or.inr rfl) (sw_c (Or.inr rfl) (sw_c (Or.inl (fun q => c12 (Or.inr (Or.inr (Or.inr (Or.inr (Or.inr (Or.inr (Or.inr (Or.inr (Or.inr (Or.inr (Or.inr (Or.inr (Or.inr (Or.inr (Or.inr (Or.inr (Or.inr (Or.inr (Or.inr (Or.inl q)))))))))))))))))))))) (sw_c (Or.inr rfl) (sw_c (Or.inr rfl) (sw_c (Or.inl c25) (sw_c (Or.inr rfl) (sw_c (Or.inr rfl) (sw_c (Or.inr rfl) (sw_c (Or.inl (fun q => c12 (Or.inr (Or.inr (Or.inr (Or.inr (Or.inr (Or.inr (Or.inr (Or.inr (Or.inr (Or.inr (Or.inr (Or.inr (Or.inr (Or.inr (Or.inr (Or.inr (Or.inr (Or.inr (Or.inr (Or.inr (Or.inl q))))))))))))))))))))))) (sw_c (Or.inr rfl) (sw_c (Or.inr rfl) (sw_c (Or.inr rfl) (sw_c (Or.inr rfl) (sw_c (Or.inr rfl) (sw_c (Or.inr rfl) (sw_c (Or.inl c30) (sw_c (Or.inl (fun q => c12 (Or.inr (Or.inr (Or.inr (Or.inr (Or.inr (Or.inr (Or.inr (Or.inr (Or.inr (Or.inr (Or.inr (Or.inr (Or.inr (Or.inr (Or.inr (Or.inr (Or.inr (Or.inr (Or.inr (Or.inr (Or.inr (Or.inl q)))))))))))))))))))))))) (sw_c (Or.inr rfl) (sw_c (Or.inl (fun q => c12 (Or.inr (Or.inr (Or.inr (Or.inr (Or.inr (Or.inr (Or.inr (Or.inr (Or.inr (Or.inr (Or.inr (Or.inr (Or.inr (Or.inr (Or.inr (Or.inr (Or.inr (Or.inr (Or.inr (Or.inr (Or.inr (Or.inr q)))))))))))))))))))))))) sw_o))))))))))))))))))))))))))))))))))))))))))))))))))))))))))))))))))))))))))))))))))))))))))))))) ?_
              refine ex_s (am_nb (m := 1) (pc1 := 531) (ls1 := [(5, .int t0), (0, .ref q0), (1, .int q1), (2, .int q2), (4, .int q4)]) (st1 := [.int 0]) (H1 := H) (k1 := 0) (n1 := 0) (by with_unfolding_all rfl)) ?_
              cases e
              exact ex_r (st_iret rfl rfl rfl) hS

set_option maxRecDepth 100000 in
theorem tj58_40 {sL : Nat} {sx : Nat → Int32} {h b N : Nat} {T : List am_C} {r : Int32} {a' : xA} {q0 : Nat} {q1 : Int32} {q2 : Int32} {q3 : Int32} {t0 : Int32} {a : xA} {H : am_H} (kq0 : xk q0 = 100) (hS : xS h b T a H) (e : j58_40 N h b q0 q1 q2 q3 t0 a = some (r, a')) : am_E sL sx am_cs 58 40 [(0, .ref q0), (1, .int q1), (2, .int q2), (3, .int q3)] [.int t0] H (some (.int r)) (fun H1 => xS h b T a' H1) := by
  unfold j58_40 at e
  refine ex_s (am_nb (m := 3) (pc1 := 44) (ls1 := [(4, .int t0), (0, .ref q0), (1, .int q1), (2, .int q2), (3, .int q3)]) (st1 := [.int 3, .int q3]) (H1 := H) (k1 := 0) (n1 := 0) (by with_unfolding_all rfl)) ?_
  refine ex_s (st_icmp rfl) ?_
  by_cases c10 : q3 ≤ 3
  · have e := (if_pos c10).symm.trans e
    refine ex_pc (if_pos c10) ?_
    refine ex_s (am_nb (m := 1) (pc1 := 56) (ls1 := [(4, .int t0), (0, .ref q0), (1, .int q1), (2, .int q2), (3, .int q3)]) (st1 := [.int (-1)]) (H1 := H) (k1 := 0) (n1 := 0) (by with_unfolding_all rfl)) ?_
    exact le_E (l1 := [(0, .ref q0), (1, .int q1), (2, .int q2), (4, .int t0)]) ⟨rfl, rfl, rfl, rfl, trivial⟩ rfl (tj58_56 kq0 hS e)
  · have e := (if_neg c10).symm.trans e
    refine ex_pc (if_neg c10) ?_
    refine ex_s (am_nb (m := 4) (pc1 := 51) (ls1 := [(4, .int t0), (0, .ref q0), (1, .int q1), (2, .int q2), (3, .int q3)]) (st1 := [.int (q1 + 3), .ref q0]) (H1 := H) (k1 := 0) (n1 := 0) (by with_unfolding_all rfl)) ?_
    obtain ⟨g55, e⟩ := xg_some e
    refine xe_iald hS rfl kq0 g55 ?_
    refine ex_s (am_nb (m := 1) (pc1 := 56) (ls1 := [(4, .int t0), (0, .ref q0), (1, .int q1), (2, .int q2), (3, .int q3)]) (st1 := [.int (a q0 ((q1 + 3).toNatClampNeg))]) (H1 := H) (k1 := 0) (n1 := 0) (by with_unfolding_all rfl)) ?_
    exact le_E (l1 := [(0, .ref q0), (1, .int q1), (2, .int q2), (4, .int t0)]) ⟨rfl, rfl, rfl, rfl, trivial⟩ rfl (tj58_56 kq0 hS e)

set_option maxRecDepth 100000 in
theorem tf58_tokenLength {sL : Nat} {sx : Nat → Int32} {h b N : Nat} {T : List am_C} {r : Int32} {a' : xA} {x0 : Nat} {x1 : Int32} {x2 : Int32} {a : xA} {H : am_H} (hS : xS h b T a H) (e : f58_tokenLength N h b x0 x1 x2 a = some (r, a')) : am_E sL sx am_cs 58 0 [(0, .ref x0), (1, .int x1), (2, .int x2)] [] H (some (.int r)) (fun H1 => xS h b T a' H1) := by
  unfold f58_tokenLength at e
  obtain ⟨g1, e⟩ := xg_some e
  refine ex_s (am_nb (m := 2) (pc1 := 2) (ls1 := [(0, .ref x0), (1, .int x1), (2, .int x2)]) (st1 := [.int x2, .int x1]) (H1 := H) (k1 := 0) (n1 := 0) (by with_unfolding_all rfl)) ?_
  refine ex_s (st_icmp rfl) ?_
  by_cases c3 : x2 ≤ x1
  · have e := (if_pos c3).symm.trans e
    refine ex_pc (if_pos c3) ?_
    refine ex_s (am_nb (m := 1) (pc1 := 14) (ls1 := [(0, .ref x0), (1, .int x1), (2, .int x2)]) (st1 := [.int 1]) (H1 := H) (k1 := 0) (n1 := 0) (by with_unfolding_all rfl)) ?_
    cases e
    exact ex_r (st_iret rfl rfl rfl) hS
  · have e := (if_neg c3).symm.trans e
    refine ex_pc (if_neg c3) ?_
    refine ex_s (am_nb (m := 2) (pc1 := 7) (ls1 := [(0, .ref x0), (1, .int x1), (2, .int x2)]) (st1 := [.int x1, .ref x0]) (H1 := H) (k1 := 0) (n1 := 0) (by with_unfolding_all rfl)) ?_
    obtain ⟨g4, e⟩ := xg_some e
    refine xe_iald hS rfl g1 g4 ?_
    refine ex_s (am_nb (m := 1) (pc1 := 10) (ls1 := [(0, .ref x0), (1, .int x1), (2, .int x2)]) (st1 := [.int 37, .int (a x0 (x1.toNatClampNeg))]) (H1 := H) (k1 := 0) (n1 := 0) (by with_unfolding_all rfl)) ?_
    refine ex_s (st_icmp rfl) ?_
    by_cases c5 : (a x0 (x1.toNatClampNeg)) = 37
    · have e := (if_pos c5).symm.trans e
      refine ex_pc (if_pos c5) ?_
      refine ex_s (am_nb (m := 6) (pc1 := 21) (ls1 := [(3, .int (x2 - x1)), (0, .ref x0), (1, .int x1), (2, .int x2)]) (st1 := [.int 2, .int (x2 - x1)]) (H1 := H) (k1 := 0) (n1 := 0) (by with_unfolding_all rfl)) ?_
      refine ex_s (st_icmp rfl) ?_
      by_cases c6 : 2 ≤ (x2 - x1)
      · have e := (if_pos c6).symm.trans e
        refine ex_pc (if_pos c6) ?_
        refine ex_s (am_nb (m := 2) (pc1 := 28) (ls1 := [(3, .int (x2 - x1)), (0, .ref x0), (1, .int x1), (2, .int x2)]) (st1 := [.int 2, .int (x2 - x1)]) (H1 := H) (k1 := 0) (n1 := 0) (by with_unfolding_all rfl)) ?_
        refine ex_s (st_icmp rfl) ?_
        by_cases c8 : (x2 - x1) ≤ 2
        · have e := (if_pos c8).symm.trans e
          refine ex_pc (if_pos c8) ?_
          refine ex_s (am_nb (m := 1) (pc1 := 40) (ls1 := [(3, .int (x2 - x1)), (0, .ref x0), (1, .int x1), (2, .int x2)]) (st1 := [.int (-1)]) (H1 := H) (k1 := 0) (n1 := 0) (by with_unfolding_all rfl)) ?_
          exact le_E (l1 := [(0, .ref x0), (1, .int x1), (2, .int x2), (3, .int (x2 - x1))]) ⟨rfl, rfl, rfl, rfl, trivial⟩ rfl (tj58_40 g1 hS e)
        · have e := (if_neg c8).symm.trans e
          refine ex_pc (if_neg c8) ?_
          refine ex_s (am_nb (m := 4) (pc1 := 35) (ls1 := [(3, .int (x2 - x1)), (0, .ref x0), (1, .int x1), (2, .int x2)]) (st1 := [.int (x1 + 2), .ref x0]) (H1 := H) (k1 := 0) (n1 := 0) (by with_unfolding_all rfl)) ?_
          obtain ⟨g56, e⟩ := xg_some e
          refine xe_iald hS rfl g1 g56 ?_
          refine ex_s (am_nb (m := 1) (pc1 := 40) (ls1 := [(3, .int (x2 - x1)), (0, .ref x0), (1, .int x1), (2, .int x2)]) (st1 := [.int (a x0 ((x1 + 2).toNatClampNeg))]) (H1 := H) (k1 := 0) (n1 := 0) (by with_unfolding_all rfl)) ?_
          exact le_E (l1 := [(0, .ref x0), (1, .int x1), (2, .int x2), (3, .int (x2 - x1))]) ⟨rfl, rfl, rfl, rfl, trivial⟩ rfl (tj58_40 g1 hS e)
      · have e := (if_neg c6).symm.trans e
        refine ex_pc (if_neg c6) ?_
        refine ex_s (am_nb (m := 1) (pc1 := 25) (ls1 := [(3, .int (x2 - x1)), (0, .ref x0), (1, .int x1), (2, .int x2)]) (st1 := [.int 0]) (H1 := H) (k1 := 0) (n1 := 0) (by with_unfolding_all rfl)) ?_
        cases e
        exact ex_r (st_iret rfl rfl rfl) hS
    · have e := (if_neg c5).symm.trans e
      refine ex_pc (if_neg c5) ?_
      refine ex_s (am_nb (m := 1) (pc1 := 14) (ls1 := [(0, .ref x0), (1, .int x1), (2, .int x2)]) (st1 := [.int 1]) (H1 := H) (k1 := 0) (n1 := 0) (by with_unfolding_all rfl)) ?_
      cases e
      exact ex_r (st_iret rfl rfl rfl) hS

set_option maxRecDepth 100000 in
theorem tj57_161 {sL : Nat} {sx : Nat → Int32} {h b N : Nat} {T : List am_C} {R : Option Value} {F : am_H → Prop} {w0 : Nat} {w1 : Int32} {z : Nat × Int32 × xA} {rc : Int32 → Int32 → Int32 → xA → Option (Nat × Int32 × xA)} (k0 : z.1 = 0 → ∀ H2 : am_H, xS h b T z.2.2 H2 → am_E sL sx am_cs 57 27 [] [] H2 R F) (k1 : z.1 = 1 → ∀ H2 : am_H, xS h b T z.2.2 H2 → am_E sL sx am_cs 57 171 [] [] H2 R F) (k2 : z.1 = 2 → ∀ H2 : am_H, xS h b T z.2.2 H2 → am_E sL sx am_cs 57 183 [(3, .int z.2.1)] [] H2 R F) (ih : ∀ (v2 : Int32) (v3 : Int32) (v4 : Int32) (a : xA) (H : am_H), xS h b T a H → rc v2 v3 v4 a = some z → am_E sL sx am_cs 57 7 [(0, .ref w0), (1, .int w1), (2, .int v2), (3, .int v3), (4, .int v4)] [] H R F) {q2 : Int32} {q3 : Int32} {q4 : Int32} {q5 : Int32} {a : xA} {H : am_H} (kw0 : xk w0 = 100) (hS : xS h b T a H) (e : j57_161 N h b rc w0 w1 q2 q3 q4 q5 a = some z) : am_E sL sx am_cs 57 161 [(0, .ref w0), (1, .int w1), (2, .int q2), (3, .int q3), (4, .int q4), (5, .int q5)] [] H R F := by
  unfold j57_161 at e
  refine ex_s (am_nb (m := 2) (pc1 := 163) (ls1 := [(0, .ref w0), (1, .int w1), (2, .int q2), (3, .int q3), (4, .int q4), (5, .int q5)]) (st1 := [.int (-1), .int q2]) (H1 := H) (k1 := 0) (n1 := 0) (by with_unfolding_all rfl)) ?_
  refine ex_s (st_icmp rfl) ?_
  by_cases c15 : q2 = (-1)
  · have e := (if_pos c15).symm.trans e
    refine ex_pc (if_pos c15) ?_
    cases e
    exact le_E (l1 := []) trivial rfl (k1 rfl H hS)
  · have e := (if_neg c15).symm.trans e
    refine ex_pc (if_neg c15) ?_
    refine ex_s (am_nb (m := 2) (pc1 := 168) (ls1 := [(0, .ref w0), (1, .int w1), (2, .int q2), (3, .int q3), (4, .int q4), (5, .int q5)]) (st1 := [.int 4, .int q3]) (H1 := H) (k1 := 0) (n1 := 0) (by with_unfolding_all rfl)) ?_
    refine ex_s (st_icmp rfl) ?_
    by_cases c16 : q3 ≤ 4
    · have e := (if_pos c16).symm.trans e
      refine ex_pc (if_pos c16) ?_
      refine ex_s (am_nb (m := 5) (pc1 := 7) (ls1 := [(4, .int (q4 + q5)), (0, .ref w0), (1, .int w1), (2, .int q2), (3, .int q3), (5, .int q5)]) (st1 := []) (H1 := H) (k1 := 0) (n1 := 0) (by with_unfolding_all rfl)) ?_
      exact le_E (l1 := [(0, .ref w0), (1, .int w1), (2, .int q2), (3, .int q3), (4, .int (q4 + q5))]) ⟨rfl, rfl, rfl, rfl, rfl, trivial⟩ rfl (ih q2 q3 (q4 + q5) a H hS e)
    · have e := (if_neg c16).symm.trans e
      refine ex_pc (if_neg c16) ?_
      cases e
      exact le_E (l1 := []) trivial rfl (k1 rfl H hS)

set_option maxRecDepth 100000 in
theorem tj57_100 {sL : Nat} {sx : Nat → Int32} {h b N : Nat} {T : List am_C} {R : Option Value} {F : am_H → Prop} {w0 : Nat} {w1 : Int32} {z : Nat × Int32 × xA} {rc : Int32 → Int32 → Int32 → xA → Option (Nat × Int32 × xA)} (k0 : z.1 = 0 → ∀ H2 : am_H, xS h b T z.2.2 H2 → am_E sL sx am_cs 57 27 [] [] H2 R F) (k1 : z.1 = 1 → ∀ H2 : am_H, xS h b T z.2.2 H2 → am_E sL sx am_cs 57 171 [] [] H2 R F) (k2 : z.1 = 2 → ∀ H2 : am_H, xS h b T z.2.2 H2 → am_E sL sx am_cs 57 183 [(3, .int z.2.1)] [] H2 R F) (ih : ∀ (v2 : Int32) (v3 : Int32) (v4 : Int32) (a : xA) (H : am_H), xS h b T a H → rc v2 v3 v4 a = some z → am_E sL sx am_cs 57 7 [(0, .ref w0), (1, .int w1), (2, .int v2), (3, .int v3), (4, .int v4)] [] H R F) {q3 : Int32} {q4 : Int32} {q5 : Int32} {t0 : Int32} {a : xA} {H : am_H} (kw0 : xk w0 = 100) (hS : xS h b T a H) (e : j57_100 N h b rc w0 w1 q3 q4 q5 t0 a = some z) : am_E sL sx am_cs 57 100 [(0, .ref w0), (1, .int w1), (3, .int q3), (4, .int q4), (5, .int q5)] [.int t0] H R F := by
  unfold j57_100 at e
  refine ex_s (am_nb (m := 2) (pc1 := 161) (ls1 := [(2, .int t0), (0, .ref w0), (1, .int w1), (3, .int q3), (4, .int q4), (5, .int q5)]) (st1 := []) (H1 := H) (k1 := 0) (n1 := 0) (by with_unfolding_all rfl)) ?_
  exact le_E (l1 := [(0, .ref w0), (1, .int w1), (2, .int t0), (3, .int q3), (4, .int q4), (5, .int q5)]) ⟨rfl, rfl, rfl, rfl, rfl, rfl, trivial⟩ rfl (tj57_161 k0 k1 k2 ih kw0 hS e)

set_option maxRecDepth 100000 in
theorem tj57_90 {sL : Nat} {sx : Nat → Int32} {h b N : Nat} {T : List am_C} {R : Option Value} {F : am_H → Prop} {w0 : Nat} {w1 : Int32} {z : Nat × Int32 × xA} {rc : Int32 → Int32 → Int32 → xA → Option (Nat × Int32 × xA)} (k0 : z.1 = 0 → ∀ H2 : am_H, xS h b T z.2.2 H2 → am_E sL sx am_cs 57 27 [] [] H2 R F) (k1 : z.1 = 1 → ∀ H2 : am_H, xS h b T z.2.2 H2 → am_E sL sx am_cs 57 171 [] [] H2 R F) (k2 : z.1 = 2 → ∀ H2 : am_H, xS h b T z.2.2 H2 → am_E sL sx am_cs 57 183 [(3, .int z.2.1)] [] H2 R F) (ih : ∀ (v2 : Int32) (v3 : Int32) (v4 : Int32) (a : xA) (H : am_H), xS h b T a H → rc v2 v3 v4 a = some z → am_E sL sx am_cs 57 7 [(0, .ref w0), (1, .int w1), (2, .int v2), (3, .int v3), (4, .int v4)] [] H R F) {q2 : Int32} {q3 : Int32} {q4 : Int32} {q5 : Int32} {q7 : Int32} {a : xA} {H : am_H} (kw0 : xk w0 = 100) (hS : xS h b T a H) (e : j57_90 N h b rc w0 w1 q2 q3 q4 q5 q7 a = some z) : am_E sL sx am_cs 57 90 [(0, .ref w0), (1, .int w1), (2, .int q2), (3, .int q3), (4, .int q4), (5, .int q5), (7, .int q7)] [] H R F := by
  unfold j57_90 at e
  refine ex_s (am_nb (m := 6) (pc1 := 100) (ls1 := [(0, .ref w0), (1, .int w1), (2, .int q2), (3, .int q3), (4, .int q4), (5, .int q5), (7, .int q7)]) (st1 := [.int ((q2 - q7) + 2)]) (H1 := H) (k1 := 0) (n1 := 0) (by with_unfolding_all rfl)) ?_
  exact le_E (l1 := [(0, .ref w0), (1, .int w1), (3, .int q3), (4, .int q4), (5, .int q5)]) ⟨rfl, rfl, rfl, rfl, rfl, trivial⟩ rfl (tj57_100 k0 k1 k2 ih kw0 hS e)

set_option maxRecDepth 100000 in
theorem tj57_157 {sL : Nat} {sx : Nat → Int32} {h b N : Nat} {T : List am_C} {R : Option Value} {F : am_H → Prop} {w0 : Nat} {w1 : Int32} {z : Nat × Int32 × xA} {rc : Int32 → Int32 → Int32 → xA → Option (Nat × Int32 × xA)} (k0 : z.1 = 0 → ∀ H2 : am_H, xS h b T z.2.2 H2 → am_E sL sx am_cs 57 27 [] [] H2 R F) (k1 : z.1 = 1 → ∀ H2 : am_H, xS h b T z.2.2 H2 → am_E sL sx am_cs 57 171 [] [] H2 R F) (k2 : z.1 = 2 → ∀ H2 : am_H, xS h b T z.2.2 H2 → am_E sL sx am_cs 57 183 [(3, .int z.2.1)] [] H2 R F) (ih : ∀ (v2 : Int32) (v3 : Int32) (v4 : Int32) (a : xA) (H : am_H), xS h b T a H → rc v2 v3 v4 a = some z → am_E sL sx am_cs 57 7 [(0, .ref w0), (1, .int w1), (2, .int v2), (3, .int v3), (4, .int v4)] [] H R F) {q3 : Int32} {q4 : Int32} {q5 : Int32} {t0 : Int32} {a : xA} {H : am_H} (kw0 : xk w0 = 100) (hS : xS h b T a H) (e : j57_157 N h b rc w0 w1 q3 q4 q5 t0 a = some z) : am_E sL sx am_cs 57 157 [(0, .ref w0), (1, .int w1), (3, .int q3), (4, .int q4), (5, .int q5)] [.int t0] H R F := by
  unfold j57_157 at e
  refine ex_s (am_nb (m := 2) (pc1 := 161) (ls1 := [(3, .int (q3 + (-1))), (2, .int t0), (0, .ref w0), (1, .int w1), (4, .int q4), (5, .int q5)]) (st1 := []) (H1 := H) (k1 := 0) (n1 := 0) (by with_unfolding_all rfl)) ?_
  exact le_E (l1 := [(0, .ref w0), (1, .int w1), (2, .int t0), (3, .int (q3 + (-1))), (4, .int q4), (5, .int q5)]) ⟨rfl, rfl, rfl, rfl, rfl, rfl, trivial⟩ rfl (tj57_161 k0 k1 k2 ih kw0 hS e)

set_option maxRecDepth 100000 in
theorem tj57_150 {sL : Nat} {sx : Nat → Int32} {h b N : Nat} {T : List am_C} {R : Option Value} {F : am_H → Prop} {w0 : Nat} {w1 : Int32} {z : Nat × Int32 × xA} {rc : Int32 → Int32 → Int32 → xA → Option (Nat × Int32 × xA)} (k0 : z.1 = 0 → ∀ H2 : am_H, xS h b T z.2.2 H2 → am_E sL sx am_cs 57 27 [] [] H2 R F) (k1 : z.1 = 1 → ∀ H2 : am_H, xS h b T z.2.2 H2 → am_E sL sx am_cs 57 171 [] [] H2 R F) (k2 : z.1 = 2 → ∀ H2 : am_H, xS h b T z.2.2 H2 → am_E sL sx am_cs 57 183 [(3, .int z.2.1)] [] H2 R F) (ih : ∀ (v2 : Int32) (v3 : Int32) (v4 : Int32) (a : xA) (H : am_H), xS h b T a H → rc v2 v3 v4 a = some z → am_E sL sx am_cs 57 7 [(0, .ref w0), (1, .int w1), (2, .int v2), (3, .int v3), (4, .int v4)] [] H R F) {q2 : Int32} {q3 : Int32} {q4 : Int32} {q5 : Int32} {a : xA} {H : am_H} (kw0 : xk w0 = 100) (hS : xS h b T a H) (e : j57_150 N h b rc w0 w1 q2 q3 q4 q5 a = some z) : am_E sL sx am_cs 57 150 [(0, .ref w0), (1, .int w1), (2, .int q2), (3, .int q3), (4, .int q4), (5, .int q5)] [] H R F := by
  unfold j57_150 at e
  refine ex_s (am_nb (m := 4) (pc1 := 157) (ls1 := [(0, .ref w0), (1, .int w1), (2, .int q2), (3, .int q3), (4, .int q4), (5, .int q5)]) (st1 := [.int (q2 >>> ((2 : Int32) &&& 31))]) (H1 := H) (k1 := 0) (n1 := 0) (by with_unfolding_all rfl)) ?_
  exact le_E (l1 := [(0, .ref w0), (1, .int w1), (3, .int q3), (4, .int q4), (5, .int q5)]) ⟨rfl, rfl, rfl, rfl, rfl, trivial⟩ rfl (tj57_157 k0 k1 k2 ih kw0 hS e)

set_option maxRecDepth 100000 in
theorem tj57_45 {sL : Nat} {sx : Nat → Int32} {h b N : Nat} {T : List am_C} {R : Option Value} {F : am_H → Prop} {w0 : Nat} {w1 : Int32} {z : Nat × Int32 × xA} {rc : Int32 → Int32 → Int32 → xA → Option (Nat × Int32 × xA)} (k0 : z.1 = 0 → ∀ H2 : am_H, xS h b T z.2.2 H2 → am_E sL sx am_cs 57 27 [] [] H2 R F) (k1 : z.1 = 1 → ∀ H2 : am_H, xS h b T z.2.2 H2 → am_E sL sx am_cs 57 171 [] [] H2 R F) (k2 : z.1 = 2 → ∀ H2 : am_H, xS h b T z.2.2 H2 → am_E sL sx am_cs 57 183 [(3, .int z.2.1)] [] H2 R F) (ih : ∀ (v2 : Int32) (v3 : Int32) (v4 : Int32) (a : xA) (H : am_H), xS h b T a H → rc v2 v3 v4 a = some z → am_E sL sx am_cs 57 7 [(0, .ref w0), (1, .int w1), (2, .int v2), (3, .int v3), (4, .int v4)] [] H R F) {q2 : Int32} {q3 : Int32} {q4 : Int32} {q5 : Int32} {t0 : Int32} {a : xA} {H : am_H} (kw0 : xk w0 = 100) (hS : xS h b T a H) (e : j57_45 N h b rc w0 w1 q2 q3 q4 q5 t0 a = some z) : am_E sL sx am_cs 57 45 [(0, .ref w0), (1, .int w1), (2, .int q2), (3, .int q3), (4, .int q4), (5, .int q5)] [.int t0] H R F := by
  unfold j57_45 at e
  refine ex_s (am_nb (m := 7) (pc1 := 56) (ls1 := [(7, .int (q2 &&& 3)), (6, .int t0), (0, .ref w0), (1, .int w1), (2, .int q2), (3, .int q3), (4, .int q4), (5, .int q5)]) (st1 := [.int 63, .int t0]) (H1 := H) (k1 := 0) (n1 := 0) (by with_unfolding_all rfl)) ?_
  refine ex_s (st_icmp rfl) ?_
  by_cases c12 : t0 = 63
  · have e := (if_pos c12).symm.trans e
    refine ex_pc (if_pos c12) ?_
    refine ex_s (am_nb (m := 8) (pc1 := 161) (ls1 := [(3, .int (q3 + 1)), (2, .int ((q2 <<< ((2 : Int32) &&& 31)) ||| 1)), (7, .int (q2 &&& 3)), (6, .int t0), (0, .ref w0), (1, .int w1), (4, .int q4), (5, .int q5)]) (st1 := []) (H1 := H) (k1 := 0) (n1 := 0) (by with_unfolding_all rfl)) ?_
    exact le_E (l1 := [(0, .ref w0), (1, .int w1), (2, .int ((q2 <<< ((2 : Int32) &&& 31)) ||| 1)), (3, .int (q3 + 1)), (4, .int q4), (5, .int q5)]) ⟨rfl, rfl, rfl, rfl, rfl, rfl, trivial⟩ rfl (tj57_161 k0 k1 k2 ih kw0 hS e)
  · have e := (if_neg c12).symm.trans e
    refine ex_pc (if_neg c12) ?_
    refine ex_s (am_nb (m := 2) (pc1 := 75) (ls1 := [(7, .int (q2 &&& 3)), (6, .int t0), (0, .ref w0), (1, .int w1), (2, .int q2), (3, .int q3), (4, .int q4), (5, .int q5)]) (st1 := [.int 116, .int t0]) (H1 := H) (k1 := 0) (n1 := 0) (by with_unfolding_all rfl)) ?_
    refine ex_s (st_icmp rfl) ?_
    by_cases c17 : t0 = 116
    · have e := (if_pos c17).symm.trans e
      refine ex_pc (if_pos c17) ?_
      refine ex_s (am_nb (m := 2) (pc1 := 81) (ls1 := [(7, .int (q2 &&& 3)), (6, .int t0), (0, .ref w0), (1, .int w1), (2, .int q2), (3, .int q3), (4, .int q4), (5, .int q5)]) (st1 := [.int 1, .int (q2 &&& 3)]) (H1 := H) (k1 := 0) (n1 := 0) (by with_unfolding_all rfl)) ?_
      refine ex_s (st_icmp rfl) ?_
      by_cases c20 : (q2 &&& 3) = 1
      · have e := (if_pos c20).symm.trans e
        refine ex_pc (if_pos c20) ?_
        exact le_E (l1 := [(0, .ref w0), (1, .int w1), (2, .int q2), (3, .int q3), (4, .int q4), (5, .int q5), (7, .int (q2 &&& 3))]) ⟨rfl, rfl, rfl, rfl, rfl, rfl, rfl, trivial⟩ rfl (tj57_90 k0 k1 k2 ih kw0 hS e)
      · have e := (if_neg c20).symm.trans e
        refine ex_pc (if_neg c20) ?_
        refine ex_s (am_nb (m := 2) (pc1 := 87) (ls1 := [(7, .int (q2 &&& 3)), (6, .int t0), (0, .ref w0), (1, .int w1), (2, .int q2), (3, .int q3), (4, .int q4), (5, .int q5)]) (st1 := [.int 3, .int (q2 &&& 3)]) (H1 := H) (k1 := 0) (n1 := 0) (by with_unfolding_all rfl)) ?_
        have kk : am_E sL sx am_cs 57 100 [(7, .int (q2 &&& 3)), (6, .int t0), (0, .ref w0), (1, .int w1), (2, .int q2), (3, .int q3), (4, .int q4), (5, .int q5)] [.int (if (q2 &&& 3) = 3 then ((q2 - (q2 &&& 3)) + 2) else (-1 : Int32))] H R F := by
          refine ex_s (am_nb (m := 2) (pc1 := 161) (ls1 := [(2, .int (if (q2 &&& 3) = 3 then ((q2 - (q2 &&& 3)) + 2) else (-1 : Int32))), (7, .int (q2 &&& 3)), (6, .int t0), (0, .ref w0), (1, .int w1), (3, .int q3), (4, .int q4), (5, .int q5)]) (st1 := []) (H1 := H) (k1 := 0) (n1 := 0) (by with_unfolding_all rfl)) ?_
          exact le_E (l1 := [(0, .ref w0), (1, .int w1), (2, .int (if (q2 &&& 3) = 3 then ((q2 - (q2 &&& 3)) + 2) else (-1 : Int32))), (3, .int q3), (4, .int q4), (5, .int q5)]) ⟨rfl, rfl, rfl, rfl, rfl, rfl, trivial⟩ rfl (tj57_161 k0 k1 k2 ih kw0 hS e)
        refine ex_s (st_icmp rfl) ?_
        by_cases c21 : (q2 &&& 3) = 3
        · refine ex_pc (if_pos c21) ?_
          refine ex_s (am_nb (m := 6) (pc1 := 100) (ls1 := [(7, .int (q2 &&& 3)), (6, .int t0), (0, .ref w0), (1, .int w1), (2, .int q2), (3, .int q3), (4, .int q4), (5, .int q5)]) (st1 := [.int ((q2 - (q2 &&& 3)) + 2)]) (H1 := H) (k1 := 0) (n1 := 0) (by with_unfolding_all rfl)) ?_
          rw [if_pos c21] at kk
          exact kk
        · refine ex_pc (if_neg c21) ?_
          refine ex_s (am_nb (m := 1) (pc1 := 100) (ls1 := [(7, .int (q2 &&& 3)), (6, .int t0), (0, .ref w0), (1, .int w1), (2, .int q2), (3, .int q3), (4, .int q4), (5, .int q5)]) (st1 := [.int (-1)]) (H1 := H) (k1 := 0) (n1 := 0) (by with_unfolding_all rfl)) ?_
          rw [if_neg c21] at kk
          exact kk
    · have e := (if_neg c17).symm.trans e
      refine ex_pc (if_neg c17) ?_
      refine ex_s (am_nb (m := 2) (pc1 := 108) (ls1 := [(7, .int (q2 &&& 3)), (6, .int t0), (0, .ref w0), (1, .int w1), (2, .int q2), (3, .int q3), (4, .int q4), (5, .int q5)]) (st1 := [.int 101, .int t0]) (H1 := H) (k1 := 0) (n1 := 0) (by with_unfolding_all rfl)) ?_
      refine ex_s (st_icmp rfl) ?_
      by_cases c24 : t0 = 101
      · have e := (if_pos c24).symm.trans e
        refine ex_pc (if_pos c24) ?_
        refine ex_s (am_nb (m := 2) (pc1 := 114) (ls1 := [(7, .int (q2 &&& 3)), (6, .int t0), (0, .ref w0), (1, .int w1), (2, .int q2), (3, .int q3), (4, .int q4), (5, .int q5)]) (st1 := [.int 2, .int (q2 &&& 3)]) (H1 := H) (k1 := 0) (n1 := 0) (by with_unfolding_all rfl)) ?_
        have kk : am_E sL sx am_cs 57 127 [(7, .int (q2 &&& 3)), (6, .int t0), (0, .ref w0), (1, .int w1), (2, .int q2), (3, .int q3), (4, .int q4), (5, .int q5)] [.int (if (q2 &&& 3) = 2 then ((q2 - (q2 &&& 3)) + 3) else (-1 : Int32))] H R F := by
          refine ex_s (am_nb (m := 2) (pc1 := 161) (ls1 := [(2, .int (if (q2 &&& 3) = 2 then ((q2 - (q2 &&& 3)) + 3) else (-1 : Int32))), (7, .int (q2 &&& 3)), (6, .int t0), (0, .ref w0), (1, .int w1), (3, .int q3), (4, .int q4), (5, .int q5)]) (st1 := []) (H1 := H) (k1 := 0) (n1 := 0) (by with_unfolding_all rfl)) ?_
          exact le_E (l1 := [(0, .ref w0), (1, .int w1), (2, .int (if (q2 &&& 3) = 2 then ((q2 - (q2 &&& 3)) + 3) else (-1 : Int32))), (3, .int q3), (4, .int q4), (5, .int q5)]) ⟨rfl, rfl, rfl, rfl, rfl, rfl, trivial⟩ rfl (tj57_161 k0 k1 k2 ih kw0 hS e)
        refine ex_s (st_icmp rfl) ?_
        by_cases c25 : (q2 &&& 3) = 2
        · refine ex_pc (if_pos c25) ?_
          refine ex_s (am_nb (m := 6) (pc1 := 127) (ls1 := [(7, .int (q2 &&& 3)), (6, .int t0), (0, .ref w0), (1, .int w1), (2, .int q2), (3, .int q3), (4, .int q4), (5, .int q5)]) (st1 := [.int ((q2 - (q2 &&& 3)) + 3)]) (H1 := H) (k1 := 0) (n1 := 0) (by with_unfolding_all rfl)) ?_
          rw [if_pos c25] at kk
          exact kk
        · refine ex_pc (if_neg c25) ?_
          refine ex_s (am_nb (m := 1) (pc1 := 127) (ls1 := [(7, .int (q2 &&& 3)), (6, .int t0), (0, .ref w0), (1, .int w1), (2, .int q2), (3, .int q3), (4, .int q4), (5, .int q5)]) (st1 := [.int (-1)]) (H1 := H) (k1 := 0) (n1 := 0) (by with_unfolding_all rfl)) ?_
          rw [if_neg c25] at kk
          exact kk
      · have e := (if_neg c24).symm.trans e
        refine ex_pc (if_neg c24) ?_
        refine ex_s (am_nb (m := 2) (pc1 := 135) (ls1 := [(7, .int (q2 &&& 3)), (6, .int t0), (0, .ref w0), (1, .int w1), (2, .int q2), (3, .int q3), (4, .int q4), (5, .int q5)]) (st1 := [.int 59, .int t0]) (H1 := H) (k1 := 0) (n1 := 0) (by with_unfolding_all rfl)) ?_
        refine ex_s (st_icmp rfl) ?_
        by_cases c28 : t0 = 59
        · have e := (if_pos c28).symm.trans e
          refine ex_pc (if_pos c28) ?_
          refine ex_s (am_nb (m := 2) (pc1 := 141) (ls1 := [(7, .int (q2 &&& 3)), (6, .int t0), (0, .ref w0), (1, .int w1), (2, .int q2), (3, .int q3), (4, .int q4), (5, .int q5)]) (st1 := [.int 2, .int (q2 &&& 3)]) (H1 := H) (k1 := 0) (n1 := 0) (by with_unfolding_all rfl)) ?_
          refine ex_s (st_icmp rfl) ?_
          by_cases c31 : (q2 &&& 3) = 2
          · have e := (if_pos c31).symm.trans e
            refine ex_pc (if_pos c31) ?_
            exact le_E (l1 := [(0, .ref w0), (1, .int w1), (2, .int q2), (3, .int q3), (4, .int q4), (5, .int q5)]) ⟨rfl, rfl, rfl, rfl, rfl, rfl, trivial⟩ rfl (tj57_150 k0 k1 k2 ih kw0 hS e)
          · have e := (if_neg c31).symm.trans e
            refine ex_pc (if_neg c31) ?_
            refine ex_s (am_nb (m := 2) (pc1 := 147) (ls1 := [(7, .int (q2 &&& 3)), (6, .int t0), (0, .ref w0), (1, .int w1), (2, .int q2), (3, .int q3), (4, .int q4), (5, .int q5)]) (st1 := [.int 3, .int (q2 &&& 3)]) (H1 := H) (k1 := 0) (n1 := 0) (by with_unfolding_all rfl)) ?_
            refine ex_s (st_icmp rfl) ?_
            by_cases c33 : (q2 &&& 3) = 3
            · have e := (if_pos c33).symm.trans e
              refine ex_pc (if_pos c33) ?_
              exact le_E (l1 := [(0, .ref w0), (1, .int w1), (2, .int q2), (3, .int q3), (4, .int q4), (5, .int q5)]) ⟨rfl, rfl, rfl, rfl, rfl, rfl, trivial⟩ rfl (tj57_150 k0 k1 k2 ih kw0 hS e)
            · have e := (if_neg c33).symm.trans e
              refine ex_pc (if_neg c33) ?_
              refine ex_s (am_nb (m := 1) (pc1 := 157) (ls1 := [(7, .int (q2 &&& 3)), (6, .int t0), (0, .ref w0), (1, .int w1), (2, .int q2), (3, .int q3), (4, .int q4), (5, .int q5)]) (st1 := [.int (-1)]) (H1 := H) (k1 := 0) (n1 := 0) (by with_unfolding_all rfl)) ?_
              exact le_E (l1 := [(0, .ref w0), (1, .int w1), (3, .int q3), (4, .int q4), (5, .int q5)]) ⟨rfl, rfl, rfl, rfl, rfl, trivial⟩ rfl (tj57_157 k0 k1 k2 ih kw0 hS e)
        · have e := (if_neg c28).symm.trans e
          refine ex_pc (if_neg c28) ?_
          exact le_E (l1 := [(0, .ref w0), (1, .int w1), (2, .int q2), (3, .int q3), (4, .int q4), (5, .int q5)]) ⟨rfl, rfl, rfl, rfl, rfl, rfl, trivial⟩ rfl (tj57_161 k0 k1 k2 ih kw0 hS e)

set_option maxRecDepth 100000 in
theorem tl57_7 {sL : Nat} {sx : Nat → Int32} {h b N : Nat} {T : List am_C} {R : Option Value} {F : am_H → Prop} {w0 : Nat} {w1 : Int32} {z : Nat × Int32 × xA} (kw0 : xk w0 = 100) (k0 : z.1 = 0 → ∀ H2 : am_H, xS h b T z.2.2 H2 → am_E sL sx am_cs 57 27 [] [] H2 R F) (k1 : z.1 = 1 → ∀ H2 : am_H, xS h b T z.2.2 H2 → am_E sL sx am_cs 57 171 [] [] H2 R F) (k2 : z.1 = 2 → ∀ H2 : am_H, xS h b T z.2.2 H2 → am_E sL sx am_cs 57 183 [(3, .int z.2.1)] [] H2 R F) : ∀ (n : Nat) (v2 : Int32) (v3 : Int32) (v4 : Int32) (a : xA) (H : am_H), xS h b T a H → l57_7 N h b w0 w1 n v2 v3 v4 a = some z → am_E sL sx am_cs 57 7 [(0, .ref w0), (1, .int w1), (2, .int v2), (3, .int v3), (4, .int v4)] [] H R F := by
  intro n
  induction n with
  | zero =>
    intro v2 v3 v4 a H hS e
    cases e
  | succ n ih =>
    intro v2 v3 v4 a H hS e
    unfold l57_7 at e
    refine ex_s (am_nb (m := 2) (pc1 := 10) (ls1 := [(0, .ref w0), (1, .int w1), (2, .int v2), (3, .int v3), (4, .int v4)]) (st1 := [.int w1, .int v4]) (H1 := H) (k1 := 0) (n1 := 0) (by with_unfolding_all rfl)) ?_
    refine ex_s (st_icmp rfl) ?_
    by_cases c2 : w1 ≤ v4
    · have e := (if_pos c2).symm.trans e
      refine ex_pc (if_pos c2) ?_
      cases e
      exact le_E (l1 := [(3, .int v3)]) ⟨rfl, trivial⟩ rfl (k2 rfl H hS)
    · have e := (if_neg c2).symm.trans e
      refine ex_pc (if_neg c2) ?_
      refine ex_s (am_nb (m := 3) (pc1 := 17) (ls1 := [(0, .ref w0), (1, .int w1), (2, .int v2), (3, .int v3), (4, .int v4)]) (st1 := [.int w1, .int v4, .ref w0]) (H1 := H) (k1 := 0) (n1 := 0) (by with_unfolding_all rfl)) ?_
      obtain ⟨r6, a7, e5, e⟩ := xb2_some e
      refine ex_cs1 (as := [.ref w0, .int v4, .int w1]) (rest := []) rfl (by decide) rfl rfl (by with_unfolding_all rfl) (by with_unfolding_all rfl) (tf58_tokenLength hS e5) (fun H3 s4 => ?_)
      refine ex_s (am_nb (m := 2) (pc1 := 24) (ls1 := [(5, .int r6), (0, .ref w0), (1, .int w1), (2, .int v2), (3, .int v3), (4, .int v4)]) (st1 := [.int r6]) (H1 := H3) (k1 := 0) (n1 := 0) (by with_unfolding_all rfl)) ?_
      refine ex_s (st_if rfl) ?_
      by_cases c8 : r6 = 0
      · have e := (if_pos c8).symm.trans e
        refine ex_pc (if_pos c8) ?_
        cases e
        exact le_E (l1 := []) trivial rfl (k0 rfl H3 s4)
      · have e := (if_neg c8).symm.trans e
        refine ex_pc (if_neg c8) ?_
        refine ex_s (am_nb (m := 2) (pc1 := 32) (ls1 := [(5, .int r6), (0, .ref w0), (1, .int w1), (2, .int v2), (3, .int v3), (4, .int v4)]) (st1 := [.int 2, .int r6]) (H1 := H3) (k1 := 0) (n1 := 0) (by with_unfolding_all rfl)) ?_
        refine ex_s (st_icmp rfl) ?_
        by_cases c10 : r6 = 2
        · have e := (if_pos c10).symm.trans e
          refine ex_pc (if_pos c10) ?_
          refine ex_s (am_nb (m := 4) (pc1 := 40) (ls1 := [(5, .int r6), (0, .ref w0), (1, .int w1), (2, .int v2), (3, .int v3), (4, .int v4)]) (st1 := [.int (v4 + 1), .ref w0]) (H1 := H3) (k1 := 0) (n1 := 0) (by with_unfolding_all rfl)) ?_
          obtain ⟨g11, e⟩ := xg_some e
          refine xe_iald s4 rfl kw0 g11 ?_
          refine ex_s (am_nb (m := 1) (pc1 := 45) (ls1 := [(5, .int r6), (0, .ref w0), (1, .int w1), (2, .int v2), (3, .int v3), (4, .int v4)]) (st1 := [.int (a7 w0 ((v4 + 1).toNatClampNeg))]) (H1 := H3) (k1 := 0) (n1 := 0) (by with_unfolding_all rfl)) ?_
          exact le_E (l1 := [(0, .ref w0), (1, .int w1), (2, .int v2), (3, .int v3), (4, .int v4), (5, .int r6)]) ⟨rfl, rfl, rfl, rfl, rfl, rfl, trivial⟩ rfl (tj57_45 k0 k1 k2 ih kw0 s4 e)
        · have e := (if_neg c10).symm.trans e
          refine ex_pc (if_neg c10) ?_
          refine ex_s (am_nb (m := 1) (pc1 := 45) (ls1 := [(5, .int r6), (0, .ref w0), (1, .int w1), (2, .int v2), (3, .int v3), (4, .int v4)]) (st1 := [.int (-1)]) (H1 := H3) (k1 := 0) (n1 := 0) (by with_unfolding_all rfl)) ?_
          exact le_E (l1 := [(0, .ref w0), (1, .int w1), (2, .int v2), (3, .int v3), (4, .int v4), (5, .int r6)]) ⟨rfl, rfl, rfl, rfl, rfl, rfl, trivial⟩ rfl (tj57_45 k0 k1 k2 ih kw0 s4 e)

set_option maxRecDepth 100000 in
theorem tf57_isWellFormed {sL : Nat} {sx : Nat → Int32} {h b N : Nat} {T : List am_C} {r : Int32} {a' : xA} {x0 : Nat} {x1 : Int32} {a : xA} {H : am_H} (hS : xS h b T a H) (e : f57_isWellFormed N h b x0 x1 a = some (r, a')) : am_E sL sx am_cs 57 0 [(0, .ref x0), (1, .int x1)] [] H (some (.int r)) (fun H1 => xS h b T a' H1) := by
  unfold f57_isWellFormed at e
  obtain ⟨g1, e⟩ := xg_some e
  refine ex_s (am_nb (m := 6) (pc1 := 7) (ls1 := [(4, .int 0), (3, .int 0), (2, .int 0), (0, .ref x0), (1, .int x1)]) (st1 := []) (H1 := H) (k1 := 0) (n1 := 0) (by with_unfolding_all rfl)) ?_
  obtain ⟨z34, e35, e⟩ := Option.bind_eq_some_iff.mp e
  refine le_E (l1 := [(0, .ref x0), (1, .int x1), (2, .int 0), (3, .int 0), (4, .int 0)]) ⟨rfl, rfl, rfl, rfl, rfl, trivial⟩ rfl (tl57_7 (z := z34) g1 (fun uz34_0 Hz340 sz340 => ?_) (fun uz34_1 Hz341 sz341 => ?_) (fun uz34_2 Hz342 sz342 => ?_) N 0 0 0 a H hS e35)
  · have e := (if_pos uz34_0).symm.trans e
    refine ex_s (am_nb (m := 1) (pc1 := 28) (ls1 := []) (st1 := [.int 0]) (H1 := Hz340) (k1 := 0) (n1 := 0) (by with_unfolding_all rfl)) ?_
    cases e
    exact ex_r (st_iret rfl rfl rfl) sz340
  · have e := (if_neg (show ¬ z34.1 = 0 by rw [uz34_1]; decide)).symm.trans e
    have e := (if_pos uz34_1).symm.trans e
    refine ex_s (am_nb (m := 1) (pc1 := 172) (ls1 := []) (st1 := [.int 0]) (H1 := Hz341) (k1 := 0) (n1 := 0) (by with_unfolding_all rfl)) ?_
    cases e
    exact ex_r (st_iret rfl rfl rfl) sz341
  · have e := (if_neg (show ¬ z34.1 = 0 by rw [uz34_2]; decide)).symm.trans e
    have e := (if_neg (show ¬ z34.1 = 1 by rw [uz34_2]; decide)).symm.trans e
    refine ex_s (am_nb (m := 1) (pc1 := 184) (ls1 := [(3, .int z34.2.1)]) (st1 := [.int z34.2.1]) (H1 := Hz342) (k1 := 0) (n1 := 0) (by with_unfolding_all rfl)) ?_
    have kk : am_E sL sx am_cs 57 192 [(3, .int z34.2.1)] [.int (if z34.2.1 = 0 then (1 : Int32) else (0 : Int32))] Hz342 (some (.int r)) (fun H1 => xS h b T a' H1) := by
      obtain ⟨g37, e⟩ := xg_some e
      cases e
      exact ex_r (st_iret rfl rfl (xnar_z g37)) sz342
    refine ex_s (st_if rfl) ?_
    by_cases c36 : z34.2.1 = 0
    · refine ex_pc (if_pos c36) ?_
      refine ex_s (am_nb (m := 2) (pc1 := 192) (ls1 := [(3, .int z34.2.1)]) (st1 := [.int 1]) (H1 := Hz342) (k1 := 0) (n1 := 0) (by with_unfolding_all rfl)) ?_
      rw [if_pos c36] at kk
      exact kk
    · refine ex_pc (if_neg c36) ?_
      refine ex_s (am_nb (m := 1) (pc1 := 192) (ls1 := [(3, .int z34.2.1)]) (st1 := [.int 0]) (H1 := Hz342) (k1 := 0) (n1 := 0) (by with_unfolding_all rfl)) ?_
      rw [if_neg c36] at kk
      exact kk

set_option maxRecDepth 100000 in
theorem tf60_startOf {sL : Nat} {sx : Nat → Int32} {h b N : Nat} {T : List am_C} {r : Int32} {a' : xA} {x0 : Int32} {a : xA} {H : am_H} (hS : xS h b T a H) (e : f60_startOf N h b x0 a = some (r, a')) : am_E sL sx am_cs 60 0 [(0, .int x0)] [] H (some (.int r)) (fun H1 => xS h b T a' H1) := by
  unfold f60_startOf at e
  refine ex_s (am_nb (m := 5) (pc1 := 7) (ls1 := [(0, .int x0)]) (st1 := [.int ((x0 - 6) * 40)]) (H1 := H) (k1 := 0) (n1 := 0) (by with_unfolding_all rfl)) ?_
  cases e
  exact ex_r (st_iret rfl rfl rfl) hS

set_option maxRecDepth 100000 in
theorem tf59_tellString {sL : Nat} {sx : Nat → Int32} {h b N : Nat} {T : List am_C} {a' : xA} {o : Nat} {x0 : Int32} {x1 : Nat} {x2 : Int32} {x3 : Int32} {a : xA} {H : am_H} (hS : xS h b T a H) (e : f59_tellString N h b o x0 x1 x2 x3 a = some a') : am_E sL sx am_cs 59 0 [(0, .ref o), (1, .int x0), (2, .ref x1), (3, .int x2), (4, .int x3)] [] H none (fun H1 => xS h b T a' H1) := by
  unfold f59_tellString at e
  obtain ⟨g1, e⟩ := xg_some e
  obtain ⟨g2, e⟩ := xg_some e
  refine ex_s (am_nb (m := 1) (pc1 := 1) (ls1 := [(0, .ref o), (1, .int x0), (2, .ref x1), (3, .int x2), (4, .int x3)]) (st1 := [.ref o]) (H1 := H) (k1 := 0) (n1 := 0) (by with_unfolding_all rfl)) ?_
  refine xe_get (v := .ref (o + 3)) hS rfl g1 (by decide) rfl ?_
  refine ex_s (am_nb (m := 2) (pc1 := 6) (ls1 := [(0, .ref o), (1, .int x0), (2, .ref x1), (3, .int x2), (4, .int x3)]) (st1 := [.int 1, .int x0, .ref (o + 3)]) (H1 := H) (k1 := 0) (n1 := 0) (by with_unfolding_all rfl)) ?_
  obtain ⟨g6, e⟩ := xg_some e
  obtain ⟨a3, ha3, e⟩ := xw_some e
  refine xe_zast hS rfl (xd_2_3 g1) g6 (fun H4 s5 => ?_)
  have s5 : xS h b T a3 H4 := by rw [ha3]; exact s5
  refine ex_s (am_nb (m := 1) (pc1 := 8) (ls1 := [(0, .ref o), (1, .int x0), (2, .ref x1), (3, .int x2), (4, .int x3)]) (st1 := [.ref o]) (H1 := H4) (k1 := 0) (n1 := 0) (by with_unfolding_all rfl)) ?_
  refine xe_get (v := .ref (o + 6)) s5 rfl g1 (by decide) rfl ?_
  refine ex_s (am_nb (m := 4) (pc1 := 17) (ls1 := [(0, .ref o), (1, .int x0), (2, .ref x1), (3, .int x2), (4, .int x3)]) (st1 := [.int x3, .int (x0 - 6), .ref (o + 6)]) (H1 := H4) (k1 := 0) (n1 := 0) (by with_unfolding_all rfl)) ?_
  obtain ⟨g10, e⟩ := xg_some e
  obtain ⟨a7, ha7, e⟩ := xw_some e
  refine xe_iast s5 rfl (xd_2_6 g1) g10 (fun H8 s9 => ?_)
  have s9 : xS h b T a7 H8 := by rw [ha7]; exact s9
  refine ex_s (am_nb (m := 3) (pc1 := 21) (ls1 := [(0, .ref o), (1, .int x0), (2, .ref x1), (3, .int x2), (4, .int x3)]) (st1 := [.ref o, .int x2, .ref x1]) (H1 := H8) (k1 := 0) (n1 := 0) (by with_unfolding_all rfl)) ?_
  refine xe_get (v := .ref (o + 5)) s9 rfl g1 (by decide) rfl ?_
  refine ex_s (am_nb (m := 1) (pc1 := 25) (ls1 := [(0, .ref o), (1, .int x0), (2, .ref x1), (3, .int x2), (4, .int x3)]) (st1 := [.int x0, .ref (o + 5), .int x2, .ref x1]) (H1 := H8) (k1 := 0) (n1 := 0) (by with_unfolding_all rfl)) ?_
  obtain ⟨r14, a15, e13, e⟩ := xb2_some e
  refine ex_cs1 (as := [.int x0]) (rest := [.ref (o + 5), .int x2, .ref x1]) rfl (by decide) rfl rfl (by with_unfolding_all rfl) (by with_unfolding_all rfl) (tf60_startOf s9 e13) (fun H11 s12 => ?_)
  refine ex_s (am_nb (m := 1) (pc1 := 30) (ls1 := [(0, .ref o), (1, .int x0), (2, .ref x1), (3, .int x2), (4, .int x3)]) (st1 := [.int x3, .int r14, .ref (o + 5), .int x2, .ref x1]) (H1 := H11) (k1 := 0) (n1 := 0) (by with_unfolding_all rfl)) ?_
  obtain ⟨g16, e⟩ := xg_some e
  obtain ⟨a17, ha17, e⟩ := xw_some e
  refine xe_copy s12 rfl g2 (xd_2_5 g1) g16 (by decide) (fun H18 s19 => ?_)
  have s19 : xS h b T a17 H18 := by rw [ha17]; exact s19
  cases e
  exact ex_r (st_vret rfl rfl) s19

set_option maxRecDepth 100000 in
theorem tj49_122 {sL : Nat} {sx : Nat → Int32} {h b N : Nat} {T : List am_C} {R : Option Value} {F : am_H → Prop} {w1 : Int32} {w2 : Int32} {z : Nat × xA} {rc : Int32 → xA → Option (Nat × xA)} (k0 : z.1 = 0 → ∀ H2 : am_H, xS h b T z.2 H2 → am_E sL sx am_cs 49 56 [(0, .ref 3), (1, .int w1), (2, .int w2)] [] H2 R F) (k1 : z.1 = 1 → ∀ H2 : am_H, xS h b T z.2 H2 → am_E sL sx am_cs 49 127 [] [] H2 R F) (k2 : z.1 = 2 → ∀ H2 : am_H, xS h b T z.2 H2 → am_E sL sx am_cs 49 135 [(0, .ref 3), (1, .int w1), (2, .int w2)] [] H2 R F) (ih : ∀ (v3 : Int32) (a : xA) (H : am_H), xS h b T a H → rc v3 a = some z → am_E sL sx am_cs 49 12 [(0, .ref 3), (1, .int w1), (2, .int w2), (3, .int v3)] [] H R F) {q3 : Int32} {q5 : Int32} {a : xA} {H : am_H} (hS : xS h b T a H) (e : j49_122 N h b rc w1 w2 q3 q5 a = some z) : am_E sL sx am_cs 49 122 [(0, .ref 3), (1, .int w1), (2, .int w2), (3, .int q3), (5, .int q5)] [] H R F := by
  unfold j49_122 at e
  refine ex_s (am_nb (m := 1) (pc1 := 124) (ls1 := [(0, .ref 3), (1, .int w1), (2, .int w2), (3, .int q3), (5, .int q5)]) (st1 := [.int q5]) (H1 := H) (k1 := 0) (n1 := 0) (by with_unfolding_all rfl)) ?_
  refine ex_s (st_if rfl) ?_
  by_cases c23 : q5 = 0
  · have e := (if_pos c23).symm.trans e
    refine ex_pc (if_pos c23) ?_
    cases e
    exact le_E (l1 := []) trivial rfl (k1 rfl H hS)
  · have e := (if_neg c23).symm.trans e
    refine ex_pc (if_neg c23) ?_
    refine ex_s (am_nb (m := 2) (pc1 := 12) (ls1 := [(3, .int (q3 + 1)), (0, .ref 3), (1, .int w1), (2, .int w2), (5, .int q5)]) (st1 := []) (H1 := H) (k1 := 0) (n1 := 0) (by with_unfolding_all rfl)) ?_
    exact le_E (l1 := [(0, .ref 3), (1, .int w1), (2, .int w2), (3, .int (q3 + 1))]) ⟨rfl, rfl, rfl, rfl, trivial⟩ rfl (ih (q3 + 1) a H hS e)

set_option maxRecDepth 100000 in
theorem tl49_12 {sL : Nat} {sx : Nat → Int32} {h b N : Nat} {T : List am_C} {R : Option Value} {F : am_H → Prop} {w1 : Int32} {w2 : Int32} {z : Nat × xA} (k0 : z.1 = 0 → ∀ H2 : am_H, xS h b T z.2 H2 → am_E sL sx am_cs 49 56 [(0, .ref 3), (1, .int w1), (2, .int w2)] [] H2 R F) (k1 : z.1 = 1 → ∀ H2 : am_H, xS h b T z.2 H2 → am_E sL sx am_cs 49 127 [] [] H2 R F) (k2 : z.1 = 2 → ∀ H2 : am_H, xS h b T z.2 H2 → am_E sL sx am_cs 49 135 [(0, .ref 3), (1, .int w1), (2, .int w2)] [] H2 R F) : ∀ (n : Nat) (v3 : Int32) (a : xA) (H : am_H), xS h b T a H → l49_12 N h b w1 w2 n v3 a = some z → am_E sL sx am_cs 49 12 [(0, .ref 3), (1, .int w1), (2, .int w2), (3, .int v3)] [] H R F := by
  intro n
  induction n with
  | zero =>
    intro v3 a H hS e
    cases e
  | succ n ih =>
    intro v3 a H hS e
    unfold l49_12 at e
    refine ex_s (am_nb (m := 2) (pc1 := 14) (ls1 := [(0, .ref 3), (1, .int w1), (2, .int w2), (3, .int v3)]) (st1 := [.ref 3, .int v3]) (H1 := H) (k1 := 0) (n1 := 0) (by with_unfolding_all rfl)) ?_
    refine xe_get (v := .int (a 3 5)) hS rfl rfl (by decide) rfl ?_
    refine ex_s (st_icmp rfl) ?_
    by_cases c4 : (a 3 5) ≤ v3
    · have e := (if_pos c4).symm.trans e
      refine ex_pc (if_pos c4) ?_
      cases e
      exact le_E (l1 := [(0, .ref 3), (1, .int w1), (2, .int w2)]) ⟨rfl, rfl, rfl, trivial⟩ rfl (k2 rfl H hS)
    · have e := (if_neg c4).symm.trans e
      refine ex_pc (if_neg c4) ?_
      refine ex_s (am_nb (m := 1) (pc1 := 21) (ls1 := [(0, .ref 3), (1, .int w1), (2, .int w2), (3, .int v3)]) (st1 := [.ref 3]) (H1 := H) (k1 := 0) (n1 := 0) (by with_unfolding_all rfl)) ?_
      refine xe_get (v := .int (a 3 6)) hS rfl rfl (by decide) rfl ?_
      refine ex_s (am_nb (m := 1) (pc1 := 25) (ls1 := [(0, .ref 3), (1, .int w1), (2, .int w2), (3, .int v3)]) (st1 := [.ref 3, .int (a 3 6)]) (H1 := H) (k1 := 0) (n1 := 0) (by with_unfolding_all rfl)) ?_
      refine xe_get (v := .int (a 3 5)) hS rfl rfl (by decide) rfl ?_
      refine ex_s (st_icmp rfl) ?_
      by_cases c5 : (a 3 5) ≤ (a 3 6)
      · have e := (if_pos c5).symm.trans e
        refine ex_pc (if_pos c5) ?_
        cases e
        exact le_E (l1 := [(0, .ref 3), (1, .int w1), (2, .int w2)]) ⟨rfl, rfl, rfl, trivial⟩ rfl (k2 rfl H hS)
      · have e := (if_neg c5).symm.trans e
        refine ex_pc (if_neg c5) ?_
        refine ex_s (am_nb (m := 1) (pc1 := 32) (ls1 := [(0, .ref 3), (1, .int w1), (2, .int w2), (3, .int v3)]) (st1 := [.ref 3]) (H1 := H) (k1 := 0) (n1 := 0) (by with_unfolding_all rfl)) ?_
        refine xe_get (v := xN (a 3 4)) hS rfl rfl (by decide) rfl ?_
        refine ex_s (am_nb (m := 1) (pc1 := 36) (ls1 := [(0, .ref 3), (1, .int w1), (2, .int w2), (3, .int v3)]) (st1 := [.ref 3, xN (a 3 4)]) (H1 := H) (k1 := 0) (n1 := 0) (by first | with_unfolding_all rfl | (unfold xN; (repeat' split) <;> with_unfolding_all rfl))) ?_
        refine xe_get (v := .int (a 3 6)) hS rfl rfl (by decide) rfl ?_
        obtain ⟨g6, e⟩ := xg_some e
        rw [show xN (a 3 4) = .ref ((a 3 4).toNatClampNeg) from if_neg g6]
        obtain ⟨g7, e⟩ := xg_some e
        obtain ⟨g8, e⟩ := xg_some e
        refine xe_iald hS rfl g7 g8 ?_
        refine ex_s (am_nb (m := 3) (pc1 := 46) (ls1 := [(4, .int (a ((a 3 4).toNatClampNeg) ((a 3 6).toNatClampNeg))), (0, .ref 3), (1, .int w1), (2, .int w2), (3, .int v3)]) (st1 := [.int 44, .int (a ((a 3 4).toNatClampNeg) ((a 3 6).toNatClampNeg))]) (H1 := H) (k1 := 0) (n1 := 0) (by first | with_unfolding_all rfl | (unfold xN; (repeat' split) <;> with_unfolding_all rfl))) ?_
        refine ex_s (st_icmp rfl) ?_
        by_cases c9 : (a ((a 3 4).toNatClampNeg) ((a 3 6).toNatClampNeg)) = 44
        · have e := (if_pos c9).symm.trans e
          refine ex_pc (if_pos c9) ?_
          cases e
          exact le_E (l1 := [(0, .ref 3), (1, .int w1), (2, .int w2)]) ⟨rfl, rfl, rfl, trivial⟩ rfl (k2 rfl H hS)
        · have e := (if_neg c9).symm.trans e
          refine ex_pc (if_neg c9) ?_
          refine ex_s (am_nb (m := 2) (pc1 := 53) (ls1 := [(4, .int (a ((a 3 4).toNatClampNeg) ((a 3 6).toNatClampNeg))), (0, .ref 3), (1, .int w1), (2, .int w2), (3, .int v3)]) (st1 := [.int 10, .int (a ((a 3 4).toNatClampNeg) ((a 3 6).toNatClampNeg))]) (H1 := H) (k1 := 0) (n1 := 0) (by with_unfolding_all rfl)) ?_
          refine ex_s (st_icmp rfl) ?_
          by_cases c10 : (a ((a 3 4).toNatClampNeg) ((a 3 6).toNatClampNeg)) = 10
          · have e := (if_pos c10).symm.trans e
            refine ex_pc (if_pos c10) ?_
            cases e
            exact le_E (l1 := [(0, .ref 3), (1, .int w1), (2, .int w2)]) ⟨rfl, rfl, rfl, trivial⟩ rfl (k0 rfl H hS)
          · have e := (if_neg c10).symm.trans e
            refine ex_pc (if_neg c10) ?_
            refine ex_s (am_nb (m := 3) (pc1 := 64) (ls1 := [(5, .int 1), (4, .int (a ((a 3 4).toNatClampNeg) ((a 3 6).toNatClampNeg))), (0, .ref 3), (1, .int w1), (2, .int w2), (3, .int v3)]) (st1 := [.int (a ((a 3 4).toNatClampNeg) ((a 3 6).toNatClampNeg))]) (H1 := H) (k1 := 0) (n1 := 0) (by with_unfolding_all rfl)) ?_
            obtain ⟨r14, a15, e13, e⟩ := xb2_some e
            refine ex_cs1 (as := [.int (a ((a 3 4).toNatClampNeg) ((a 3 6).toNatClampNeg))]) (rest := []) rfl (by decide) rfl rfl (by with_unfolding_all rfl) (by with_unfolding_all rfl) (tf25_isText hS e13) (fun H11 s12 => ?_)
            refine ex_s (st_if rfl) ?_
            by_cases c17 : r14 = 0
            · have e := (if_pos c17).symm.trans e
              refine ex_pc (if_pos c17) ?_
              refine ex_s (am_nb (m := 3) (pc1 := 73) (ls1 := [(5, .int 1), (4, .int (a ((a 3 4).toNatClampNeg) ((a 3 6).toNatClampNeg))), (0, .ref 3), (1, .int w1), (2, .int w2), (3, .int v3)]) (st1 := [.ref 3, .int 1, .ref 3]) (H1 := H11) (k1 := 0) (n1 := 0) (by with_unfolding_all rfl)) ?_
              refine xe_get (v := .int (a15 3 6)) s12 rfl rfl (by decide) rfl ?_
              obtain ⟨r21, a22, e20, e⟩ := xb2_some e
              refine ex_cv1 (as := [.int 1, .int (a15 3 6)]) (rest := []) rfl rfl rfl rfl (s12.obj rfl (by decide)) rfl (by with_unfolding_all rfl) (by with_unfolding_all rfl) (tf26_failed s12 e20) (fun H18 s19 => ?_)
              refine ex_s (am_nb (m := 2) (pc1 := 122) (ls1 := [(5, .int r21), (4, .int (a ((a 3 4).toNatClampNeg) ((a 3 6).toNatClampNeg))), (0, .ref 3), (1, .int w1), (2, .int w2), (3, .int v3)]) (st1 := []) (H1 := H18) (k1 := 0) (n1 := 0) (by with_unfolding_all rfl)) ?_
              exact le_E (l1 := [(0, .ref 3), (1, .int w1), (2, .int w2), (3, .int v3), (5, .int r21)]) ⟨rfl, rfl, rfl, rfl, rfl, trivial⟩ rfl (tj49_122 k0 k1 k2 ih  s19 e)
            · have e := (if_neg c17).symm.trans e
              refine ex_pc (if_neg c17) ?_
              refine ex_s (am_nb (m := 2) (pc1 := 88) (ls1 := [(5, .int 1), (4, .int (a ((a 3 4).toNatClampNeg) ((a 3 6).toNatClampNeg))), (0, .ref 3), (1, .int w1), (2, .int w2), (3, .int v3)]) (st1 := [.int 92, .int (a ((a 3 4).toNatClampNeg) ((a 3 6).toNatClampNeg))]) (H1 := H11) (k1 := 0) (n1 := 0) (by with_unfolding_all rfl)) ?_
              refine ex_s (st_icmp rfl) ?_
              by_cases c25 : (a ((a 3 4).toNatClampNeg) ((a 3 6).toNatClampNeg)) = 92
              · have e := (if_pos c25).symm.trans e
                refine ex_pc (if_pos c25) ?_
                refine ex_s (am_nb (m := 1) (pc1 := 92) (ls1 := [(5, .int 1), (4, .int (a ((a 3 4).toNatClampNeg) ((a 3 6).toNatClampNeg))), (0, .ref 3), (1, .int w1), (2, .int w2), (3, .int v3)]) (st1 := [.ref 3]) (H1 := H11) (k1 := 0) (n1 := 0) (by with_unfolding_all rfl)) ?_
                obtain ⟨r29, a30, e28, e⟩ := xb2_some e
                refine ex_cv1 (as := []) (rest := []) rfl rfl rfl rfl (s12.obj rfl (by decide)) rfl (by with_unfolding_all rfl) (by with_unfolding_all rfl) (tf50_readBackslash s12 e28) (fun H26 s27 => ?_)
                refine ex_s (am_nb (m := 2) (pc1 := 122) (ls1 := [(5, .int r29), (4, .int (a ((a 3 4).toNatClampNeg) ((a 3 6).toNatClampNeg))), (0, .ref 3), (1, .int w1), (2, .int w2), (3, .int v3)]) (st1 := []) (H1 := H26) (k1 := 0) (n1 := 0) (by with_unfolding_all rfl)) ?_
                exact le_E (l1 := [(0, .ref 3), (1, .int w1), (2, .int w2), (3, .int v3), (5, .int r29)]) ⟨rfl, rfl, rfl, rfl, rfl, trivial⟩ rfl (tj49_122 k0 k1 k2 ih  s27 e)
              · have e := (if_neg c25).symm.trans e
                refine ex_pc (if_neg c25) ?_
                refine ex_s (am_nb (m := 2) (pc1 := 104) (ls1 := [(5, .int 1), (4, .int (a ((a 3 4).toNatClampNeg) ((a 3 6).toNatClampNeg))), (0, .ref 3), (1, .int w1), (2, .int w2), (3, .int v3)]) (st1 := [.int 94, .int (a ((a 3 4).toNatClampNeg) ((a 3 6).toNatClampNeg))]) (H1 := H11) (k1 := 0) (n1 := 0) (by with_unfolding_all rfl)) ?_
                refine ex_s (st_icmp rfl) ?_
                by_cases c32 : (a ((a 3 4).toNatClampNeg) ((a 3 6).toNatClampNeg)) = 94
                · have e := (if_pos c32).symm.trans e
                  refine ex_pc (if_pos c32) ?_
                  refine ex_s (am_nb (m := 1) (pc1 := 108) (ls1 := [(5, .int 1), (4, .int (a ((a 3 4).toNatClampNeg) ((a 3 6).toNatClampNeg))), (0, .ref 3), (1, .int w1), (2, .int w2), (3, .int v3)]) (st1 := [.ref 3]) (H1 := H11) (k1 := 0) (n1 := 0) (by with_unfolding_all rfl)) ?_
                  obtain ⟨r36, a37, e35, e⟩ := xb2_some e
                  refine ex_cv1 (as := []) (rest := []) rfl rfl rfl rfl (s12.obj rfl (by decide)) rfl (by with_unfolding_all rfl) (by with_unfolding_all rfl) (tf54_readCaret s12 e35) (fun H33 s34 => ?_)
                  refine ex_s (am_nb (m := 2) (pc1 := 122) (ls1 := [(5, .int r36), (4, .int (a ((a 3 4).toNatClampNeg) ((a 3 6).toNatClampNeg))), (0, .ref 3), (1, .int w1), (2, .int w2), (3, .int v3)]) (st1 := []) (H1 := H33) (k1 := 0) (n1 := 0) (by with_unfolding_all rfl)) ?_
                  exact le_E (l1 := [(0, .ref 3), (1, .int w1), (2, .int w2), (3, .int v3), (5, .int r36)]) ⟨rfl, rfl, rfl, rfl, rfl, trivial⟩ rfl (tj49_122 k0 k1 k2 ih  s34 e)
                · have e := (if_neg c32).symm.trans e
                  refine ex_pc (if_neg c32) ?_
                  refine ex_s (am_nb (m := 2) (pc1 := 119) (ls1 := [(5, .int 1), (4, .int (a ((a 3 4).toNatClampNeg) ((a 3 6).toNatClampNeg))), (0, .ref 3), (1, .int w1), (2, .int w2), (3, .int v3)]) (st1 := [.int (a ((a 3 4).toNatClampNeg) ((a 3 6).toNatClampNeg)), .ref 3]) (H1 := H11) (k1 := 0) (n1 := 0) (by with_unfolding_all rfl)) ?_
                  obtain ⟨a41, e40, e⟩ := xb1_some e
                  refine ex_cv0 (as := [.int (a ((a 3 4).toNatClampNeg) ((a 3 6).toNatClampNeg))]) (rest := []) rfl rfl rfl rfl (s12.obj rfl (by decide)) rfl (by with_unfolding_all rfl) (by with_unfolding_all rfl) (tf55_readPlain s12 e40) (fun H38 s39 => ?_)
                  exact le_E (l1 := [(0, .ref 3), (1, .int w1), (2, .int w2), (3, .int v3), (5, .int 1)]) ⟨rfl, rfl, rfl, rfl, rfl, trivial⟩ rfl (tj49_122 k0 k1 k2 ih  s39 e)

set_option maxRecDepth 100000 in
theorem tj49_135 {sL : Nat} {sx : Nat → Int32} {h b N : Nat} {T : List am_C} {r : Int32} {a' : xA} {q1 : Int32} {q2 : Int32} {a : xA} {H : am_H} (hS : xS h b T a H) (e : j49_135 N h b q1 q2 a = some (r, a')) : am_E sL sx am_cs 49 135 [(0, .ref 3), (1, .int q1), (2, .int q2)] [] H (some (.int r)) (fun H1 => xS h b T a' H1) := by
  unfold j49_135 at e
  refine ex_s (am_nb (m := 2) (pc1 := 137) (ls1 := [(0, .ref 3), (1, .int q1), (2, .int q2)]) (st1 := [.ref 3, .ref 3]) (H1 := H) (k1 := 0) (n1 := 0) (by with_unfolding_all rfl)) ?_
  refine xe_get (v := .int (a 3 6)) hS rfl rfl (by decide) rfl ?_
  obtain ⟨r47, a48, e46, e⟩ := xb2_some e
  refine ex_cv1 (as := [.int (a 3 6)]) (rest := []) rfl rfl rfl rfl (hS.obj rfl (by decide)) rfl (by with_unfolding_all rfl) (by with_unfolding_all rfl) (tf28_byteAt hS e46) (fun H44 s45 => ?_)
  refine ex_s (am_nb (m := 1) (pc1 := 145) (ls1 := [(0, .ref 3), (1, .int q1), (2, .int q2)]) (st1 := [.int 44, .int r47]) (H1 := H44) (k1 := 0) (n1 := 0) (by with_unfolding_all rfl)) ?_
  refine ex_s (st_icmp rfl) ?_
  by_cases c49 : r47 = 44
  · have e := (if_pos c49).symm.trans e
    refine ex_pc (if_pos c49) ?_
    refine ex_s (am_nb (m := 1) (pc1 := 159) (ls1 := [(0, .ref 3), (1, .int q1), (2, .int q2)]) (st1 := [.ref 3]) (H1 := H44) (k1 := 0) (n1 := 0) (by with_unfolding_all rfl)) ?_
    refine xe_get (v := .int (a48 3 13)) s45 rfl rfl (by decide) rfl ?_
    refine ex_s (am_nb (m := 1) (pc1 := 164) (ls1 := [(0, .ref 3), (1, .int q1), (2, .int q2)]) (st1 := [.int 40, .int (a48 3 13)]) (H1 := H44) (k1 := 0) (n1 := 0) (by with_unfolding_all rfl)) ?_
    refine ex_s (st_icmp rfl) ?_
    by_cases c50 : (a48 3 13) ≤ 40
    · have e := (if_pos c50).symm.trans e
      refine ex_pc (if_pos c50) ?_
      refine ex_s (am_nb (m := 1) (pc1 := 175) (ls1 := [(0, .ref 3), (1, .int q1), (2, .int q2)]) (st1 := [.ref 3]) (H1 := H44) (k1 := 0) (n1 := 0) (by with_unfolding_all rfl)) ?_
      refine xe_get (v := .ref 8) s45 rfl rfl (by decide) rfl ?_
      refine ex_s (am_nb (m := 1) (pc1 := 179) (ls1 := [(0, .ref 3), (1, .int q1), (2, .int q2)]) (st1 := [.ref 3, .ref 8]) (H1 := H44) (k1 := 0) (n1 := 0) (by with_unfolding_all rfl)) ?_
      refine xe_get (v := .int (a48 3 13)) s45 rfl rfl (by decide) rfl ?_
      obtain ⟨r54, a55, e53, e⟩ := xb2_some e
      refine ex_cs1 (as := [.ref 8, .int (a48 3 13)]) (rest := []) rfl (by decide) rfl rfl (by with_unfolding_all rfl) (by with_unfolding_all rfl) (tf57_isWellFormed s45 e53) (fun H51 s52 => ?_)
      refine ex_s (st_if rfl) ?_
      by_cases c56 : r54 = 0
      · have e := (if_pos c56).symm.trans e
        refine ex_pc (if_pos c56) ?_
        refine ex_s (am_nb (m := 3) (pc1 := 192) (ls1 := [(0, .ref 3), (1, .int q1), (2, .int q2)]) (st1 := [.int q2, .int 8, .ref 3]) (H1 := H51) (k1 := 0) (n1 := 0) (by with_unfolding_all rfl)) ?_
        obtain ⟨r60, a61, e59, e⟩ := xb2_some e
        refine ex_cv1 (as := [.int 8, .int q2]) (rest := []) rfl rfl rfl rfl (s52.obj rfl (by decide)) rfl (by with_unfolding_all rfl) (by with_unfolding_all rfl) (tf26_failed s52 e59) (fun H57 s58 => ?_)
        obtain ⟨g62, e⟩ := xg_some e
        cases e
        exact ex_r (st_iret rfl rfl (xnar_z g62)) s58
      · have e := (if_neg c56).symm.trans e
        refine ex_pc (if_neg c56) ?_
        refine ex_s (am_nb (m := 1) (pc1 := 197) (ls1 := [(0, .ref 3), (1, .int q1), (2, .int q2)]) (st1 := [.ref 3]) (H1 := H51) (k1 := 0) (n1 := 0) (by with_unfolding_all rfl)) ?_
        refine xe_get (v := xN (a55 3 8)) s52 rfl rfl (by decide) rfl ?_
        refine ex_s (am_nb (m := 2) (pc1 := 202) (ls1 := [(0, .ref 3), (1, .int q1), (2, .int q2)]) (st1 := [.ref 3, .int q1, xN (a55 3 8)]) (H1 := H51) (k1 := 0) (n1 := 0) (by first | with_unfolding_all rfl | (unfold xN; (repeat' split) <;> with_unfolding_all rfl))) ?_
        refine xe_get (v := .ref 8) s52 rfl rfl (by decide) rfl ?_
        refine ex_s (am_nb (m := 2) (pc1 := 207) (ls1 := [(0, .ref 3), (1, .int q1), (2, .int q2)]) (st1 := [.ref 3, .int 0, .ref 8, .int q1, xN (a55 3 8)]) (H1 := H51) (k1 := 0) (n1 := 0) (by first | with_unfolding_all rfl | (unfold xN; (repeat' split) <;> with_unfolding_all rfl))) ?_
        refine xe_get (v := .int (a55 3 13)) s52 rfl rfl (by decide) rfl ?_
        obtain ⟨g63, e⟩ := xg_some e
        rw [show xN (a55 3 8) = .ref ((a55 3 8).toNatClampNeg) from if_neg g63]
        obtain ⟨g64, e⟩ := xg_some e
        obtain ⟨a68, e67, e⟩ := xb1_some e
        refine ex_cv0 (as := [.int q1, .ref 8, .int 0, .int (a55 3 13)]) (rest := []) rfl rfl rfl rfl (s52.obj g64 (by decide)) rfl (by with_unfolding_all rfl) (by with_unfolding_all rfl) (tf59_tellString s52 e67) (fun H65 s66 => ?_)
        refine ex_s (am_nb (m := 1) (pc1 := 214) (ls1 := [(0, .ref 3), (1, .int q1), (2, .int q2)]) (st1 := [.int 1]) (H1 := H65) (k1 := 0) (n1 := 0) (by with_unfolding_all rfl)) ?_
        cases e
        exact ex_r (st_iret rfl rfl rfl) s66
    · have e := (if_neg c50).symm.trans e
      refine ex_pc (if_neg c50) ?_
      refine ex_s (am_nb (m := 3) (pc1 := 170) (ls1 := [(0, .ref 3), (1, .int q1), (2, .int q2)]) (st1 := [.int q2, .int 2, .ref 3]) (H1 := H44) (k1 := 0) (n1 := 0) (by with_unfolding_all rfl)) ?_
      obtain ⟨r72, a73, e71, e⟩ := xb2_some e
      refine ex_cv1 (as := [.int 2, .int q2]) (rest := []) rfl rfl rfl rfl (s45.obj rfl (by decide)) rfl (by with_unfolding_all rfl) (by with_unfolding_all rfl) (tf26_failed s45 e71) (fun H69 s70 => ?_)
      obtain ⟨g74, e⟩ := xg_some e
      cases e
      exact ex_r (st_iret rfl rfl (xnar_z g74)) s70
  · have e := (if_neg c49).symm.trans e
    refine ex_pc (if_neg c49) ?_
    refine ex_s (am_nb (m := 3) (pc1 := 151) (ls1 := [(0, .ref 3), (1, .int q1), (2, .int q2)]) (st1 := [.ref 3, .int 1, .ref 3]) (H1 := H44) (k1 := 0) (n1 := 0) (by with_unfolding_all rfl)) ?_
    refine xe_get (v := .int (a48 3 6)) s45 rfl rfl (by decide) rfl ?_
    obtain ⟨r78, a79, e77, e⟩ := xb2_some e
    refine ex_cv1 (as := [.int 1, .int (a48 3 6)]) (rest := []) rfl rfl rfl rfl (s45.obj rfl (by decide)) rfl (by with_unfolding_all rfl) (by with_unfolding_all rfl) (tf26_failed s45 e77) (fun H75 s76 => ?_)
    obtain ⟨g80, e⟩ := xg_some e
    cases e
    exact ex_r (st_iret rfl rfl (xnar_z g80)) s76

set_option maxRecDepth 100000 in
theorem tf49_readString {sL : Nat} {sx : Nat → Int32} {h b N : Nat} {T : List am_C} {r : Int32} {a' : xA} {x0 : Int32} {a : xA} {H : am_H} (hS : xS h b T a H) (e : f49_readString N h b x0 a = some (r, a')) : am_E sL sx am_cs 49 0 [(0, .ref 3), (1, .int x0)] [] H (some (.int r)) (fun H1 => xS h b T a' H1) := by
  unfold f49_readString at e
  refine ex_s (am_nb (m := 1) (pc1 := 1) (ls1 := [(0, .ref 3), (1, .int x0)]) (st1 := [.ref 3]) (H1 := H) (k1 := 0) (n1 := 0) (by with_unfolding_all rfl)) ?_
  refine xe_get (v := .int (a 3 6)) hS rfl rfl (by decide) rfl ?_
  refine ex_s (am_nb (m := 3) (pc1 := 7) (ls1 := [(2, .int (a 3 6)), (0, .ref 3), (1, .int x0)]) (st1 := [.int 0, .ref 3]) (H1 := H) (k1 := 0) (n1 := 0) (by with_unfolding_all rfl)) ?_
  obtain ⟨a1, ha1, e⟩ := xw_some e
  refine xe_put (w := 0) hS rfl rfl (by decide) rfl rfl rfl rfl (fun H2 s3 => ?_)
  have s3 : xS h b T a1 H2 := by rw [ha1]; exact s3
  refine ex_s (am_nb (m := 2) (pc1 := 12) (ls1 := [(3, .int 0), (2, .int (a 3 6)), (0, .ref 3), (1, .int x0)]) (st1 := []) (H1 := H2) (k1 := 0) (n1 := 0) (by with_unfolding_all rfl)) ?_
  obtain ⟨z42, e43, e⟩ := Option.bind_eq_some_iff.mp e
  refine le_E (l1 := [(0, .ref 3), (1, .int x0), (2, .int (a 3 6)), (3, .int 0)]) ⟨rfl, rfl, rfl, rfl, trivial⟩ rfl (tl49_12 (z := z42)  (fun uz42_0 Hz420 sz420 => ?_) (fun uz42_1 Hz421 sz421 => ?_) (fun uz42_2 Hz422 sz422 => ?_) N 0 a1 H2 s3 e43)
  · have e := (if_pos uz42_0).symm.trans e
    refine ex_s (am_nb (m := 1) (pc1 := 135) (ls1 := [(0, .ref 3), (1, .int x0), (2, .int (a 3 6))]) (st1 := []) (H1 := Hz420) (k1 := 0) (n1 := 0) (by with_unfolding_all rfl)) ?_
    exact le_E (l1 := [(0, .ref 3), (1, .int x0), (2, .int (a 3 6))]) ⟨rfl, rfl, rfl, trivial⟩ rfl (tj49_135  sz420 e)
  · have e := (if_neg (show ¬ z42.1 = 0 by rw [uz42_1]; decide)).symm.trans e
    have e := (if_pos uz42_1).symm.trans e
    refine ex_s (am_nb (m := 1) (pc1 := 128) (ls1 := []) (st1 := [.int 0]) (H1 := Hz421) (k1 := 0) (n1 := 0) (by with_unfolding_all rfl)) ?_
    cases e
    exact ex_r (st_iret rfl rfl rfl) sz421
  · have e := (if_neg (show ¬ z42.1 = 0 by rw [uz42_2]; decide)).symm.trans e
    have e := (if_neg (show ¬ z42.1 = 1 by rw [uz42_2]; decide)).symm.trans e
    exact le_E (l1 := [(0, .ref 3), (1, .int x0), (2, .int (a 3 6))]) ⟨rfl, rfl, rfl, trivial⟩ rfl (tj49_135  sz422 e)

set_option maxRecDepth 100000 in
theorem tf61_tellFlag {sL : Nat} {sx : Nat → Int32} {h b N : Nat} {T : List am_C} {a' : xA} {o : Nat} {x0 : Int32} {a : xA} {H : am_H} (hS : xS h b T a H) (e : f61_tellFlag N h b o x0 a = some a') : am_E sL sx am_cs 61 0 [(0, .ref o), (1, .int x0)] [] H none (fun H1 => xS h b T a' H1) := by
  unfold f61_tellFlag at e
  obtain ⟨g1, e⟩ := xg_some e
  refine ex_s (am_nb (m := 1) (pc1 := 1) (ls1 := [(0, .ref o), (1, .int x0)]) (st1 := [.ref o]) (H1 := H) (k1 := 0) (n1 := 0) (by with_unfolding_all rfl)) ?_
  refine xe_get (v := .ref (o + 3)) hS rfl g1 (by decide) rfl ?_
  refine ex_s (am_nb (m := 2) (pc1 := 6) (ls1 := [(0, .ref o), (1, .int x0)]) (st1 := [.int 1, .int x0, .ref (o + 3)]) (H1 := H) (k1 := 0) (n1 := 0) (by with_unfolding_all rfl)) ?_
  obtain ⟨g5, e⟩ := xg_some e
  obtain ⟨a2, ha2, e⟩ := xw_some e
  refine xe_zast hS rfl (xd_2_3 g1) g5 (fun H3 s4 => ?_)
  have s4 : xS h b T a2 H3 := by rw [ha2]; exact s4
  cases e
  exact ex_r (st_vret rfl rfl) s4

set_option maxRecDepth 100000 in
theorem tj32_188 {sL : Nat} {sx : Nat → Int32} {h b N : Nat} {T : List am_C} {r : Int32} {a' : xA} {q2 : Int32} {q4 : Int32} {a : xA} {H : am_H} (hS : xS h b T a H) (e : j32_188 N h b q2 q4 a = some (r, a')) : am_E sL sx am_cs 32 188 [(0, .ref 3), (2, .int q2), (4, .int q4)] [] H (some (.int r)) (fun H1 => xS h b T a' H1) := by
  unfold j32_188 at e
  refine ex_s (am_nb (m := 1) (pc1 := 189) (ls1 := [(0, .ref 3), (2, .int q2), (4, .int q4)]) (st1 := [.ref 3]) (H1 := H) (k1 := 0) (n1 := 0) (by with_unfolding_all rfl)) ?_
  refine xe_get (v := .ref 6) hS rfl rfl (by decide) rfl ?_
  refine ex_s (am_nb (m := 2) (pc1 := 195) (ls1 := [(0, .ref 3), (2, .int q2), (4, .int q4)]) (st1 := [.int 1, .int q4, .ref 6]) (H1 := H) (k1 := 0) (n1 := 0) (by with_unfolding_all rfl)) ?_
  obtain ⟨g46, e⟩ := xg_some e
  obtain ⟨a43, ha43, e⟩ := xw_some e
  refine xe_zast hS rfl rfl g46 (fun H44 s45 => ?_)
  have s45 : xS h b T a43 H44 := by rw [ha43]; exact s45
  refine ex_s (am_nb (m := 1) (pc1 := 197) (ls1 := [(0, .ref 3), (2, .int q2), (4, .int q4)]) (st1 := [.int q2]) (H1 := H44) (k1 := 0) (n1 := 0) (by with_unfolding_all rfl)) ?_
  refine ex_s (st_lsw rfl) ?_
  by_cases c47 : q2 = 35
  · have e := (if_pos c47).symm.trans e
    refine ex_pc (pc1 := 232) (by rw [c47]; with_unfolding_all rfl) ?_
    refine ex_s (am_nb (m := 2) (pc1 := 234) (ls1 := [(0, .ref 3), (2, .int q2), (4, .int q4)]) (st1 := [.ref 3, .ref 3]) (H1 := H44) (k1 := 0) (n1 := 0) (by with_unfolding_all rfl)) ?_
    refine xe_get (v := .int (a43 3 6)) s45 rfl rfl (by decide) rfl ?_
    refine ex_s (am_nb (m := 2) (pc1 := 239) (ls1 := [(0, .ref 3), (2, .int q2), (4, .int q4)]) (st1 := [.int ((a43 3 6) + 1), .ref 3]) (H1 := H44) (k1 := 0) (n1 := 0) (by with_unfolding_all rfl)) ?_
    obtain ⟨a48, ha48, e⟩ := xw_some e
    refine xe_put (w := ((a43 3 6) + 1)) s45 rfl rfl (by decide) rfl rfl rfl rfl (fun H49 s50 => ?_)
    have s50 : xS h b T a48 H49 := by rw [ha48]; exact s50
    refine ex_s (am_nb (m := 2) (pc1 := 245) (ls1 := [(0, .ref 3), (2, .int q2), (4, .int q4)]) (st1 := [.int q4, .ref 3]) (H1 := H49) (k1 := 0) (n1 := 0) (by with_unfolding_all rfl)) ?_
    obtain ⟨r54, a55, e53, e⟩ := xb2_some e
    refine ex_cv1 (as := [.int q4]) (rest := []) rfl rfl rfl rfl (s50.obj rfl (by decide)) rfl (by with_unfolding_all rfl) (by with_unfolding_all rfl) (tf47_readNumber s50 e53) (fun H51 s52 => ?_)
    refine ex_s (st_if rfl) ?_
    by_cases c57 : r54 = 0
    · have e := (if_pos c57).symm.trans e
      refine ex_pc (if_pos c57) ?_
      refine ex_s (am_nb (m := 1) (pc1 := 263) (ls1 := [(0, .ref 3), (2, .int q2), (4, .int q4)]) (st1 := [.int 0]) (H1 := H51) (k1 := 0) (n1 := 0) (by with_unfolding_all rfl)) ?_
      cases e
      exact ex_r (st_iret rfl rfl rfl) s52
    · have e := (if_neg c57).symm.trans e
      refine ex_pc (if_neg c57) ?_
      refine ex_s (am_nb (m := 1) (pc1 := 252) (ls1 := [(0, .ref 3), (2, .int q2), (4, .int q4)]) (st1 := [.ref 3]) (H1 := H51) (k1 := 0) (n1 := 0) (by with_unfolding_all rfl)) ?_
      obtain ⟨r61, a62, e60, e⟩ := xb2_some e
      refine ex_cv1 (as := []) (rest := []) rfl rfl rfl rfl (s52.obj rfl (by decide)) rfl (by with_unfolding_all rfl) (by with_unfolding_all rfl) (tf43_passComma s52 e60) (fun H58 s59 => ?_)
      have kk : am_E sL sx am_cs 32 263 [(0, .ref 3), (2, .int q2), (4, .int q4)] [.int (if r61 = 0 then (0 : Int32) else (1 : Int32))] H58 (some (.int r)) (fun H1 => xS h b T a' H1) := by
        obtain ⟨g64, e⟩ := xg_some e
        cases e
        exact ex_r (st_iret rfl rfl (xnar_z g64)) s59
      refine ex_s (st_if rfl) ?_
      by_cases c63 : r61 = 0
      · refine ex_pc (if_pos c63) ?_
        refine ex_s (am_nb (m := 1) (pc1 := 263) (ls1 := [(0, .ref 3), (2, .int q2), (4, .int q4)]) (st1 := [.int 0]) (H1 := H58) (k1 := 0) (n1 := 0) (by with_unfolding_all rfl)) ?_
        rw [if_pos c63] at kk
        exact kk
      · refine ex_pc (if_neg c63) ?_
        refine ex_s (am_nb (m := 2) (pc1 := 263) (ls1 := [(0, .ref 3), (2, .int q2), (4, .int q4)]) (st1 := [.int 1]) (H1 := H58) (k1 := 0) (n1 := 0) (by with_unfolding_all rfl)) ?_
        rw [if_neg c63] at kk
        exact kk
  · have e := (if_neg c47).symm.trans e
    by_cases c65 : q2 = 61
    · have e := (if_pos c65).symm.trans e
      refine ex_pc (pc1 := 264) (by rw [c65]; with_unfolding_all rfl) ?_
      refine ex_s (am_nb (m := 2) (pc1 := 266) (ls1 := [(0, .ref 3), (2, .int q2), (4, .int q4)]) (st1 := [.ref 3, .ref 3]) (H1 := H44) (k1 := 0) (n1 := 0) (by with_unfolding_all rfl)) ?_
      refine xe_get (v := .int (a43 3 6)) s45 rfl rfl (by decide) rfl ?_
      refine ex_s (am_nb (m := 2) (pc1 := 271) (ls1 := [(0, .ref 3), (2, .int q2), (4, .int q4)]) (st1 := [.int ((a43 3 6) + 1), .ref 3]) (H1 := H44) (k1 := 0) (n1 := 0) (by with_unfolding_all rfl)) ?_
      obtain ⟨a66, ha66, e⟩ := xw_some e
      refine xe_put (w := ((a43 3 6) + 1)) s45 rfl rfl (by decide) rfl rfl rfl rfl (fun H67 s68 => ?_)
      have s68 : xS h b T a66 H67 := by rw [ha66]; exact s68
      refine ex_s (am_nb (m := 2) (pc1 := 277) (ls1 := [(0, .ref 3), (2, .int q2), (4, .int q4)]) (st1 := [.int q4, .ref 3]) (H1 := H67) (k1 := 0) (n1 := 0) (by with_unfolding_all rfl)) ?_
      obtain ⟨r72, a73, e71, e⟩ := xb2_some e
      refine ex_cv1 (as := [.int q4]) (rest := []) rfl rfl rfl rfl (s68.obj rfl (by decide)) rfl (by with_unfolding_all rfl) (by with_unfolding_all rfl) (tf49_readString s68 e71) (fun H69 s70 => ?_)
      refine ex_s (st_if rfl) ?_
      by_cases c75 : r72 = 0
      · have e := (if_pos c75).symm.trans e
        refine ex_pc (if_pos c75) ?_
        refine ex_s (am_nb (m := 1) (pc1 := 295) (ls1 := [(0, .ref 3), (2, .int q2), (4, .int q4)]) (st1 := [.int 0]) (H1 := H69) (k1 := 0) (n1 := 0) (by with_unfolding_all rfl)) ?_
        cases e
        exact ex_r (st_iret rfl rfl rfl) s70
      · have e := (if_neg c75).symm.trans e
        refine ex_pc (if_neg c75) ?_
        refine ex_s (am_nb (m := 1) (pc1 := 284) (ls1 := [(0, .ref 3), (2, .int q2), (4, .int q4)]) (st1 := [.ref 3]) (H1 := H69) (k1 := 0) (n1 := 0) (by with_unfolding_all rfl)) ?_
        obtain ⟨r79, a80, e78, e⟩ := xb2_some e
        refine ex_cv1 (as := []) (rest := []) rfl rfl rfl rfl (s70.obj rfl (by decide)) rfl (by with_unfolding_all rfl) (by with_unfolding_all rfl) (tf43_passComma s70 e78) (fun H76 s77 => ?_)
        have kk : am_E sL sx am_cs 32 295 [(0, .ref 3), (2, .int q2), (4, .int q4)] [.int (if r79 = 0 then (0 : Int32) else (1 : Int32))] H76 (some (.int r)) (fun H1 => xS h b T a' H1) := by
          obtain ⟨g82, e⟩ := xg_some e
          cases e
          exact ex_r (st_iret rfl rfl (xnar_z g82)) s77
        refine ex_s (st_if rfl) ?_
        by_cases c81 : r79 = 0
        · refine ex_pc (if_pos c81) ?_
          refine ex_s (am_nb (m := 1) (pc1 := 295) (ls1 := [(0, .ref 3), (2, .int q2), (4, .int q4)]) (st1 := [.int 0]) (H1 := H76) (k1 := 0) (n1 := 0) (by with_unfolding_all rfl)) ?_
          rw [if_pos c81] at kk
          exact kk
        · refine ex_pc (if_neg c81) ?_
          refine ex_s (am_nb (m := 2) (pc1 := 295) (ls1 := [(0, .ref 3), (2, .int q2), (4, .int q4)]) (st1 := [.int 1]) (H1 := H76) (k1 := 0) (n1 := 0) (by with_unfolding_all rfl)) ?_
          rw [if_neg c81] at kk
          exact kk
    · have e := (if_neg c65).symm.trans e
      by_cases c83 : q2 = 64
      · have e := (if_pos c83).symm.trans e
        refine ex_pc (pc1 := 296) (by rw [c83]; with_unfolding_all rfl) ?_
        refine ex_s (am_nb (m := 2) (pc1 := 298) (ls1 := [(0, .ref 3), (2, .int q2), (4, .int q4)]) (st1 := [.ref 3, .ref 3]) (H1 := H44) (k1 := 0) (n1 := 0) (by with_unfolding_all rfl)) ?_
        refine xe_get (v := .int (a43 3 6)) s45 rfl rfl (by decide) rfl ?_
        refine ex_s (am_nb (m := 2) (pc1 := 303) (ls1 := [(0, .ref 3), (2, .int q2), (4, .int q4)]) (st1 := [.int ((a43 3 6) + 1), .ref 3]) (H1 := H44) (k1 := 0) (n1 := 0) (by with_unfolding_all rfl)) ?_
        obtain ⟨a84, ha84, e⟩ := xw_some e
        refine xe_put (w := ((a43 3 6) + 1)) s45 rfl rfl (by decide) rfl rfl rfl rfl (fun H85 s86 => ?_)
        have s86 : xS h b T a84 H85 := by rw [ha84]; exact s86
        refine ex_s (am_nb (m := 1) (pc1 := 307) (ls1 := [(0, .ref 3), (2, .int q2), (4, .int q4)]) (st1 := [.ref 3]) (H1 := H85) (k1 := 0) (n1 := 0) (by with_unfolding_all rfl)) ?_
        obtain ⟨r90, a91, e89, e⟩ := xb2_some e
        refine ex_cv1 (as := []) (rest := []) rfl rfl rfl rfl (s86.obj rfl (by decide)) rfl (by with_unfolding_all rfl) (by with_unfolding_all rfl) (tf43_passComma s86 e89) (fun H87 s88 => ?_)
        obtain ⟨g92, e⟩ := xg_some e
        cases e
        exact ex_r (st_iret rfl rfl (xnar_z g92)) s88
      · have e := (if_neg c83).symm.trans e
        refine ex_pc (pc1 := 311) (am_sw_n (sw_c (Or.inl c47) (sw_c (Or.inl c65) (sw_c (Or.inl c83) sw_o)))) ?_
        refine ex_s (am_nb (m := 1) (pc1 := 312) (ls1 := [(0, .ref 3), (2, .int q2), (4, .int q4)]) (st1 := [.ref 3]) (H1 := H44) (k1 := 0) (n1 := 0) (by with_unfolding_all rfl)) ?_
        refine xe_get (v := xN (a43 3 8)) s45 rfl rfl (by decide) rfl ?_
        refine ex_s (am_nb (m := 1) (pc1 := 317) (ls1 := [(0, .ref 3), (2, .int q2), (4, .int q4)]) (st1 := [.int q4, xN (a43 3 8)]) (H1 := H44) (k1 := 0) (n1 := 0) (by first | with_unfolding_all rfl | (unfold xN; (repeat' split) <;> with_unfolding_all rfl))) ?_
        obtain ⟨g93, e⟩ := xg_some e
        rw [show xN (a43 3 8) = .ref ((a43 3 8).toNatClampNeg) from if_neg g93]
        obtain ⟨g94, e⟩ := xg_some e
        obtain ⟨a98, e97, e⟩ := xb1_some e
        refine ex_cv0 (as := [.int q4]) (rest := []) rfl rfl rfl rfl (s45.obj g94 (by decide)) rfl (by with_unfolding_all rfl) (by with_unfolding_all rfl) (tf61_tellFlag s45 e97) (fun H95 s96 => ?_)
        refine ex_s (am_nb (m := 1) (pc1 := 321) (ls1 := [(0, .ref 3), (2, .int q2), (4, .int q4)]) (st1 := [.ref 3]) (H1 := H95) (k1 := 0) (n1 := 0) (by with_unfolding_all rfl)) ?_
        obtain ⟨r102, a103, e101, e⟩ := xb2_some e
        refine ex_cv1 (as := []) (rest := []) rfl rfl rfl rfl (s96.obj rfl (by decide)) rfl (by with_unfolding_all rfl) (by with_unfolding_all rfl) (tf43_passComma s96 e101) (fun H99 s100 => ?_)
        obtain ⟨g104, e⟩ := xg_some e
        cases e
        exact ex_r (st_iret rfl rfl (xnar_z g104)) s100

set_option maxRecDepth 100000 in
theorem tj32_163 {sL : Nat} {sx : Nat → Int32} {h b N : Nat} {T : List am_C} {r : Int32} {a' : xA} {q2 : Int32} {q4 : Int32} {a : xA} {H : am_H} (hS : xS h b T a H) (e : j32_163 N h b q2 q4 a = some (r, a')) : am_E sL sx am_cs 32 163 [(0, .ref 3), (2, .int q2), (4, .int q4)] [] H (some (.int r)) (fun H1 => xS h b T a' H1) := by
  unfold j32_163 at e
  refine ex_s (am_nb (m := 2) (pc1 := 166) (ls1 := [(0, .ref 3), (2, .int q2), (4, .int q4)]) (st1 := [.int 64, .int q2]) (H1 := H) (k1 := 0) (n1 := 0) (by with_unfolding_all rfl)) ?_
  refine ex_s (st_icmp rfl) ?_
  by_cases c42 : q2 = 64
  · have e := (if_pos c42).symm.trans e
    refine ex_pc (if_pos c42) ?_
    exact le_E (l1 := [(0, .ref 3), (2, .int q2), (4, .int q4)]) ⟨rfl, rfl, rfl, trivial⟩ rfl (tj32_188  hS e)
  · have e := (if_neg c42).symm.trans e
    refine ex_pc (if_neg c42) ?_
    refine ex_s (am_nb (m := 2) (pc1 := 172) (ls1 := [(0, .ref 3), (2, .int q2), (4, .int q4)]) (st1 := [.int q4, .int q2]) (H1 := H) (k1 := 0) (n1 := 0) (by with_unfolding_all rfl)) ?_
    obtain ⟨r108, a109, e107, e⟩ := xb2_some e
    refine ex_cs1 (as := [.int q4]) (rest := [.int q2]) rfl (by decide) rfl rfl (by with_unfolding_all rfl) (by with_unfolding_all rfl) (tf46_signOf hS e107) (fun H105 s106 => ?_)
    refine ex_s (st_icmp rfl) ?_
    by_cases c110 : q2 = r108
    · have e := (if_pos c110).symm.trans e
      refine ex_pc (if_pos c110) ?_
      exact le_E (l1 := [(0, .ref 3), (2, .int q2), (4, .int q4)]) ⟨rfl, rfl, rfl, trivial⟩ rfl (tj32_188  s106 e)
    · have e := (if_neg c110).symm.trans e
      refine ex_pc (if_neg c110) ?_
      refine ex_s (am_nb (m := 3) (pc1 := 181) (ls1 := [(0, .ref 3), (2, .int q2), (4, .int q4)]) (st1 := [.ref 3, .int 5, .ref 3]) (H1 := H105) (k1 := 0) (n1 := 0) (by with_unfolding_all rfl)) ?_
      refine xe_get (v := .int (a109 3 6)) s106 rfl rfl (by decide) rfl ?_
      obtain ⟨r114, a115, e113, e⟩ := xb2_some e
      refine ex_cv1 (as := [.int 5, .int (a109 3 6)]) (rest := []) rfl rfl rfl rfl (s106.obj rfl (by decide)) rfl (by with_unfolding_all rfl) (by with_unfolding_all rfl) (tf26_failed s106 e113) (fun H111 s112 => ?_)
      obtain ⟨g116, e⟩ := xg_some e
      cases e
      exact ex_r (st_iret rfl rfl (xnar_z g116)) s112

set_option maxRecDepth 100000 in
theorem tj32_87 {sL : Nat} {sx : Nat → Int32} {h b N : Nat} {T : List am_C} {r : Int32} {a' : xA} {q1 : Int32} {q2 : Int32} {q3 : Int32} {a : xA} {H : am_H} (hS : xS h b T a H) (e : j32_87 N h b q1 q2 q3 a = some (r, a')) : am_E sL sx am_cs 32 87 [(0, .ref 3), (1, .int q1), (2, .int q2), (3, .int q3)] [] H (some (.int r)) (fun H1 => xS h b T a' H1) := by
  unfold j32_87 at e
  refine ex_s (am_nb (m := 1) (pc1 := 88) (ls1 := [(0, .ref 3), (1, .int q1), (2, .int q2), (3, .int q3)]) (st1 := [.ref 3]) (H1 := H) (k1 := 0) (n1 := 0) (by with_unfolding_all rfl)) ?_
  refine xe_get (v := xN (a 3 4)) hS rfl rfl (by decide) rfl ?_
  refine ex_s (am_nb (m := 2) (pc1 := 93) (ls1 := [(0, .ref 3), (1, .int q1), (2, .int q2), (3, .int q3)]) (st1 := [.int q3, .int q1, xN (a 3 4)]) (H1 := H) (k1 := 0) (n1 := 0) (by first | with_unfolding_all rfl | (unfold xN; (repeat' split) <;> with_unfolding_all rfl))) ?_
  obtain ⟨g21, e⟩ := xg_some e
  rw [show xN (a 3 4) = .ref ((a 3 4).toNatClampNeg) from if_neg g21]
  obtain ⟨r25, a26, e24, e⟩ := xb2_some e
  refine ex_cs1 (as := [.ref ((a 3 4).toNatClampNeg), .int q1, .int q3]) (rest := []) rfl (by decide) rfl rfl (by with_unfolding_all rfl) (by with_unfolding_all rfl) (tf44_abilityNamed hS e24) (fun H22 s23 => ?_)
  refine ex_s (am_nb (m := 3) (pc1 := 101) (ls1 := [(4, .int r25), (0, .ref 3), (1, .int q1), (2, .int q2), (3, .int q3)]) (st1 := [.int (-1), .int r25]) (H1 := H22) (k1 := 0) (n1 := 0) (by with_unfolding_all rfl)) ?_
  refine ex_s (st_icmp rfl) ?_
  by_cases c27 : r25 = (-1)
  · have e := (if_pos c27).symm.trans e
    refine ex_pc (if_pos c27) ?_
    refine ex_s (am_nb (m := 3) (pc1 := 107) (ls1 := [(4, .int r25), (0, .ref 3), (1, .int q1), (2, .int q2), (3, .int q3)]) (st1 := [.int q1, .int 4, .ref 3]) (H1 := H22) (k1 := 0) (n1 := 0) (by with_unfolding_all rfl)) ?_
    obtain ⟨r31, a32, e30, e⟩ := xb2_some e
    refine ex_cv1 (as := [.int 4, .int q1]) (rest := []) rfl rfl rfl rfl (s23.obj rfl (by decide)) rfl (by with_unfolding_all rfl) (by with_unfolding_all rfl) (tf26_failed s23 e30) (fun H28 s29 => ?_)
    obtain ⟨g33, e⟩ := xg_some e
    cases e
    exact ex_r (st_iret rfl rfl (xnar_z g33)) s29
  · have e := (if_neg c27).symm.trans e
    refine ex_pc (if_neg c27) ?_
    refine ex_s (am_nb (m := 1) (pc1 := 112) (ls1 := [(4, .int r25), (0, .ref 3), (1, .int q1), (2, .int q2), (3, .int q3)]) (st1 := [.ref 3]) (H1 := H22) (k1 := 0) (n1 := 0) (by with_unfolding_all rfl)) ?_
    refine xe_get (v := .ref 6) s23 rfl rfl (by decide) rfl ?_
    refine ex_s (am_nb (m := 1) (pc1 := 117) (ls1 := [(4, .int r25), (0, .ref 3), (1, .int q1), (2, .int q2), (3, .int q3)]) (st1 := [.int r25, .ref 6]) (H1 := H22) (k1 := 0) (n1 := 0) (by with_unfolding_all rfl)) ?_
    obtain ⟨g34, e⟩ := xg_some e
    refine xe_zald s23 rfl rfl g34 ?_
    refine ex_s (st_if rfl) ?_
    by_cases c35 : (a26 6 (r25.toNatClampNeg)) = 0
    · have e := (if_pos c35).symm.trans e
      refine ex_pc (if_pos c35) ?_
      refine ex_s (am_nb (m := 2) (pc1 := 132) (ls1 := [(4, .int r25), (0, .ref 3), (1, .int q1), (2, .int q2), (3, .int q3)]) (st1 := [.int 64, .int q2]) (H1 := H22) (k1 := 0) (n1 := 0) (by with_unfolding_all rfl)) ?_
      refine ex_s (st_icmp rfl) ?_
      by_cases c40 : q2 = 64
      · have e := (if_pos c40).symm.trans e
        refine ex_pc (if_pos c40) ?_
        exact le_E (l1 := [(0, .ref 3), (2, .int q2), (4, .int r25)]) ⟨rfl, rfl, rfl, trivial⟩ rfl (tj32_163  s23 e)
      · have e := (if_neg c40).symm.trans e
        refine ex_pc (if_neg c40) ?_
        refine ex_s (am_nb (m := 2) (pc1 := 138) (ls1 := [(4, .int r25), (0, .ref 3), (1, .int q1), (2, .int q2), (3, .int q3)]) (st1 := [.int 35, .int q2]) (H1 := H22) (k1 := 0) (n1 := 0) (by with_unfolding_all rfl)) ?_
        refine ex_s (st_icmp rfl) ?_
        by_cases c120 : q2 = 35
        · have e := (if_pos c120).symm.trans e
          refine ex_pc (if_pos c120) ?_
          exact le_E (l1 := [(0, .ref 3), (2, .int q2), (4, .int r25)]) ⟨rfl, rfl, rfl, trivial⟩ rfl (tj32_163  s23 e)
        · have e := (if_neg c120).symm.trans e
          refine ex_pc (if_neg c120) ?_
          refine ex_s (am_nb (m := 2) (pc1 := 144) (ls1 := [(4, .int r25), (0, .ref 3), (1, .int q1), (2, .int q2), (3, .int q3)]) (st1 := [.int 61, .int q2]) (H1 := H22) (k1 := 0) (n1 := 0) (by with_unfolding_all rfl)) ?_
          refine ex_s (st_icmp rfl) ?_
          by_cases c123 : q2 = 61
          · have e := (if_pos c123).symm.trans e
            refine ex_pc (if_pos c123) ?_
            exact le_E (l1 := [(0, .ref 3), (2, .int q2), (4, .int r25)]) ⟨rfl, rfl, rfl, trivial⟩ rfl (tj32_163  s23 e)
          · have e := (if_neg c123).symm.trans e
            refine ex_pc (if_neg c123) ?_
            refine ex_s (am_nb (m := 2) (pc1 := 150) (ls1 := [(4, .int r25), (0, .ref 3), (1, .int q1), (2, .int q2), (3, .int q3)]) (st1 := [.int 44, .int q2]) (H1 := H22) (k1 := 0) (n1 := 0) (by with_unfolding_all rfl)) ?_
            refine ex_s (st_icmp rfl) ?_
            by_cases c124 : q2 = 44
            · have e := (if_pos c124).symm.trans e
              refine ex_pc (if_pos c124) ?_
              exact le_E (l1 := [(0, .ref 3), (2, .int q2), (4, .int r25)]) ⟨rfl, rfl, rfl, trivial⟩ rfl (tj32_163  s23 e)
            · have e := (if_neg c124).symm.trans e
              refine ex_pc (if_neg c124) ?_
              refine ex_s (am_nb (m := 3) (pc1 := 156) (ls1 := [(4, .int r25), (0, .ref 3), (1, .int q1), (2, .int q2), (3, .int q3)]) (st1 := [.ref 3, .int 1, .ref 3]) (H1 := H22) (k1 := 0) (n1 := 0) (by with_unfolding_all rfl)) ?_
              refine xe_get (v := .int (a26 3 6)) s23 rfl rfl (by decide) rfl ?_
              obtain ⟨r128, a129, e127, e⟩ := xb2_some e
              refine ex_cv1 (as := [.int 1, .int (a26 3 6)]) (rest := []) rfl rfl rfl rfl (s23.obj rfl (by decide)) rfl (by with_unfolding_all rfl) (by with_unfolding_all rfl) (tf26_failed s23 e127) (fun H125 s126 => ?_)
              obtain ⟨g130, e⟩ := xg_some e
              cases e
              exact ex_r (st_iret rfl rfl (xnar_z g130)) s126
    · have e := (if_neg c35).symm.trans e
      refine ex_pc (if_neg c35) ?_
      refine ex_s (am_nb (m := 3) (pc1 := 125) (ls1 := [(4, .int r25), (0, .ref 3), (1, .int q1), (2, .int q2), (3, .int q3)]) (st1 := [.int q1, .int 6, .ref 3]) (H1 := H22) (k1 := 0) (n1 := 0) (by with_unfolding_all rfl)) ?_
      obtain ⟨r134, a135, e133, e⟩ := xb2_some e
      refine ex_cv1 (as := [.int 6, .int q1]) (rest := []) rfl rfl rfl rfl (s23.obj rfl (by decide)) rfl (by with_unfolding_all rfl) (by with_unfolding_all rfl) (tf26_failed s23 e133) (fun H131 s132 => ?_)
      obtain ⟨g136, e⟩ := xg_some e
      cases e
      exact ex_r (st_iret rfl rfl (xnar_z g136)) s132

set_option maxRecDepth 100000 in
theorem tf32_readField {sL : Nat} {sx : Nat → Int32} {h b N : Nat} {T : List am_C} {r : Int32} {a' : xA} {a : xA} {H : am_H} (hS : xS h b T a H) (e : f32_readField N h b a = some (r, a')) : am_E sL sx am_cs 32 0 [(0, .ref 3)] [] H (some (.int r)) (fun H1 => xS h b T a' H1) := by
  unfold f32_readField at e
  refine ex_s (am_nb (m := 1) (pc1 := 1) (ls1 := [(0, .ref 3)]) (st1 := [.ref 3]) (H1 := H) (k1 := 0) (n1 := 0) (by with_unfolding_all rfl)) ?_
  refine xe_get (v := .int (a 3 6)) hS rfl rfl (by decide) rfl ?_
  refine ex_s (am_nb (m := 2) (pc1 := 6) (ls1 := [(1, .int (a 3 6)), (0, .ref 3)]) (st1 := [.ref 3]) (H1 := H) (k1 := 0) (n1 := 0) (by with_unfolding_all rfl)) ?_
  obtain ⟨r4, a5, e3, e⟩ := xb2_some e
  refine ex_cv1 (as := []) (rest := []) rfl rfl rfl rfl (hS.obj rfl (by decide)) rfl (by with_unfolding_all rfl) (by with_unfolding_all rfl) (tf33_passAbility hS e3) (fun H1 s2 => ?_)
  refine ex_s (st_if rfl) ?_
  by_cases c6 : r4 = 0
  · have e := (if_pos c6).symm.trans e
    refine ex_pc (if_pos c6) ?_
    refine ex_s (am_nb (m := 1) (pc1 := 13) (ls1 := [(1, .int (a 3 6)), (0, .ref 3)]) (st1 := [.int 0]) (H1 := H1) (k1 := 0) (n1 := 0) (by with_unfolding_all rfl)) ?_
    cases e
    exact ex_r (st_iret rfl rfl rfl) s2
  · have e := (if_neg c6).symm.trans e
    refine ex_pc (if_neg c6) ?_
    refine ex_s (am_nb (m := 2) (pc1 := 16) (ls1 := [(1, .int (a 3 6)), (0, .ref 3)]) (st1 := [.ref 3, .ref 3]) (H1 := H1) (k1 := 0) (n1 := 0) (by with_unfolding_all rfl)) ?_
    refine xe_get (v := .int (a5 3 6)) s2 rfl rfl (by decide) rfl ?_
    obtain ⟨r10, a11, e9, e⟩ := xb2_some e
    refine ex_cv1 (as := [.int (a5 3 6)]) (rest := []) rfl rfl rfl rfl (s2.obj rfl (by decide)) rfl (by with_unfolding_all rfl) (by with_unfolding_all rfl) (tf28_byteAt s2 e9) (fun H7 s8 => ?_)
    refine ex_s (am_nb (m := 2) (pc1 := 24) (ls1 := [(2, .int r10), (1, .int (a 3 6)), (0, .ref 3)]) (st1 := [.ref 3]) (H1 := H7) (k1 := 0) (n1 := 0) (by with_unfolding_all rfl)) ?_
    refine xe_get (v := .int (a11 3 6)) s8 rfl rfl (by decide) rfl ?_
    refine ex_s (am_nb (m := 5) (pc1 := 32) (ls1 := [(3, .int ((a11 3 6) - (a 3 6))), (2, .int r10), (1, .int (a 3 6)), (0, .ref 3)]) (st1 := [.int 5, .int ((a11 3 6) - (a 3 6))]) (H1 := H7) (k1 := 0) (n1 := 0) (by with_unfolding_all rfl)) ?_
    refine ex_s (st_icmp rfl) ?_
    by_cases c12 : ((a11 3 6) - (a 3 6)) ≤ 5
    · have e := (if_pos c12).symm.trans e
      refine ex_pc (if_pos c12) ?_
      refine ex_s (am_nb (m := 2) (pc1 := 45) (ls1 := [(3, .int ((a11 3 6) - (a 3 6))), (2, .int r10), (1, .int (a 3 6)), (0, .ref 3)]) (st1 := [.int 61, .int r10]) (H1 := H7) (k1 := 0) (n1 := 0) (by with_unfolding_all rfl)) ?_
      refine ex_s (st_icmp rfl) ?_
      by_cases c14 : r10 = 61
      · have e := (if_pos c14).symm.trans e
        refine ex_pc (if_pos c14) ?_
        refine ex_s (am_nb (m := 3) (pc1 := 51) (ls1 := [(3, .int ((a11 3 6) - (a 3 6))), (2, .int r10), (1, .int (a 3 6)), (0, .ref 3)]) (st1 := [.int ((a11 3 6) - (a 3 6)), .int (a 3 6), .ref 3]) (H1 := H7) (k1 := 0) (n1 := 0) (by with_unfolding_all rfl)) ?_
        obtain ⟨r18, a19, e17, e⟩ := xb2_some e
        refine ex_cv1 (as := [.int (a 3 6), .int ((a11 3 6) - (a 3 6))]) (rest := []) rfl rfl rfl rfl (s8.obj rfl (by decide)) rfl (by with_unfolding_all rfl) (by with_unfolding_all rfl) (tf36_isUse s8 e17) (fun H15 s16 => ?_)
        refine ex_s (st_if rfl) ?_
        by_cases c20 : r18 = 0
        · have e := (if_pos c20).symm.trans e
          refine ex_pc (if_pos c20) ?_
          exact le_E (l1 := [(0, .ref 3), (1, .int (a 3 6)), (2, .int r10), (3, .int ((a11 3 6) - (a 3 6)))]) ⟨rfl, rfl, rfl, rfl, trivial⟩ rfl (tj32_87  s16 e)
        · have e := (if_neg c20).symm.trans e
          refine ex_pc (if_neg c20) ?_
          refine ex_s (am_nb (m := 2) (pc1 := 59) (ls1 := [(3, .int ((a11 3 6) - (a 3 6))), (2, .int r10), (1, .int (a 3 6)), (0, .ref 3)]) (st1 := [.ref 3, .ref 3]) (H1 := H15) (k1 := 0) (n1 := 0) (by with_unfolding_all rfl)) ?_
          refine xe_get (v := .int (a19 3 6)) s16 rfl rfl (by decide) rfl ?_
          refine ex_s (am_nb (m := 2) (pc1 := 64) (ls1 := [(3, .int ((a11 3 6) - (a 3 6))), (2, .int r10), (1, .int (a 3 6)), (0, .ref 3)]) (st1 := [.int ((a19 3 6) + 1), .ref 3]) (H1 := H15) (k1 := 0) (n1 := 0) (by with_unfolding_all rfl)) ?_
          obtain ⟨a137, ha137, e⟩ := xw_some e
          refine xe_put (w := ((a19 3 6) + 1)) s16 rfl rfl (by decide) rfl rfl rfl rfl (fun H138 s139 => ?_)
          have s139 : xS h b T a137 H138 := by rw [ha137]; exact s139
          refine ex_s (am_nb (m := 1) (pc1 := 68) (ls1 := [(3, .int ((a11 3 6) - (a 3 6))), (2, .int r10), (1, .int (a 3 6)), (0, .ref 3)]) (st1 := [.ref 3]) (H1 := H138) (k1 := 0) (n1 := 0) (by with_unfolding_all rfl)) ?_
          obtain ⟨r143, a144, e142, e⟩ := xb2_some e
          refine ex_cv1 (as := []) (rest := []) rfl rfl rfl rfl (s139.obj rfl (by decide)) rfl (by with_unfolding_all rfl) (by with_unfolding_all rfl) (tf37_readUse s139 e142) (fun H140 s141 => ?_)
          refine ex_s (st_if rfl) ?_
          by_cases c146 : r143 = 0
          · have e := (if_pos c146).symm.trans e
            refine ex_pc (if_pos c146) ?_
            refine ex_s (am_nb (m := 1) (pc1 := 86) (ls1 := [(3, .int ((a11 3 6) - (a 3 6))), (2, .int r10), (1, .int (a 3 6)), (0, .ref 3)]) (st1 := [.int 0]) (H1 := H140) (k1 := 0) (n1 := 0) (by with_unfolding_all rfl)) ?_
            cases e
            exact ex_r (st_iret rfl rfl rfl) s141
          · have e := (if_neg c146).symm.trans e
            refine ex_pc (if_neg c146) ?_
            refine ex_s (am_nb (m := 1) (pc1 := 75) (ls1 := [(3, .int ((a11 3 6) - (a 3 6))), (2, .int r10), (1, .int (a 3 6)), (0, .ref 3)]) (st1 := [.ref 3]) (H1 := H140) (k1 := 0) (n1 := 0) (by with_unfolding_all rfl)) ?_
            obtain ⟨r150, a151, e149, e⟩ := xb2_some e
            refine ex_cv1 (as := []) (rest := []) rfl rfl rfl rfl (s141.obj rfl (by decide)) rfl (by with_unfolding_all rfl) (by with_unfolding_all rfl) (tf43_passComma s141 e149) (fun H147 s148 => ?_)
            have kk : am_E sL sx am_cs 32 86 [(3, .int ((a11 3 6) - (a 3 6))), (2, .int r10), (1, .int (a 3 6)), (0, .ref 3)] [.int (if r150 = 0 then (0 : Int32) else (1 : Int32))] H147 (some (.int r)) (fun H1 => xS h b T a' H1) := by
              obtain ⟨g153, e⟩ := xg_some e
              cases e
              exact ex_r (st_iret rfl rfl (xnar_z g153)) s148
            refine ex_s (st_if rfl) ?_
            by_cases c152 : r150 = 0
            · refine ex_pc (if_pos c152) ?_
              refine ex_s (am_nb (m := 1) (pc1 := 86) (ls1 := [(3, .int ((a11 3 6) - (a 3 6))), (2, .int r10), (1, .int (a 3 6)), (0, .ref 3)]) (st1 := [.int 0]) (H1 := H147) (k1 := 0) (n1 := 0) (by with_unfolding_all rfl)) ?_
              rw [if_pos c152] at kk
              exact kk
            · refine ex_pc (if_neg c152) ?_
              refine ex_s (am_nb (m := 2) (pc1 := 86) (ls1 := [(3, .int ((a11 3 6) - (a 3 6))), (2, .int r10), (1, .int (a 3 6)), (0, .ref 3)]) (st1 := [.int 1]) (H1 := H147) (k1 := 0) (n1 := 0) (by with_unfolding_all rfl)) ?_
              rw [if_neg c152] at kk
              exact kk
      · have e := (if_neg c14).symm.trans e
        refine ex_pc (if_neg c14) ?_
        exact le_E (l1 := [(0, .ref 3), (1, .int (a 3 6)), (2, .int r10), (3, .int ((a11 3 6) - (a 3 6)))]) ⟨rfl, rfl, rfl, rfl, trivial⟩ rfl (tj32_87  s8 e)
    · have e := (if_neg c12).symm.trans e
      refine ex_pc (if_neg c12) ?_
      refine ex_s (am_nb (m := 3) (pc1 := 38) (ls1 := [(3, .int ((a11 3 6) - (a 3 6))), (2, .int r10), (1, .int (a 3 6)), (0, .ref 3)]) (st1 := [.int (a 3 6), .int 2, .ref 3]) (H1 := H7) (k1 := 0) (n1 := 0) (by with_unfolding_all rfl)) ?_
      obtain ⟨r157, a158, e156, e⟩ := xb2_some e
      refine ex_cv1 (as := [.int 2, .int (a 3 6)]) (rest := []) rfl rfl rfl rfl (s8.obj rfl (by decide)) rfl (by with_unfolding_all rfl) (by with_unfolding_all rfl) (tf26_failed s8 e156) (fun H154 s155 => ?_)
      obtain ⟨g159, e⟩ := xg_some e
      cases e
      exact ex_r (st_iret rfl rfl (xnar_z g159)) s155

set_option maxRecDepth 100000 in
theorem tl30_6 {sL : Nat} {sx : Nat → Int32} {h b N : Nat} {T : List am_C} {R : Option Value} {F : am_H → Prop} {z : Nat × xA} (k0 : z.1 = 0 → ∀ H2 : am_H, xS h b T z.2 H2 → am_E sL sx am_cs 30 46 [(0, .ref 3)] [] H2 R F) (k1 : z.1 = 1 → ∀ H2 : am_H, xS h b T z.2 H2 → am_E sL sx am_cs 30 63 [] [] H2 R F) (k2 : z.1 = 2 → ∀ H2 : am_H, xS h b T z.2 H2 → am_E sL sx am_cs 30 75 [(0, .ref 3)] [] H2 R F) : ∀ (n : Nat) (v1 : Int32) (a : xA) (H : am_H), xS h b T a H → l30_6 N h b n v1 a = some z → am_E sL sx am_cs 30 6 [(0, .ref 3), (1, .int v1)] [] H R F := by
  intro n
  induction n with
  | zero =>
    intro v1 a H hS e
    cases e
  | succ n ih =>
    intro v1 a H hS e
    unfold l30_6 at e
    refine ex_s (am_nb (m := 2) (pc1 := 8) (ls1 := [(0, .ref 3), (1, .int v1)]) (st1 := [.ref 3, .int v1]) (H1 := H) (k1 := 0) (n1 := 0) (by with_unfolding_all rfl)) ?_
    refine xe_get (v := .int (a 3 5)) hS rfl rfl (by decide) rfl ?_
    refine ex_s (st_icmp rfl) ?_
    by_cases c5 : (a 3 5) ≤ v1
    · have e := (if_pos c5).symm.trans e
      refine ex_pc (if_pos c5) ?_
      cases e
      exact le_E (l1 := [(0, .ref 3)]) ⟨rfl, trivial⟩ rfl (k2 rfl H hS)
    · have e := (if_neg c5).symm.trans e
      refine ex_pc (if_neg c5) ?_
      refine ex_s (am_nb (m := 1) (pc1 := 15) (ls1 := [(0, .ref 3), (1, .int v1)]) (st1 := [.ref 3]) (H1 := H) (k1 := 0) (n1 := 0) (by with_unfolding_all rfl)) ?_
      refine xe_get (v := .int (a 3 6)) hS rfl rfl (by decide) rfl ?_
      refine ex_s (am_nb (m := 1) (pc1 := 19) (ls1 := [(0, .ref 3), (1, .int v1)]) (st1 := [.ref 3, .int (a 3 6)]) (H1 := H) (k1 := 0) (n1 := 0) (by with_unfolding_all rfl)) ?_
      refine xe_get (v := .int (a 3 5)) hS rfl rfl (by decide) rfl ?_
      refine ex_s (st_icmp rfl) ?_
      by_cases c7 : (a 3 5) ≤ (a 3 6)
      · have e := (if_pos c7).symm.trans e
        refine ex_pc (if_pos c7) ?_
        cases e
        exact le_E (l1 := [(0, .ref 3)]) ⟨rfl, trivial⟩ rfl (k2 rfl H hS)
      · have e := (if_neg c7).symm.trans e
        refine ex_pc (if_neg c7) ?_
        refine ex_s (am_nb (m := 1) (pc1 := 26) (ls1 := [(0, .ref 3), (1, .int v1)]) (st1 := [.ref 3]) (H1 := H) (k1 := 0) (n1 := 0) (by with_unfolding_all rfl)) ?_
        refine xe_get (v := xN (a 3 4)) hS rfl rfl (by decide) rfl ?_
        refine ex_s (am_nb (m := 1) (pc1 := 30) (ls1 := [(0, .ref 3), (1, .int v1)]) (st1 := [.ref 3, xN (a 3 4)]) (H1 := H) (k1 := 0) (n1 := 0) (by first | with_unfolding_all rfl | (unfold xN; (repeat' split) <;> with_unfolding_all rfl))) ?_
        refine xe_get (v := .int (a 3 6)) hS rfl rfl (by decide) rfl ?_
        obtain ⟨g8, e⟩ := xg_some e
        rw [show xN (a 3 4) = .ref ((a 3 4).toNatClampNeg) from if_neg g8]
        obtain ⟨g9, e⟩ := xg_some e
        obtain ⟨g10, e⟩ := xg_some e
        refine xe_iald hS rfl g9 g10 ?_
        refine ex_s (am_nb (m := 1) (pc1 := 36) (ls1 := [(0, .ref 3), (1, .int v1)]) (st1 := [.int 10, .int (a ((a 3 4).toNatClampNeg) ((a 3 6).toNatClampNeg))]) (H1 := H) (k1 := 0) (n1 := 0) (by first | with_unfolding_all rfl | (unfold xN; (repeat' split) <;> with_unfolding_all rfl))) ?_
        refine ex_s (st_icmp rfl) ?_
        by_cases c11 : (a ((a 3 4).toNatClampNeg) ((a 3 6).toNatClampNeg)) = 10
        · have e := (if_pos c11).symm.trans e
          refine ex_pc (if_pos c11) ?_
          cases e
          exact le_E (l1 := [(0, .ref 3)]) ⟨rfl, trivial⟩ rfl (k2 rfl H hS)
        · have e := (if_neg c11).symm.trans e
          refine ex_pc (if_neg c11) ?_
          refine ex_s (am_nb (m := 1) (pc1 := 40) (ls1 := [(0, .ref 3), (1, .int v1)]) (st1 := [.ref 3]) (H1 := H) (k1 := 0) (n1 := 0) (by with_unfolding_all rfl)) ?_
          refine xe_get (v := xN (a 3 8)) hS rfl rfl (by decide) rfl ?_
          by_cases c12 : (a 3 8) = -1
          · have e := (if_pos c12).symm.trans e
            rw [show xN (a 3 8) = .null from if_pos c12]
            refine ex_s (am_nb (m := 1) (pc1 := 46) (ls1 := [(0, .ref 3), (1, .int v1)]) (st1 := []) (H1 := H) (k1 := 0) (n1 := 0) (by with_unfolding_all rfl)) ?_
            cases e
            exact le_E (l1 := [(0, .ref 3)]) ⟨rfl, trivial⟩ rfl (k0 rfl H hS)
          · have e := (if_neg c12).symm.trans e
            rw [show xN (a 3 8) = .ref ((a 3 8).toNatClampNeg) from if_neg c12]
            refine ex_s (am_nb (m := 1) (pc1 := 56) (ls1 := [(0, .ref 3), (1, .int v1)]) (st1 := []) (H1 := H) (k1 := 0) (n1 := 0) (by with_unfolding_all rfl)) ?_
            refine ex_s (am_nb (m := 1) (pc1 := 57) (ls1 := [(0, .ref 3), (1, .int v1)]) (st1 := [.ref 3]) (H1 := H) (k1 := 0) (n1 := 0) (by with_unfolding_all rfl)) ?_
            obtain ⟨r16, a17, e15, e⟩ := xb2_some e
            refine ex_cv1 (as := []) (rest := []) rfl rfl rfl rfl (hS.obj rfl (by decide)) rfl (by with_unfolding_all rfl) (by with_unfolding_all rfl) (tf32_readField hS e15) (fun H13 s14 => ?_)
            refine ex_s (st_if rfl) ?_
            by_cases c18 : r16 = 0
            · have e := (if_pos c18).symm.trans e
              refine ex_pc (if_pos c18) ?_
              cases e
              exact le_E (l1 := []) trivial rfl (k1 rfl H13 s14)
            · have e := (if_neg c18).symm.trans e
              refine ex_pc (if_neg c18) ?_
              refine ex_s (am_nb (m := 1) (pc1 := 66) (ls1 := [(0, .ref 3), (1, .int v1)]) (st1 := [.ref 3]) (H1 := H13) (k1 := 0) (n1 := 0) (by with_unfolding_all rfl)) ?_
              obtain ⟨a22, e21, e⟩ := xb1_some e
              refine ex_cv0 (as := []) (rest := []) rfl rfl rfl rfl (s14.obj rfl (by decide)) rfl (by with_unfolding_all rfl) (by with_unfolding_all rfl) (tf31_passBlanks s14 e21) (fun H19 s20 => ?_)
              refine ex_s (am_nb (m := 2) (pc1 := 6) (ls1 := [(1, .int (v1 + 1)), (0, .ref 3)]) (st1 := []) (H1 := H19) (k1 := 0) (n1 := 0) (by with_unfolding_all rfl)) ?_
              exact le_E (l1 := [(0, .ref 3), (1, .int (v1 + 1))]) ⟨rfl, rfl, trivial⟩ rfl (ih (v1 + 1) a22 H19 s20 e)

set_option maxRecDepth 100000 in
theorem tj30_75 {sL : Nat} {sx : Nat → Int32} {h b N : Nat} {T : List am_C} {r : Int32} {a' : xA} {a : xA} {H : am_H} (hS : xS h b T a H) (e : j30_75 N h b a = some (r, a')) : am_E sL sx am_cs 30 75 [(0, .ref 3)] [] H (some (.int r)) (fun H1 => xS h b T a' H1) := by
  unfold j30_75 at e
  refine ex_s (am_nb (m := 1) (pc1 := 76) (ls1 := [(0, .ref 3)]) (st1 := [.ref 3]) (H1 := H) (k1 := 0) (n1 := 0) (by with_unfolding_all rfl)) ?_
  obtain ⟨r34, a35, e33, e⟩ := xb2_some e
  refine ex_cv1 (as := []) (rest := []) rfl rfl rfl rfl (hS.obj rfl (by decide)) rfl (by with_unfolding_all rfl) (by with_unfolding_all rfl) (tf27_passLineEnd hS e33) (fun H31 s32 => ?_)
  obtain ⟨g36, e⟩ := xg_some e
  cases e
  exact ex_r (st_iret rfl rfl (xnar_z g36)) s32

set_option maxRecDepth 100000 in
theorem tf30_readFields {sL : Nat} {sx : Nat → Int32} {h b N : Nat} {T : List am_C} {r : Int32} {a' : xA} {a : xA} {H : am_H} (hS : xS h b T a H) (e : f30_readFields N h b a = some (r, a')) : am_E sL sx am_cs 30 0 [(0, .ref 3)] [] H (some (.int r)) (fun H1 => xS h b T a' H1) := by
  unfold f30_readFields at e
  refine ex_s (am_nb (m := 1) (pc1 := 1) (ls1 := [(0, .ref 3)]) (st1 := [.ref 3]) (H1 := H) (k1 := 0) (n1 := 0) (by with_unfolding_all rfl)) ?_
  obtain ⟨a4, e3, e⟩ := xb1_some e
  refine ex_cv0 (as := []) (rest := []) rfl rfl rfl rfl (hS.obj rfl (by decide)) rfl (by with_unfolding_all rfl) (by with_unfolding_all rfl) (tf31_passBlanks hS e3) (fun H1 s2 => ?_)
  refine ex_s (am_nb (m := 2) (pc1 := 6) (ls1 := [(1, .int 0), (0, .ref 3)]) (st1 := []) (H1 := H1) (k1 := 0) (n1 := 0) (by with_unfolding_all rfl)) ?_
  obtain ⟨z23, e24, e⟩ := Option.bind_eq_some_iff.mp e
  refine le_E (l1 := [(0, .ref 3), (1, .int 0)]) ⟨rfl, rfl, trivial⟩ rfl (tl30_6 (z := z23)  (fun uz23_0 Hz230 sz230 => ?_) (fun uz23_1 Hz231 sz231 => ?_) (fun uz23_2 Hz232 sz232 => ?_) N 0 a4 H1 s2 e24)
  · have e := (if_pos uz23_0).symm.trans e
    refine ex_s (am_nb (m := 3) (pc1 := 49) (ls1 := [(0, .ref 3)]) (st1 := [.ref 3, .int 1, .ref 3]) (H1 := Hz230) (k1 := 0) (n1 := 0) (by with_unfolding_all rfl)) ?_
    refine xe_get (v := .int (z23.2 3 6)) sz230 rfl rfl (by decide) rfl ?_
    obtain ⟨r28, a29, e27, e⟩ := xb2_some e
    refine ex_cv1 (as := [.int 1, .int (z23.2 3 6)]) (rest := []) rfl rfl rfl rfl (sz230.obj rfl (by decide)) rfl (by with_unfolding_all rfl) (by with_unfolding_all rfl) (tf26_failed sz230 e27) (fun H25 s26 => ?_)
    obtain ⟨g30, e⟩ := xg_some e
    cases e
    exact ex_r (st_iret rfl rfl (xnar_z g30)) s26
  · have e := (if_neg (show ¬ z23.1 = 0 by rw [uz23_1]; decide)).symm.trans e
    have e := (if_pos uz23_1).symm.trans e
    refine ex_s (am_nb (m := 1) (pc1 := 64) (ls1 := []) (st1 := [.int 0]) (H1 := Hz231) (k1 := 0) (n1 := 0) (by with_unfolding_all rfl)) ?_
    cases e
    exact ex_r (st_iret rfl rfl rfl) sz231
  · have e := (if_neg (show ¬ z23.1 = 0 by rw [uz23_2]; decide)).symm.trans e
    have e := (if_neg (show ¬ z23.1 = 1 by rw [uz23_2]; decide)).symm.trans e
    exact le_E (l1 := [(0, .ref 3)]) ⟨rfl, trivial⟩ rfl (tj30_75  sz232 e)
