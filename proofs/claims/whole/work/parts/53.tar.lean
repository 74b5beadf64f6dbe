/-! The program does what the functions say. -/
set_option maxRecDepth 100000 in
theorem tl373_151 {sL : Nat} {sx : Nat → Int32} {h b N : Nat} {T : List am_C} {R : Option Value} {F : am_H → Prop} {z : Nat × xA} (k0 : z.1 = 0 → ∀ H2 : am_H, xS h b T z.2 H2 → am_E sL sx am_cs 373 290 [] [] H2 R F) : ∀ (n : Nat) (a : xA) (H : am_H), xS h b T a H → l373_151 N h b n a = some z → am_E sL sx am_cs 373 151 [(0, .ref 157)] [] H R F := by
  intro n
  induction n with
  | zero =>
    intro a H hS e
    cases e
  | succ n ih =>
    intro a H hS e
    unfold l373_151 at e
    refine ex_s (am_nb (m := 1) (pc1 := 152) (ls1 := [(0, .ref 157)]) (st1 := [.ref 157]) (H1 := H) (k1 := 0) (n1 := 0) (by with_unfolding_all rfl)) ?_
    refine xe_get (v := .int (a 157 65)) hS rfl rfl (by decide) rfl ?_
    refine ex_s (st_if rfl) ?_
    by_cases c93 : (a 157 65) ≤ 0
    · have e := (if_pos c93).symm.trans e
      refine ex_pc (if_pos c93) ?_
      cases e
      exact le_E (l1 := []) trivial rfl (k0 rfl H hS)
    · have e := (if_neg c93).symm.trans e
      refine ex_pc (if_neg c93) ?_
      refine ex_s (am_nb (m := 1) (pc1 := 159) (ls1 := [(0, .ref 157)]) (st1 := [.ref 157]) (H1 := H) (k1 := 0) (n1 := 0) (by with_unfolding_all rfl)) ?_
      refine xe_get (v := .ref 185) hS rfl rfl (by decide) rfl ?_
      refine ex_s (am_nb (m := 1) (pc1 := 163) (ls1 := [(0, .ref 157)]) (st1 := [.ref 157, .ref 185]) (H1 := H) (k1 := 0) (n1 := 0) (by with_unfolding_all rfl)) ?_
      refine xe_get (v := .int (a 157 65)) hS rfl rfl (by decide) rfl ?_
      refine ex_s (am_nb (m := 2) (pc1 := 168) (ls1 := [(0, .ref 157)]) (st1 := [.int ((a 157 65) - 1), .ref 185]) (H1 := H) (k1 := 0) (n1 := 0) (by with_unfolding_all rfl)) ?_
      obtain ⟨g94, e⟩ := xg_some e
      refine xe_bald hS rfl rfl g94 ?_
      obtain ⟨r98, a99, e97, e⟩ := xb2_some e
      refine ex_cs1 (as := [.int (a 185 (((a 157 65) - 1).toNatClampNeg))]) (rest := []) rfl (by decide) rfl rfl (by with_unfolding_all rfl) (by with_unfolding_all rfl) (tf267_isBlank hS e97) (fun H95 s96 => ?_)
      refine ex_s (st_if rfl) ?_
      by_cases c100 : r98 = 0
      · have e := (if_pos c100).symm.trans e
        refine ex_pc (if_pos c100) ?_
        refine ex_s (am_nb (m := 1) (pc1 := 176) (ls1 := [(0, .ref 157)]) (st1 := [.ref 157]) (H1 := H95) (k1 := 0) (n1 := 0) (by with_unfolding_all rfl)) ?_
        obtain ⟨a104, e103, e⟩ := xb1_some e
        refine ex_cv0 (as := []) (rest := []) rfl rfl rfl rfl (s96.obj rfl (by decide)) rfl (by with_unfolding_all rfl) (by with_unfolding_all rfl) (tf374_rub s96 e103) (fun H101 s102 => ?_)
        refine ex_s (am_nb (m := 1) (pc1 := 151) (ls1 := [(0, .ref 157)]) (st1 := []) (H1 := H101) (k1 := 0) (n1 := 0) (by with_unfolding_all rfl)) ?_
        exact le_E (l1 := [(0, .ref 157)]) ⟨rfl, trivial⟩ rfl (ih a104 H101 s102 e)
      · have e := (if_neg c100).symm.trans e
        refine ex_pc (if_neg c100) ?_
        cases e
        exact le_E (l1 := []) trivial rfl (k0 rfl H95 s96)

set_option maxRecDepth 100000 in
theorem tf373_edits {sL : Nat} {sx : Nat → Int32} {h b N : Nat} {T : List am_C} {a' : xA} {x0 : Int32} {a : xA} {H : am_H} (hS : xS h b T a H) (e : f373_edits N h b x0 a = some a') : am_E sL sx am_cs 373 0 [(0, .ref 157), (1, .int x0)] [] H none (fun H1 => xS h b T a' H1) := by
  unfold f373_edits at e
  refine ex_s (am_nb (m := 1) (pc1 := 1) (ls1 := [(0, .ref 157), (1, .int x0)]) (st1 := [.int x0]) (H1 := H) (k1 := 0) (n1 := 0) (by with_unfolding_all rfl)) ?_
  refine ex_s (st_lsw rfl) ?_
  by_cases c1 : x0 = 4
  · have e := (if_pos c1).symm.trans e
    refine ex_pc (pc1 := 269) (by rw [c1]; with_unfolding_all rfl) ?_
    refine ex_s (am_nb (m := 2) (pc1 := 271) (ls1 := [(0, .ref 157), (1, .int x0)]) (st1 := [.int 0, .ref 157]) (H1 := H) (k1 := 0) (n1 := 0) (by with_unfolding_all rfl)) ?_
    obtain ⟨a5, e4, e⟩ := xb1_some e
    refine ex_cv0 (as := [.int 0]) (rest := []) rfl rfl rfl rfl (hS.obj rfl (by decide)) rfl (by with_unfolding_all rfl) (by with_unfolding_all rfl) (tf376_ended hS e4) (fun H2 s3 => ?_)
    refine ex_s (am_nb (m := 1) (pc1 := 290) (ls1 := [(0, .ref 157), (1, .int x0)]) (st1 := []) (H1 := H2) (k1 := 0) (n1 := 0) (by with_unfolding_all rfl)) ?_
    cases e
    exact ex_r (st_vret rfl rfl) s3
  · have e := (if_neg c1).symm.trans e
    by_cases c6 : x0 = 8 ∨ x0 = 127
    · have e := (if_pos c6).symm.trans e
      refine ex_pc (pc1 := 106) (by rcases c6 with c6 | c6 <;> (rw [c6]; with_unfolding_all rfl)) ?_
      refine ex_s (am_nb (m := 1) (pc1 := 107) (ls1 := [(0, .ref 157), (1, .int x0)]) (st1 := [.ref 157]) (H1 := H) (k1 := 0) (n1 := 0) (by with_unfolding_all rfl)) ?_
      refine xe_get (v := .int (a 157 65)) hS rfl rfl (by decide) rfl ?_
      refine ex_s (st_if rfl) ?_
      by_cases c7 : (a 157 65) ≤ 0
      · have e := (if_pos c7).symm.trans e
        refine ex_pc (if_pos c7) ?_
        cases e
        exact ex_r (st_vret rfl rfl) hS
      · have e := (if_neg c7).symm.trans e
        refine ex_pc (if_neg c7) ?_
        refine ex_s (am_nb (m := 1) (pc1 := 114) (ls1 := [(0, .ref 157), (1, .int x0)]) (st1 := [.ref 157]) (H1 := H) (k1 := 0) (n1 := 0) (by with_unfolding_all rfl)) ?_
        obtain ⟨a11, e10, e⟩ := xb1_some e
        refine ex_cv0 (as := []) (rest := []) rfl rfl rfl rfl (hS.obj rfl (by decide)) rfl (by with_unfolding_all rfl) (by with_unfolding_all rfl) (tf374_rub hS e10) (fun H8 s9 => ?_)
        refine ex_s (am_nb (m := 1) (pc1 := 290) (ls1 := [(0, .ref 157), (1, .int x0)]) (st1 := []) (H1 := H8) (k1 := 0) (n1 := 0) (by with_unfolding_all rfl)) ?_
        cases e
        exact ex_r (st_vret rfl rfl) s9
    · have e := (if_neg c6).symm.trans e
      by_cases c12 : x0 = 10
      · have e := (if_pos c12).symm.trans e
        refine ex_pc (pc1 := 277) (by rw [c12]; with_unfolding_all rfl) ?_
        refine ex_s (am_nb (m := 2) (pc1 := 279) (ls1 := [(0, .ref 157), (1, .int x0)]) (st1 := [.int 1, .ref 157]) (H1 := H) (k1 := 0) (n1 := 0) (by with_unfolding_all rfl)) ?_
        obtain ⟨a16, e15, e⟩ := xb1_some e
        refine ex_cv0 (as := [.int 1]) (rest := []) rfl rfl rfl rfl (hS.obj rfl (by decide)) rfl (by with_unfolding_all rfl) (by with_unfolding_all rfl) (tf376_ended hS e15) (fun H13 s14 => ?_)
        refine ex_s (am_nb (m := 1) (pc1 := 290) (ls1 := [(0, .ref 157), (1, .int x0)]) (st1 := []) (H1 := H13) (k1 := 0) (n1 := 0) (by with_unfolding_all rfl)) ?_
        cases e
        exact ex_r (st_vret rfl rfl) s14
      · have e := (if_neg c12).symm.trans e
        by_cases c17 : x0 = 18
        · have e := (if_pos c17).symm.trans e
          refine ex_pc (pc1 := 196) (by rw [c17]; with_unfolding_all rfl) ?_
          refine ex_s (am_nb (m := 2) (pc1 := 198) (ls1 := [(0, .ref 157), (1, .int x0)]) (st1 := [.int 2, .ref 157]) (H1 := H) (k1 := 0) (n1 := 0) (by with_unfolding_all rfl)) ?_
          obtain ⟨r21, a22, e20, e⟩ := xb2_some e
          refine ex_cv1 (as := [.int 2]) (rest := []) rfl rfl rfl rfl (hS.obj rfl (by decide)) rfl (by with_unfolding_all rfl) (by with_unfolding_all rfl) (tf358_flag hS e20) (fun H18 s19 => ?_)
          refine ex_s (st_if rfl) ?_
          by_cases c23 : r21 = 0
          · have e := (if_pos c23).symm.trans e
            refine ex_pc (if_pos c23) ?_
            refine ex_s (am_nb (m := 1) (pc1 := 290) (ls1 := [(0, .ref 157), (1, .int x0)]) (st1 := []) (H1 := H18) (k1 := 0) (n1 := 0) (by with_unfolding_all rfl)) ?_
            cases e
            exact ex_r (st_vret rfl rfl) s19
          · have e := (if_neg c23).symm.trans e
            refine ex_pc (if_neg c23) ?_
            refine ex_s (am_nb (m := 2) (pc1 := 210) (ls1 := [(0, .ref 157), (1, .int x0)]) (st1 := [.int 94, .ref 157]) (H1 := H18) (k1 := 0) (n1 := 0) (by with_unfolding_all rfl)) ?_
            obtain ⟨r27, a28, e26, e⟩ := xb2_some e
            refine ex_cv1 (as := [.int 94]) (rest := []) rfl rfl rfl rfl (s19.obj rfl (by decide)) rfl (by with_unfolding_all rfl) (by with_unfolding_all rfl) (tf356_putOne s19 e26) (fun H24 s25 => ?_)
            refine ex_s (am_nb (m := 3) (pc1 := 217) (ls1 := [(0, .ref 157), (1, .int x0)]) (st1 := [.int 82, .ref 157]) (H1 := H24) (k1 := 0) (n1 := 0) (by with_unfolding_all rfl)) ?_
            obtain ⟨r32, a33, e31, e⟩ := xb2_some e
            refine ex_cv1 (as := [.int 82]) (rest := []) rfl rfl rfl rfl (s25.obj rfl (by decide)) rfl (by with_unfolding_all rfl) (by with_unfolding_all rfl) (tf356_putOne s25 e31) (fun H29 s30 => ?_)
            refine ex_s (am_nb (m := 3) (pc1 := 224) (ls1 := [(0, .ref 157), (1, .int x0)]) (st1 := [.int 10, .ref 157]) (H1 := H29) (k1 := 0) (n1 := 0) (by with_unfolding_all rfl)) ?_
            obtain ⟨r37, a38, e36, e⟩ := xb2_some e
            refine ex_cv1 (as := [.int 10]) (rest := []) rfl rfl rfl rfl (s30.obj rfl (by decide)) rfl (by with_unfolding_all rfl) (by with_unfolding_all rfl) (tf356_putOne s30 e36) (fun H34 s35 => ?_)
            refine ex_s (am_nb (m := 3) (pc1 := 230) (ls1 := [(0, .ref 157), (1, .int x0)]) (st1 := [.ref 157, .ref 157]) (H1 := H34) (k1 := 0) (n1 := 0) (by with_unfolding_all rfl)) ?_
            refine xe_get (v := .int (a38 157 59)) s35 rfl rfl (by decide) rfl ?_
            obtain ⟨a39, ha39, e⟩ := xw_some e
            refine xe_put (w := (a38 157 59)) s35 rfl rfl (by decide) rfl rfl rfl rfl (fun H40 s41 => ?_)
            have s41 : xS h b T a39 H40 := by rw [ha39]; exact s41
            refine ex_s (am_nb (m := 2) (pc1 := 238) (ls1 := [(2, .int 0), (0, .ref 157), (1, .int x0)]) (st1 := []) (H1 := H40) (k1 := 0) (n1 := 0) (by with_unfolding_all rfl)) ?_
            obtain ⟨z48, e49, e⟩ := Option.bind_eq_some_iff.mp e
            refine le_E (l1 := [(0, .ref 157), (2, .int 0)]) ⟨rfl, rfl, trivial⟩ rfl (tl373_238 (z := z48)  (fun uz48_0 Hz480 sz480 => ?_) N 0 a39 H40 s41 e49)
            refine ex_s (am_nb (m := 1) (pc1 := 290) (ls1 := []) (st1 := []) (H1 := Hz480) (k1 := 0) (n1 := 0) (by with_unfolding_all rfl)) ?_
            cases e
            exact ex_r (st_vret rfl rfl) sz480
        · have e := (if_neg c17).symm.trans e
          by_cases c50 : x0 = 21
          · have e := (if_pos c50).symm.trans e
            refine ex_pc (pc1 := 182) (by rw [c50]; with_unfolding_all rfl) ?_
            obtain ⟨z56, e57, e⟩ := Option.bind_eq_some_iff.mp e
            refine le_E (l1 := [(0, .ref 157)]) ⟨rfl, trivial⟩ rfl (tl373_182 (z := z56)  (fun uz56_0 Hz560 sz560 => ?_) N a H hS e57)
            cases e
            exact ex_r (st_vret rfl rfl) sz560
          · have e := (if_neg c50).symm.trans e
            by_cases c58 : x0 = 22
            · have e := (if_pos c58).symm.trans e
              refine ex_pc (pc1 := 76) (by rw [c58]; with_unfolding_all rfl) ?_
              refine ex_s (am_nb (m := 2) (pc1 := 78) (ls1 := [(0, .ref 157), (1, .int x0)]) (st1 := [.int 1, .ref 157]) (H1 := H) (k1 := 0) (n1 := 0) (by with_unfolding_all rfl)) ?_
              obtain ⟨a59, ha59, e⟩ := xw_some e
              refine xe_put (w := 1) hS rfl rfl (by decide) rfl rfl rfl rfl (fun H60 s61 => ?_)
              have s61 : xS h b T a59 H60 := by rw [ha59]; exact s61
              refine ex_s (am_nb (m := 2) (pc1 := 83) (ls1 := [(0, .ref 157), (1, .int x0)]) (st1 := [.int 2, .ref 157]) (H1 := H60) (k1 := 0) (n1 := 0) (by with_unfolding_all rfl)) ?_
              obtain ⟨r65, a66, e64, e⟩ := xb2_some e
              refine ex_cv1 (as := [.int 2]) (rest := []) rfl rfl rfl rfl (s61.obj rfl (by decide)) rfl (by with_unfolding_all rfl) (by with_unfolding_all rfl) (tf358_flag s61 e64) (fun H62 s63 => ?_)
              refine ex_s (st_if rfl) ?_
              by_cases c67 : r65 = 0
              · have e := (if_pos c67).symm.trans e
                refine ex_pc (if_pos c67) ?_
                cases e
                exact ex_r (st_vret rfl rfl) s63
              · have e := (if_neg c67).symm.trans e
                refine ex_pc (if_neg c67) ?_
                refine ex_s (am_nb (m := 2) (pc1 := 92) (ls1 := [(0, .ref 157), (1, .int x0)]) (st1 := [.int 94, .ref 157]) (H1 := H62) (k1 := 0) (n1 := 0) (by with_unfolding_all rfl)) ?_
                obtain ⟨r71, a72, e70, e⟩ := xb2_some e
                refine ex_cv1 (as := [.int 94]) (rest := []) rfl rfl rfl rfl (s63.obj rfl (by decide)) rfl (by with_unfolding_all rfl) (by with_unfolding_all rfl) (tf356_putOne s63 e70) (fun H68 s69 => ?_)
                refine ex_s (am_nb (m := 3) (pc1 := 99) (ls1 := [(0, .ref 157), (1, .int x0)]) (st1 := [.int 8, .ref 157]) (H1 := H68) (k1 := 0) (n1 := 0) (by with_unfolding_all rfl)) ?_
                obtain ⟨r76, a77, e75, e⟩ := xb2_some e
                refine ex_cv1 (as := [.int 8]) (rest := []) rfl rfl rfl rfl (s69.obj rfl (by decide)) rfl (by with_unfolding_all rfl) (by with_unfolding_all rfl) (tf356_putOne s69 e75) (fun H73 s74 => ?_)
                refine ex_s (am_nb (m := 2) (pc1 := 290) (ls1 := [(0, .ref 157), (1, .int x0)]) (st1 := []) (H1 := H73) (k1 := 0) (n1 := 0) (by with_unfolding_all rfl)) ?_
                cases e
                exact ex_r (st_vret rfl rfl) s74
            · have e := (if_neg c58).symm.trans e
              by_cases c78 : x0 = 23
              · have e := (if_pos c78).symm.trans e
                refine ex_pc (pc1 := 120) (by rw [c78]; with_unfolding_all rfl) ?_
                obtain ⟨z91, e92, e⟩ := Option.bind_eq_some_iff.mp e
                refine le_E (l1 := [(0, .ref 157)]) ⟨rfl, trivial⟩ rfl (tl373_120 (z := z91)  (fun uz91_0 Hz910 sz910 => ?_) N a H hS e92)
                obtain ⟨z105, e106, e⟩ := Option.bind_eq_some_iff.mp e
                refine le_E (l1 := [(0, .ref 157)]) ⟨rfl, trivial⟩ rfl (tl373_151 (z := z105)  (fun uz105_0 Hz1050 sz1050 => ?_) N z91.2 Hz910 sz910 e106)
                cases e
                exact ex_r (st_vret rfl rfl) sz1050
              · have e := (if_neg c78).symm.trans e
                refine ex_pc (pc1 := 285) (am_sw_n (sw_c (Or.inl c1) (sw_c (Or.inl (fun q => c6 (Or.inl q))) (sw_c (Or.inl c12) (sw_c (Or.inl c17) (sw_c (Or.inl c50) (sw_c (Or.inl c58) (sw_c (Or.inl c78) (sw_c (Or.inl (fun q => c6 (Or.inr q))) sw_o))))))))) ?_
                refine ex_s (am_nb (m := 2) (pc1 := 287) (ls1 := [(0, .ref 157), (1, .int x0)]) (st1 := [.int x0, .ref 157]) (H1 := H) (k1 := 0) (n1 := 0) (by with_unfolding_all rfl)) ?_
                obtain ⟨a110, e109, e⟩ := xb1_some e
                refine ex_cv0 (as := [.int x0]) (rest := []) rfl rfl rfl rfl (hS.obj rfl (by decide)) rfl (by with_unfolding_all rfl) (by with_unfolding_all rfl) (tf369_taken hS e109) (fun H107 s108 => ?_)
                cases e
                exact ex_r (st_vret rfl rfl) s108

set_option maxRecDepth 100000 in
theorem tj368_105 {sL : Nat} {sx : Nat → Int32} {h b N : Nat} {T : List am_C} {a' : xA} {q2 : Int32} {a : xA} {H : am_H} (hS : xS h b T a H) (e : j368_105 N h b q2 a = some a') : am_E sL sx am_cs 368 105 [(0, .ref 157), (2, .int q2)] [] H none (fun H1 => xS h b T a' H1) := by
  unfold j368_105 at e
  refine ex_s (am_nb (m := 2) (pc1 := 107) (ls1 := [(0, .ref 157), (2, .int q2)]) (st1 := [.int 1, .ref 157]) (H1 := H) (k1 := 0) (n1 := 0) (by with_unfolding_all rfl)) ?_
  obtain ⟨r33, a34, e32, e⟩ := xb2_some e
  refine ex_cv1 (as := [.int 1]) (rest := []) rfl rfl rfl rfl (hS.obj rfl (by decide)) rfl (by with_unfolding_all rfl) (by with_unfolding_all rfl) (tf358_flag hS e32) (fun H30 s31 => ?_)
  refine ex_s (st_if rfl) ?_
  by_cases c36 : r33 = 0
  · have e := (if_pos c36).symm.trans e
    refine ex_pc (if_pos c36) ?_
    refine ex_s (am_nb (m := 2) (pc1 := 115) (ls1 := [(0, .ref 157), (2, .int q2)]) (st1 := [.int q2, .ref 157]) (H1 := H30) (k1 := 0) (n1 := 0) (by with_unfolding_all rfl)) ?_
    obtain ⟨a40, e39, e⟩ := xb1_some e
    refine ex_cv0 (as := [.int q2]) (rest := []) rfl rfl rfl rfl (s31.obj rfl (by decide)) rfl (by with_unfolding_all rfl) (by with_unfolding_all rfl) (tf369_taken s31 e39) (fun H37 s38 => ?_)
    refine ex_s (am_nb (m := 1) (pc1 := 126) (ls1 := [(0, .ref 157), (2, .int q2)]) (st1 := []) (H1 := H37) (k1 := 0) (n1 := 0) (by with_unfolding_all rfl)) ?_
    cases e
    exact ex_r (st_vret rfl rfl) s38
  · have e := (if_neg c36).symm.trans e
    refine ex_pc (if_neg c36) ?_
    refine ex_s (am_nb (m := 2) (pc1 := 123) (ls1 := [(0, .ref 157), (2, .int q2)]) (st1 := [.int q2, .ref 157]) (H1 := H30) (k1 := 0) (n1 := 0) (by with_unfolding_all rfl)) ?_
    obtain ⟨a44, e43, e⟩ := xb1_some e
    refine ex_cv0 (as := [.int q2]) (rest := []) rfl rfl rfl rfl (s31.obj rfl (by decide)) rfl (by with_unfolding_all rfl) (by with_unfolding_all rfl) (tf373_edits s31 e43) (fun H41 s42 => ?_)
    cases e
    exact ex_r (st_vret rfl rfl) s42

set_option maxRecDepth 100000 in
theorem tj368_64 {sL : Nat} {sx : Nat → Int32} {h b N : Nat} {T : List am_C} {a' : xA} {q2 : Int32} {a : xA} {H : am_H} (hS : xS h b T a H) (e : j368_64 N h b q2 a = some a') : am_E sL sx am_cs 368 64 [(0, .ref 157), (2, .int q2)] [] H none (fun H1 => xS h b T a' H1) := by
  unfold j368_64 at e
  refine ex_s (am_nb (m := 1) (pc1 := 65) (ls1 := [(0, .ref 157), (2, .int q2)]) (st1 := [.ref 157]) (H1 := H) (k1 := 0) (n1 := 0) (by with_unfolding_all rfl)) ?_
  refine xe_get (v := .int (a 157 63)) hS rfl rfl (by decide) rfl ?_
  refine ex_s (st_if rfl) ?_
  by_cases c21 : (a 157 63) = 0
  · have e := (if_pos c21).symm.trans e
    refine ex_pc (if_pos c21) ?_
    refine ex_s (am_nb (m := 2) (pc1 := 87) (ls1 := [(0, .ref 157), (2, .int q2)]) (st1 := [.int 32, .ref 157]) (H1 := H) (k1 := 0) (n1 := 0) (by with_unfolding_all rfl)) ?_
    obtain ⟨r25, a26, e24, e⟩ := xb2_some e
    refine ex_cv1 (as := [.int 32]) (rest := []) rfl rfl rfl rfl (hS.obj rfl (by decide)) rfl (by with_unfolding_all rfl) (by with_unfolding_all rfl) (tf358_flag hS e24) (fun H22 s23 => ?_)
    refine ex_s (st_if rfl) ?_
    by_cases c29 : r25 = 0
    · have e := (if_pos c29).symm.trans e
      refine ex_pc (if_pos c29) ?_
      exact le_E (l1 := [(0, .ref 157), (2, .int q2)]) ⟨rfl, rfl, trivial⟩ rfl (tj368_105  s23 e)
    · have e := (if_neg c29).symm.trans e
      refine ex_pc (if_neg c29) ?_
      refine ex_s (am_nb (m := 2) (pc1 := 95) (ls1 := [(0, .ref 157), (2, .int q2)]) (st1 := [.int 3, .int q2]) (H1 := H22) (k1 := 0) (n1 := 0) (by with_unfolding_all rfl)) ?_
      refine ex_s (st_icmp rfl) ?_
      by_cases c46 : q2 = 3
      · have e := (if_pos c46).symm.trans e
        refine ex_pc (if_pos c46) ?_
        refine ex_s (am_nb (m := 1) (pc1 := 99) (ls1 := [(0, .ref 157), (2, .int q2)]) (st1 := [.ref 157]) (H1 := H22) (k1 := 0) (n1 := 0) (by with_unfolding_all rfl)) ?_
        obtain ⟨a50, e49, e⟩ := xb1_some e
        refine ex_cv0 (as := []) (rest := []) rfl rfl rfl rfl (s23.obj rfl (by decide)) rfl (by with_unfolding_all rfl) (by with_unfolding_all rfl) (tf372_signal s23 e49) (fun H47 s48 => ?_)
        refine ex_s (am_nb (m := 1) (pc1 := 126) (ls1 := [(0, .ref 157), (2, .int q2)]) (st1 := []) (H1 := H47) (k1 := 0) (n1 := 0) (by with_unfolding_all rfl)) ?_
        cases e
        exact ex_r (st_vret rfl rfl) s48
      · have e := (if_neg c46).symm.trans e
        refine ex_pc (if_neg c46) ?_
        exact le_E (l1 := [(0, .ref 157), (2, .int q2)]) ⟨rfl, rfl, trivial⟩ rfl (tj368_105  s23 e)
  · have e := (if_neg c21).symm.trans e
    refine ex_pc (if_neg c21) ?_
    refine ex_s (am_nb (m := 2) (pc1 := 73) (ls1 := [(0, .ref 157), (2, .int q2)]) (st1 := [.int 0, .ref 157]) (H1 := H) (k1 := 0) (n1 := 0) (by with_unfolding_all rfl)) ?_
    obtain ⟨a51, ha51, e⟩ := xw_some e
    refine xe_put (w := 0) hS rfl rfl (by decide) rfl rfl rfl rfl (fun H52 s53 => ?_)
    have s53 : xS h b T a51 H52 := by rw [ha51]; exact s53
    refine ex_s (am_nb (m := 2) (pc1 := 78) (ls1 := [(0, .ref 157), (2, .int q2)]) (st1 := [.int q2, .ref 157]) (H1 := H52) (k1 := 0) (n1 := 0) (by with_unfolding_all rfl)) ?_
    obtain ⟨a57, e56, e⟩ := xb1_some e
    refine ex_cv0 (as := [.int q2]) (rest := []) rfl rfl rfl rfl (s53.obj rfl (by decide)) rfl (by with_unfolding_all rfl) (by with_unfolding_all rfl) (tf369_taken s53 e56) (fun H54 s55 => ?_)
    refine ex_s (am_nb (m := 1) (pc1 := 126) (ls1 := [(0, .ref 157), (2, .int q2)]) (st1 := []) (H1 := H54) (k1 := 0) (n1 := 0) (by with_unfolding_all rfl)) ?_
    cases e
    exact ex_r (st_vret rfl rfl) s55

set_option maxRecDepth 100000 in
theorem tj368_48 {sL : Nat} {sx : Nat → Int32} {h b N : Nat} {T : List am_C} {a' : xA} {q2 : Int32} {a : xA} {H : am_H} (hS : xS h b T a H) (e : j368_48 N h b q2 a = some a') : am_E sL sx am_cs 368 48 [(0, .ref 157), (2, .int q2)] [] H none (fun H1 => xS h b T a' H1) := by
  unfold j368_48 at e
  refine ex_s (am_nb (m := 3) (pc1 := 52) (ls1 := [(0, .ref 157), (2, .int q2)]) (st1 := [.int 19, .int q2, .ref 157]) (H1 := H) (k1 := 0) (n1 := 0) (by with_unfolding_all rfl)) ?_
  have kk : am_E sL sx am_cs 368 60 [(0, .ref 157), (2, .int q2)] [.int (if q2 = 19 then (1 : Int32) else (0 : Int32)), .ref 157] H none (fun H1 => xS h b T a' H1) := by
    obtain ⟨a63, ha63, e⟩ := xw_some e
    refine xe_put (w := (if q2 = 19 then (1 : Int32) else (0 : Int32))) hS rfl rfl (by decide) rfl rfl rfl rfl (fun H64 s65 => ?_)
    have s65 : xS h b T a63 H64 := by rw [ha63]; exact s65
    cases e
    exact ex_r (st_vret rfl rfl) s65
  refine ex_s (st_icmp rfl) ?_
  by_cases c62 : q2 = 19
  · refine ex_pc (if_pos c62) ?_
    refine ex_s (am_nb (m := 2) (pc1 := 60) (ls1 := [(0, .ref 157), (2, .int q2)]) (st1 := [.int 1, .ref 157]) (H1 := H) (k1 := 0) (n1 := 0) (by with_unfolding_all rfl)) ?_
    rw [if_pos c62] at kk
    exact kk
  · refine ex_pc (if_neg c62) ?_
    refine ex_s (am_nb (m := 1) (pc1 := 60) (ls1 := [(0, .ref 157), (2, .int q2)]) (st1 := [.int 0, .ref 157]) (H1 := H) (k1 := 0) (n1 := 0) (by with_unfolding_all rfl)) ?_
    rw [if_neg c62] at kk
    exact kk

set_option maxRecDepth 100000 in
theorem tj368_27 {sL : Nat} {sx : Nat → Int32} {h b N : Nat} {T : List am_C} {a' : xA} {q2 : Int32} {a : xA} {H : am_H} (hS : xS h b T a H) (e : j368_27 N h b q2 a = some a') : am_E sL sx am_cs 368 27 [(0, .ref 157), (2, .int q2)] [] H none (fun H1 => xS h b T a' H1) := by
  unfold j368_27 at e
  refine ex_s (am_nb (m := 2) (pc1 := 30) (ls1 := [(0, .ref 157), (2, .int q2)]) (st1 := [.int 64, .ref 157]) (H1 := H) (k1 := 0) (n1 := 0) (by with_unfolding_all rfl)) ?_
  obtain ⟨r14, a15, e13, e⟩ := xb2_some e
  refine ex_cv1 (as := [.int 64]) (rest := []) rfl rfl rfl rfl (hS.obj rfl (by decide)) rfl (by with_unfolding_all rfl) (by with_unfolding_all rfl) (tf358_flag hS e13) (fun H11 s12 => ?_)
  refine ex_s (st_if rfl) ?_
  by_cases c19 : r14 = 0
  · have e := (if_pos c19).symm.trans e
    refine ex_pc (if_pos c19) ?_
    exact le_E (l1 := [(0, .ref 157), (2, .int q2)]) ⟨rfl, rfl, trivial⟩ rfl (tj368_64  s12 e)
  · have e := (if_neg c19).symm.trans e
    refine ex_pc (if_neg c19) ?_
    refine ex_s (am_nb (m := 2) (pc1 := 39) (ls1 := [(0, .ref 157), (2, .int q2)]) (st1 := [.int 19, .int q2]) (H1 := H11) (k1 := 0) (n1 := 0) (by with_unfolding_all rfl)) ?_
    refine ex_s (st_icmp rfl) ?_
    by_cases c61 : q2 = 19
    · have e := (if_pos c61).symm.trans e
      refine ex_pc (if_pos c61) ?_
      exact le_E (l1 := [(0, .ref 157), (2, .int q2)]) ⟨rfl, rfl, trivial⟩ rfl (tj368_48  s12 e)
    · have e := (if_neg c61).symm.trans e
      refine ex_pc (if_neg c61) ?_
      refine ex_s (am_nb (m := 2) (pc1 := 45) (ls1 := [(0, .ref 157), (2, .int q2)]) (st1 := [.int 17, .int q2]) (H1 := H11) (k1 := 0) (n1 := 0) (by with_unfolding_all rfl)) ?_
      refine ex_s (st_icmp rfl) ?_
      by_cases c66 : q2 = 17
      · have e := (if_pos c66).symm.trans e
        refine ex_pc (if_pos c66) ?_
        exact le_E (l1 := [(0, .ref 157), (2, .int q2)]) ⟨rfl, rfl, trivial⟩ rfl (tj368_48  s12 e)
      · have e := (if_neg c66).symm.trans e
        refine ex_pc (if_neg c66) ?_
        exact le_E (l1 := [(0, .ref 157), (2, .int q2)]) ⟨rfl, rfl, trivial⟩ rfl (tj368_64  s12 e)

set_option maxRecDepth 100000 in
theorem tf368_comes {sL : Nat} {sx : Nat → Int32} {h b N : Nat} {T : List am_C} {a' : xA} {x0 : Int32} {a : xA} {H : am_H} (hS : xS h b T a H) (e : f368_comes N h b x0 a = some a') : am_E sL sx am_cs 368 0 [(0, .ref 157), (1, .int x0)] [] H none (fun H1 => xS h b T a' H1) := by
  unfold f368_comes at e
  refine ex_s (am_nb (m := 4) (pc1 := 5) (ls1 := [(2, .int x0), (0, .ref 157), (1, .int x0)]) (st1 := [.int 13, .int x0]) (H1 := H) (k1 := 0) (n1 := 0) (by with_unfolding_all rfl)) ?_
  refine ex_s (st_icmp rfl) ?_
  by_cases c2 : x0 = 13
  · have e := (if_pos c2).symm.trans e
    refine ex_pc (if_pos c2) ?_
    refine ex_s (am_nb (m := 2) (pc1 := 11) (ls1 := [(2, .int x0), (0, .ref 157), (1, .int x0)]) (st1 := [.int 8, .ref 157]) (H1 := H) (k1 := 0) (n1 := 0) (by with_unfolding_all rfl)) ?_
    obtain ⟨r6, a7, e5, e⟩ := xb2_some e
    refine ex_cv1 (as := [.int 8]) (rest := []) rfl rfl rfl rfl (hS.obj rfl (by decide)) rfl (by with_unfolding_all rfl) (by with_unfolding_all rfl) (tf358_flag hS e5) (fun H3 s4 => ?_)
    refine ex_s (st_if rfl) ?_
    by_cases c10 : r6 = 0
    · have e := (if_pos c10).symm.trans e
      refine ex_pc (if_pos c10) ?_
      exact le_E (l1 := [(0, .ref 157), (2, .int x0)]) ⟨rfl, rfl, trivial⟩ rfl (tj368_27  s4 e)
    · have e := (if_neg c10).symm.trans e
      refine ex_pc (if_neg c10) ?_
      refine ex_s (am_nb (m := 1) (pc1 := 18) (ls1 := [(2, .int x0), (0, .ref 157), (1, .int x0)]) (st1 := [.ref 157]) (H1 := H3) (k1 := 0) (n1 := 0) (by with_unfolding_all rfl)) ?_
      refine xe_get (v := .int (a7 157 63)) s4 rfl rfl (by decide) rfl ?_
      refine ex_s (st_if rfl) ?_
      by_cases c68 : (a7 157 63) = 0
      · have e := (if_pos c68).symm.trans e
        refine ex_pc (if_pos c68) ?_
        refine ex_s (am_nb (m := 2) (pc1 := 27) (ls1 := [(2, .int 10), (0, .ref 157), (1, .int x0)]) (st1 := []) (H1 := H3) (k1 := 0) (n1 := 0) (by with_unfolding_all rfl)) ?_
        exact le_E (l1 := [(0, .ref 157), (2, .int 10)]) ⟨rfl, rfl, trivial⟩ rfl (tj368_27  s4 e)
      · have e := (if_neg c68).symm.trans e
        refine ex_pc (if_neg c68) ?_
        exact le_E (l1 := [(0, .ref 157), (2, .int x0)]) ⟨rfl, rfl, trivial⟩ rfl (tj368_27  s4 e)
  · have e := (if_neg c2).symm.trans e
    refine ex_pc (if_neg c2) ?_
    exact le_E (l1 := [(0, .ref 157), (2, .int x0)]) ⟨rfl, rfl, trivial⟩ rfl (tj368_27  hS e)

set_option maxRecDepth 100000 in
theorem tj378_10 {sL : Nat} {sx : Nat → Int32} {h b N : Nat} {T : List am_C} {r : Int32} {a' : xA} {q0 : Int32} {a : xA} {H : am_H} (hS : xS h b T a H) (e : j378_10 N h b q0 a = some (r, a')) : am_E sL sx am_cs 378 10 [(0, .int q0)] [] H (some (.int r)) (fun H1 => xS h b T a' H1) := by
  unfold j378_10 at e
  refine ex_s (am_nb (m := 2) (pc1 := 13) (ls1 := [(0, .int q0)]) (st1 := [.int 32, .int q0]) (H1 := H) (k1 := 0) (n1 := 0) (by with_unfolding_all rfl)) ?_
  refine ex_s (st_icmp rfl) ?_
  by_cases c6 : q0 < 32
  · have e := (if_pos c6).symm.trans e
    refine ex_pc (if_pos c6) ?_
    refine ex_s (am_nb (m := 1) (pc1 := 27) (ls1 := [(0, .int q0)]) (st1 := [.int 0]) (H1 := H) (k1 := 0) (n1 := 0) (by with_unfolding_all rfl)) ?_
    cases e
    exact ex_r (st_iret rfl rfl rfl) hS
  · have e := (if_neg c6).symm.trans e
    refine ex_pc (if_neg c6) ?_
    refine ex_s (am_nb (m := 2) (pc1 := 19) (ls1 := [(0, .int q0)]) (st1 := [.int 126, .int q0]) (H1 := H) (k1 := 0) (n1 := 0) (by with_unfolding_all rfl)) ?_
    have kk : am_E sL sx am_cs 378 27 [(0, .int q0)] [.int (if 126 < q0 then (0 : Int32) else (1 : Int32))] H (some (.int r)) (fun H1 => xS h b T a' H1) := by
      obtain ⟨g8, e⟩ := xg_some e
      cases e
      exact ex_r (st_iret rfl rfl (xnar_z g8)) hS
    refine ex_s (st_icmp rfl) ?_
    by_cases c7 : 126 < q0
    · refine ex_pc (if_pos c7) ?_
      refine ex_s (am_nb (m := 1) (pc1 := 27) (ls1 := [(0, .int q0)]) (st1 := [.int 0]) (H1 := H) (k1 := 0) (n1 := 0) (by with_unfolding_all rfl)) ?_
      rw [if_pos c7] at kk
      exact kk
    · refine ex_pc (if_neg c7) ?_
      refine ex_s (am_nb (m := 2) (pc1 := 27) (ls1 := [(0, .int q0)]) (st1 := [.int 1]) (H1 := H) (k1 := 0) (n1 := 0) (by with_unfolding_all rfl)) ?_
      rw [if_neg c7] at kk
      exact kk

set_option maxRecDepth 100000 in
theorem tj378_22 {sL : Nat} {sx : Nat → Int32} {h b N : Nat} {T : List am_C} {r : Int32} {a' : xA} {a : xA} {H : am_H} (hS : xS h b T a H) (e : j378_22 N h b a = some (r, a')) : am_E sL sx am_cs 378 22 [] [] H (some (.int r)) (fun H1 => xS h b T a' H1) := by
  unfold j378_22 at e
  refine ex_s (am_nb (m := 2) (pc1 := 27) (ls1 := []) (st1 := [.int 1]) (H1 := H) (k1 := 0) (n1 := 0) (by with_unfolding_all rfl)) ?_
  cases e
  exact ex_r (st_iret rfl rfl rfl) hS

set_option maxRecDepth 100000 in
theorem tf378_isKey {sL : Nat} {sx : Nat → Int32} {h b N : Nat} {T : List am_C} {r : Int32} {a' : xA} {x0 : Int32} {a : xA} {H : am_H} (hS : xS h b T a H) (e : f378_isKey N h b x0 a = some (r, a')) : am_E sL sx am_cs 378 0 [(0, .int x0)] [] H (some (.int r)) (fun H1 => xS h b T a' H1) := by
  unfold f378_isKey at e
  refine ex_s (am_nb (m := 1) (pc1 := 1) (ls1 := [(0, .int x0)]) (st1 := [.int x0]) (H1 := H) (k1 := 0) (n1 := 0) (by with_unfolding_all rfl)) ?_
  refine ex_s (st_if rfl) ?_
  by_cases c3 : x0 < 0
  · have e := (if_pos c3).symm.trans e
    refine ex_pc (if_pos c3) ?_
    exact le_E (l1 := [(0, .int x0)]) ⟨rfl, trivial⟩ rfl (tj378_10  hS e)
  · have e := (if_neg c3).symm.trans e
    refine ex_pc (if_neg c3) ?_
    refine ex_s (am_nb (m := 2) (pc1 := 7) (ls1 := [(0, .int x0)]) (st1 := [.int 28, .int x0]) (H1 := H) (k1 := 0) (n1 := 0) (by with_unfolding_all rfl)) ?_
    refine ex_s (st_icmp rfl) ?_
    by_cases c11 : x0 ≤ 28
    · have e := (if_pos c11).symm.trans e
      refine ex_pc (if_pos c11) ?_
      exact le_E (l1 := []) trivial rfl (tj378_22  hS e)
    · have e := (if_neg c11).symm.trans e
      refine ex_pc (if_neg c11) ?_
      exact le_E (l1 := [(0, .int x0)]) ⟨rfl, trivial⟩ rfl (tj378_10  hS e)

set_option maxRecDepth 100000 in
theorem tf380_replies {sL : Nat} {sx : Nat → Int32} {h b N : Nat} {T : List am_C} {a' : xA} {x0 : Int32} {a : xA} {H : am_H} (hS : xS h b T a H) (e : f380_replies N h b x0 a = some a') : am_E sL sx am_cs 380 0 [(0, .ref 157), (1, .int x0)] [] H none (fun H1 => xS h b T a' H1) := by
  unfold f380_replies at e
  refine ex_s (am_nb (m := 1) (pc1 := 1) (ls1 := [(0, .ref 157), (1, .int x0)]) (st1 := [.ref 157]) (H1 := H) (k1 := 0) (n1 := 0) (by with_unfolding_all rfl)) ?_
  refine xe_get (v := .ref 189) hS rfl rfl (by decide) rfl ?_
  refine ex_s (am_nb (m := 1) (pc1 := 5) (ls1 := [(0, .ref 157), (1, .int x0)]) (st1 := [.ref 157, .ref 189]) (H1 := H) (k1 := 0) (n1 := 0) (by with_unfolding_all rfl)) ?_
  refine xe_get (v := .int (a 157 89)) hS rfl rfl (by decide) rfl ?_
  refine ex_s (am_nb (m := 1) (pc1 := 9) (ls1 := [(0, .ref 157), (1, .int x0)]) (st1 := [.int x0, .int (a 157 89), .ref 189]) (H1 := H) (k1 := 0) (n1 := 0) (by with_unfolding_all rfl)) ?_
  obtain ⟨g4, e⟩ := xg_some e
  obtain ⟨a1, ha1, e⟩ := xw_some e
  refine xe_iast hS rfl rfl g4 (fun H2 s3 => ?_)
  have s3 : xS h b T a1 H2 := by rw [ha1]; exact s3
  refine ex_s (am_nb (m := 2) (pc1 := 12) (ls1 := [(0, .ref 157), (1, .int x0)]) (st1 := [.ref 157, .ref 157]) (H1 := H2) (k1 := 0) (n1 := 0) (by with_unfolding_all rfl)) ?_
  refine xe_get (v := .int (a1 157 89)) s3 rfl rfl (by decide) rfl ?_
  refine ex_s (am_nb (m := 2) (pc1 := 17) (ls1 := [(0, .ref 157), (1, .int x0)]) (st1 := [.int ((a1 157 89) + 1), .ref 157]) (H1 := H2) (k1 := 0) (n1 := 0) (by with_unfolding_all rfl)) ?_
  obtain ⟨a5, ha5, e⟩ := xw_some e
  refine xe_put (w := ((a1 157 89) + 1)) s3 rfl rfl (by decide) rfl rfl rfl rfl (fun H6 s7 => ?_)
  have s7 : xS h b T a5 H6 := by rw [ha5]; exact s7
  cases e
  exact ex_r (st_vret rfl rfl) s7

set_option maxRecDepth 100000 in
theorem tl381_22 {sL : Nat} {sx : Nat → Int32} {h b N : Nat} {T : List am_C} {R : Option Value} {F : am_H → Prop} {w1 : Int32} {z : Nat × xA} (k0 : z.1 = 0 → ∀ H2 : am_H, xS h b T z.2 H2 → am_E sL sx am_cs 381 66 [(0, .ref 157), (1, .int w1)] [] H2 R F) : ∀ (n : Nat) (v2 : Int32) (a : xA) (H : am_H), xS h b T a H → l381_22 N h b w1 n v2 a = some z → am_E sL sx am_cs 381 22 [(0, .ref 157), (1, .int w1), (2, .int v2)] [] H R F := by
  intro n
  induction n with
  | zero =>
    intro v2 a H hS e
    cases e
  | succ n ih =>
    intro v2 a H hS e
    unfold l381_22 at e
    refine ex_s (am_nb (m := 2) (pc1 := 24) (ls1 := [(0, .ref 157), (1, .int w1), (2, .int v2)]) (st1 := [.ref 157, .int v2]) (H1 := H) (k1 := 0) (n1 := 0) (by with_unfolding_all rfl)) ?_
    refine xe_get (v := .int (a 157 89)) hS rfl rfl (by decide) rfl ?_
    refine ex_s (st_icmp rfl) ?_
    by_cases c4 : (a 157 89) ≤ v2
    · have e := (if_pos c4).symm.trans e
      refine ex_pc (if_pos c4) ?_
      cases e
      exact le_E (l1 := [(0, .ref 157), (1, .int w1)]) ⟨rfl, rfl, trivial⟩ rfl (k0 rfl H hS)
    · have e := (if_neg c4).symm.trans e
      refine ex_pc (if_neg c4) ?_
      refine ex_s (am_nb (m := 1) (pc1 := 31) (ls1 := [(0, .ref 157), (1, .int w1), (2, .int v2)]) (st1 := [.int w1]) (H1 := H) (k1 := 0) (n1 := 0) (by with_unfolding_all rfl)) ?_
      refine ex_s (st_if rfl) ?_
      by_cases c5 : w1 = 0
      · have e := (if_pos c5).symm.trans e
        refine ex_pc (if_pos c5) ?_
        cases e
        exact le_E (l1 := [(0, .ref 157), (1, .int w1)]) ⟨rfl, rfl, trivial⟩ rfl (k0 rfl H hS)
      · have e := (if_neg c5).symm.trans e
        refine ex_pc (if_neg c5) ?_
        refine ex_s (am_nb (m := 1) (pc1 := 35) (ls1 := [(0, .ref 157), (1, .int w1), (2, .int v2)]) (st1 := [.ref 157]) (H1 := H) (k1 := 0) (n1 := 0) (by with_unfolding_all rfl)) ?_
        refine xe_get (v := .ref 188) hS rfl rfl (by decide) rfl ?_
        refine ex_s (am_nb (m := 1) (pc1 := 39) (ls1 := [(0, .ref 157), (1, .int w1), (2, .int v2)]) (st1 := [.ref 157, .ref 188]) (H1 := H) (k1 := 0) (n1 := 0) (by with_unfolding_all rfl)) ?_
        refine xe_get (v := .int (a 157 87)) hS rfl rfl (by decide) rfl ?_
        refine ex_s (am_nb (m := 1) (pc1 := 43) (ls1 := [(0, .ref 157), (1, .int w1), (2, .int v2)]) (st1 := [.ref 157, .int (a 157 87), .ref 188]) (H1 := H) (k1 := 0) (n1 := 0) (by with_unfolding_all rfl)) ?_
        refine xe_get (v := .ref 189) hS rfl rfl (by decide) rfl ?_
        refine ex_s (am_nb (m := 1) (pc1 := 47) (ls1 := [(0, .ref 157), (1, .int w1), (2, .int v2)]) (st1 := [.int v2, .ref 189, .int (a 157 87), .ref 188]) (H1 := H) (k1 := 0) (n1 := 0) (by with_unfolding_all rfl)) ?_
        obtain ⟨g6, e⟩ := xg_some e
        refine xe_iald hS rfl rfl g6 ?_
        refine ex_s (am_nb (m := 1) (pc1 := 49) (ls1 := [(0, .ref 157), (1, .int w1), (2, .int v2)]) (st1 := [.int ((a 189 (v2.toNatClampNeg)).toInt8.toInt32), .int (a 157 87), .ref 188]) (H1 := H) (k1 := 0) (n1 := 0) (by with_unfolding_all rfl)) ?_
        obtain ⟨g10, e⟩ := xg_some e
        obtain ⟨a7, ha7, e⟩ := xw_some e
        refine xe_bast hS rfl rfl g10 (fun H8 s9 => ?_)
        have s9 : xS h b T a7 H8 := by rw [ha7]; exact s9
        refine ex_s (am_nb (m := 2) (pc1 := 52) (ls1 := [(0, .ref 157), (1, .int w1), (2, .int v2)]) (st1 := [.ref 157, .ref 157]) (H1 := H8) (k1 := 0) (n1 := 0) (by with_unfolding_all rfl)) ?_
        refine xe_get (v := .int (a7 157 87)) s9 rfl rfl (by decide) rfl ?_
        refine ex_s (am_nb (m := 2) (pc1 := 57) (ls1 := [(0, .ref 157), (1, .int w1), (2, .int v2)]) (st1 := [.int ((a7 157 87) + 1), .ref 157]) (H1 := H8) (k1 := 0) (n1 := 0) (by with_unfolding_all rfl)) ?_
        obtain ⟨a11, ha11, e⟩ := xw_some e
        refine xe_put (w := ((a7 157 87) + 1)) s9 rfl rfl (by decide) rfl rfl rfl rfl (fun H12 s13 => ?_)
        have s13 : xS h b T a11 H12 := by rw [ha11]; exact s13
        refine ex_s (am_nb (m := 2) (pc1 := 22) (ls1 := [(2, .int (v2 + 1)), (0, .ref 157), (1, .int w1)]) (st1 := []) (H1 := H12) (k1 := 0) (n1 := 0) (by with_unfolding_all rfl)) ?_
        exact le_E (l1 := [(0, .ref 157), (1, .int w1), (2, .int (v2 + 1))]) ⟨rfl, rfl, rfl, trivial⟩ rfl (ih (v2 + 1) a11 H12 s13 e)

set_option maxRecDepth 100000 in
theorem tj381_66 {sL : Nat} {sx : Nat → Int32} {h b N : Nat} {T : List am_C} {r : Int32} {a' : xA} {q1 : Int32} {a : xA} {H : am_H} (hS : xS h b T a H) (e : j381_66 N h b q1 a = some (r, a')) : am_E sL sx am_cs 381 66 [(0, .ref 157), (1, .int q1)] [] H (some (.int r)) (fun H1 => xS h b T a' H1) := by
  unfold j381_66 at e
  refine ex_s (am_nb (m := 2) (pc1 := 68) (ls1 := [(0, .ref 157), (1, .int q1)]) (st1 := [.int 0, .ref 157]) (H1 := H) (k1 := 0) (n1 := 0) (by with_unfolding_all rfl)) ?_
  obtain ⟨a16, ha16, e⟩ := xw_some e
  refine xe_put (w := 0) hS rfl rfl (by decide) rfl rfl rfl rfl (fun H17 s18 => ?_)
  have s18 : xS h b T a16 H17 := by rw [ha16]; exact s18
  refine ex_s (am_nb (m := 1) (pc1 := 72) (ls1 := [(0, .ref 157), (1, .int q1)]) (st1 := [.int q1]) (H1 := H17) (k1 := 0) (n1 := 0) (by with_unfolding_all rfl)) ?_
  obtain ⟨g19, e⟩ := xg_some e
  cases e
  exact ex_r (st_iret rfl rfl (xnar_z g19)) s18

set_option maxRecDepth 100000 in
theorem tf381_answer {sL : Nat} {sx : Nat → Int32} {h b N : Nat} {T : List am_C} {r : Int32} {a' : xA} {a : xA} {H : am_H} (hS : xS h b T a H) (e : f381_answer N h b a = some (r, a')) : am_E sL sx am_cs 381 0 [(0, .ref 157)] [] H (some (.int r)) (fun H1 => xS h b T a' H1) := by
  unfold f381_answer at e
  refine ex_s (am_nb (m := 1) (pc1 := 1) (ls1 := [(0, .ref 157)]) (st1 := [.ref 157]) (H1 := H) (k1 := 0) (n1 := 0) (by with_unfolding_all rfl)) ?_
  refine xe_get (v := .int (a 157 87)) hS rfl rfl (by decide) rfl ?_
  refine ex_s (am_nb (m := 1) (pc1 := 5) (ls1 := [(0, .ref 157)]) (st1 := [.ref 157, .int (a 157 87)]) (H1 := H) (k1 := 0) (n1 := 0) (by with_unfolding_all rfl)) ?_
  refine xe_get (v := .int (a 157 89)) hS rfl rfl (by decide) rfl ?_
  refine ex_s (am_nb (m := 2) (pc1 := 11) (ls1 := [(0, .ref 157)]) (st1 := [.int 32, .int ((a 157 87) + (a 157 89))]) (H1 := H) (k1 := 0) (n1 := 0) (by with_unfolding_all rfl)) ?_
  have kk : am_E sL sx am_cs 381 19 [(0, .ref 157)] [.int (if 32 < ((a 157 87) + (a 157 89)) then (0 : Int32) else (1 : Int32))] H (some (.int r)) (fun H1 => xS h b T a' H1) := by
    refine ex_s (am_nb (m := 3) (pc1 := 22) (ls1 := [(2, .int 0), (1, .int (if 32 < ((a 157 87) + (a 157 89)) then (0 : Int32) else (1 : Int32))), (0, .ref 157)]) (st1 := []) (H1 := H) (k1 := 0) (n1 := 0) (by with_unfolding_all rfl)) ?_
    obtain ⟨z14, e15, e⟩ := Option.bind_eq_some_iff.mp e
    refine le_E (l1 := [(0, .ref 157), (1, .int (if 32 < ((a 157 87) + (a 157 89)) then (0 : Int32) else (1 : Int32))), (2, .int 0)]) ⟨rfl, rfl, rfl, trivial⟩ rfl (tl381_22 (z := z14)  (fun uz14_0 Hz140 sz140 => ?_) N 0 a H hS e15)
    exact le_E (l1 := [(0, .ref 157), (1, .int (if 32 < ((a 157 87) + (a 157 89)) then (0 : Int32) else (1 : Int32)))]) ⟨rfl, rfl, trivial⟩ rfl (tj381_66  sz140 e)
  refine ex_s (st_icmp rfl) ?_
  by_cases c1 : 32 < ((a 157 87) + (a 157 89))
  · refine ex_pc (if_pos c1) ?_
    refine ex_s (am_nb (m := 1) (pc1 := 19) (ls1 := [(0, .ref 157)]) (st1 := [.int 0]) (H1 := H) (k1 := 0) (n1 := 0) (by with_unfolding_all rfl)) ?_
    rw [if_pos c1] at kk
    exact kk
  · refine ex_pc (if_neg c1) ?_
    refine ex_s (am_nb (m := 2) (pc1 := 19) (ls1 := [(0, .ref 157)]) (st1 := [.int 1]) (H1 := H) (k1 := 0) (n1 := 0) (by with_unfolding_all rfl)) ?_
    rw [if_neg c1] at kk
    exact kk

set_option maxRecDepth 100000 in
theorem tj379_407 {sL : Nat} {sx : Nat → Int32} {h b N : Nat} {T : List am_C} {a' : xA} {a : xA} {H : am_H} (hS : xS h b T a H) (e : j379_407 N h b a = some a') : am_E sL sx am_cs 379 407 [(0, .ref 157)] [] H none (fun H1 => xS h b T a' H1) := by
  unfold j379_407 at e
  refine ex_s (am_nb (m := 1) (pc1 := 408) (ls1 := [(0, .ref 157)]) (st1 := [.ref 157]) (H1 := H) (k1 := 0) (n1 := 0) (by with_unfolding_all rfl)) ?_
  obtain ⟨r31, a32, e30, e⟩ := xb2_some e
  refine ex_cv1 (as := []) (rest := []) rfl rfl rfl rfl (hS.obj rfl (by decide)) rfl (by with_unfolding_all rfl) (by with_unfolding_all rfl) (tf381_answer hS e30) (fun H28 s29 => ?_)
  refine ex_s (st_if rfl) ?_
  by_cases c34 : r31 = 0
  · have e := (if_pos c34).symm.trans e
    refine ex_pc (if_pos c34) ?_
    refine ex_s (am_nb (m := 2) (pc1 := 416) (ls1 := [(0, .ref 157)]) (st1 := [.ref 157, .ref 157]) (H1 := H28) (k1 := 0) (n1 := 0) (by with_unfolding_all rfl)) ?_
    refine xe_get (v := .int (a32 157 100)) s29 rfl rfl (by decide) rfl ?_
    refine ex_s (am_nb (m := 2) (pc1 := 421) (ls1 := [(0, .ref 157)]) (st1 := [.int ((a32 157 100) + 1), .ref 157]) (H1 := H28) (k1 := 0) (n1 := 0) (by with_unfolding_all rfl)) ?_
    obtain ⟨a35, ha35, e⟩ := xw_some e
    refine xe_put (w := ((a32 157 100) + 1)) s29 rfl rfl (by decide) rfl rfl rfl rfl (fun H36 s37 => ?_)
    have s37 : xS h b T a35 H36 := by rw [ha35]; exact s37
    cases e
    exact ex_r (st_vret rfl rfl) s37
  · have e := (if_neg c34).symm.trans e
    refine ex_pc (if_neg c34) ?_
    cases e
    exact ex_r (st_vret rfl rfl) s29

set_option maxRecDepth 100000 in
theorem tj379_234 {sL : Nat} {sx : Nat → Int32} {h b N : Nat} {T : List am_C} {a' : xA} {a : xA} {H : am_H} (hS : xS h b T a H) (e : j379_234 N h b a = some a') : am_E sL sx am_cs 379 234 [(0, .ref 157)] [] H none (fun H1 => xS h b T a' H1) := by
  unfold j379_234 at e
  refine ex_s (am_nb (m := 2) (pc1 := 237) (ls1 := [(0, .ref 157)]) (st1 := [.int 13, .ref 157]) (H1 := H) (k1 := 0) (n1 := 0) (by with_unfolding_all rfl)) ?_
  obtain ⟨a21, e20, e⟩ := xb1_some e
  refine ex_cv0 (as := [.int 13]) (rest := []) rfl rfl rfl rfl (hS.obj rfl (by decide)) rfl (by with_unfolding_all rfl) (by with_unfolding_all rfl) (tf380_replies hS e20) (fun H18 s19 => ?_)
  refine ex_s (am_nb (m := 2) (pc1 := 242) (ls1 := [(0, .ref 157)]) (st1 := [.int 2, .ref 157]) (H1 := H18) (k1 := 0) (n1 := 0) (by with_unfolding_all rfl)) ?_
  obtain ⟨r25, a26, e24, e⟩ := xb2_some e
  refine ex_cv1 (as := [.int 2]) (rest := []) rfl rfl rfl rfl (s19.obj rfl (by decide)) rfl (by with_unfolding_all rfl) (by with_unfolding_all rfl) (tf363_mode s19 e24) (fun H22 s23 => ?_)
  refine ex_s (st_if rfl) ?_
  by_cases c27 : r25 = 0
  · have e := (if_pos c27).symm.trans e
    refine ex_pc (if_pos c27) ?_
    exact le_E (l1 := [(0, .ref 157)]) ⟨rfl, trivial⟩ rfl (tj379_407  s23 e)
  · have e := (if_neg c27).symm.trans e
    refine ex_pc (if_neg c27) ?_
    refine ex_s (am_nb (m := 2) (pc1 := 251) (ls1 := [(0, .ref 157)]) (st1 := [.int 10, .ref 157]) (H1 := H22) (k1 := 0) (n1 := 0) (by with_unfolding_all rfl)) ?_
    obtain ⟨a41, e40, e⟩ := xb1_some e
    refine ex_cv0 (as := [.int 10]) (rest := []) rfl rfl rfl rfl (s23.obj rfl (by decide)) rfl (by with_unfolding_all rfl) (by with_unfolding_all rfl) (tf380_replies s23 e40) (fun H38 s39 => ?_)
    refine ex_s (am_nb (m := 1) (pc1 := 407) (ls1 := [(0, .ref 157)]) (st1 := []) (H1 := H38) (k1 := 0) (n1 := 0) (by with_unfolding_all rfl)) ?_
    exact le_E (l1 := [(0, .ref 157)]) ⟨rfl, trivial⟩ rfl (tj379_407  s39 e)

set_option maxRecDepth 100000 in
theorem tj379_365 {sL : Nat} {sx : Nat → Int32} {h b N : Nat} {T : List am_C} {a' : xA} {q1 : Int32} {t0 : Int32} {a : xA} {H : am_H} (hS : xS h b T a H) (e : j379_365 N h b q1 t0 a = some a') : am_E sL sx am_cs 379 365 [(0, .ref 157), (1, .int q1)] [.int t0] H none (fun H1 => xS h b T a' H1) := by
  unfold j379_365 at e
  refine ex_s (am_nb (m := 3) (pc1 := 368) (ls1 := [(3, .int t0), (0, .ref 157), (1, .int q1)]) (st1 := [.ref 157, .ref 157]) (H1 := H) (k1 := 0) (n1 := 0) (by with_unfolding_all rfl)) ?_
  refine xe_get (v := .ref 194) hS rfl rfl (by decide) rfl ?_
  refine ex_s (am_nb (m := 1) (pc1 := 373) (ls1 := [(3, .int t0), (0, .ref 157), (1, .int q1)]) (st1 := [.int 28, .ref 194, .ref 157]) (H1 := H) (k1 := 0) (n1 := 0) (by with_unfolding_all rfl)) ?_
  refine xe_zaldc (v := a 194 28) hS rfl rfl (show ¬ ((28 : Int32) < 0 ∨ 127 ≤ ((28 : Int32)).toNatClampNeg) by decide) rfl ?_
  have kk : am_E sL sx am_cs 379 404 [(3, .int t0), (0, .ref 157), (1, .int q1)] [.int (if (a 194 28) = 0 then (q1) else (if t0 = 0 then (if q1 = 63 then (127 : Int32) else (q1)) else (q1 &&& 31))), .ref 157] H none (fun H1 => xS h b T a' H1) := by
    obtain ⟨a63, e62, e⟩ := xb1_some e
    refine ex_cv0 (as := [.int (if (a 194 28) = 0 then (q1) else (if t0 = 0 then (if q1 = 63 then (127 : Int32) else (q1)) else (q1 &&& 31)))]) (rest := []) rfl rfl rfl rfl (hS.obj rfl (by decide)) rfl (by with_unfolding_all rfl) (by with_unfolding_all rfl) (tf380_replies hS e62) (fun H60 s61 => ?_)
    exact le_E (l1 := [(0, .ref 157)]) ⟨rfl, trivial⟩ rfl (tj379_407  s61 e)
  refine ex_s (st_if rfl) ?_
  by_cases c57 : (a 194 28) = 0
  · refine ex_pc (if_pos c57) ?_
    refine ex_s (am_nb (m := 2) (pc1 := 404) (ls1 := [(3, .int t0), (0, .ref 157), (1, .int q1)]) (st1 := [.int q1, .ref 157]) (H1 := H) (k1 := 0) (n1 := 0) (by with_unfolding_all rfl)) ?_
    rw [if_pos c57] at kk
    exact kk
  · refine ex_pc (if_neg c57) ?_
    refine ex_s (am_nb (m := 1) (pc1 := 382) (ls1 := [(3, .int t0), (0, .ref 157), (1, .int q1)]) (st1 := [.int t0, .ref 157]) (H1 := H) (k1 := 0) (n1 := 0) (by with_unfolding_all rfl)) ?_
    refine ex_s (st_if rfl) ?_
    by_cases c58 : t0 = 0
    · refine ex_pc (if_pos c58) ?_
      refine ex_s (am_nb (m := 2) (pc1 := 395) (ls1 := [(3, .int t0), (0, .ref 157), (1, .int q1)]) (st1 := [.int 63, .int q1, .ref 157]) (H1 := H) (k1 := 0) (n1 := 0) (by with_unfolding_all rfl)) ?_
      refine ex_s (st_icmp rfl) ?_
      by_cases c59 : q1 = 63
      · refine ex_pc (if_pos c59) ?_
        refine ex_s (am_nb (m := 2) (pc1 := 404) (ls1 := [(3, .int t0), (0, .ref 157), (1, .int q1)]) (st1 := [.int 127, .ref 157]) (H1 := H) (k1 := 0) (n1 := 0) (by with_unfolding_all rfl)) ?_
        rw [if_neg c57, if_pos c58, if_pos c59] at kk
        exact kk
      · refine ex_pc (if_neg c59) ?_
        refine ex_s (am_nb (m := 1) (pc1 := 404) (ls1 := [(3, .int t0), (0, .ref 157), (1, .int q1)]) (st1 := [.int q1, .ref 157]) (H1 := H) (k1 := 0) (n1 := 0) (by with_unfolding_all rfl)) ?_
        rw [if_neg c57, if_pos c58, if_neg c59] at kk
        exact kk
    · refine ex_pc (if_neg c58) ?_
      refine ex_s (am_nb (m := 4) (pc1 := 404) (ls1 := [(3, .int t0), (0, .ref 157), (1, .int q1)]) (st1 := [.int (q1 &&& 31), .ref 157]) (H1 := H) (k1 := 0) (n1 := 0) (by with_unfolding_all rfl)) ?_
      rw [if_neg c57, if_neg c58] at kk
      exact kk

set_option maxRecDepth 100000 in
theorem tj379_364 {sL : Nat} {sx : Nat → Int32} {h b N : Nat} {T : List am_C} {a' : xA} {q1 : Int32} {a : xA} {H : am_H} (hS : xS h b T a H) (e : j379_364 N h b q1 a = some a') : am_E sL sx am_cs 379 364 [(0, .ref 157), (1, .int q1)] [] H none (fun H1 => xS h b T a' H1) := by
  unfold j379_364 at e
  refine ex_s (am_nb (m := 1) (pc1 := 365) (ls1 := [(0, .ref 157), (1, .int q1)]) (st1 := [.int 0]) (H1 := H) (k1 := 0) (n1 := 0) (by with_unfolding_all rfl)) ?_
  exact le_E (l1 := [(0, .ref 157), (1, .int q1)]) ⟨rfl, rfl, trivial⟩ rfl (tj379_365  hS e)

set_option maxRecDepth 100000 in
theorem tj379_348 {sL : Nat} {sx : Nat → Int32} {h b N : Nat} {T : List am_C} {a' : xA} {q1 : Int32} {a : xA} {H : am_H} (hS : xS h b T a H) (e : j379_348 N h b q1 a = some a') : am_E sL sx am_cs 379 348 [(0, .ref 157), (1, .int q1)] [] H none (fun H1 => xS h b T a' H1) := by
  unfold j379_348 at e
  refine ex_s (am_nb (m := 2) (pc1 := 351) (ls1 := [(0, .ref 157), (1, .int q1)]) (st1 := [.int 97, .int q1]) (H1 := H) (k1 := 0) (n1 := 0) (by with_unfolding_all rfl)) ?_
  refine ex_s (st_icmp rfl) ?_
  by_cases c56 : q1 < 97
  · have e := (if_pos c56).symm.trans e
    refine ex_pc (if_pos c56) ?_
    exact le_E (l1 := [(0, .ref 157), (1, .int q1)]) ⟨rfl, rfl, trivial⟩ rfl (tj379_364  hS e)
  · have e := (if_neg c56).symm.trans e
    refine ex_pc (if_neg c56) ?_
    refine ex_s (am_nb (m := 2) (pc1 := 357) (ls1 := [(0, .ref 157), (1, .int q1)]) (st1 := [.int 122, .int q1]) (H1 := H) (k1 := 0) (n1 := 0) (by with_unfolding_all rfl)) ?_
    have kk : am_E sL sx am_cs 379 365 [(0, .ref 157), (1, .int q1)] [.int (if 122 < q1 then (0 : Int32) else (1 : Int32))] H none (fun H1 => xS h b T a' H1) := by
      refine ex_s (am_nb (m := 3) (pc1 := 368) (ls1 := [(3, .int (if 122 < q1 then (0 : Int32) else (1 : Int32))), (0, .ref 157), (1, .int q1)]) (st1 := [.ref 157, .ref 157]) (H1 := H) (k1 := 0) (n1 := 0) (by with_unfolding_all rfl)) ?_
      refine xe_get (v := .ref 194) hS rfl rfl (by decide) rfl ?_
      refine ex_s (am_nb (m := 1) (pc1 := 373) (ls1 := [(3, .int (if 122 < q1 then (0 : Int32) else (1 : Int32))), (0, .ref 157), (1, .int q1)]) (st1 := [.int 28, .ref 194, .ref 157]) (H1 := H) (k1 := 0) (n1 := 0) (by with_unfolding_all rfl)) ?_
      refine xe_zaldc (v := a 194 28) hS rfl rfl (show ¬ ((28 : Int32) < 0 ∨ 127 ≤ ((28 : Int32)).toNatClampNeg) by decide) rfl ?_
      have kk : am_E sL sx am_cs 379 404 [(3, .int (if 122 < q1 then (0 : Int32) else (1 : Int32))), (0, .ref 157), (1, .int q1)] [.int (if (a 194 28) = 0 then (q1) else (if (if 122 < q1 then (0 : Int32) else (1 : Int32)) = 0 then (if q1 = 63 then (127 : Int32) else (q1)) else (q1 &&& 31))), .ref 157] H none (fun H1 => xS h b T a' H1) := by
        obtain ⟨a71, e70, e⟩ := xb1_some e
        refine ex_cv0 (as := [.int (if (a 194 28) = 0 then (q1) else (if (if 122 < q1 then (0 : Int32) else (1 : Int32)) = 0 then (if q1 = 63 then (127 : Int32) else (q1)) else (q1 &&& 31)))]) (rest := []) rfl rfl rfl rfl (hS.obj rfl (by decide)) rfl (by with_unfolding_all rfl) (by with_unfolding_all rfl) (tf380_replies hS e70) (fun H68 s69 => ?_)
        exact le_E (l1 := [(0, .ref 157)]) ⟨rfl, trivial⟩ rfl (tj379_407  s69 e)
      refine ex_s (st_if rfl) ?_
      by_cases c65 : (a 194 28) = 0
      · refine ex_pc (if_pos c65) ?_
        refine ex_s (am_nb (m := 2) (pc1 := 404) (ls1 := [(3, .int (if 122 < q1 then (0 : Int32) else (1 : Int32))), (0, .ref 157), (1, .int q1)]) (st1 := [.int q1, .ref 157]) (H1 := H) (k1 := 0) (n1 := 0) (by with_unfolding_all rfl)) ?_
        rw [if_pos c65] at kk
        exact kk
      · refine ex_pc (if_neg c65) ?_
        refine ex_s (am_nb (m := 1) (pc1 := 382) (ls1 := [(3, .int (if 122 < q1 then (0 : Int32) else (1 : Int32))), (0, .ref 157), (1, .int q1)]) (st1 := [.int (if 122 < q1 then (0 : Int32) else (1 : Int32)), .ref 157]) (H1 := H) (k1 := 0) (n1 := 0) (by with_unfolding_all rfl)) ?_
        refine ex_s (st_if rfl) ?_
        by_cases c66 : (if 122 < q1 then (0 : Int32) else (1 : Int32)) = 0
        · refine ex_pc (if_pos c66) ?_
          refine ex_s (am_nb (m := 2) (pc1 := 395) (ls1 := [(3, .int (if 122 < q1 then (0 : Int32) else (1 : Int32))), (0, .ref 157), (1, .int q1)]) (st1 := [.int 63, .int q1, .ref 157]) (H1 := H) (k1 := 0) (n1 := 0) (by with_unfolding_all rfl)) ?_
          refine ex_s (st_icmp rfl) ?_
          by_cases c67 : q1 = 63
          · refine ex_pc (if_pos c67) ?_
            refine ex_s (am_nb (m := 2) (pc1 := 404) (ls1 := [(3, .int (if 122 < q1 then (0 : Int32) else (1 : Int32))), (0, .ref 157), (1, .int q1)]) (st1 := [.int 127, .ref 157]) (H1 := H) (k1 := 0) (n1 := 0) (by with_unfolding_all rfl)) ?_
            rw [if_neg c65, if_pos c66, if_pos c67] at kk
            exact kk
          · refine ex_pc (if_neg c67) ?_
            refine ex_s (am_nb (m := 1) (pc1 := 404) (ls1 := [(3, .int (if 122 < q1 then (0 : Int32) else (1 : Int32))), (0, .ref 157), (1, .int q1)]) (st1 := [.int q1, .ref 157]) (H1 := H) (k1 := 0) (n1 := 0) (by with_unfolding_all rfl)) ?_
            rw [if_neg c65, if_pos c66, if_neg c67] at kk
            exact kk
        · refine ex_pc (if_neg c66) ?_
          refine ex_s (am_nb (m := 4) (pc1 := 404) (ls1 := [(3, .int (if 122 < q1 then (0 : Int32) else (1 : Int32))), (0, .ref 157), (1, .int q1)]) (st1 := [.int (q1 &&& 31), .ref 157]) (H1 := H) (k1 := 0) (n1 := 0) (by with_unfolding_all rfl)) ?_
          rw [if_neg c65, if_neg c66] at kk
          exact kk
    refine ex_s (st_icmp rfl) ?_
    by_cases c64 : 122 < q1
    · refine ex_pc (if_pos c64) ?_
      refine ex_s (am_nb (m := 1) (pc1 := 365) (ls1 := [(0, .ref 157), (1, .int q1)]) (st1 := [.int 0]) (H1 := H) (k1 := 0) (n1 := 0) (by with_unfolding_all rfl)) ?_
      rw [if_pos c64] at kk
      exact kk
    · refine ex_pc (if_neg c64) ?_
      refine ex_s (am_nb (m := 2) (pc1 := 365) (ls1 := [(0, .ref 157), (1, .int q1)]) (st1 := [.int 1]) (H1 := H) (k1 := 0) (n1 := 0) (by with_unfolding_all rfl)) ?_
      rw [if_neg c64] at kk
      exact kk

set_option maxRecDepth 100000 in
theorem tj379_360 {sL : Nat} {sx : Nat → Int32} {h b N : Nat} {T : List am_C} {a' : xA} {q1 : Int32} {a : xA} {H : am_H} (hS : xS h b T a H) (e : j379_360 N h b q1 a = some a') : am_E sL sx am_cs 379 360 [(0, .ref 157), (1, .int q1)] [] H none (fun H1 => xS h b T a' H1) := by
  unfold j379_360 at e
  refine ex_s (am_nb (m := 2) (pc1 := 365) (ls1 := [(0, .ref 157), (1, .int q1)]) (st1 := [.int 1]) (H1 := H) (k1 := 0) (n1 := 0) (by with_unfolding_all rfl)) ?_
  exact le_E (l1 := [(0, .ref 157), (1, .int q1)]) ⟨rfl, rfl, trivial⟩ rfl (tj379_365  hS e)

set_option maxRecDepth 100000 in
theorem tj379_222 {sL : Nat} {sx : Nat → Int32} {h b N : Nat} {T : List am_C} {a' : xA} {q1 : Int32} {a : xA} {H : am_H} (hS : xS h b T a H) (e : j379_222 N h b q1 a = some a') : am_E sL sx am_cs 379 222 [(0, .ref 157), (1, .int q1)] [] H none (fun H1 => xS h b T a' H1) := by
  unfold j379_222 at e
  refine ex_s (am_nb (m := 2) (pc1 := 225) (ls1 := [(0, .ref 157), (1, .int q1)]) (st1 := [.int 21, .int q1]) (H1 := H) (k1 := 0) (n1 := 0) (by with_unfolding_all rfl)) ?_
  refine ex_s (st_icmp rfl) ?_
  by_cases c17 : q1 = 21
  · have e := (if_pos c17).symm.trans e
    refine ex_pc (if_pos c17) ?_
    exact le_E (l1 := [(0, .ref 157)]) ⟨rfl, trivial⟩ rfl (tj379_234  hS e)
  · have e := (if_neg c17).symm.trans e
    refine ex_pc (if_neg c17) ?_
    refine ex_s (am_nb (m := 2) (pc1 := 231) (ls1 := [(0, .ref 157), (1, .int q1)]) (st1 := [.int 22, .int q1]) (H1 := H) (k1 := 0) (n1 := 0) (by with_unfolding_all rfl)) ?_
    refine ex_s (st_icmp rfl) ?_
    by_cases c42 : q1 = 22
    · have e := (if_pos c42).symm.trans e
      refine ex_pc (if_pos c42) ?_
      exact le_E (l1 := [(0, .ref 157)]) ⟨rfl, trivial⟩ rfl (tj379_234  hS e)
    · have e := (if_neg c42).symm.trans e
      refine ex_pc (if_neg c42) ?_
      refine ex_s (am_nb (m := 2) (pc1 := 260) (ls1 := [(0, .ref 157), (1, .int q1)]) (st1 := [.int 26, .int q1]) (H1 := H) (k1 := 0) (n1 := 0) (by with_unfolding_all rfl)) ?_
      refine ex_s (st_icmp rfl) ?_
      by_cases c43 : 26 < q1
      · have e := (if_pos c43).symm.trans e
        refine ex_pc (if_pos c43) ?_
        refine ex_s (am_nb (m := 2) (pc1 := 308) (ls1 := [(0, .ref 157), (1, .int q1)]) (st1 := [.int 27, .int q1]) (H1 := H) (k1 := 0) (n1 := 0) (by with_unfolding_all rfl)) ?_
        refine ex_s (st_icmp rfl) ?_
        by_cases c44 : q1 = 27
        · have e := (if_pos c44).symm.trans e
          refine ex_pc (if_pos c44) ?_
          refine ex_s (am_nb (m := 2) (pc1 := 313) (ls1 := [(0, .ref 157), (1, .int q1)]) (st1 := [.ref 157, .ref 157]) (H1 := H) (k1 := 0) (n1 := 0) (by with_unfolding_all rfl)) ?_
          refine xe_get (v := .int (a 157 84)) hS rfl rfl (by decide) rfl ?_
          have kk : am_E sL sx am_cs 379 324 [(0, .ref 157), (1, .int q1)] [.int (if (a 157 84) = 0 then (1 : Int32) else (0 : Int32)), .ref 157] H none (fun H1 => xS h b T a' H1) := by
            obtain ⟨g49, e⟩ := xg_some e
            obtain ⟨a46, ha46, e⟩ := xw_some e
            refine xe_put (w := (if (a 157 84) = 0 then (1 : Int32) else (0 : Int32))) hS rfl rfl (by decide) rfl rfl (xfit_z g49) rfl (fun H47 s48 => ?_)
            have s48 : xS h b T a46 H47 := by rw [ha46]; exact s48
            refine ex_s (am_nb (m := 1) (pc1 := 407) (ls1 := [(0, .ref 157), (1, .int q1)]) (st1 := []) (H1 := H47) (k1 := 0) (n1 := 0) (by with_unfolding_all rfl)) ?_
            exact le_E (l1 := [(0, .ref 157)]) ⟨rfl, trivial⟩ rfl (tj379_407  s48 e)
          refine ex_s (st_if rfl) ?_
          by_cases c45 : (a 157 84) = 0
          · refine ex_pc (if_pos c45) ?_
            refine ex_s (am_nb (m := 2) (pc1 := 324) (ls1 := [(0, .ref 157), (1, .int q1)]) (st1 := [.int 1, .ref 157]) (H1 := H) (k1 := 0) (n1 := 0) (by with_unfolding_all rfl)) ?_
            rw [if_pos c45] at kk
            exact kk
          · refine ex_pc (if_neg c45) ?_
            refine ex_s (am_nb (m := 1) (pc1 := 324) (ls1 := [(0, .ref 157), (1, .int q1)]) (st1 := [.int 0, .ref 157]) (H1 := H) (k1 := 0) (n1 := 0) (by with_unfolding_all rfl)) ?_
            rw [if_neg c45] at kk
            exact kk
        · have e := (if_neg c44).symm.trans e
          refine ex_pc (if_neg c44) ?_
          refine ex_s (am_nb (m := 2) (pc1 := 333) (ls1 := [(0, .ref 157), (1, .int q1)]) (st1 := [.int 32, .int q1]) (H1 := H) (k1 := 0) (n1 := 0) (by with_unfolding_all rfl)) ?_
          refine ex_s (st_icmp rfl) ?_
          by_cases c50 : q1 < 32
          · have e := (if_pos c50).symm.trans e
            refine ex_pc (if_pos c50) ?_
            exact le_E (l1 := [(0, .ref 157)]) ⟨rfl, trivial⟩ rfl (tj379_407  hS e)
          · have e := (if_neg c50).symm.trans e
            refine ex_pc (if_neg c50) ?_
            refine ex_s (am_nb (m := 2) (pc1 := 339) (ls1 := [(0, .ref 157), (1, .int q1)]) (st1 := [.int 64, .int q1]) (H1 := H) (k1 := 0) (n1 := 0) (by with_unfolding_all rfl)) ?_
            refine ex_s (st_icmp rfl) ?_
            by_cases c53 : q1 < 64
            · have e := (if_pos c53).symm.trans e
              refine ex_pc (if_pos c53) ?_
              exact le_E (l1 := [(0, .ref 157), (1, .int q1)]) ⟨rfl, rfl, trivial⟩ rfl (tj379_348  hS e)
            · have e := (if_neg c53).symm.trans e
              refine ex_pc (if_neg c53) ?_
              refine ex_s (am_nb (m := 2) (pc1 := 345) (ls1 := [(0, .ref 157), (1, .int q1)]) (st1 := [.int 95, .int q1]) (H1 := H) (k1 := 0) (n1 := 0) (by with_unfolding_all rfl)) ?_
              refine ex_s (st_icmp rfl) ?_
              by_cases c74 : q1 ≤ 95
              · have e := (if_pos c74).symm.trans e
                refine ex_pc (if_pos c74) ?_
                exact le_E (l1 := [(0, .ref 157), (1, .int q1)]) ⟨rfl, rfl, trivial⟩ rfl (tj379_360  hS e)
              · have e := (if_neg c74).symm.trans e
                refine ex_pc (if_neg c74) ?_
                exact le_E (l1 := [(0, .ref 157), (1, .int q1)]) ⟨rfl, rfl, trivial⟩ rfl (tj379_348  hS e)
      · have e := (if_neg c43).symm.trans e
        refine ex_pc (if_neg c43) ?_
        refine ex_s (am_nb (m := 3) (pc1 := 267) (ls1 := [(0, .ref 157), (1, .int q1)]) (st1 := [.int 23, .int q1, .ref 157]) (H1 := H) (k1 := 0) (n1 := 0) (by with_unfolding_all rfl)) ?_
        have kk : am_E sL sx am_cs 379 299 [(0, .ref 157), (1, .int q1)] [.int (if q1 = 23 then (9 : Int32) else (if q1 = 24 then (8 : Int32) else (if q1 = 25 then (127 : Int32) else (27 : Int32)))), .ref 157] H none (fun H1 => xS h b T a' H1) := by
          obtain ⟨a81, e80, e⟩ := xb1_some e
          refine ex_cv0 (as := [.int (if q1 = 23 then (9 : Int32) else (if q1 = 24 then (8 : Int32) else (if q1 = 25 then (127 : Int32) else (27 : Int32))))]) (rest := []) rfl rfl rfl rfl (hS.obj rfl (by decide)) rfl (by with_unfolding_all rfl) (by with_unfolding_all rfl) (tf380_replies hS e80) (fun H78 s79 => ?_)
          refine ex_s (am_nb (m := 1) (pc1 := 407) (ls1 := [(0, .ref 157), (1, .int q1)]) (st1 := []) (H1 := H78) (k1 := 0) (n1 := 0) (by with_unfolding_all rfl)) ?_
          exact le_E (l1 := [(0, .ref 157)]) ⟨rfl, trivial⟩ rfl (tj379_407  s79 e)
        refine ex_s (st_icmp rfl) ?_
        by_cases c75 : q1 = 23
        · refine ex_pc (if_pos c75) ?_
          refine ex_s (am_nb (m := 2) (pc1 := 299) (ls1 := [(0, .ref 157), (1, .int q1)]) (st1 := [.int 9, .ref 157]) (H1 := H) (k1 := 0) (n1 := 0) (by with_unfolding_all rfl)) ?_
          rw [if_pos c75] at kk
          exact kk
        · refine ex_pc (if_neg c75) ?_
          refine ex_s (am_nb (m := 2) (pc1 := 278) (ls1 := [(0, .ref 157), (1, .int q1)]) (st1 := [.int 24, .int q1, .ref 157]) (H1 := H) (k1 := 0) (n1 := 0) (by with_unfolding_all rfl)) ?_
          refine ex_s (st_icmp rfl) ?_
          by_cases c76 : q1 = 24
          · refine ex_pc (if_pos c76) ?_
            refine ex_s (am_nb (m := 2) (pc1 := 299) (ls1 := [(0, .ref 157), (1, .int q1)]) (st1 := [.int 8, .ref 157]) (H1 := H) (k1 := 0) (n1 := 0) (by with_unfolding_all rfl)) ?_
            rw [if_neg c75, if_pos c76] at kk
            exact kk
          · refine ex_pc (if_neg c76) ?_
            refine ex_s (am_nb (m := 2) (pc1 := 289) (ls1 := [(0, .ref 157), (1, .int q1)]) (st1 := [.int 25, .int q1, .ref 157]) (H1 := H) (k1 := 0) (n1 := 0) (by with_unfolding_all rfl)) ?_
            refine ex_s (st_icmp rfl) ?_
            by_cases c77 : q1 = 25
            · refine ex_pc (if_pos c77) ?_
              refine ex_s (am_nb (m := 2) (pc1 := 299) (ls1 := [(0, .ref 157), (1, .int q1)]) (st1 := [.int 127, .ref 157]) (H1 := H) (k1 := 0) (n1 := 0) (by with_unfolding_all rfl)) ?_
              rw [if_neg c75, if_neg c76, if_pos c77] at kk
              exact kk
            · refine ex_pc (if_neg c77) ?_
              refine ex_s (am_nb (m := 1) (pc1 := 299) (ls1 := [(0, .ref 157), (1, .int q1)]) (st1 := [.int 27, .ref 157]) (H1 := H) (k1 := 0) (n1 := 0) (by with_unfolding_all rfl)) ?_
              rw [if_neg c75, if_neg c76, if_neg c77] at kk
              exact kk

set_option maxRecDepth 100000 in
theorem tj379_174 {sL : Nat} {sx : Nat → Int32} {h b N : Nat} {T : List am_C} {a' : xA} {q2 : Int32} {q3 : Int32} {q4 : Int32} {a : xA} {H : am_H} (hS : xS h b T a H) (e : j379_174 N h b q2 q3 q4 a = some a') : am_E sL sx am_cs 379 174 [(0, .ref 157), (2, .int q2), (3, .int q3), (4, .int q4)] [] H none (fun H1 => xS h b T a' H1) := by
  unfold j379_174 at e
  refine ex_s (am_nb (m := 2) (pc1 := 176) (ls1 := [(0, .ref 157), (2, .int q2), (3, .int q3), (4, .int q4)]) (st1 := [.int q2, .ref 157]) (H1 := H) (k1 := 0) (n1 := 0) (by with_unfolding_all rfl)) ?_
  have kk : am_E sL sx am_cs 379 185 [(0, .ref 157), (2, .int q2), (3, .int q3), (4, .int q4)] [.int (if q2 = 0 then (q3) else (q4)), .ref 157] H none (fun H1 => xS h b T a' H1) := by
    obtain ⟨a106, e105, e⟩ := xb1_some e
    refine ex_cv0 (as := [.int (if q2 = 0 then (q3) else (q4))]) (rest := []) rfl rfl rfl rfl (hS.obj rfl (by decide)) rfl (by with_unfolding_all rfl) (by with_unfolding_all rfl) (tf380_replies hS e105) (fun H103 s104 => ?_)
    refine ex_s (am_nb (m := 1) (pc1 := 407) (ls1 := [(0, .ref 157), (2, .int q2), (3, .int q3), (4, .int q4)]) (st1 := []) (H1 := H103) (k1 := 0) (n1 := 0) (by with_unfolding_all rfl)) ?_
    exact le_E (l1 := [(0, .ref 157)]) ⟨rfl, trivial⟩ rfl (tj379_407  s104 e)
  refine ex_s (st_if rfl) ?_
  by_cases c102 : q2 = 0
  · refine ex_pc (if_pos c102) ?_
    refine ex_s (am_nb (m := 1) (pc1 := 185) (ls1 := [(0, .ref 157), (2, .int q2), (3, .int q3), (4, .int q4)]) (st1 := [.int q3, .ref 157]) (H1 := H) (k1 := 0) (n1 := 0) (by with_unfolding_all rfl)) ?_
    rw [if_pos c102] at kk
    exact kk
  · refine ex_pc (if_neg c102) ?_
    refine ex_s (am_nb (m := 2) (pc1 := 185) (ls1 := [(0, .ref 157), (2, .int q2), (3, .int q3), (4, .int q4)]) (st1 := [.int q4, .ref 157]) (H1 := H) (k1 := 0) (n1 := 0) (by with_unfolding_all rfl)) ?_
    rw [if_neg c102] at kk
    exact kk

set_option maxRecDepth 100000 in
theorem tj379_41 {sL : Nat} {sx : Nat → Int32} {h b N : Nat} {T : List am_C} {a' : xA} {q1 : Int32} {t0 : Int32} {a : xA} {H : am_H} (hS : xS h b T a H) (e : j379_41 N h b q1 t0 a = some a') : am_E sL sx am_cs 379 41 [(0, .ref 157), (1, .int q1)] [.int t0, .ref 157] H none (fun H1 => xS h b T a' H1) := by
  unfold j379_41 at e
  obtain ⟨a124, e123, e⟩ := xb1_some e
  refine ex_cv0 (as := [.int t0]) (rest := []) rfl rfl rfl rfl (hS.obj rfl (by decide)) rfl (by with_unfolding_all rfl) (by with_unfolding_all rfl) (tf380_replies hS e123) (fun H121 s122 => ?_)
  refine ex_s (am_nb (m := 3) (pc1 := 47) (ls1 := [(0, .ref 157), (1, .int q1)]) (st1 := [.int 4, .int q1, .ref 157]) (H1 := H121) (k1 := 0) (n1 := 0) (by with_unfolding_all rfl)) ?_
  have kk : am_E sL sx am_cs 379 63 [(0, .ref 157), (1, .int q1)] [.int (if 4 ≤ q1 then ((80 + q1) - 4) else (65 + q1)), .ref 157] H121 none (fun H1 => xS h b T a' H1) := by
    obtain ⟨a129, e128, e⟩ := xb1_some e
    refine ex_cv0 (as := [.int (if 4 ≤ q1 then ((80 + q1) - 4) else (65 + q1))]) (rest := []) rfl rfl rfl rfl (s122.obj rfl (by decide)) rfl (by with_unfolding_all rfl) (by with_unfolding_all rfl) (tf380_replies s122 e128) (fun H126 s127 => ?_)
    refine ex_s (am_nb (m := 1) (pc1 := 407) (ls1 := [(0, .ref 157), (1, .int q1)]) (st1 := []) (H1 := H126) (k1 := 0) (n1 := 0) (by with_unfolding_all rfl)) ?_
    exact le_E (l1 := [(0, .ref 157)]) ⟨rfl, trivial⟩ rfl (tj379_407  s127 e)
  refine ex_s (st_icmp rfl) ?_
  by_cases c125 : 4 ≤ q1
  · refine ex_pc (if_pos c125) ?_
    refine ex_s (am_nb (m := 5) (pc1 := 63) (ls1 := [(0, .ref 157), (1, .int q1)]) (st1 := [.int ((80 + q1) - 4), .ref 157]) (H1 := H121) (k1 := 0) (n1 := 0) (by with_unfolding_all rfl)) ?_
    rw [if_pos c125] at kk
    exact kk
  · refine ex_pc (if_neg c125) ?_
    refine ex_s (am_nb (m := 4) (pc1 := 63) (ls1 := [(0, .ref 157), (1, .int q1)]) (st1 := [.int (65 + q1), .ref 157]) (H1 := H121) (k1 := 0) (n1 := 0) (by with_unfolding_all rfl)) ?_
    rw [if_neg c125] at kk
    exact kk

set_option maxRecDepth 100000 in
theorem tj379_34 {sL : Nat} {sx : Nat → Int32} {h b N : Nat} {T : List am_C} {a' : xA} {q1 : Int32} {a : xA} {H : am_H} (hS : xS h b T a H) (e : j379_34 N h b q1 a = some a') : am_E sL sx am_cs 379 34 [(0, .ref 157), (1, .int q1)] [.ref 157] H none (fun H1 => xS h b T a' H1) := by
  unfold j379_34 at e
  refine ex_s (am_nb (m := 2) (pc1 := 41) (ls1 := [(0, .ref 157), (1, .int q1)]) (st1 := [.int 79, .ref 157]) (H1 := H) (k1 := 0) (n1 := 0) (by with_unfolding_all rfl)) ?_
  exact le_E (l1 := [(0, .ref 157), (1, .int q1)]) ⟨rfl, rfl, trivial⟩ rfl (tj379_41  hS e)

set_option maxRecDepth 100000 in
theorem tj379_63 {sL : Nat} {sx : Nat → Int32} {h b N : Nat} {T : List am_C} {a' : xA} {t0 : Int32} {a : xA} {H : am_H} (hS : xS h b T a H) (e : j379_63 N h b t0 a = some a') : am_E sL sx am_cs 379 63 [(0, .ref 157)] [.int t0, .ref 157] H none (fun H1 => xS h b T a' H1) := by
  unfold j379_63 at e
  obtain ⟨a143, e142, e⟩ := xb1_some e
  refine ex_cv0 (as := [.int t0]) (rest := []) rfl rfl rfl rfl (hS.obj rfl (by decide)) rfl (by with_unfolding_all rfl) (by with_unfolding_all rfl) (tf380_replies hS e142) (fun H140 s141 => ?_)
  refine ex_s (am_nb (m := 1) (pc1 := 407) (ls1 := [(0, .ref 157)]) (st1 := []) (H1 := H140) (k1 := 0) (n1 := 0) (by with_unfolding_all rfl)) ?_
  exact le_E (l1 := [(0, .ref 157)]) ⟨rfl, trivial⟩ rfl (tj379_407  s141 e)

set_option maxRecDepth 100000 in
theorem tf379_struck {sL : Nat} {sx : Nat → Int32} {h b N : Nat} {T : List am_C} {a' : xA} {x0 : Int32} {a : xA} {H : am_H} (hS : xS h b T a H) (e : f379_struck N h b x0 a = some a') : am_E sL sx am_cs 379 0 [(0, .ref 157), (1, .int x0)] [] H none (fun H1 => xS h b T a' H1) := by
  unfold f379_struck at e
  refine ex_s (am_nb (m := 2) (pc1 := 4) (ls1 := [(0, .ref 157), (1, .int x0)]) (st1 := [.int 128, .ref 157]) (H1 := H) (k1 := 0) (n1 := 0) (by with_unfolding_all rfl)) ?_
  obtain ⟨r4, a5, e3, e⟩ := xb2_some e
  refine ex_cv1 (as := [.int 128]) (rest := []) rfl rfl rfl rfl (hS.obj rfl (by decide)) rfl (by with_unfolding_all rfl) (by with_unfolding_all rfl) (tf363_mode hS e3) (fun H1 s2 => ?_)
  refine ex_s (am_nb (m := 3) (pc1 := 11) (ls1 := [(2, .int r4), (0, .ref 157), (1, .int x0)]) (st1 := [.int 8, .int x0]) (H1 := H1) (k1 := 0) (n1 := 0) (by with_unfolding_all rfl)) ?_
  refine ex_s (st_icmp rfl) ?_
  by_cases c6 : 8 ≤ x0
  · have e := (if_pos c6).symm.trans e
    refine ex_pc (if_pos c6) ?_
    refine ex_s (am_nb (m := 2) (pc1 := 72) (ls1 := [(2, .int r4), (0, .ref 157), (1, .int x0)]) (st1 := [.int 20, .int x0]) (H1 := H1) (k1 := 0) (n1 := 0) (by with_unfolding_all rfl)) ?_
    refine ex_s (st_icmp rfl) ?_
    by_cases c7 : 20 < x0
    · have e := (if_pos c7).symm.trans e
      refine ex_pc (if_pos c7) ?_
      refine ex_s (am_nb (m := 2) (pc1 := 194) (ls1 := [(2, .int r4), (0, .ref 157), (1, .int x0)]) (st1 := [.int 21, .int x0]) (H1 := H1) (k1 := 0) (n1 := 0) (by with_unfolding_all rfl)) ?_
      refine ex_s (st_icmp rfl) ?_
      by_cases c10 : x0 = 21
      · have e := (if_pos c10).symm.trans e
        refine ex_pc (if_pos c10) ?_
        refine ex_s (am_nb (m := 1) (pc1 := 198) (ls1 := [(2, .int r4), (0, .ref 157), (1, .int x0)]) (st1 := [.int r4]) (H1 := H1) (k1 := 0) (n1 := 0) (by with_unfolding_all rfl)) ?_
        refine ex_s (st_if rfl) ?_
        by_cases c11 : r4 = 0
        · have e := (if_pos c11).symm.trans e
          refine ex_pc (if_pos c11) ?_
          exact le_E (l1 := [(0, .ref 157), (1, .int x0)]) ⟨rfl, rfl, trivial⟩ rfl (tj379_222  s2 e)
        · have e := (if_neg c11).symm.trans e
          refine ex_pc (if_neg c11) ?_
          refine ex_s (am_nb (m := 2) (pc1 := 204) (ls1 := [(2, .int r4), (0, .ref 157), (1, .int x0)]) (st1 := [.int 27, .ref 157]) (H1 := H1) (k1 := 0) (n1 := 0) (by with_unfolding_all rfl)) ?_
          obtain ⟨a85, e84, e⟩ := xb1_some e
          refine ex_cv0 (as := [.int 27]) (rest := []) rfl rfl rfl rfl (s2.obj rfl (by decide)) rfl (by with_unfolding_all rfl) (by with_unfolding_all rfl) (tf380_replies s2 e84) (fun H82 s83 => ?_)
          refine ex_s (am_nb (m := 2) (pc1 := 210) (ls1 := [(2, .int r4), (0, .ref 157), (1, .int x0)]) (st1 := [.int 79, .ref 157]) (H1 := H82) (k1 := 0) (n1 := 0) (by with_unfolding_all rfl)) ?_
          obtain ⟨a89, e88, e⟩ := xb1_some e
          refine ex_cv0 (as := [.int 79]) (rest := []) rfl rfl rfl rfl (s83.obj rfl (by decide)) rfl (by with_unfolding_all rfl) (by with_unfolding_all rfl) (tf380_replies s83 e88) (fun H86 s87 => ?_)
          refine ex_s (am_nb (m := 2) (pc1 := 216) (ls1 := [(2, .int r4), (0, .ref 157), (1, .int x0)]) (st1 := [.int 77, .ref 157]) (H1 := H86) (k1 := 0) (n1 := 0) (by with_unfolding_all rfl)) ?_
          obtain ⟨a93, e92, e⟩ := xb1_some e
          refine ex_cv0 (as := [.int 77]) (rest := []) rfl rfl rfl rfl (s87.obj rfl (by decide)) rfl (by with_unfolding_all rfl) (by with_unfolding_all rfl) (tf380_replies s87 e92) (fun H90 s91 => ?_)
          refine ex_s (am_nb (m := 1) (pc1 := 407) (ls1 := [(2, .int r4), (0, .ref 157), (1, .int x0)]) (st1 := []) (H1 := H90) (k1 := 0) (n1 := 0) (by with_unfolding_all rfl)) ?_
          exact le_E (l1 := [(0, .ref 157)]) ⟨rfl, trivial⟩ rfl (tj379_407  s91 e)
      · have e := (if_neg c10).symm.trans e
        refine ex_pc (if_neg c10) ?_
        exact le_E (l1 := [(0, .ref 157), (1, .int x0)]) ⟨rfl, rfl, trivial⟩ rfl (tj379_222  s2 e)
    · have e := (if_neg c7).symm.trans e
      refine ex_pc (if_neg c7) ?_
      refine ex_s (am_nb (m := 2) (pc1 := 78) (ls1 := [(2, .int r4), (0, .ref 157), (1, .int x0)]) (st1 := [.int 18, .int x0]) (H1 := H1) (k1 := 0) (n1 := 0) (by with_unfolding_all rfl)) ?_
      have kk : am_E sL sx am_cs 379 115 [(2, .int r4), (0, .ref 157), (1, .int x0)] [.int (if 18 ≤ x0 then (if x0 = 18 then (45 : Int32) else (if x0 = 19 then (44 : Int32) else (46 : Int32))) else ((48 + x0) - 8))] H1 none (fun H1 => xS h b T a' H1) := by
        refine ex_s (am_nb (m := 3) (pc1 := 119) (ls1 := [(3, .int (if 18 ≤ x0 then (if x0 = 18 then (45 : Int32) else (if x0 = 19 then (44 : Int32) else (46 : Int32))) else ((48 + x0) - 8))), (2, .int r4), (0, .ref 157), (1, .int x0)]) (st1 := [.int 18, .int x0]) (H1 := H1) (k1 := 0) (n1 := 0) (by with_unfolding_all rfl)) ?_
        have kk : ∀ w_ : Int32, w_ = (if 18 ≤ x0 then (if x0 = 18 then (109 : Int32) else (if x0 = 19 then (108 : Int32) else (110 : Int32))) else ((112 + x0) - 8)) → am_E sL sx am_cs 379 156 [(3, .int (if 18 ≤ x0 then (if x0 = 18 then (45 : Int32) else (if x0 = 19 then (44 : Int32) else (46 : Int32))) else ((48 + x0) - 8))), (2, .int r4), (0, .ref 157), (1, .int x0)] [.int w_] H1 none (fun H1 => xS h b T a' H1) := by
          intro w_ hw_
          subst hw_
          refine ex_s (am_nb (m := 2) (pc1 := 159) (ls1 := [(4, .int (if 18 ≤ x0 then (if x0 = 18 then (109 : Int32) else (if x0 = 19 then (108 : Int32) else (110 : Int32))) else ((112 + x0) - 8))), (3, .int (if 18 ≤ x0 then (if x0 = 18 then (45 : Int32) else (if x0 = 19 then (44 : Int32) else (46 : Int32))) else ((48 + x0) - 8))), (2, .int r4), (0, .ref 157), (1, .int x0)]) (st1 := [.int r4]) (H1 := H1) (k1 := 0) (n1 := 0) (by with_unfolding_all rfl)) ?_
          refine ex_s (st_if rfl) ?_
          by_cases c101 : r4 = 0
          · have e := (if_pos c101).symm.trans e
            refine ex_pc (if_pos c101) ?_
            exact le_E (l1 := [(0, .ref 157), (2, .int r4), (3, .int (if 18 ≤ x0 then (if x0 = 18 then (45 : Int32) else (if x0 = 19 then (44 : Int32) else (46 : Int32))) else ((48 + x0) - 8))), (4, .int (if 18 ≤ x0 then (if x0 = 18 then (109 : Int32) else (if x0 = 19 then (108 : Int32) else (110 : Int32))) else ((112 + x0) - 8)))]) ⟨rfl, rfl, rfl, rfl, trivial⟩ rfl (tj379_174  s2 e)
          · have e := (if_neg c101).symm.trans e
            refine ex_pc (if_neg c101) ?_
            refine ex_s (am_nb (m := 2) (pc1 := 165) (ls1 := [(4, .int (if 18 ≤ x0 then (if x0 = 18 then (109 : Int32) else (if x0 = 19 then (108 : Int32) else (110 : Int32))) else ((112 + x0) - 8))), (3, .int (if 18 ≤ x0 then (if x0 = 18 then (45 : Int32) else (if x0 = 19 then (44 : Int32) else (46 : Int32))) else ((48 + x0) - 8))), (2, .int r4), (0, .ref 157), (1, .int x0)]) (st1 := [.int 27, .ref 157]) (H1 := H1) (k1 := 0) (n1 := 0) (by with_unfolding_all rfl)) ?_
            obtain ⟨a110, e109, e⟩ := xb1_some e
            refine ex_cv0 (as := [.int 27]) (rest := []) rfl rfl rfl rfl (s2.obj rfl (by decide)) rfl (by with_unfolding_all rfl) (by with_unfolding_all rfl) (tf380_replies s2 e109) (fun H107 s108 => ?_)
            refine ex_s (am_nb (m := 2) (pc1 := 171) (ls1 := [(4, .int (if 18 ≤ x0 then (if x0 = 18 then (109 : Int32) else (if x0 = 19 then (108 : Int32) else (110 : Int32))) else ((112 + x0) - 8))), (3, .int (if 18 ≤ x0 then (if x0 = 18 then (45 : Int32) else (if x0 = 19 then (44 : Int32) else (46 : Int32))) else ((48 + x0) - 8))), (2, .int r4), (0, .ref 157), (1, .int x0)]) (st1 := [.int 79, .ref 157]) (H1 := H107) (k1 := 0) (n1 := 0) (by with_unfolding_all rfl)) ?_
            obtain ⟨a114, e113, e⟩ := xb1_some e
            refine ex_cv0 (as := [.int 79]) (rest := []) rfl rfl rfl rfl (s108.obj rfl (by decide)) rfl (by with_unfolding_all rfl) (by with_unfolding_all rfl) (tf380_replies s108 e113) (fun H111 s112 => ?_)
            exact le_E (l1 := [(0, .ref 157), (2, .int r4), (3, .int (if 18 ≤ x0 then (if x0 = 18 then (45 : Int32) else (if x0 = 19 then (44 : Int32) else (46 : Int32))) else ((48 + x0) - 8))), (4, .int (if 18 ≤ x0 then (if x0 = 18 then (109 : Int32) else (if x0 = 19 then (108 : Int32) else (110 : Int32))) else ((112 + x0) - 8)))]) ⟨rfl, rfl, rfl, rfl, trivial⟩ rfl (tj379_174  s112 e)
        refine ex_s (st_icmp rfl) ?_
        by_cases c97 : 18 ≤ x0
        · refine ex_pc (if_pos c97) ?_
          refine ex_s (am_nb (m := 2) (pc1 := 135) (ls1 := [(3, .int (if 18 ≤ x0 then (if x0 = 18 then (45 : Int32) else (if x0 = 19 then (44 : Int32) else (46 : Int32))) else ((48 + x0) - 8))), (2, .int r4), (0, .ref 157), (1, .int x0)]) (st1 := [.int 18, .int x0]) (H1 := H1) (k1 := 0) (n1 := 0) (by with_unfolding_all rfl)) ?_
          refine ex_s (st_icmp rfl) ?_
          by_cases c98 : x0 = 18
          · refine ex_pc (if_pos c98) ?_
            refine ex_s (am_nb (m := 2) (pc1 := 156) (ls1 := [(3, .int (if 18 ≤ x0 then (if x0 = 18 then (45 : Int32) else (if x0 = 19 then (44 : Int32) else (46 : Int32))) else ((48 + x0) - 8))), (2, .int r4), (0, .ref 157), (1, .int x0)]) (st1 := [.int 109]) (H1 := H1) (k1 := 0) (n1 := 0) (by with_unfolding_all rfl)) ?_
            exact kk _ ((if_pos c97).trans (if_pos c98)).symm
          · refine ex_pc (if_neg c98) ?_
            refine ex_s (am_nb (m := 2) (pc1 := 146) (ls1 := [(3, .int (if 18 ≤ x0 then (if x0 = 18 then (45 : Int32) else (if x0 = 19 then (44 : Int32) else (46 : Int32))) else ((48 + x0) - 8))), (2, .int r4), (0, .ref 157), (1, .int x0)]) (st1 := [.int 19, .int x0]) (H1 := H1) (k1 := 0) (n1 := 0) (by with_unfolding_all rfl)) ?_
            refine ex_s (st_icmp rfl) ?_
            by_cases c99 : x0 = 19
            · refine ex_pc (if_pos c99) ?_
              refine ex_s (am_nb (m := 2) (pc1 := 156) (ls1 := [(3, .int (if 18 ≤ x0 then (if x0 = 18 then (45 : Int32) else (if x0 = 19 then (44 : Int32) else (46 : Int32))) else ((48 + x0) - 8))), (2, .int r4), (0, .ref 157), (1, .int x0)]) (st1 := [.int 108]) (H1 := H1) (k1 := 0) (n1 := 0) (by with_unfolding_all rfl)) ?_
              exact kk _ ((if_pos c97).trans ((if_neg c98).trans (if_pos c99))).symm
            · refine ex_pc (if_neg c99) ?_
              refine ex_s (am_nb (m := 1) (pc1 := 156) (ls1 := [(3, .int (if 18 ≤ x0 then (if x0 = 18 then (45 : Int32) else (if x0 = 19 then (44 : Int32) else (46 : Int32))) else ((48 + x0) - 8))), (2, .int r4), (0, .ref 157), (1, .int x0)]) (st1 := [.int 110]) (H1 := H1) (k1 := 0) (n1 := 0) (by with_unfolding_all rfl)) ?_
              exact kk _ ((if_pos c97).trans ((if_neg c98).trans (if_neg c99))).symm
        · refine ex_pc (if_neg c97) ?_
          refine ex_s (am_nb (m := 6) (pc1 := 156) (ls1 := [(3, .int (if 18 ≤ x0 then (if x0 = 18 then (45 : Int32) else (if x0 = 19 then (44 : Int32) else (46 : Int32))) else ((48 + x0) - 8))), (2, .int r4), (0, .ref 157), (1, .int x0)]) (st1 := [.int ((112 + x0) - 8)]) (H1 := H1) (k1 := 0) (n1 := 0) (by with_unfolding_all rfl)) ?_
          exact kk _ (if_neg c97).symm
      refine ex_s (st_icmp rfl) ?_
      by_cases c94 : 18 ≤ x0
      · refine ex_pc (if_pos c94) ?_
        refine ex_s (am_nb (m := 2) (pc1 := 94) (ls1 := [(2, .int r4), (0, .ref 157), (1, .int x0)]) (st1 := [.int 18, .int x0]) (H1 := H1) (k1 := 0) (n1 := 0) (by with_unfolding_all rfl)) ?_
        refine ex_s (st_icmp rfl) ?_
        by_cases c95 : x0 = 18
        · refine ex_pc (if_pos c95) ?_
          refine ex_s (am_nb (m := 2) (pc1 := 115) (ls1 := [(2, .int r4), (0, .ref 157), (1, .int x0)]) (st1 := [.int 45]) (H1 := H1) (k1 := 0) (n1 := 0) (by with_unfolding_all rfl)) ?_
          rw [if_pos c94, if_pos c95] at kk
          exact kk
        · refine ex_pc (if_neg c95) ?_
          refine ex_s (am_nb (m := 2) (pc1 := 105) (ls1 := [(2, .int r4), (0, .ref 157), (1, .int x0)]) (st1 := [.int 19, .int x0]) (H1 := H1) (k1 := 0) (n1 := 0) (by with_unfolding_all rfl)) ?_
          refine ex_s (st_icmp rfl) ?_
          by_cases c96 : x0 = 19
          · refine ex_pc (if_pos c96) ?_
            refine ex_s (am_nb (m := 2) (pc1 := 115) (ls1 := [(2, .int r4), (0, .ref 157), (1, .int x0)]) (st1 := [.int 44]) (H1 := H1) (k1 := 0) (n1 := 0) (by with_unfolding_all rfl)) ?_
            rw [if_pos c94, if_neg c95, if_pos c96] at kk
            exact kk
          · refine ex_pc (if_neg c96) ?_
            refine ex_s (am_nb (m := 1) (pc1 := 115) (ls1 := [(2, .int r4), (0, .ref 157), (1, .int x0)]) (st1 := [.int 46]) (H1 := H1) (k1 := 0) (n1 := 0) (by with_unfolding_all rfl)) ?_
            rw [if_pos c94, if_neg c95, if_neg c96] at kk
            exact kk
      · refine ex_pc (if_neg c94) ?_
        refine ex_s (am_nb (m := 6) (pc1 := 115) (ls1 := [(2, .int r4), (0, .ref 157), (1, .int x0)]) (st1 := [.int ((48 + x0) - 8)]) (H1 := H1) (k1 := 0) (n1 := 0) (by with_unfolding_all rfl)) ?_
        rw [if_neg c94] at kk
        exact kk
  · have e := (if_neg c6).symm.trans e
    refine ex_pc (if_neg c6) ?_
    refine ex_s (am_nb (m := 2) (pc1 := 17) (ls1 := [(2, .int r4), (0, .ref 157), (1, .int x0)]) (st1 := [.int 27, .ref 157]) (H1 := H1) (k1 := 0) (n1 := 0) (by with_unfolding_all rfl)) ?_
    obtain ⟨a118, e117, e⟩ := xb1_some e
    refine ex_cv0 (as := [.int 27]) (rest := []) rfl rfl rfl rfl (s2.obj rfl (by decide)) rfl (by with_unfolding_all rfl) (by with_unfolding_all rfl) (tf380_replies s2 e117) (fun H115 s116 => ?_)
    refine ex_s (am_nb (m := 3) (pc1 := 23) (ls1 := [(2, .int r4), (0, .ref 157), (1, .int x0)]) (st1 := [.int 4, .int x0, .ref 157]) (H1 := H115) (k1 := 0) (n1 := 0) (by with_unfolding_all rfl)) ?_
    refine ex_s (st_icmp rfl) ?_
    by_cases c120 : 4 ≤ x0
    · have e := (if_pos c120).symm.trans e
      refine ex_pc (if_pos c120) ?_
      exact le_E (l1 := [(0, .ref 157), (1, .int x0)]) ⟨rfl, rfl, trivial⟩ rfl (tj379_34  s116 e)
    · have e := (if_neg c120).symm.trans e
      refine ex_pc (if_neg c120) ?_
      refine ex_s (am_nb (m := 2) (pc1 := 28) (ls1 := [(2, .int r4), (0, .ref 157), (1, .int x0)]) (st1 := [.int 4, .ref 157, .ref 157]) (H1 := H115) (k1 := 0) (n1 := 0) (by with_unfolding_all rfl)) ?_
      obtain ⟨r133, a134, e132, e⟩ := xb2_some e
      refine ex_cv1 (as := [.int 4]) (rest := [.ref 157]) rfl rfl rfl rfl (s116.obj rfl (by decide)) rfl (by with_unfolding_all rfl) (by with_unfolding_all rfl) (tf363_mode s116 e132) (fun H130 s131 => ?_)
      have kk : am_E sL sx am_cs 379 41 [(2, .int r4), (0, .ref 157), (1, .int x0)] [.int (if r133 = 0 then (91 : Int32) else (79 : Int32)), .ref 157] H130 none (fun H1 => xS h b T a' H1) := by
        obtain ⟨a139, e138, e⟩ := xb1_some e
        refine ex_cv0 (as := [.int (if r133 = 0 then (91 : Int32) else (79 : Int32))]) (rest := []) rfl rfl rfl rfl (s131.obj rfl (by decide)) rfl (by with_unfolding_all rfl) (by with_unfolding_all rfl) (tf380_replies s131 e138) (fun H136 s137 => ?_)
        refine ex_s (am_nb (m := 3) (pc1 := 47) (ls1 := [(2, .int r4), (0, .ref 157), (1, .int x0)]) (st1 := [.int 4, .int x0, .ref 157]) (H1 := H136) (k1 := 0) (n1 := 0) (by with_unfolding_all rfl)) ?_
        refine ex_s (st_icmp rfl) ?_
        refine ex_pc (if_neg c120) ?_
        refine ex_s (am_nb (m := 4) (pc1 := 63) (ls1 := [(2, .int r4), (0, .ref 157), (1, .int x0)]) (st1 := [.int (65 + x0), .ref 157]) (H1 := H136) (k1 := 0) (n1 := 0) (by with_unfolding_all rfl)) ?_
        exact le_E (l1 := [(0, .ref 157)]) ⟨rfl, trivial⟩ rfl (tj379_63  s137 e)
      refine ex_s (st_if rfl) ?_
      by_cases c135 : r133 = 0
      · refine ex_pc (if_pos c135) ?_
        refine ex_s (am_nb (m := 1) (pc1 := 41) (ls1 := [(2, .int r4), (0, .ref 157), (1, .int x0)]) (st1 := [.int 91, .ref 157]) (H1 := H130) (k1 := 0) (n1 := 0) (by with_unfolding_all rfl)) ?_
        rw [if_pos c135] at kk
        exact kk
      · refine ex_pc (if_neg c135) ?_
        refine ex_s (am_nb (m := 2) (pc1 := 41) (ls1 := [(2, .int r4), (0, .ref 157), (1, .int x0)]) (st1 := [.int 79, .ref 157]) (H1 := H130) (k1 := 0) (n1 := 0) (by with_unfolding_all rfl)) ?_
        rw [if_neg c135] at kk
        exact kk

set_option maxRecDepth 100000 in
theorem tj377_131 {sL : Nat} {sx : Nat → Int32} {h b N : Nat} {T : List am_C} {R : Option Value} {F : am_H → Prop} {z : Nat × xA} {rc : Int32 → Int32 → xA → Option (Nat × xA)} (k0 : z.1 = 0 → ∀ H2 : am_H, xS h b T z.2 H2 → am_E sL sx am_cs 377 137 [(0, .ref 157)] [] H2 R F) (ih : ∀ (v1 : Int32) (v2 : Int32) (a : xA) (H : am_H), xS h b T a H → rc v1 v2 a = some z → am_E sL sx am_cs 377 4 [(0, .ref 157), (1, .int v1), (2, .int v2)] [] H R F) {q1 : Int32} {q2 : Int32} {a : xA} {H : am_H} (hS : xS h b T a H) (e : j377_131 N h b rc q1 q2 a = some z) : am_E sL sx am_cs 377 131 [(0, .ref 157), (1, .int q1), (2, .int q2)] [] H R F := by
  unfold j377_131 at e
  refine ex_s (am_nb (m := 2) (pc1 := 4) (ls1 := [(2, .int (q2 + 1)), (0, .ref 157), (1, .int q1)]) (st1 := []) (H1 := H) (k1 := 0) (n1 := 0) (by with_unfolding_all rfl)) ?_
  exact le_E (l1 := [(0, .ref 157), (1, .int q1), (2, .int (q2 + 1))]) ⟨rfl, rfl, rfl, trivial⟩ rfl (ih q1 (q2 + 1) a H hS e)

set_option maxRecDepth 100000 in
theorem tj377_110 {sL : Nat} {sx : Nat → Int32} {h b N : Nat} {T : List am_C} {R : Option Value} {F : am_H → Prop} {z : Nat × xA} {rc : Int32 → Int32 → xA → Option (Nat × xA)} (k0 : z.1 = 0 → ∀ H2 : am_H, xS h b T z.2 H2 → am_E sL sx am_cs 377 137 [(0, .ref 157)] [] H2 R F) (ih : ∀ (v1 : Int32) (v2 : Int32) (a : xA) (H : am_H), xS h b T a H → rc v1 v2 a = some z → am_E sL sx am_cs 377 4 [(0, .ref 157), (1, .int v1), (2, .int v2)] [] H R F) {q1 : Int32} {q2 : Int32} {t0 : Int32} {a : xA} {H : am_H} (hS : xS h b T a H) (e : j377_110 N h b rc q1 q2 t0 a = some z) : am_E sL sx am_cs 377 110 [(0, .ref 157), (1, .int q1), (2, .int q2)] [.int t0] H R F := by
  unfold j377_110 at e
  refine ex_s (am_nb (m := 2) (pc1 := 112) (ls1 := [(3, .int t0), (0, .ref 157), (1, .int q1), (2, .int q2)]) (st1 := [.int t0]) (H1 := H) (k1 := 0) (n1 := 0) (by with_unfolding_all rfl)) ?_
  refine ex_s (st_if rfl) ?_
  by_cases c31 : t0 = 0
  · have e := (if_pos c31).symm.trans e
    refine ex_pc (if_pos c31) ?_
    refine ex_s (am_nb (m := 2) (pc1 := 117) (ls1 := [(3, .int t0), (0, .ref 157), (1, .int q1), (2, .int q2)]) (st1 := [.int q2, .ref 157]) (H1 := H) (k1 := 0) (n1 := 0) (by with_unfolding_all rfl)) ?_
    obtain ⟨a32, ha32, e⟩ := xw_some e
    refine xe_put (w := q2) hS rfl rfl (by decide) rfl rfl rfl rfl (fun H33 s34 => ?_)
    have s34 : xS h b T a32 H33 := by rw [ha32]; exact s34
    refine ex_s (am_nb (m := 2) (pc1 := 122) (ls1 := [(3, .int t0), (0, .ref 157), (1, .int q1), (2, .int q2)]) (st1 := [.ref 157, .ref 157]) (H1 := H33) (k1 := 0) (n1 := 0) (by with_unfolding_all rfl)) ?_
    refine xe_get (v := .int (a32 157 71)) s34 rfl rfl (by decide) rfl ?_
    refine ex_s (am_nb (m := 2) (pc1 := 128) (ls1 := [(3, .int t0), (0, .ref 157), (1, .int q1), (2, .int q2)]) (st1 := [.int ((a32 157 71) + 32), .ref 157]) (H1 := H33) (k1 := 0) (n1 := 0) (by with_unfolding_all rfl)) ?_
    obtain ⟨a35, ha35, e⟩ := xw_some e
    refine xe_put (w := ((a32 157 71) + 32)) s34 rfl rfl (by decide) rfl rfl rfl rfl (fun H36 s37 => ?_)
    have s37 : xS h b T a35 H36 := by rw [ha35]; exact s37
    exact le_E (l1 := [(0, .ref 157), (1, .int q1), (2, .int q2)]) ⟨rfl, rfl, rfl, trivial⟩ rfl (tj377_131 k0 ih  s37 e)
  · have e := (if_neg c31).symm.trans e
    refine ex_pc (if_neg c31) ?_
    exact le_E (l1 := [(0, .ref 157), (1, .int q1), (2, .int q2)]) ⟨rfl, rfl, rfl, trivial⟩ rfl (tj377_131 k0 ih  hS e)

set_option maxRecDepth 100000 in
theorem tj377_105 {sL : Nat} {sx : Nat → Int32} {h b N : Nat} {T : List am_C} {R : Option Value} {F : am_H → Prop} {z : Nat × xA} {rc : Int32 → Int32 → xA → Option (Nat × xA)} (k0 : z.1 = 0 → ∀ H2 : am_H, xS h b T z.2 H2 → am_E sL sx am_cs 377 137 [(0, .ref 157)] [] H2 R F) (ih : ∀ (v1 : Int32) (v2 : Int32) (a : xA) (H : am_H), xS h b T a H → rc v1 v2 a = some z → am_E sL sx am_cs 377 4 [(0, .ref 157), (1, .int v1), (2, .int v2)] [] H R F) {q1 : Int32} {q2 : Int32} {a : xA} {H : am_H} (hS : xS h b T a H) (e : j377_105 N h b rc q1 q2 a = some z) : am_E sL sx am_cs 377 105 [(0, .ref 157), (1, .int q1), (2, .int q2)] [] H R F := by
  unfold j377_105 at e
  refine ex_s (am_nb (m := 2) (pc1 := 110) (ls1 := [(0, .ref 157), (1, .int q1), (2, .int q2)]) (st1 := [.int 1]) (H1 := H) (k1 := 0) (n1 := 0) (by with_unfolding_all rfl)) ?_
  exact le_E (l1 := [(0, .ref 157), (1, .int q1), (2, .int q2)]) ⟨rfl, rfl, rfl, trivial⟩ rfl (tj377_110 k0 ih  hS e)

set_option maxRecDepth 100000 in
theorem tj377_109 {sL : Nat} {sx : Nat → Int32} {h b N : Nat} {T : List am_C} {R : Option Value} {F : am_H → Prop} {z : Nat × xA} {rc : Int32 → Int32 → xA → Option (Nat × xA)} (k0 : z.1 = 0 → ∀ H2 : am_H, xS h b T z.2 H2 → am_E sL sx am_cs 377 137 [(0, .ref 157)] [] H2 R F) (ih : ∀ (v1 : Int32) (v2 : Int32) (a : xA) (H : am_H), xS h b T a H → rc v1 v2 a = some z → am_E sL sx am_cs 377 4 [(0, .ref 157), (1, .int v1), (2, .int v2)] [] H R F) {q1 : Int32} {q2 : Int32} {a : xA} {H : am_H} (hS : xS h b T a H) (e : j377_109 N h b rc q1 q2 a = some z) : am_E sL sx am_cs 377 109 [(0, .ref 157), (1, .int q1), (2, .int q2)] [] H R F := by
  unfold j377_109 at e
  refine ex_s (am_nb (m := 1) (pc1 := 110) (ls1 := [(0, .ref 157), (1, .int q1), (2, .int q2)]) (st1 := [.int 0]) (H1 := H) (k1 := 0) (n1 := 0) (by with_unfolding_all rfl)) ?_
  exact le_E (l1 := [(0, .ref 157), (1, .int q1), (2, .int q2)]) ⟨rfl, rfl, rfl, trivial⟩ rfl (tj377_110 k0 ih  hS e)

set_option maxRecDepth 100000 in
theorem tl377_4 {sL : Nat} {sx : Nat → Int32} {h b N : Nat} {T : List am_C} {R : Option Value} {F : am_H → Prop} {z : Nat × xA} (k0 : z.1 = 0 → ∀ H2 : am_H, xS h b T z.2 H2 → am_E sL sx am_cs 377 137 [(0, .ref 157)] [] H2 R F) : ∀ (n : Nat) (v1 : Int32) (v2 : Int32) (a : xA) (H : am_H), xS h b T a H → l377_4 N h b n v1 v2 a = some z → am_E sL sx am_cs 377 4 [(0, .ref 157), (1, .int v1), (2, .int v2)] [] H R F := by
  intro n
  induction n with
  | zero =>
    intro v1 v2 a H hS e
    cases e
  | succ n ih =>
    intro v1 v2 a H hS e
    unfold l377_4 at e
    refine ex_s (am_nb (m := 2) (pc1 := 7) (ls1 := [(0, .ref 157), (1, .int v1), (2, .int v2)]) (st1 := [.int 127, .int v2]) (H1 := H) (k1 := 0) (n1 := 0) (by with_unfolding_all rfl)) ?_
    refine ex_s (st_icmp rfl) ?_
    by_cases c1 : 127 ≤ v2
    · have e := (if_pos c1).symm.trans e
      refine ex_pc (if_pos c1) ?_
      cases e
      exact le_E (l1 := [(0, .ref 157)]) ⟨rfl, trivial⟩ rfl (k0 rfl H hS)
    · have e := (if_neg c1).symm.trans e
      refine ex_pc (if_neg c1) ?_
      refine ex_s (am_nb (m := 1) (pc1 := 11) (ls1 := [(0, .ref 157), (1, .int v1), (2, .int v2)]) (st1 := [.int v2]) (H1 := H) (k1 := 0) (n1 := 0) (by with_unfolding_all rfl)) ?_
      obtain ⟨r5, a6, e4, e⟩ := xb2_some e
      refine ex_cs1 (as := [.int v2]) (rest := []) rfl (by decide) rfl rfl (by with_unfolding_all rfl) (by with_unfolding_all rfl) (tf378_isKey hS e4) (fun H2 s3 => ?_)
      refine ex_s (st_if rfl) ?_
      by_cases c7 : r5 = 0
      · have e := (if_pos c7).symm.trans e
        refine ex_pc (if_pos c7) ?_
        refine ex_s (am_nb (m := 1) (pc1 := 131) (ls1 := [(0, .ref 157), (1, .int v1), (2, .int v2)]) (st1 := []) (H1 := H2) (k1 := 0) (n1 := 0) (by with_unfolding_all rfl)) ?_
        exact le_E (l1 := [(0, .ref 157), (1, .int v1), (2, .int v2)]) ⟨rfl, rfl, rfl, trivial⟩ rfl (tj377_131 k0 ih  s3 e)
      · have e := (if_neg c7).symm.trans e
        refine ex_pc (if_neg c7) ?_
        refine ex_s (am_nb (m := 1) (pc1 := 21) (ls1 := [(0, .ref 157), (1, .int v1), (2, .int v2)]) (st1 := [.ref 157]) (H1 := H2) (k1 := 0) (n1 := 0) (by with_unfolding_all rfl)) ?_
        refine xe_get (v := .ref 194) s3 rfl rfl (by decide) rfl ?_
        refine ex_s (am_nb (m := 1) (pc1 := 25) (ls1 := [(0, .ref 157), (1, .int v1), (2, .int v2)]) (st1 := [.int v2, .ref 194]) (H1 := H2) (k1 := 0) (n1 := 0) (by with_unfolding_all rfl)) ?_
        obtain ⟨g8, e⟩ := xg_some e
        refine xe_zald s3 rfl rfl g8 ?_
        refine ex_s (st_if rfl) ?_
        by_cases c9 : (a6 194 (v2.toNatClampNeg)) = 0
        · have e := (if_pos c9).symm.trans e
          refine ex_pc (if_pos c9) ?_
          refine ex_s (am_nb (m := 1) (pc1 := 30) (ls1 := [(0, .ref 157), (1, .int v1), (2, .int v2)]) (st1 := [.ref 157]) (H1 := H2) (k1 := 0) (n1 := 0) (by with_unfolding_all rfl)) ?_
          refine xe_get (v := .ref 195) s3 rfl rfl (by decide) rfl ?_
          refine ex_s (am_nb (m := 2) (pc1 := 35) (ls1 := [(0, .ref 157), (1, .int v1), (2, .int v2)]) (st1 := [.int 0, .int v2, .ref 195]) (H1 := H2) (k1 := 0) (n1 := 0) (by with_unfolding_all rfl)) ?_
          obtain ⟨a10, ha10, e⟩ := xw_some e
          refine xe_zast s3 rfl rfl g8 (fun H11 s12 => ?_)
          have s12 : xS h b T a10 H11 := by rw [ha10]; exact s12
          refine ex_s (am_nb (m := 1) (pc1 := 37) (ls1 := [(0, .ref 157), (1, .int v1), (2, .int v2)]) (st1 := [.ref 157]) (H1 := H11) (k1 := 0) (n1 := 0) (by with_unfolding_all rfl)) ?_
          refine xe_get (v := .int (a10 157 120)) s12 rfl rfl (by decide) rfl ?_
          refine ex_s (am_nb (m := 1) (pc1 := 41) (ls1 := [(0, .ref 157), (1, .int v1), (2, .int v2)]) (st1 := [.int v2, .int (a10 157 120)]) (H1 := H11) (k1 := 0) (n1 := 0) (by with_unfolding_all rfl)) ?_
          refine ex_s (st_icmp rfl) ?_
          by_cases c13 : (a10 157 120) = v2
          · have e := (if_pos c13).symm.trans e
            refine ex_pc (if_pos c13) ?_
            refine ex_s (am_nb (m := 2) (pc1 := 46) (ls1 := [(0, .ref 157), (1, .int v1), (2, .int v2)]) (st1 := [.int (-1), .ref 157]) (H1 := H11) (k1 := 0) (n1 := 0) (by with_unfolding_all rfl)) ?_
            obtain ⟨a14, ha14, e⟩ := xw_some e
            refine xe_put (w := (-1)) s12 rfl rfl (by decide) rfl rfl rfl rfl (fun H15 s16 => ?_)
            have s16 : xS h b T a14 H15 := by rw [ha14]; exact s16
            refine ex_s (am_nb (m := 1) (pc1 := 131) (ls1 := [(0, .ref 157), (1, .int v1), (2, .int v2)]) (st1 := []) (H1 := H15) (k1 := 0) (n1 := 0) (by with_unfolding_all rfl)) ?_
            exact le_E (l1 := [(0, .ref 157), (1, .int v1), (2, .int v2)]) ⟨rfl, rfl, rfl, trivial⟩ rfl (tj377_131 k0 ih  s16 e)
          · have e := (if_neg c13).symm.trans e
            refine ex_pc (if_neg c13) ?_
            exact le_E (l1 := [(0, .ref 157), (1, .int v1), (2, .int v2)]) ⟨rfl, rfl, rfl, trivial⟩ rfl (tj377_131 k0 ih  s12 e)
        · have e := (if_neg c9).symm.trans e
          refine ex_pc (if_neg c9) ?_
          refine ex_s (am_nb (m := 1) (pc1 := 53) (ls1 := [(0, .ref 157), (1, .int v1), (2, .int v2)]) (st1 := [.ref 157]) (H1 := H2) (k1 := 0) (n1 := 0) (by with_unfolding_all rfl)) ?_
          refine xe_get (v := .ref 195) s3 rfl rfl (by decide) rfl ?_
          refine ex_s (am_nb (m := 1) (pc1 := 57) (ls1 := [(0, .ref 157), (1, .int v1), (2, .int v2)]) (st1 := [.int v2, .ref 195]) (H1 := H2) (k1 := 0) (n1 := 0) (by with_unfolding_all rfl)) ?_
          refine xe_zald s3 rfl rfl g8 ?_
          refine ex_s (st_if rfl) ?_
          by_cases c17 : (a6 195 (v2.toNatClampNeg)) = 0
          · have e := (if_pos c17).symm.trans e
            refine ex_pc (if_pos c17) ?_
            refine ex_s (am_nb (m := 2) (pc1 := 63) (ls1 := [(0, .ref 157), (1, .int v1), (2, .int v2)]) (st1 := [.int 3, .int v1]) (H1 := H2) (k1 := 0) (n1 := 0) (by with_unfolding_all rfl)) ?_
            refine ex_s (st_icmp rfl) ?_
            by_cases c18 : 3 ≤ v1
            · have e := (if_pos c18).symm.trans e
              refine ex_pc (if_pos c18) ?_
              exact le_E (l1 := [(0, .ref 157), (1, .int v1), (2, .int v2)]) ⟨rfl, rfl, rfl, trivial⟩ rfl (tj377_131 k0 ih  s3 e)
            · have e := (if_neg c18).symm.trans e
              refine ex_pc (if_neg c18) ?_
              refine ex_s (am_nb (m := 2) (pc1 := 70) (ls1 := [(1, .int (v1 + 1)), (0, .ref 157), (2, .int v2)]) (st1 := [.ref 157]) (H1 := H2) (k1 := 0) (n1 := 0) (by with_unfolding_all rfl)) ?_
              refine xe_get (v := .ref 195) s3 rfl rfl (by decide) rfl ?_
              refine ex_s (am_nb (m := 2) (pc1 := 75) (ls1 := [(1, .int (v1 + 1)), (0, .ref 157), (2, .int v2)]) (st1 := [.int 1, .int v2, .ref 195]) (H1 := H2) (k1 := 0) (n1 := 0) (by with_unfolding_all rfl)) ?_
              obtain ⟨a19, ha19, e⟩ := xw_some e
              refine xe_zast s3 rfl rfl g8 (fun H20 s21 => ?_)
              have s21 : xS h b T a19 H20 := by rw [ha19]; exact s21
              refine ex_s (am_nb (m := 2) (pc1 := 78) (ls1 := [(1, .int (v1 + 1)), (0, .ref 157), (2, .int v2)]) (st1 := [.int v2, .ref 157]) (H1 := H20) (k1 := 0) (n1 := 0) (by with_unfolding_all rfl)) ?_
              obtain ⟨a25, e24, e⟩ := xb1_some e
              refine ex_cv0 (as := [.int v2]) (rest := []) rfl rfl rfl rfl (s21.obj rfl (by decide)) rfl (by with_unfolding_all rfl) (by with_unfolding_all rfl) (tf379_struck s21 e24) (fun H22 s23 => ?_)
              refine ex_s (am_nb (m := 2) (pc1 := 84) (ls1 := [(1, .int (v1 + 1)), (0, .ref 157), (2, .int v2)]) (st1 := [.int 22, .int v2]) (H1 := H22) (k1 := 0) (n1 := 0) (by with_unfolding_all rfl)) ?_
              refine ex_s (st_icmp rfl) ?_
              by_cases c29 : v2 = 22
              · have e := (if_pos c29).symm.trans e
                refine ex_pc (if_pos c29) ?_
                exact le_E (l1 := [(0, .ref 157), (1, .int (v1 + 1)), (2, .int v2)]) ⟨rfl, rfl, rfl, trivial⟩ rfl (tj377_105 k0 ih  s23 e)
              · have e := (if_neg c29).symm.trans e
                refine ex_pc (if_neg c29) ?_
                refine ex_s (am_nb (m := 2) (pc1 := 90) (ls1 := [(1, .int (v1 + 1)), (0, .ref 157), (2, .int v2)]) (st1 := [.int 23, .int v2]) (H1 := H22) (k1 := 0) (n1 := 0) (by with_unfolding_all rfl)) ?_
                refine ex_s (st_icmp rfl) ?_
                by_cases c40 : v2 = 23
                · have e := (if_pos c40).symm.trans e
                  refine ex_pc (if_pos c40) ?_
                  exact le_E (l1 := [(0, .ref 157), (1, .int (v1 + 1)), (2, .int v2)]) ⟨rfl, rfl, rfl, trivial⟩ rfl (tj377_105 k0 ih  s23 e)
                · have e := (if_neg c40).symm.trans e
                  refine ex_pc (if_neg c40) ?_
                  refine ex_s (am_nb (m := 2) (pc1 := 96) (ls1 := [(1, .int (v1 + 1)), (0, .ref 157), (2, .int v2)]) (st1 := [.int 26, .int v2]) (H1 := H22) (k1 := 0) (n1 := 0) (by with_unfolding_all rfl)) ?_
                  refine ex_s (st_icmp rfl) ?_
                  by_cases c43 : v2 < 26
                  · have e := (if_pos c43).symm.trans e
                    refine ex_pc (if_pos c43) ?_
                    exact le_E (l1 := [(0, .ref 157), (1, .int (v1 + 1)), (2, .int v2)]) ⟨rfl, rfl, rfl, trivial⟩ rfl (tj377_109 k0 ih  s23 e)
                  · have e := (if_neg c43).symm.trans e
                    refine ex_pc (if_neg c43) ?_
                    refine ex_s (am_nb (m := 2) (pc1 := 102) (ls1 := [(1, .int (v1 + 1)), (0, .ref 157), (2, .int v2)]) (st1 := [.int 28, .int v2]) (H1 := H22) (k1 := 0) (n1 := 0) (by with_unfolding_all rfl)) ?_
                    have kk : am_E sL sx am_cs 377 110 [(1, .int (v1 + 1)), (0, .ref 157), (2, .int v2)] [.int (if 28 < v2 then (0 : Int32) else (1 : Int32))] H22 R F := by
                      refine ex_s (am_nb (m := 2) (pc1 := 112) (ls1 := [(3, .int (if 28 < v2 then (0 : Int32) else (1 : Int32))), (1, .int (v1 + 1)), (0, .ref 157), (2, .int v2)]) (st1 := [.int (if 28 < v2 then (0 : Int32) else (1 : Int32))]) (H1 := H22) (k1 := 0) (n1 := 0) (by with_unfolding_all rfl)) ?_
                      refine ex_s (st_if rfl) ?_
                      by_cases c46 : (if 28 < v2 then (0 : Int32) else (1 : Int32)) = 0
                      · have e := (if_pos c46).symm.trans e
                        refine ex_pc (if_pos c46) ?_
                        refine ex_s (am_nb (m := 2) (pc1 := 117) (ls1 := [(3, .int (if 28 < v2 then (0 : Int32) else (1 : Int32))), (1, .int (v1 + 1)), (0, .ref 157), (2, .int v2)]) (st1 := [.int v2, .ref 157]) (H1 := H22) (k1 := 0) (n1 := 0) (by with_unfolding_all rfl)) ?_
                        obtain ⟨a47, ha47, e⟩ := xw_some e
                        refine xe_put (w := v2) s23 rfl rfl (by decide) rfl rfl rfl rfl (fun H48 s49 => ?_)
                        have s49 : xS h b T a47 H48 := by rw [ha47]; exact s49
                        refine ex_s (am_nb (m := 2) (pc1 := 122) (ls1 := [(3, .int (if 28 < v2 then (0 : Int32) else (1 : Int32))), (1, .int (v1 + 1)), (0, .ref 157), (2, .int v2)]) (st1 := [.ref 157, .ref 157]) (H1 := H48) (k1 := 0) (n1 := 0) (by with_unfolding_all rfl)) ?_
                        refine xe_get (v := .int (a47 157 71)) s49 rfl rfl (by decide) rfl ?_
                        refine ex_s (am_nb (m := 2) (pc1 := 128) (ls1 := [(3, .int (if 28 < v2 then (0 : Int32) else (1 : Int32))), (1, .int (v1 + 1)), (0, .ref 157), (2, .int v2)]) (st1 := [.int ((a47 157 71) + 32), .ref 157]) (H1 := H48) (k1 := 0) (n1 := 0) (by with_unfolding_all rfl)) ?_
                        obtain ⟨a50, ha50, e⟩ := xw_some e
                        refine xe_put (w := ((a47 157 71) + 32)) s49 rfl rfl (by decide) rfl rfl rfl rfl (fun H51 s52 => ?_)
                        have s52 : xS h b T a50 H51 := by rw [ha50]; exact s52
                        exact le_E (l1 := [(0, .ref 157), (1, .int (v1 + 1)), (2, .int v2)]) ⟨rfl, rfl, rfl, trivial⟩ rfl (tj377_131 k0 ih  s52 e)
                      · have e := (if_neg c46).symm.trans e
                        refine ex_pc (if_neg c46) ?_
                        exact le_E (l1 := [(0, .ref 157), (1, .int (v1 + 1)), (2, .int v2)]) ⟨rfl, rfl, rfl, trivial⟩ rfl (tj377_131 k0 ih  s23 e)
                    refine ex_s (st_icmp rfl) ?_
                    by_cases c44 : 28 < v2
                    · refine ex_pc (if_pos c44) ?_
                      refine ex_s (am_nb (m := 1) (pc1 := 110) (ls1 := [(1, .int (v1 + 1)), (0, .ref 157), (2, .int v2)]) (st1 := [.int 0]) (H1 := H22) (k1 := 0) (n1 := 0) (by with_unfolding_all rfl)) ?_
                      rw [if_pos c44] at kk
                      exact kk
                    · refine ex_pc (if_neg c44) ?_
                      refine ex_s (am_nb (m := 2) (pc1 := 110) (ls1 := [(1, .int (v1 + 1)), (0, .ref 157), (2, .int v2)]) (st1 := [.int 1]) (H1 := H22) (k1 := 0) (n1 := 0) (by with_unfolding_all rfl)) ?_
                      rw [if_neg c44] at kk
                      exact kk
          · have e := (if_neg c17).symm.trans e
            refine ex_pc (if_neg c17) ?_
            exact le_E (l1 := [(0, .ref 157), (1, .int v1), (2, .int v2)]) ⟨rfl, rfl, rfl, trivial⟩ rfl (tj377_131 k0 ih  s3 e)

set_option maxRecDepth 100000 in
theorem tf377_scan {sL : Nat} {sx : Nat → Int32} {h b N : Nat} {T : List am_C} {a' : xA} {a : xA} {H : am_H} (hS : xS h b T a H) (e : f377_scan N h b a = some a') : am_E sL sx am_cs 377 0 [(0, .ref 157)] [] H none (fun H1 => xS h b T a' H1) := by
  unfold f377_scan at e
  refine ex_s (am_nb (m := 4) (pc1 := 4) (ls1 := [(2, .int 0), (1, .int 0), (0, .ref 157)]) (st1 := []) (H1 := H) (k1 := 0) (n1 := 0) (by with_unfolding_all rfl)) ?_
  obtain ⟨z53, e54, e⟩ := Option.bind_eq_some_iff.mp e
  refine le_E (l1 := [(0, .ref 157), (1, .int 0), (2, .int 0)]) ⟨rfl, rfl, rfl, trivial⟩ rfl (tl377_4 (z := z53)  (fun uz53_0 Hz530 sz530 => ?_) N 0 0 a H hS e54)
  refine ex_s (am_nb (m := 1) (pc1 := 138) (ls1 := [(0, .ref 157)]) (st1 := [.ref 157]) (H1 := Hz530) (k1 := 0) (n1 := 0) (by with_unfolding_all rfl)) ?_
  refine xe_get (v := .int (z53.2 157 120)) sz530 rfl rfl (by decide) rfl ?_
  refine ex_s (am_nb (m := 1) (pc1 := 142) (ls1 := [(0, .ref 157)]) (st1 := [.int (-1), .int (z53.2 157 120)]) (H1 := Hz530) (k1 := 0) (n1 := 0) (by with_unfolding_all rfl)) ?_
  refine ex_s (st_icmp rfl) ?_
  by_cases c56 : (z53.2 157 120) = (-1)
  · have e := (if_pos c56).symm.trans e
    refine ex_pc (if_pos c56) ?_
    cases e
    exact ex_r (st_vret rfl rfl) sz530
  · have e := (if_neg c56).symm.trans e
    refine ex_pc (if_neg c56) ?_
    refine ex_s (am_nb (m := 2) (pc1 := 148) (ls1 := [(0, .ref 157)]) (st1 := [.int 64, .ref 157]) (H1 := Hz530) (k1 := 0) (n1 := 0) (by with_unfolding_all rfl)) ?_
    obtain ⟨r60, a61, e59, e⟩ := xb2_some e
    refine ex_cv1 (as := [.int 64]) (rest := []) rfl rfl rfl rfl (sz530.obj rfl (by decide)) rfl (by with_unfolding_all rfl) (by with_unfolding_all rfl) (tf363_mode sz530 e59) (fun H57 s58 => ?_)
    refine ex_s (st_if rfl) ?_
    by_cases c64 : r60 = 0
    · have e := (if_pos c64).symm.trans e
      refine ex_pc (if_pos c64) ?_
      cases e
      exact ex_r (st_vret rfl rfl) s58
    · have e := (if_neg c64).symm.trans e
      refine ex_pc (if_neg c64) ?_
      refine ex_s (am_nb (m := 1) (pc1 := 155) (ls1 := [(0, .ref 157)]) (st1 := [.ref 157]) (H1 := H57) (k1 := 0) (n1 := 0) (by with_unfolding_all rfl)) ?_
      refine xe_get (v := .int (a61 157 71)) s58 rfl rfl (by decide) rfl ?_
      refine ex_s (am_nb (m := 1) (pc1 := 159) (ls1 := [(0, .ref 157)]) (st1 := [.ref 157, .int (a61 157 71)]) (H1 := H57) (k1 := 0) (n1 := 0) (by with_unfolding_all rfl)) ?_
      refine xe_get (v := .int (a61 157 121)) s58 rfl rfl (by decide) rfl ?_
      refine ex_s (st_icmp rfl) ?_
      by_cases c66 : (a61 157 71) < (a61 157 121)
      · have e := (if_pos c66).symm.trans e
        refine ex_pc (if_pos c66) ?_
        cases e
        exact ex_r (st_vret rfl rfl) s58
      · have e := (if_neg c66).symm.trans e
        refine ex_pc (if_neg c66) ?_
        refine ex_s (am_nb (m := 2) (pc1 := 167) (ls1 := [(0, .ref 157)]) (st1 := [.ref 157, .ref 157]) (H1 := H57) (k1 := 0) (n1 := 0) (by with_unfolding_all rfl)) ?_
        refine xe_get (v := .int (a61 157 120)) s58 rfl rfl (by decide) rfl ?_
        obtain ⟨a70, e69, e⟩ := xb1_some e
        refine ex_cv0 (as := [.int (a61 157 120)]) (rest := []) rfl rfl rfl rfl (s58.obj rfl (by decide)) rfl (by with_unfolding_all rfl) (by with_unfolding_all rfl) (tf379_struck s58 e69) (fun H67 s68 => ?_)
        refine ex_s (am_nb (m := 2) (pc1 := 175) (ls1 := [(0, .ref 157)]) (st1 := [.ref 157, .ref 157]) (H1 := H67) (k1 := 0) (n1 := 0) (by with_unfolding_all rfl)) ?_
        refine xe_get (v := .int (a70 157 71)) s68 rfl rfl (by decide) rfl ?_
        refine ex_s (am_nb (m := 2) (pc1 := 180) (ls1 := [(0, .ref 157)]) (st1 := [.int ((a70 157 71) + 4), .ref 157]) (H1 := H67) (k1 := 0) (n1 := 0) (by with_unfolding_all rfl)) ?_
        obtain ⟨a71, ha71, e⟩ := xw_some e
        refine xe_put (w := ((a70 157 71) + 4)) s68 rfl rfl (by decide) rfl rfl rfl rfl (fun H72 s73 => ?_)
        have s73 : xS h b T a71 H72 := by rw [ha71]; exact s73
        cases e
        exact ex_r (st_vret rfl rfl) s73

set_option maxRecDepth 100000 in
theorem tf385_last {sL : Nat} {sx : Nat → Int32} {h b N : Nat} {T : List am_C} {r : Int32} {a' : xA} {x0 : Int32} {a : xA} {H : am_H} (hS : xS h b T a H) (e : f385_last N h b x0 a = some (r, a')) : am_E sL sx am_cs 385 0 [(0, .ref 157), (1, .int x0)] [] H (some (.int r)) (fun H1 => xS h b T a' H1) := by
  unfold f385_last at e
  refine ex_s (am_nb (m := 1) (pc1 := 1) (ls1 := [(0, .ref 157), (1, .int x0)]) (st1 := [.ref 157]) (H1 := H) (k1 := 0) (n1 := 0) (by with_unfolding_all rfl)) ?_
  refine xe_get (v := .ref 191) hS rfl rfl (by decide) rfl ?_
  refine ex_s (am_nb (m := 1) (pc1 := 5) (ls1 := [(0, .ref 157), (1, .int x0)]) (st1 := [.int x0, .ref 191]) (H1 := H) (k1 := 0) (n1 := 0) (by with_unfolding_all rfl)) ?_
  obtain ⟨g1, e⟩ := xg_some e
  refine xe_iald hS rfl rfl g1 ?_
  refine ex_s (st_if rfl) ?_
  by_cases c3 : (a 191 (x0.toNatClampNeg)) = 0
  · have e := (if_pos c3).symm.trans e
    refine ex_pc (if_pos c3) ?_
    refine ex_s (am_nb (m := 1) (pc1 := 10) (ls1 := [(0, .ref 157), (1, .int x0)]) (st1 := [.ref 157]) (H1 := H) (k1 := 0) (n1 := 0) (by with_unfolding_all rfl)) ?_
    refine xe_get (v := .int (a 157 69)) hS rfl rfl (by decide) rfl ?_
    refine ex_s (am_nb (m := 3) (pc1 := 26) (ls1 := [(0, .ref 157), (1, .int x0)]) (st1 := [.int ((a 157 69) - 1)]) (H1 := H) (k1 := 0) (n1 := 0) (by with_unfolding_all rfl)) ?_
    cases e
    exact ex_r (st_iret rfl rfl rfl) hS
  · have e := (if_neg c3).symm.trans e
    refine ex_pc (if_neg c3) ?_
    refine ex_s (am_nb (m := 1) (pc1 := 19) (ls1 := [(0, .ref 157), (1, .int x0)]) (st1 := [.ref 157]) (H1 := H) (k1 := 0) (n1 := 0) (by with_unfolding_all rfl)) ?_
    refine xe_get (v := .int (a 157 69)) hS rfl rfl (by decide) rfl ?_
    refine ex_s (am_nb (m := 4) (pc1 := 26) (ls1 := [(0, .ref 157), (1, .int x0)]) (st1 := [.int (((a 157 69) / 2) - 1)]) (H1 := H) (k1 := 0) (n1 := 0) (by with_unfolding_all rfl)) ?_
    cases e
    exact ex_r (st_iret rfl rfl rfl) hS

set_option maxRecDepth 100000 in
theorem tf384_goes {sL : Nat} {sx : Nat → Int32} {h b N : Nat} {T : List am_C} {a' : xA} {x0 : Int32} {x1 : Int32} {a : xA} {H : am_H} (hS : xS h b T a H) (e : f384_goes N h b x0 x1 a = some a') : am_E sL sx am_cs 384 0 [(0, .ref 157), (1, .int x0), (2, .int x1)] [] H none (fun H1 => xS h b T a' H1) := by
  unfold f384_goes at e
  refine ex_s (am_nb (m := 3) (pc1 := 3) (ls1 := [(0, .ref 157), (1, .int x0), (2, .int x1)]) (st1 := [.ref 157, .int 0, .ref 157]) (H1 := H) (k1 := 0) (n1 := 0) (by with_unfolding_all rfl)) ?_
  refine xe_get (v := .int (a 157 68)) hS rfl rfl (by decide) rfl ?_
  refine ex_s (am_nb (m := 5) (pc1 := 15) (ls1 := [(0, .ref 157), (1, .int x0), (2, .int x1)]) (st1 := [.int (xmax 0 (xmin ((a 157 68) - 1) x0)), .ref 157]) (H1 := H) (k1 := 0) (n1 := 0) (by with_unfolding_all rfl)) ?_
  obtain ⟨a1, ha1, e⟩ := xw_some e
  refine xe_put (w := (xmax 0 (xmin ((a 157 68) - 1) x0))) hS rfl rfl (by decide) rfl rfl rfl rfl (fun H2 s3 => ?_)
  have s3 : xS h b T a1 H2 := by rw [ha1]; exact s3
  refine ex_s (am_nb (m := 4) (pc1 := 22) (ls1 := [(0, .ref 157), (1, .int x0), (2, .int x1)]) (st1 := [.ref 157, .ref 157, .int 0, .ref 157]) (H1 := H2) (k1 := 0) (n1 := 0) (by with_unfolding_all rfl)) ?_
  refine xe_get (v := .int (a1 157 93)) s3 rfl rfl (by decide) rfl ?_
  obtain ⟨r7, a8, e6, e⟩ := xb2_some e
  refine ex_cv1 (as := [.int (a1 157 93)]) (rest := [.int 0, .ref 157]) rfl rfl rfl rfl (s3.obj rfl (by decide)) rfl (by with_unfolding_all rfl) (by with_unfolding_all rfl) (tf385_last s3 e6) (fun H4 s5 => ?_)
  refine ex_s (am_nb (m := 3) (pc1 := 35) (ls1 := [(0, .ref 157), (1, .int x0), (2, .int x1)]) (st1 := [.int (xmax 0 (xmin r7 x1)), .ref 157]) (H1 := H4) (k1 := 0) (n1 := 0) (by with_unfolding_all rfl)) ?_
  obtain ⟨a9, ha9, e⟩ := xw_some e
  refine xe_put (w := (xmax 0 (xmin r7 x1))) s5 rfl rfl (by decide) rfl rfl rfl rfl (fun H10 s11 => ?_)
  have s11 : xS h b T a9 H10 := by rw [ha9]; exact s11
  refine ex_s (am_nb (m := 2) (pc1 := 40) (ls1 := [(0, .ref 157), (1, .int x0), (2, .int x1)]) (st1 := [.int 0, .ref 157]) (H1 := H10) (k1 := 0) (n1 := 0) (by with_unfolding_all rfl)) ?_
  obtain ⟨a12, ha12, e⟩ := xw_some e
  refine xe_put (w := 0) s11 rfl rfl (by decide) rfl rfl rfl rfl (fun H13 s14 => ?_)
  have s14 : xS h b T a12 H13 := by rw [ha12]; exact s14
  cases e
  exact ex_r (st_vret rfl rfl) s14

set_option maxRecDepth 100000 in
theorem tl388_2 {sL : Nat} {sx : Nat → Int32} {h b N : Nat} {T : List am_C} {R : Option Value} {F : am_H → Prop} {w1 : Int32} {w2 : Int32} {z : Nat × xA} (k0 : z.1 = 0 → ∀ H2 : am_H, xS h b T z.2 H2 → am_E sL sx am_cs 388 38 [(0, .ref 157), (1, .int w1), (2, .int w2)] [] H2 R F) : ∀ (n : Nat) (v3 : Int32) (a : xA) (H : am_H), xS h b T a H → l388_2 N h b w1 w2 n v3 a = some z → am_E sL sx am_cs 388 2 [(0, .ref 157), (1, .int w1), (2, .int w2), (3, .int v3)] [] H R F := by
  intro n
  induction n with
  | zero =>
    intro v3 a H hS e
    cases e
  | succ n ih =>
    intro v3 a H hS e
    unfold l388_2 at e
    refine ex_s (am_nb (m := 2) (pc1 := 4) (ls1 := [(0, .ref 157), (1, .int w1), (2, .int w2), (3, .int v3)]) (st1 := [.ref 157, .int v3]) (H1 := H) (k1 := 0) (n1 := 0) (by with_unfolding_all rfl)) ?_
    refine xe_get (v := .int (a 157 69)) hS rfl rfl (by decide) rfl ?_
    refine ex_s (st_icmp rfl) ?_
    by_cases c1 : (a 157 69) ≤ v3
    · have e := (if_pos c1).symm.trans e
      refine ex_pc (if_pos c1) ?_
      cases e
      exact le_E (l1 := [(0, .ref 157), (1, .int w1), (2, .int w2)]) ⟨rfl, rfl, rfl, trivial⟩ rfl (k0 rfl H hS)
    · have e := (if_neg c1).symm.trans e
      refine ex_pc (if_neg c1) ?_
      refine ex_s (am_nb (m := 1) (pc1 := 11) (ls1 := [(0, .ref 157), (1, .int w1), (2, .int w2), (3, .int v3)]) (st1 := [.ref 157]) (H1 := H) (k1 := 0) (n1 := 0) (by with_unfolding_all rfl)) ?_
      refine xe_get (v := .ref 190) hS rfl rfl (by decide) rfl ?_
      refine ex_s (am_nb (m := 6) (pc1 := 21) (ls1 := [(0, .ref 157), (1, .int w1), (2, .int w2), (3, .int v3)]) (st1 := [.ref 157, .int ((80 * w2) + v3), .ref 190]) (H1 := H) (k1 := 0) (n1 := 0) (by with_unfolding_all rfl)) ?_
      refine xe_get (v := .ref 190) hS rfl rfl (by decide) rfl ?_
      refine ex_s (am_nb (m := 5) (pc1 := 30) (ls1 := [(0, .ref 157), (1, .int w1), (2, .int w2), (3, .int v3)]) (st1 := [.int ((80 * w1) + v3), .ref 190, .int ((80 * w2) + v3), .ref 190]) (H1 := H) (k1 := 0) (n1 := 0) (by with_unfolding_all rfl)) ?_
      obtain ⟨g2, e⟩ := xg_some e
      refine xe_iald hS rfl rfl g2 ?_
      obtain ⟨g6, e⟩ := xg_some e
      obtain ⟨a3, ha3, e⟩ := xw_some e
      refine xe_iast hS rfl rfl g6 (fun H4 s5 => ?_)
      have s5 : xS h b T a3 H4 := by rw [ha3]; exact s5
      refine ex_s (am_nb (m := 2) (pc1 := 2) (ls1 := [(3, .int (v3 + 1)), (0, .ref 157), (1, .int w1), (2, .int w2)]) (st1 := []) (H1 := H4) (k1 := 0) (n1 := 0) (by with_unfolding_all rfl)) ?_
      exact le_E (l1 := [(0, .ref 157), (1, .int w1), (2, .int w2), (3, .int (v3 + 1))]) ⟨rfl, rfl, rfl, rfl, trivial⟩ rfl (ih (v3 + 1) a3 H4 s5 e)

set_option maxRecDepth 100000 in
theorem tf388_copyRow {sL : Nat} {sx : Nat → Int32} {h b N : Nat} {T : List am_C} {a' : xA} {x0 : Int32} {x1 : Int32} {a : xA} {H : am_H} (hS : xS h b T a H) (e : f388_copyRow N h b x0 x1 a = some a') : am_E sL sx am_cs 388 0 [(0, .ref 157), (1, .int x0), (2, .int x1)] [] H none (fun H1 => xS h b T a' H1) := by
  unfold f388_copyRow at e
  refine ex_s (am_nb (m := 2) (pc1 := 2) (ls1 := [(3, .int 0), (0, .ref 157), (1, .int x0), (2, .int x1)]) (st1 := []) (H1 := H) (k1 := 0) (n1 := 0) (by with_unfolding_all rfl)) ?_
  obtain ⟨z7, e8, e⟩ := Option.bind_eq_some_iff.mp e
  refine le_E (l1 := [(0, .ref 157), (1, .int x0), (2, .int x1), (3, .int 0)]) ⟨rfl, rfl, rfl, rfl, trivial⟩ rfl (tl388_2 (z := z7)  (fun uz7_0 Hz70 sz70 => ?_) N 0 a H hS e8)
  refine ex_s (am_nb (m := 1) (pc1 := 39) (ls1 := [(0, .ref 157), (1, .int x0), (2, .int x1)]) (st1 := [.ref 157]) (H1 := Hz70) (k1 := 0) (n1 := 0) (by with_unfolding_all rfl)) ?_
  refine xe_get (v := .ref 191) sz70 rfl rfl (by decide) rfl ?_
  refine ex_s (am_nb (m := 2) (pc1 := 44) (ls1 := [(0, .ref 157), (1, .int x0), (2, .int x1)]) (st1 := [.ref 157, .int x1, .ref 191]) (H1 := Hz70) (k1 := 0) (n1 := 0) (by with_unfolding_all rfl)) ?_
  refine xe_get (v := .ref 191) sz70 rfl rfl (by decide) rfl ?_
  refine ex_s (am_nb (m := 1) (pc1 := 48) (ls1 := [(0, .ref 157), (1, .int x0), (2, .int x1)]) (st1 := [.int x0, .ref 191, .int x1, .ref 191]) (H1 := Hz70) (k1 := 0) (n1 := 0) (by with_unfolding_all rfl)) ?_
  obtain ⟨g9, e⟩ := xg_some e
  refine xe_iald sz70 rfl rfl g9 ?_
  obtain ⟨g13, e⟩ := xg_some e
  obtain ⟨a10, ha10, e⟩ := xw_some e
  refine xe_iast sz70 rfl rfl g13 (fun H11 s12 => ?_)
  have s12 : xS h b T a10 H11 := by rw [ha10]; exact s12
  cases e
  exact ex_r (st_vret rfl rfl) s12

set_option maxRecDepth 100000 in
theorem tl390_3 {sL : Nat} {sx : Nat → Int32} {h b N : Nat} {T : List am_C} {R : Option Value} {F : am_H → Prop} {w1 : Int32} {w3 : Int32} {z : Nat × xA} (k0 : z.1 = 0 → ∀ H2 : am_H, xS h b T z.2 H2 → am_E sL sx am_cs 390 29 [] [] H2 R F) : ∀ (n : Nat) (v4 : Int32) (a : xA) (H : am_H), xS h b T a H → l390_3 N h b w1 w3 n v4 a = some z → am_E sL sx am_cs 390 3 [(0, .ref 157), (1, .int w1), (3, .int w3), (4, .int v4)] [] H R F := by
  intro n
  induction n with
  | zero =>
    intro v4 a H hS e
    cases e
  | succ n ih =>
    intro v4 a H hS e
    unfold l390_3 at e
    refine ex_s (am_nb (m := 2) (pc1 := 6) (ls1 := [(0, .ref 157), (1, .int w1), (3, .int w3), (4, .int v4)]) (st1 := [.int w3, .int v4]) (H1 := H) (k1 := 0) (n1 := 0) (by with_unfolding_all rfl)) ?_
    refine ex_s (st_icmp rfl) ?_
    by_cases c1 : w3 ≤ v4
    · have e := (if_pos c1).symm.trans e
      refine ex_pc (if_pos c1) ?_
      cases e
      exact le_E (l1 := []) trivial rfl (k0 rfl H hS)
    · have e := (if_neg c1).symm.trans e
      refine ex_pc (if_neg c1) ?_
      refine ex_s (am_nb (m := 1) (pc1 := 10) (ls1 := [(0, .ref 157), (1, .int w1), (3, .int w3), (4, .int v4)]) (st1 := [.ref 157]) (H1 := H) (k1 := 0) (n1 := 0) (by with_unfolding_all rfl)) ?_
      refine xe_get (v := .ref 190) hS rfl rfl (by decide) rfl ?_
      refine ex_s (am_nb (m := 6) (pc1 := 22) (ls1 := [(0, .ref 157), (1, .int w1), (3, .int w3), (4, .int v4)]) (st1 := [.int 32, .int ((80 * w1) + v4), .ref 190]) (H1 := H) (k1 := 0) (n1 := 0) (by with_unfolding_all rfl)) ?_
      obtain ⟨g5, e⟩ := xg_some e
      obtain ⟨a2, ha2, e⟩ := xw_some e
      refine xe_iast hS rfl rfl g5 (fun H3 s4 => ?_)
      have s4 : xS h b T a2 H3 := by rw [ha2]; exact s4
      refine ex_s (am_nb (m := 2) (pc1 := 3) (ls1 := [(4, .int (v4 + 1)), (0, .ref 157), (1, .int w1), (3, .int w3)]) (st1 := []) (H1 := H3) (k1 := 0) (n1 := 0) (by with_unfolding_all rfl)) ?_
      exact le_E (l1 := [(0, .ref 157), (1, .int w1), (3, .int w3), (4, .int (v4 + 1))]) ⟨rfl, rfl, rfl, rfl, trivial⟩ rfl (ih (v4 + 1) a2 H3 s4 e)

set_option maxRecDepth 100000 in
theorem tf390_blank {sL : Nat} {sx : Nat → Int32} {h b N : Nat} {T : List am_C} {a' : xA} {x0 : Int32} {x1 : Int32} {x2 : Int32} {a : xA} {H : am_H} (hS : xS h b T a H) (e : f390_blank N h b x0 x1 x2 a = some a') : am_E sL sx am_cs 390 0 [(0, .ref 157), (1, .int x0), (2, .int x1), (3, .int x2)] [] H none (fun H1 => xS h b T a' H1) := by
  unfold f390_blank at e
  refine ex_s (am_nb (m := 2) (pc1 := 3) (ls1 := [(4, .int x1), (0, .ref 157), (1, .int x0), (2, .int x1), (3, .int x2)]) (st1 := []) (H1 := H) (k1 := 0) (n1 := 0) (by with_unfolding_all rfl)) ?_
  obtain ⟨z6, e7, e⟩ := Option.bind_eq_some_iff.mp e
  refine le_E (l1 := [(0, .ref 157), (1, .int x0), (3, .int x2), (4, .int x1)]) ⟨rfl, rfl, rfl, rfl, trivial⟩ rfl (tl390_3 (z := z6)  (fun uz6_0 Hz60 sz60 => ?_) N x1 a H hS e7)
  cases e
  exact ex_r (st_vret rfl rfl) sz60

set_option maxRecDepth 100000 in
theorem tf389_emptyRow {sL : Nat} {sx : Nat → Int32} {h b N : Nat} {T : List am_C} {a' : xA} {x0 : Int32} {a : xA} {H : am_H} (hS : xS h b T a H) (e : f389_emptyRow N h b x0 a = some a') : am_E sL sx am_cs 389 0 [(0, .ref 157), (1, .int x0)] [] H none (fun H1 => xS h b T a' H1) := by
  unfold f389_emptyRow at e
  refine ex_s (am_nb (m := 4) (pc1 := 4) (ls1 := [(0, .ref 157), (1, .int x0)]) (st1 := [.ref 157, .int 0, .int x0, .ref 157]) (H1 := H) (k1 := 0) (n1 := 0) (by with_unfolding_all rfl)) ?_
  refine xe_get (v := .int (a 157 69)) hS rfl rfl (by decide) rfl ?_
  obtain ⟨a4, e3, e⟩ := xb1_some e
  refine ex_cv0 (as := [.int x0, .int 0, .int (a 157 69)]) (rest := []) rfl rfl rfl rfl (hS.obj rfl (by decide)) rfl (by with_unfolding_all rfl) (by with_unfolding_all rfl) (tf390_blank hS e3) (fun H1 s2 => ?_)
  refine ex_s (am_nb (m := 1) (pc1 := 11) (ls1 := [(0, .ref 157), (1, .int x0)]) (st1 := [.ref 157]) (H1 := H1) (k1 := 0) (n1 := 0) (by with_unfolding_all rfl)) ?_
  refine xe_get (v := .ref 191) s2 rfl rfl (by decide) rfl ?_
  refine ex_s (am_nb (m := 2) (pc1 := 16) (ls1 := [(0, .ref 157), (1, .int x0)]) (st1 := [.int 0, .int x0, .ref 191]) (H1 := H1) (k1 := 0) (n1 := 0) (by with_unfolding_all rfl)) ?_
  obtain ⟨g8, e⟩ := xg_some e
  obtain ⟨a5, ha5, e⟩ := xw_some e
  refine xe_iast s2 rfl rfl g8 (fun H6 s7 => ?_)
  have s7 : xS h b T a5 H6 := by rw [ha5]; exact s7
  cases e
  exact ex_r (st_vret rfl rfl) s7

set_option maxRecDepth 100000 in
theorem tl387_2 {sL : Nat} {sx : Nat → Int32} {h b N : Nat} {T : List am_C} {R : Option Value} {F : am_H → Prop} {w2 : Int32} {z : Nat × xA} (k0 : z.1 = 0 → ∀ H2 : am_H, xS h b T z.2 H2 → am_E sL sx am_cs 387 21 [(0, .ref 157), (2, .int w2)] [] H2 R F) : ∀ (n : Nat) (v3 : Int32) (a : xA) (H : am_H), xS h b T a H → l387_2 N h b w2 n v3 a = some z → am_E sL sx am_cs 387 2 [(0, .ref 157), (2, .int w2), (3, .int v3)] [] H R F := by
  intro n
  induction n with
  | zero =>
    intro v3 a H hS e
    cases e
  | succ n ih =>
    intro v3 a H hS e
    unfold l387_2 at e
    refine ex_s (am_nb (m := 2) (pc1 := 4) (ls1 := [(0, .ref 157), (2, .int w2), (3, .int v3)]) (st1 := [.int w2, .int v3]) (H1 := H) (k1 := 0) (n1 := 0) (by with_unfolding_all rfl)) ?_
    refine ex_s (st_icmp rfl) ?_
    by_cases c1 : w2 ≤ v3
    · have e := (if_pos c1).symm.trans e
      refine ex_pc (if_pos c1) ?_
      cases e
      exact le_E (l1 := [(0, .ref 157), (2, .int w2)]) ⟨rfl, rfl, trivial⟩ rfl (k0 rfl H hS)
    · have e := (if_neg c1).symm.trans e
      refine ex_pc (if_neg c1) ?_
      refine ex_s (am_nb (m := 5) (pc1 := 12) (ls1 := [(0, .ref 157), (2, .int w2), (3, .int v3)]) (st1 := [.int v3, .int (v3 + 1), .ref 157]) (H1 := H) (k1 := 0) (n1 := 0) (by with_unfolding_all rfl)) ?_
      obtain ⟨a5, e4, e⟩ := xb1_some e
      refine ex_cv0 (as := [.int (v3 + 1), .int v3]) (rest := []) rfl rfl rfl rfl (hS.obj rfl (by decide)) rfl (by with_unfolding_all rfl) (by with_unfolding_all rfl) (tf388_copyRow hS e4) (fun H2 s3 => ?_)
      refine ex_s (am_nb (m := 2) (pc1 := 2) (ls1 := [(3, .int (v3 + 1)), (0, .ref 157), (2, .int w2)]) (st1 := []) (H1 := H2) (k1 := 0) (n1 := 0) (by with_unfolding_all rfl)) ?_
      exact le_E (l1 := [(0, .ref 157), (2, .int w2), (3, .int (v3 + 1))]) ⟨rfl, rfl, rfl, trivial⟩ rfl (ih (v3 + 1) a5 H2 s3 e)

set_option maxRecDepth 100000 in
theorem tf387_rollsUp {sL : Nat} {sx : Nat → Int32} {h b N : Nat} {T : List am_C} {a' : xA} {x0 : Int32} {x1 : Int32} {a : xA} {H : am_H} (hS : xS h b T a H) (e : f387_rollsUp N h b x0 x1 a = some a') : am_E sL sx am_cs 387 0 [(0, .ref 157), (1, .int x0), (2, .int x1)] [] H none (fun H1 => xS h b T a' H1) := by
  unfold f387_rollsUp at e
  refine ex_s (am_nb (m := 2) (pc1 := 2) (ls1 := [(3, .int x0), (0, .ref 157), (1, .int x0), (2, .int x1)]) (st1 := []) (H1 := H) (k1 := 0) (n1 := 0) (by with_unfolding_all rfl)) ?_
  obtain ⟨z6, e7, e⟩ := Option.bind_eq_some_iff.mp e
  refine le_E (l1 := [(0, .ref 157), (2, .int x1), (3, .int x0)]) ⟨rfl, rfl, rfl, trivial⟩ rfl (tl387_2 (z := z6)  (fun uz6_0 Hz60 sz60 => ?_) N x0 a H hS e7)
  refine ex_s (am_nb (m := 2) (pc1 := 23) (ls1 := [(0, .ref 157), (2, .int x1)]) (st1 := [.int x1, .ref 157]) (H1 := Hz60) (k1 := 0) (n1 := 0) (by with_unfolding_all rfl)) ?_
  obtain ⟨a11, e10, e⟩ := xb1_some e
  refine ex_cv0 (as := [.int x1]) (rest := []) rfl rfl rfl rfl (sz60.obj rfl (by decide)) rfl (by with_unfolding_all rfl) (by with_unfolding_all rfl) (tf389_emptyRow sz60 e10) (fun H8 s9 => ?_)
  cases e
  exact ex_r (st_vret rfl rfl) s9

set_option maxRecDepth 100000 in
theorem tf386_index {sL : Nat} {sx : Nat → Int32} {h b N : Nat} {T : List am_C} {a' : xA} {a : xA} {H : am_H} (hS : xS h b T a H) (e : f386_index N h b a = some a') : am_E sL sx am_cs 386 0 [(0, .ref 157)] [] H none (fun H1 => xS h b T a' H1) := by
  unfold f386_index at e
  refine ex_s (am_nb (m := 1) (pc1 := 1) (ls1 := [(0, .ref 157)]) (st1 := [.ref 157]) (H1 := H) (k1 := 0) (n1 := 0) (by with_unfolding_all rfl)) ?_
  refine xe_get (v := .int (a 157 93)) hS rfl rfl (by decide) rfl ?_
  refine ex_s (am_nb (m := 1) (pc1 := 5) (ls1 := [(0, .ref 157)]) (st1 := [.ref 157, .int (a 157 93)]) (H1 := H) (k1 := 0) (n1 := 0) (by with_unfolding_all rfl)) ?_
  refine xe_get (v := .int (a 157 96)) hS rfl rfl (by decide) rfl ?_
  refine ex_s (st_icmp rfl) ?_
  by_cases c2 : (a 157 93) = (a 157 96)
  · have e := (if_pos c2).symm.trans e
    refine ex_pc (if_pos c2) ?_
    refine ex_s (am_nb (m := 2) (pc1 := 13) (ls1 := [(0, .ref 157)]) (st1 := [.ref 157, .ref 157]) (H1 := H) (k1 := 0) (n1 := 0) (by with_unfolding_all rfl)) ?_
    refine xe_get (v := .int (a 157 95)) hS rfl rfl (by decide) rfl ?_
    refine ex_s (am_nb (m := 1) (pc1 := 17) (ls1 := [(0, .ref 157)]) (st1 := [.ref 157, .int (a 157 95), .ref 157]) (H1 := H) (k1 := 0) (n1 := 0) (by with_unfolding_all rfl)) ?_
    refine xe_get (v := .int (a 157 96)) hS rfl rfl (by decide) rfl ?_
    obtain ⟨a6, e5, e⟩ := xb1_some e
    refine ex_cv0 (as := [.int (a 157 95), .int (a 157 96)]) (rest := []) rfl rfl rfl rfl (hS.obj rfl (by decide)) rfl (by with_unfolding_all rfl) (by with_unfolding_all rfl) (tf387_rollsUp hS e5) (fun H3 s4 => ?_)
    refine ex_s (am_nb (m := 2) (pc1 := 25) (ls1 := [(0, .ref 157)]) (st1 := [.int 3, .ref 157]) (H1 := H3) (k1 := 0) (n1 := 0) (by with_unfolding_all rfl)) ?_
    obtain ⟨a7, ha7, e⟩ := xw_some e
    refine xe_put (w := 3) s4 rfl rfl (by decide) rfl rfl rfl rfl (fun H8 s9 => ?_)
    have s9 : xS h b T a7 H8 := by rw [ha7]; exact s9
    refine ex_s (am_nb (m := 2) (pc1 := 30) (ls1 := [(0, .ref 157)]) (st1 := [.ref 157, .ref 157]) (H1 := H8) (k1 := 0) (n1 := 0) (by with_unfolding_all rfl)) ?_
    refine xe_get (v := .int (a7 157 93)) s9 rfl rfl (by decide) rfl ?_
    refine ex_s (am_nb (m := 1) (pc1 := 34) (ls1 := [(0, .ref 157)]) (st1 := [.ref 157, .int (a7 157 93), .ref 157]) (H1 := H8) (k1 := 0) (n1 := 0) (by with_unfolding_all rfl)) ?_
    refine xe_get (v := .int (a7 157 94)) s9 rfl rfl (by decide) rfl ?_
    obtain ⟨a13, e12, e⟩ := xb1_some e
    refine ex_cv0 (as := [.int (a7 157 93), .int (a7 157 94)]) (rest := []) rfl rfl rfl rfl (s9.obj rfl (by decide)) rfl (by with_unfolding_all rfl) (by with_unfolding_all rfl) (tf384_goes s9 e12) (fun H10 s11 => ?_)
    refine ex_s (am_nb (m := 1) (pc1 := 66) (ls1 := [(0, .ref 157)]) (st1 := []) (H1 := H10) (k1 := 0) (n1 := 0) (by with_unfolding_all rfl)) ?_
    cases e
    exact ex_r (st_vret rfl rfl) s11
  · have e := (if_neg c2).symm.trans e
    refine ex_pc (if_neg c2) ?_
    refine ex_s (am_nb (m := 2) (pc1 := 45) (ls1 := [(0, .ref 157)]) (st1 := [.ref 157, .ref 157]) (H1 := H) (k1 := 0) (n1 := 0) (by with_unfolding_all rfl)) ?_
    refine xe_get (v := .int (a 157 93)) hS rfl rfl (by decide) rfl ?_
    refine ex_s (am_nb (m := 3) (pc1 := 51) (ls1 := [(0, .ref 157)]) (st1 := [.ref 157, .int ((a 157 93) + 1), .ref 157]) (H1 := H) (k1 := 0) (n1 := 0) (by with_unfolding_all rfl)) ?_
    refine xe_get (v := .int (a 157 68)) hS rfl rfl (by decide) rfl ?_
    refine ex_s (am_nb (m := 4) (pc1 := 60) (ls1 := [(0, .ref 157)]) (st1 := [.ref 157, .int (xmin ((a 157 93) + 1) ((a 157 68) - 1)), .ref 157]) (H1 := H) (k1 := 0) (n1 := 0) (by with_unfolding_all rfl)) ?_
    refine xe_get (v := .int (a 157 94)) hS rfl rfl (by decide) rfl ?_
    obtain ⟨a17, e16, e⟩ := xb1_some e
    refine ex_cv0 (as := [.int (xmin ((a 157 93) + 1) ((a 157 68) - 1)), .int (a 157 94)]) (rest := []) rfl rfl rfl rfl (hS.obj rfl (by decide)) rfl (by with_unfolding_all rfl) (by with_unfolding_all rfl) (tf384_goes hS e16) (fun H14 s15 => ?_)
    cases e
    exact ex_r (st_vret rfl rfl) s15

set_option maxRecDepth 100000 in
theorem tj383_90 {sL : Nat} {sx : Nat → Int32} {h b N : Nat} {T : List am_C} {a' : xA} {q1 : Int32} {a : xA} {H : am_H} (hS : xS h b T a H) (e : j383_90 N h b q1 a = some a') : am_E sL sx am_cs 383 90 [(0, .ref 157), (1, .int q1)] [] H none (fun H1 => xS h b T a' H1) := by
  unfold j383_90 at e
  refine ex_s (am_nb (m := 1) (pc1 := 91) (ls1 := [(0, .ref 157), (1, .int q1)]) (st1 := [.ref 157]) (H1 := H) (k1 := 0) (n1 := 0) (by with_unfolding_all rfl)) ?_
  refine xe_get (v := .ref 190) hS rfl rfl (by decide) rfl ?_
  refine ex_s (am_nb (m := 2) (pc1 := 97) (ls1 := [(0, .ref 157), (1, .int q1)]) (st1 := [.ref 157, .int 80, .ref 190]) (H1 := H) (k1 := 0) (n1 := 0) (by with_unfolding_all rfl)) ?_
  refine xe_get (v := .int (a 157 93)) hS rfl rfl (by decide) rfl ?_
  refine ex_s (am_nb (m := 2) (pc1 := 102) (ls1 := [(0, .ref 157), (1, .int q1)]) (st1 := [.ref 157, .int (80 * (a 157 93)), .ref 190]) (H1 := H) (k1 := 0) (n1 := 0) (by with_unfolding_all rfl)) ?_
  refine xe_get (v := .int (a 157 94)) hS rfl rfl (by decide) rfl ?_
  refine ex_s (am_nb (m := 4) (pc1 := 111) (ls1 := [(0, .ref 157), (1, .int q1)]) (st1 := [.ref 157, .int 256, .int q1, .int ((80 * (a 157 93)) + (a 157 94)), .ref 190]) (H1 := H) (k1 := 0) (n1 := 0) (by with_unfolding_all rfl)) ?_
  refine xe_get (v := .int (a 157 97)) hS rfl rfl (by decide) rfl ?_
  refine ex_s (am_nb (m := 2) (pc1 := 116) (ls1 := [(0, .ref 157), (1, .int q1)]) (st1 := [.int (q1 + (256 * (a 157 97))), .int ((80 * (a 157 93)) + (a 157 94)), .ref 190]) (H1 := H) (k1 := 0) (n1 := 0) (by with_unfolding_all rfl)) ?_
  obtain ⟨g13, e⟩ := xg_some e
  obtain ⟨a10, ha10, e⟩ := xw_some e
  refine xe_iast hS rfl rfl g13 (fun H11 s12 => ?_)
  have s12 : xS h b T a10 H11 := by rw [ha10]; exact s12
  refine ex_s (am_nb (m := 1) (pc1 := 118) (ls1 := [(0, .ref 157), (1, .int q1)]) (st1 := [.ref 157]) (H1 := H11) (k1 := 0) (n1 := 0) (by with_unfolding_all rfl)) ?_
  refine xe_get (v := .int (a10 157 94)) s12 rfl rfl (by decide) rfl ?_
  refine ex_s (am_nb (m := 2) (pc1 := 123) (ls1 := [(0, .ref 157), (1, .int q1)]) (st1 := [.ref 157, .ref 157, .int (a10 157 94)]) (H1 := H11) (k1 := 0) (n1 := 0) (by with_unfolding_all rfl)) ?_
  refine xe_get (v := .int (a10 157 93)) s12 rfl rfl (by decide) rfl ?_
  obtain ⟨r17, a18, e16, e⟩ := xb2_some e
  refine ex_cv1 (as := [.int (a10 157 93)]) (rest := [.int (a10 157 94)]) rfl rfl rfl rfl (s12.obj rfl (by decide)) rfl (by with_unfolding_all rfl) (by with_unfolding_all rfl) (tf385_last s12 e16) (fun H14 s15 => ?_)
  refine ex_s (st_icmp rfl) ?_
  by_cases c20 : r17 ≤ (a10 157 94)
  · have e := (if_pos c20).symm.trans e
    refine ex_pc (if_pos c20) ?_
    refine ex_s (am_nb (m := 3) (pc1 := 153) (ls1 := [(0, .ref 157), (1, .int q1)]) (st1 := [.int 32, .ref 157, .ref 157]) (H1 := H14) (k1 := 0) (n1 := 0) (by with_unfolding_all rfl)) ?_
    obtain ⟨r24, a25, e23, e⟩ := xb2_some e
    refine ex_cv1 (as := [.int 32]) (rest := [.ref 157]) rfl rfl rfl rfl (s15.obj rfl (by decide)) rfl (by with_unfolding_all rfl) (by with_unfolding_all rfl) (tf363_mode s15 e23) (fun H21 s22 => ?_)
    obtain ⟨g29, e⟩ := xg_some e
    obtain ⟨a26, ha26, e⟩ := xw_some e
    refine xe_put (w := r24) s22 rfl rfl (by decide) rfl rfl (xfit_z g29) rfl (fun H27 s28 => ?_)
    have s28 : xS h b T a26 H27 := by rw [ha26]; exact s28
    cases e
    exact ex_r (st_vret rfl rfl) s28
  · have e := (if_neg c20).symm.trans e
    refine ex_pc (if_neg c20) ?_
    refine ex_s (am_nb (m := 2) (pc1 := 134) (ls1 := [(0, .ref 157), (1, .int q1)]) (st1 := [.ref 157, .ref 157]) (H1 := H14) (k1 := 0) (n1 := 0) (by with_unfolding_all rfl)) ?_
    refine xe_get (v := .int (a18 157 93)) s15 rfl rfl (by decide) rfl ?_
    refine ex_s (am_nb (m := 1) (pc1 := 138) (ls1 := [(0, .ref 157), (1, .int q1)]) (st1 := [.ref 157, .int (a18 157 93), .ref 157]) (H1 := H14) (k1 := 0) (n1 := 0) (by with_unfolding_all rfl)) ?_
    refine xe_get (v := .int (a18 157 94)) s15 rfl rfl (by decide) rfl ?_
    refine ex_s (am_nb (m := 2) (pc1 := 143) (ls1 := [(0, .ref 157), (1, .int q1)]) (st1 := [.int ((a18 157 94) + 1), .int (a18 157 93), .ref 157]) (H1 := H14) (k1 := 0) (n1 := 0) (by with_unfolding_all rfl)) ?_
    obtain ⟨a33, e32, e⟩ := xb1_some e
    refine ex_cv0 (as := [.int (a18 157 93), .int ((a18 157 94) + 1)]) (rest := []) rfl rfl rfl rfl (s15.obj rfl (by decide)) rfl (by with_unfolding_all rfl) (by with_unfolding_all rfl) (tf384_goes s15 e32) (fun H30 s31 => ?_)
    refine ex_s (am_nb (m := 1) (pc1 := 159) (ls1 := [(0, .ref 157), (1, .int q1)]) (st1 := []) (H1 := H30) (k1 := 0) (n1 := 0) (by with_unfolding_all rfl)) ?_
    cases e
    exact ex_r (st_vret rfl rfl) s31

set_option maxRecDepth 100000 in
theorem tl383_46 {sL : Nat} {sx : Nat → Int32} {h b N : Nat} {T : List am_C} {R : Option Value} {F : am_H → Prop} {w1 : Int32} {z : Nat × xA} (k0 : z.1 = 0 → ∀ H2 : am_H, xS h b T z.2 H2 → am_E sL sx am_cs 383 90 [(0, .ref 157), (1, .int w1)] [] H2 R F) : ∀ (n : Nat) (v2 : Int32) (a : xA) (H : am_H), xS h b T a H → l383_46 N h b w1 n v2 a = some z → am_E sL sx am_cs 383 46 [(0, .ref 157), (1, .int w1), (2, .int v2)] [] H R F := by
  intro n
  induction n with
  | zero =>
    intro v2 a H hS e
    cases e
  | succ n ih =>
    intro v2 a H hS e
    unfold l383_46 at e
    refine ex_s (am_nb (m := 2) (pc1 := 48) (ls1 := [(0, .ref 157), (1, .int w1), (2, .int v2)]) (st1 := [.ref 157, .int v2]) (H1 := H) (k1 := 0) (n1 := 0) (by with_unfolding_all rfl)) ?_
    refine xe_get (v := .int (a 157 94)) hS rfl rfl (by decide) rfl ?_
    refine ex_s (st_icmp rfl) ?_
    by_cases c39 : v2 ≤ (a 157 94)
    · have e := (if_pos c39).symm.trans e
      refine ex_pc (if_pos c39) ?_
      cases e
      exact le_E (l1 := [(0, .ref 157), (1, .int w1)]) ⟨rfl, rfl, trivial⟩ rfl (k0 rfl H hS)
    · have e := (if_neg c39).symm.trans e
      refine ex_pc (if_neg c39) ?_
      refine ex_s (am_nb (m := 1) (pc1 := 55) (ls1 := [(0, .ref 157), (1, .int w1), (2, .int v2)]) (st1 := [.ref 157]) (H1 := H) (k1 := 0) (n1 := 0) (by with_unfolding_all rfl)) ?_
      refine xe_get (v := .ref 190) hS rfl rfl (by decide) rfl ?_
      refine ex_s (am_nb (m := 2) (pc1 := 61) (ls1 := [(0, .ref 157), (1, .int w1), (2, .int v2)]) (st1 := [.ref 157, .int 80, .ref 190]) (H1 := H) (k1 := 0) (n1 := 0) (by with_unfolding_all rfl)) ?_
      refine xe_get (v := .int (a 157 93)) hS rfl rfl (by decide) rfl ?_
      refine ex_s (am_nb (m := 4) (pc1 := 68) (ls1 := [(0, .ref 157), (1, .int w1), (2, .int v2)]) (st1 := [.ref 157, .int ((80 * (a 157 93)) + v2), .ref 190]) (H1 := H) (k1 := 0) (n1 := 0) (by with_unfolding_all rfl)) ?_
      refine xe_get (v := .ref 190) hS rfl rfl (by decide) rfl ?_
      refine ex_s (am_nb (m := 2) (pc1 := 74) (ls1 := [(0, .ref 157), (1, .int w1), (2, .int v2)]) (st1 := [.ref 157, .int 80, .ref 190, .int ((80 * (a 157 93)) + v2), .ref 190]) (H1 := H) (k1 := 0) (n1 := 0) (by with_unfolding_all rfl)) ?_
      refine xe_get (v := .int (a 157 93)) hS rfl rfl (by decide) rfl ?_
      refine ex_s (am_nb (m := 5) (pc1 := 82) (ls1 := [(0, .ref 157), (1, .int w1), (2, .int v2)]) (st1 := [.int (((80 * (a 157 93)) + v2) - 1), .ref 190, .int ((80 * (a 157 93)) + v2), .ref 190]) (H1 := H) (k1 := 0) (n1 := 0) (by with_unfolding_all rfl)) ?_
      obtain ⟨g40, e⟩ := xg_some e
      refine xe_iald hS rfl rfl g40 ?_
      obtain ⟨g44, e⟩ := xg_some e
      obtain ⟨a41, ha41, e⟩ := xw_some e
      refine xe_iast hS rfl rfl g44 (fun H42 s43 => ?_)
      have s43 : xS h b T a41 H42 := by rw [ha41]; exact s43
      refine ex_s (am_nb (m := 2) (pc1 := 46) (ls1 := [(2, .int (v2 + (-1))), (0, .ref 157), (1, .int w1)]) (st1 := []) (H1 := H42) (k1 := 0) (n1 := 0) (by with_unfolding_all rfl)) ?_
      exact le_E (l1 := [(0, .ref 157), (1, .int w1), (2, .int (v2 + (-1)))]) ⟨rfl, rfl, rfl, trivial⟩ rfl (ih (v2 + (-1)) a41 H42 s43 e)

set_option maxRecDepth 100000 in
theorem tj383_29 {sL : Nat} {sx : Nat → Int32} {h b N : Nat} {T : List am_C} {a' : xA} {q1 : Int32} {a : xA} {H : am_H} (hS : xS h b T a H) (e : j383_29 N h b q1 a = some a') : am_E sL sx am_cs 383 29 [(0, .ref 157), (1, .int q1)] [] H none (fun H1 => xS h b T a' H1) := by
  unfold j383_29 at e
  refine ex_s (am_nb (m := 2) (pc1 := 31) (ls1 := [(0, .ref 157), (1, .int q1)]) (st1 := [.int 1, .ref 157]) (H1 := H) (k1 := 0) (n1 := 0) (by with_unfolding_all rfl)) ?_
  obtain ⟨r6, a7, e5, e⟩ := xb2_some e
  refine ex_cv1 (as := [.int 1]) (rest := []) rfl rfl rfl rfl (hS.obj rfl (by decide)) rfl (by with_unfolding_all rfl) (by with_unfolding_all rfl) (tf363_mode hS e5) (fun H3 s4 => ?_)
  refine ex_s (st_if rfl) ?_
  by_cases c9 : r6 = 0
  · have e := (if_pos c9).symm.trans e
    refine ex_pc (if_pos c9) ?_
    exact le_E (l1 := [(0, .ref 157), (1, .int q1)]) ⟨rfl, rfl, trivial⟩ rfl (tj383_90  s4 e)
  · have e := (if_neg c9).symm.trans e
    refine ex_pc (if_neg c9) ?_
    refine ex_s (am_nb (m := 2) (pc1 := 39) (ls1 := [(0, .ref 157), (1, .int q1)]) (st1 := [.ref 157, .ref 157]) (H1 := H3) (k1 := 0) (n1 := 0) (by with_unfolding_all rfl)) ?_
    refine xe_get (v := .int (a7 157 93)) s4 rfl rfl (by decide) rfl ?_
    obtain ⟨r37, a38, e36, e⟩ := xb2_some e
    refine ex_cv1 (as := [.int (a7 157 93)]) (rest := []) rfl rfl rfl rfl (s4.obj rfl (by decide)) rfl (by with_unfolding_all rfl) (by with_unfolding_all rfl) (tf385_last s4 e36) (fun H34 s35 => ?_)
    refine ex_s (am_nb (m := 1) (pc1 := 46) (ls1 := [(2, .int r37), (0, .ref 157), (1, .int q1)]) (st1 := []) (H1 := H34) (k1 := 0) (n1 := 0) (by with_unfolding_all rfl)) ?_
    obtain ⟨z45, e46, e⟩ := Option.bind_eq_some_iff.mp e
    refine le_E (l1 := [(0, .ref 157), (1, .int q1), (2, .int r37)]) ⟨rfl, rfl, rfl, trivial⟩ rfl (tl383_46 (z := z45)  (fun uz45_0 Hz450 sz450 => ?_) N r37 a38 H34 s35 e46)
    exact le_E (l1 := [(0, .ref 157), (1, .int q1)]) ⟨rfl, rfl, trivial⟩ rfl (tj383_90  sz450 e)

set_option maxRecDepth 100000 in
theorem tf383_prints {sL : Nat} {sx : Nat → Int32} {h b N : Nat} {T : List am_C} {a' : xA} {x0 : Int32} {a : xA} {H : am_H} (hS : xS h b T a H) (e : f383_prints N h b x0 a = some a') : am_E sL sx am_cs 383 0 [(0, .ref 157), (1, .int x0)] [] H none (fun H1 => xS h b T a' H1) := by
  unfold f383_prints at e
  refine ex_s (am_nb (m := 1) (pc1 := 1) (ls1 := [(0, .ref 157), (1, .int x0)]) (st1 := [.ref 157]) (H1 := H) (k1 := 0) (n1 := 0) (by with_unfolding_all rfl)) ?_
  refine xe_get (v := .int (a 157 108)) hS rfl rfl (by decide) rfl ?_
  refine ex_s (st_if rfl) ?_
  by_cases c2 : (a 157 108) = 0
  · have e := (if_pos c2).symm.trans e
    refine ex_pc (if_pos c2) ?_
    exact le_E (l1 := [(0, .ref 157), (1, .int x0)]) ⟨rfl, rfl, trivial⟩ rfl (tj383_29  hS e)
  · have e := (if_neg c2).symm.trans e
    refine ex_pc (if_neg c2) ?_
    refine ex_s (am_nb (m := 2) (pc1 := 10) (ls1 := [(0, .ref 157), (1, .int x0)]) (st1 := [.int 32, .ref 157]) (H1 := H) (k1 := 0) (n1 := 0) (by with_unfolding_all rfl)) ?_
    obtain ⟨r50, a51, e49, e⟩ := xb2_some e
    refine ex_cv1 (as := [.int 32]) (rest := []) rfl rfl rfl rfl (hS.obj rfl (by decide)) rfl (by with_unfolding_all rfl) (by with_unfolding_all rfl) (tf363_mode hS e49) (fun H47 s48 => ?_)
    refine ex_s (st_if rfl) ?_
    by_cases c53 : r50 = 0
    · have e := (if_pos c53).symm.trans e
      refine ex_pc (if_pos c53) ?_
      exact le_E (l1 := [(0, .ref 157), (1, .int x0)]) ⟨rfl, rfl, trivial⟩ rfl (tj383_29  s48 e)
    · have e := (if_neg c53).symm.trans e
      refine ex_pc (if_neg c53) ?_
      refine ex_s (am_nb (m := 2) (pc1 := 18) (ls1 := [(0, .ref 157), (1, .int x0)]) (st1 := [.ref 157, .ref 157]) (H1 := H47) (k1 := 0) (n1 := 0) (by with_unfolding_all rfl)) ?_
      refine xe_get (v := .int (a51 157 93)) s48 rfl rfl (by decide) rfl ?_
      refine ex_s (am_nb (m := 1) (pc1 := 22) (ls1 := [(0, .ref 157), (1, .int x0)]) (st1 := [.int 0, .int (a51 157 93), .ref 157]) (H1 := H47) (k1 := 0) (n1 := 0) (by with_unfolding_all rfl)) ?_
      obtain ⟨a57, e56, e⟩ := xb1_some e
      refine ex_cv0 (as := [.int (a51 157 93), .int 0]) (rest := []) rfl rfl rfl rfl (s48.obj rfl (by decide)) rfl (by with_unfolding_all rfl) (by with_unfolding_all rfl) (tf384_goes s48 e56) (fun H54 s55 => ?_)
      refine ex_s (am_nb (m := 1) (pc1 := 26) (ls1 := [(0, .ref 157), (1, .int x0)]) (st1 := [.ref 157]) (H1 := H54) (k1 := 0) (n1 := 0) (by with_unfolding_all rfl)) ?_
      obtain ⟨a61, e60, e⟩ := xb1_some e
      refine ex_cv0 (as := []) (rest := []) rfl rfl rfl rfl (s55.obj rfl (by decide)) rfl (by with_unfolding_all rfl) (by with_unfolding_all rfl) (tf386_index s55 e60) (fun H58 s59 => ?_)
      exact le_E (l1 := [(0, .ref 157), (1, .int x0)]) ⟨rfl, rfl, trivial⟩ rfl (tj383_29  s59 e)

set_option maxRecDepth 100000 in
theorem tl391_107 {sL : Nat} {sx : Nat → Int32} {h b N : Nat} {T : List am_C} {R : Option Value} {F : am_H → Prop} {z : Nat × Int32 × xA} (k0 : z.1 = 0 → ∀ H2 : am_H, xS h b T z.2.2 H2 → am_E sL sx am_cs 391 134 [(0, .ref 157), (2, .int z.2.1)] [] H2 R F) : ∀ (n : Nat) (v2 : Int32) (a : xA) (H : am_H), xS h b T a H → l391_107 N h b n v2 a = some z → am_E sL sx am_cs 391 107 [(0, .ref 157), (2, .int v2)] [] H R F := by
  intro n
  induction n with
  | zero =>
    intro v2 a H hS e
    cases e
  | succ n ih =>
    intro v2 a H hS e
    unfold l391_107 at e
    refine ex_s (am_nb (m := 3) (pc1 := 110) (ls1 := [(0, .ref 157), (2, .int v2)]) (st1 := [.ref 157, .ref 157, .int v2]) (H1 := H) (k1 := 0) (n1 := 0) (by with_unfolding_all rfl)) ?_
    refine xe_get (v := .int (a 157 93)) hS rfl rfl (by decide) rfl ?_
    obtain ⟨r20, a21, e19, e⟩ := xb2_some e
    refine ex_cv1 (as := [.int (a 157 93)]) (rest := [.int v2]) rfl rfl rfl rfl (hS.obj rfl (by decide)) rfl (by with_unfolding_all rfl) (by with_unfolding_all rfl) (tf385_last hS e19) (fun H17 s18 => ?_)
    refine ex_s (st_icmp rfl) ?_
    by_cases c23 : r20 ≤ v2
    · have e := (if_pos c23).symm.trans e
      refine ex_pc (if_pos c23) ?_
      cases e
      exact le_E (l1 := [(0, .ref 157), (2, .int v2)]) ⟨rfl, rfl, trivial⟩ rfl (k0 rfl H17 s18)
    · have e := (if_neg c23).symm.trans e
      refine ex_pc (if_neg c23) ?_
      refine ex_s (am_nb (m := 1) (pc1 := 120) (ls1 := [(0, .ref 157), (2, .int v2)]) (st1 := [.ref 157]) (H1 := H17) (k1 := 0) (n1 := 0) (by with_unfolding_all rfl)) ?_
      refine xe_get (v := .ref 192) s18 rfl rfl (by decide) rfl ?_
      refine ex_s (am_nb (m := 1) (pc1 := 124) (ls1 := [(0, .ref 157), (2, .int v2)]) (st1 := [.int v2, .ref 192]) (H1 := H17) (k1 := 0) (n1 := 0) (by with_unfolding_all rfl)) ?_
      obtain ⟨g24, e⟩ := xg_some e
      refine xe_zald s18 rfl rfl g24 ?_
      refine ex_s (st_if rfl) ?_
      by_cases c25 : (a21 192 (v2.toNatClampNeg)) = 0
      · have e := (if_pos c25).symm.trans e
        refine ex_pc (if_pos c25) ?_
        refine ex_s (am_nb (m := 2) (pc1 := 107) (ls1 := [(2, .int (v2 + 1)), (0, .ref 157)]) (st1 := []) (H1 := H17) (k1 := 0) (n1 := 0) (by with_unfolding_all rfl)) ?_
        exact le_E (l1 := [(0, .ref 157), (2, .int (v2 + 1))]) ⟨rfl, rfl, trivial⟩ rfl (ih (v2 + 1) a21 H17 s18 e)
      · have e := (if_neg c25).symm.trans e
        refine ex_pc (if_neg c25) ?_
        cases e
        exact le_E (l1 := [(0, .ref 157), (2, .int v2)]) ⟨rfl, rfl, trivial⟩ rfl (k0 rfl H17 s18)

set_option maxRecDepth 100000 in
theorem tj391_134 {sL : Nat} {sx : Nat → Int32} {h b N : Nat} {T : List am_C} {a' : xA} {q2 : Int32} {a : xA} {H : am_H} (hS : xS h b T a H) (e : j391_134 N h b q2 a = some a') : am_E sL sx am_cs 391 134 [(0, .ref 157), (2, .int q2)] [] H none (fun H1 => xS h b T a' H1) := by
  unfold j391_134 at e
  refine ex_s (am_nb (m := 2) (pc1 := 136) (ls1 := [(0, .ref 157), (2, .int q2)]) (st1 := [.ref 157, .ref 157]) (H1 := H) (k1 := 0) (n1 := 0) (by with_unfolding_all rfl)) ?_
  refine xe_get (v := .int (a 157 93)) hS rfl rfl (by decide) rfl ?_
  refine ex_s (am_nb (m := 1) (pc1 := 140) (ls1 := [(0, .ref 157), (2, .int q2)]) (st1 := [.int q2, .int (a 157 93), .ref 157]) (H1 := H) (k1 := 0) (n1 := 0) (by with_unfolding_all rfl)) ?_
  obtain ⟨a31, e30, e⟩ := xb1_some e
  refine ex_cv0 (as := [.int (a 157 93), .int q2]) (rest := []) rfl rfl rfl rfl (hS.obj rfl (by decide)) rfl (by with_unfolding_all rfl) (by with_unfolding_all rfl) (tf384_goes hS e30) (fun H28 s29 => ?_)
  refine ex_s (am_nb (m := 1) (pc1 := 198) (ls1 := [(0, .ref 157), (2, .int q2)]) (st1 := []) (H1 := H28) (k1 := 0) (n1 := 0) (by with_unfolding_all rfl)) ?_
  cases e
  exact ex_r (st_vret rfl rfl) s29

set_option maxRecDepth 100000 in
theorem tj391_163 {sL : Nat} {sx : Nat → Int32} {h b N : Nat} {T : List am_C} {a' : xA} {a : xA} {H : am_H} (hS : xS h b T a H) (e : j391_163 N h b a = some a') : am_E sL sx am_cs 391 163 [(0, .ref 157)] [] H none (fun H1 => xS h b T a' H1) := by
  unfold j391_163 at e
  refine ex_s (am_nb (m := 1) (pc1 := 164) (ls1 := [(0, .ref 157)]) (st1 := [.ref 157]) (H1 := H) (k1 := 0) (n1 := 0) (by with_unfolding_all rfl)) ?_
  obtain ⟨a43, e42, e⟩ := xb1_some e
  refine ex_cv0 (as := []) (rest := []) rfl rfl rfl rfl (hS.obj rfl (by decide)) rfl (by with_unfolding_all rfl) (by with_unfolding_all rfl) (tf386_index hS e42) (fun H40 s41 => ?_)
  refine ex_s (am_nb (m := 1) (pc1 := 198) (ls1 := [(0, .ref 157)]) (st1 := []) (H1 := H40) (k1 := 0) (n1 := 0) (by with_unfolding_all rfl)) ?_
  cases e
  exact ex_r (st_vret rfl rfl) s41

set_option maxRecDepth 100000 in
theorem tf391_control {sL : Nat} {sx : Nat → Int32} {h b N : Nat} {T : List am_C} {a' : xA} {x0 : Int32} {a : xA} {H : am_H} (hS : xS h b T a H) (e : f391_control N h b x0 a = some a') : am_E sL sx am_cs 391 0 [(0, .ref 157), (1, .int x0)] [] H none (fun H1 => xS h b T a' H1) := by
  unfold f391_control at e
  refine ex_s (am_nb (m := 1) (pc1 := 1) (ls1 := [(0, .ref 157), (1, .int x0)]) (st1 := [.int x0]) (H1 := H) (k1 := 0) (n1 := 0) (by with_unfolding_all rfl)) ?_
  refine ex_s (st_tsw rfl) ?_
  by_cases c1 : x0 = 7
  · have e := (if_pos c1).symm.trans e
    refine ex_pc (pc1 := 52) (by rw [c1]; with_unfolding_all rfl) ?_
    refine ex_s (am_nb (m := 2) (pc1 := 54) (ls1 := [(0, .ref 157), (1, .int x0)]) (st1 := [.ref 157, .ref 157]) (H1 := H) (k1 := 0) (n1 := 0) (by with_unfolding_all rfl)) ?_
    refine xe_get (v := .int (a 157 100)) hS rfl rfl (by decide) rfl ?_
    refine ex_s (am_nb (m := 2) (pc1 := 59) (ls1 := [(0, .ref 157), (1, .int x0)]) (st1 := [.int ((a 157 100) + 1), .ref 157]) (H1 := H) (k1 := 0) (n1 := 0) (by with_unfolding_all rfl)) ?_
    obtain ⟨a2, ha2, e⟩ := xw_some e
    refine xe_put (w := ((a 157 100) + 1)) hS rfl rfl (by decide) rfl rfl rfl rfl (fun H3 s4 => ?_)
    have s4 : xS h b T a2 H3 := by rw [ha2]; exact s4
    refine ex_s (am_nb (m := 1) (pc1 := 198) (ls1 := [(0, .ref 157), (1, .int x0)]) (st1 := []) (H1 := H3) (k1 := 0) (n1 := 0) (by with_unfolding_all rfl)) ?_
    cases e
    exact ex_r (st_vret rfl rfl) s4
  · have e := (if_neg c1).symm.trans e
    by_cases c5 : x0 = 8
    · have e := (if_pos c5).symm.trans e
      refine ex_pc (pc1 := 65) (by rw [c5]; with_unfolding_all rfl) ?_
      refine ex_s (am_nb (m := 2) (pc1 := 67) (ls1 := [(0, .ref 157), (1, .int x0)]) (st1 := [.ref 157, .ref 157]) (H1 := H) (k1 := 0) (n1 := 0) (by with_unfolding_all rfl)) ?_
      refine xe_get (v := .int (a 157 93)) hS rfl rfl (by decide) rfl ?_
      refine ex_s (am_nb (m := 1) (pc1 := 71) (ls1 := [(0, .ref 157), (1, .int x0)]) (st1 := [.ref 157, .int (a 157 93), .ref 157]) (H1 := H) (k1 := 0) (n1 := 0) (by with_unfolding_all rfl)) ?_
      refine xe_get (v := .int (a 157 94)) hS rfl rfl (by decide) rfl ?_
      refine ex_s (am_nb (m := 2) (pc1 := 76) (ls1 := [(0, .ref 157), (1, .int x0)]) (st1 := [.int ((a 157 94) - 1), .int (a 157 93), .ref 157]) (H1 := H) (k1 := 0) (n1 := 0) (by with_unfolding_all rfl)) ?_
      obtain ⟨a9, e8, e⟩ := xb1_some e
      refine ex_cv0 (as := [.int (a 157 93), .int ((a 157 94) - 1)]) (rest := []) rfl rfl rfl rfl (hS.obj rfl (by decide)) rfl (by with_unfolding_all rfl) (by with_unfolding_all rfl) (tf384_goes hS e8) (fun H6 s7 => ?_)
      refine ex_s (am_nb (m := 1) (pc1 := 198) (ls1 := [(0, .ref 157), (1, .int x0)]) (st1 := []) (H1 := H6) (k1 := 0) (n1 := 0) (by with_unfolding_all rfl)) ?_
      cases e
      exact ex_r (st_vret rfl rfl) s7
    · have e := (if_neg c5).symm.trans e
      by_cases c10 : x0 = 9
      · have e := (if_pos c10).symm.trans e
        refine ex_pc (pc1 := 82) (by rw [c10]; with_unfolding_all rfl) ?_
        refine ex_s (am_nb (m := 1) (pc1 := 83) (ls1 := [(0, .ref 157), (1, .int x0)]) (st1 := [.ref 157]) (H1 := H) (k1 := 0) (n1 := 0) (by with_unfolding_all rfl)) ?_
        refine xe_get (v := .int (a 157 94)) hS rfl rfl (by decide) rfl ?_
        refine ex_s (am_nb (m := 2) (pc1 := 88) (ls1 := [(0, .ref 157), (1, .int x0)]) (st1 := [.ref 157, .ref 157, .int (a 157 94)]) (H1 := H) (k1 := 0) (n1 := 0) (by with_unfolding_all rfl)) ?_
        refine xe_get (v := .int (a 157 93)) hS rfl rfl (by decide) rfl ?_
        obtain ⟨r14, a15, e13, e⟩ := xb2_some e
        refine ex_cv1 (as := [.int (a 157 93)]) (rest := [.int (a 157 94)]) rfl rfl rfl rfl (hS.obj rfl (by decide)) rfl (by with_unfolding_all rfl) (by with_unfolding_all rfl) (tf385_last hS e13) (fun H11 s12 => ?_)
        refine ex_s (st_icmp rfl) ?_
        by_cases c16 : (a 157 94) = r14
        · have e := (if_pos c16).symm.trans e
          refine ex_pc (if_pos c16) ?_
          refine ex_s (am_nb (m := 1) (pc1 := 198) (ls1 := [(0, .ref 157), (1, .int x0)]) (st1 := []) (H1 := H11) (k1 := 0) (n1 := 0) (by with_unfolding_all rfl)) ?_
          cases e
          exact ex_r (st_vret rfl rfl) s12
        · have e := (if_neg c16).symm.trans e
          refine ex_pc (if_neg c16) ?_
          refine ex_s (am_nb (m := 1) (pc1 := 101) (ls1 := [(0, .ref 157), (1, .int x0)]) (st1 := [.ref 157]) (H1 := H11) (k1 := 0) (n1 := 0) (by with_unfolding_all rfl)) ?_
          refine xe_get (v := .int (a15 157 94)) s12 rfl rfl (by decide) rfl ?_
          refine ex_s (am_nb (m := 3) (pc1 := 107) (ls1 := [(2, .int ((a15 157 94) + 1)), (0, .ref 157), (1, .int x0)]) (st1 := []) (H1 := H11) (k1 := 0) (n1 := 0) (by with_unfolding_all rfl)) ?_
          obtain ⟨z26, e27, e⟩ := Option.bind_eq_some_iff.mp e
          refine le_E (l1 := [(0, .ref 157), (2, .int ((a15 157 94) + 1))]) ⟨rfl, rfl, trivial⟩ rfl (tl391_107 (z := z26)  (fun uz26_0 Hz260 sz260 => ?_) N ((a15 157 94) + 1) a15 H11 s12 e27)
          exact le_E (l1 := [(0, .ref 157), (2, .int z26.2.1)]) ⟨rfl, rfl, trivial⟩ rfl (tj391_134  sz260 e)
      · have e := (if_neg c10).symm.trans e
        by_cases c32 : x0 = 10 ∨ x0 = 11 ∨ x0 = 12
        · have e := (if_pos c32).symm.trans e
          refine ex_pc (pc1 := 146) (by rcases c32 with c32 | c32 | c32 <;> (rw [c32]; with_unfolding_all rfl)) ?_
          refine ex_s (am_nb (m := 2) (pc1 := 148) (ls1 := [(0, .ref 157), (1, .int x0)]) (st1 := [.int 2, .ref 157]) (H1 := H) (k1 := 0) (n1 := 0) (by with_unfolding_all rfl)) ?_
          obtain ⟨r36, a37, e35, e⟩ := xb2_some e
          refine ex_cv1 (as := [.int 2]) (rest := []) rfl rfl rfl rfl (hS.obj rfl (by decide)) rfl (by with_unfolding_all rfl) (by with_unfolding_all rfl) (tf363_mode hS e35) (fun H33 s34 => ?_)
          refine ex_s (st_if rfl) ?_
          by_cases c39 : r36 = 0
          · have e := (if_pos c39).symm.trans e
            refine ex_pc (if_pos c39) ?_
            exact le_E (l1 := [(0, .ref 157)]) ⟨rfl, trivial⟩ rfl (tj391_163  s34 e)
          · have e := (if_neg c39).symm.trans e
            refine ex_pc (if_neg c39) ?_
            refine ex_s (am_nb (m := 2) (pc1 := 156) (ls1 := [(0, .ref 157), (1, .int x0)]) (st1 := [.ref 157, .ref 157]) (H1 := H33) (k1 := 0) (n1 := 0) (by with_unfolding_all rfl)) ?_
            refine xe_get (v := .int (a37 157 93)) s34 rfl rfl (by decide) rfl ?_
            refine ex_s (am_nb (m := 1) (pc1 := 160) (ls1 := [(0, .ref 157), (1, .int x0)]) (st1 := [.int 0, .int (a37 157 93), .ref 157]) (H1 := H33) (k1 := 0) (n1 := 0) (by with_unfolding_all rfl)) ?_
            obtain ⟨a47, e46, e⟩ := xb1_some e
            refine ex_cv0 (as := [.int (a37 157 93), .int 0]) (rest := []) rfl rfl rfl rfl (s34.obj rfl (by decide)) rfl (by with_unfolding_all rfl) (by with_unfolding_all rfl) (tf384_goes s34 e46) (fun H44 s45 => ?_)
            exact le_E (l1 := [(0, .ref 157)]) ⟨rfl, trivial⟩ rfl (tj391_163  s45 e)
        · have e := (if_neg c32).symm.trans e
          by_cases c48 : x0 = 13
          · have e := (if_pos c48).symm.trans e
            refine ex_pc (pc1 := 170) (by rw [c48]; with_unfolding_all rfl) ?_
            refine ex_s (am_nb (m := 2) (pc1 := 172) (ls1 := [(0, .ref 157), (1, .int x0)]) (st1 := [.ref 157, .ref 157]) (H1 := H) (k1 := 0) (n1 := 0) (by with_unfolding_all rfl)) ?_
            refine xe_get (v := .int (a 157 93)) hS rfl rfl (by decide) rfl ?_
            refine ex_s (am_nb (m := 1) (pc1 := 176) (ls1 := [(0, .ref 157), (1, .int x0)]) (st1 := [.int 0, .int (a 157 93), .ref 157]) (H1 := H) (k1 := 0) (n1 := 0) (by with_unfolding_all rfl)) ?_
            obtain ⟨a52, e51, e⟩ := xb1_some e
            refine ex_cv0 (as := [.int (a 157 93), .int 0]) (rest := []) rfl rfl rfl rfl (hS.obj rfl (by decide)) rfl (by with_unfolding_all rfl) (by with_unfolding_all rfl) (tf384_goes hS e51) (fun H49 s50 => ?_)
            refine ex_s (am_nb (m := 1) (pc1 := 198) (ls1 := [(0, .ref 157), (1, .int x0)]) (st1 := []) (H1 := H49) (k1 := 0) (n1 := 0) (by with_unfolding_all rfl)) ?_
            cases e
            exact ex_r (st_vret rfl rfl) s50
          · have e := (if_neg c48).symm.trans e
            by_cases c53 : x0 = 14
            · have e := (if_pos c53).symm.trans e
              refine ex_pc (pc1 := 182) (by rw [c53]; with_unfolding_all rfl) ?_
              refine ex_s (am_nb (m := 2) (pc1 := 184) (ls1 := [(0, .ref 157), (1, .int x0)]) (st1 := [.int 1, .ref 157]) (H1 := H) (k1 := 0) (n1 := 0) (by with_unfolding_all rfl)) ?_
              obtain ⟨a54, ha54, e⟩ := xw_some e
              refine xe_put (w := 1) hS rfl rfl (by decide) rfl rfl rfl rfl (fun H55 s56 => ?_)
              have s56 : xS h b T a54 H55 := by rw [ha54]; exact s56
              refine ex_s (am_nb (m := 1) (pc1 := 198) (ls1 := [(0, .ref 157), (1, .int x0)]) (st1 := []) (H1 := H55) (k1 := 0) (n1 := 0) (by with_unfolding_all rfl)) ?_
              cases e
              exact ex_r (st_vret rfl rfl) s56
            · have e := (if_neg c53).symm.trans e
              by_cases c57 : x0 = 15
              · have e := (if_pos c57).symm.trans e
                refine ex_pc (pc1 := 190) (by rw [c57]; with_unfolding_all rfl) ?_
                refine ex_s (am_nb (m := 2) (pc1 := 192) (ls1 := [(0, .ref 157), (1, .int x0)]) (st1 := [.int 0, .ref 157]) (H1 := H) (k1 := 0) (n1 := 0) (by with_unfolding_all rfl)) ?_
                obtain ⟨a58, ha58, e⟩ := xw_some e
                refine xe_put (w := 0) hS rfl rfl (by decide) rfl rfl rfl rfl (fun H59 s60 => ?_)
                have s60 : xS h b T a58 H59 := by rw [ha58]; exact s60
                refine ex_s (am_nb (m := 1) (pc1 := 198) (ls1 := [(0, .ref 157), (1, .int x0)]) (st1 := []) (H1 := H59) (k1 := 0) (n1 := 0) (by with_unfolding_all rfl)) ?_
                cases e
                exact ex_r (st_vret rfl rfl) s60
              · have e := (if_neg c57).symm.trans e
                refine ex_pc (pc1 := 198) (am_sw_n (sw_c (Or.inl c1) (sw_c (Or.inl c5) (sw_c (Or.inl c10) (sw_c (Or.inl (fun q => c32 (Or.inl q))) (sw_c (Or.inl (fun q => c32 (Or.inr (Or.inl q)))) (sw_c (Or.inl (fun q => c32 (Or.inr (Or.inr q)))) (sw_c (Or.inl c48) (sw_c (Or.inl c53) (sw_c (Or.inl c57) sw_o)))))))))) ?_
                cases e
                exact ex_r (st_vret rfl rfl) hS

set_option maxRecDepth 100000 in
theorem tj392_39 {sL : Nat} {sx : Nat → Int32} {h b N : Nat} {T : List am_C} {a' : xA} {t0 : Int32} {a : xA} {H : am_H} (hS : xS h b T a H) (e : j392_39 N h b t0 a = some a') : am_E sL sx am_cs 392 39 [] [.int t0, .ref 157] H none (fun H1 => xS h b T a' H1) := by
  unfold j392_39 at e
  obtain ⟨a8, e7, e⟩ := xb1_some e
  refine ex_cv0 (as := [.int t0]) (rest := []) rfl rfl rfl rfl (hS.obj rfl (by decide)) rfl (by with_unfolding_all rfl) (by with_unfolding_all rfl) (tf383_prints hS e7) (fun H5 s6 => ?_)
  cases e
  exact ex_r (st_vret rfl rfl) s6

set_option maxRecDepth 100000 in
theorem tj392_38 {sL : Nat} {sx : Nat → Int32} {h b N : Nat} {T : List am_C} {a' : xA} {q1 : Int32} {a : xA} {H : am_H} (hS : xS h b T a H) (e : j392_38 N h b q1 a = some a') : am_E sL sx am_cs 392 38 [(1, .int q1)] [.ref 157] H none (fun H1 => xS h b T a' H1) := by
  unfold j392_38 at e
  refine ex_s (am_nb (m := 1) (pc1 := 39) (ls1 := [(1, .int q1)]) (st1 := [.int q1, .ref 157]) (H1 := H) (k1 := 0) (n1 := 0) (by with_unfolding_all rfl)) ?_
  exact le_E (l1 := []) trivial rfl (tj392_39  hS e)

set_option maxRecDepth 100000 in
theorem tf392_letterSeen {sL : Nat} {sx : Nat → Int32} {h b N : Nat} {T : List am_C} {a' : xA} {x0 : Int32} {a : xA} {H : am_H} (hS : xS h b T a H) (e : f392_letterSeen N h b x0 a = some a') : am_E sL sx am_cs 392 0 [(0, .ref 157), (1, .int x0)] [] H none (fun H1 => xS h b T a' H1) := by
  unfold f392_letterSeen at e
  refine ex_s (am_nb (m := 1) (pc1 := 1) (ls1 := [(0, .ref 157), (1, .int x0)]) (st1 := [.ref 157]) (H1 := H) (k1 := 0) (n1 := 0) (by with_unfolding_all rfl)) ?_
  refine xe_get (v := .int (a 157 103)) hS rfl rfl (by decide) rfl ?_
  have kk : am_E sL sx am_cs 392 18 [(0, .ref 157), (1, .int x0)] [.int (if (a 157 103) = 0 then (a 157 109) else (a 157 110))] H none (fun H1 => xS h b T a' H1) := by
    refine ex_s (am_nb (m := 3) (pc1 := 21) (ls1 := [(2, .int (if (a 157 103) = 0 then (a 157 109) else (a 157 110))), (0, .ref 157), (1, .int x0)]) (st1 := [.int (if (a 157 103) = 0 then (a 157 109) else (a 157 110)), .ref 157]) (H1 := H) (k1 := 0) (n1 := 0) (by with_unfolding_all rfl)) ?_
    refine ex_s (st_if rfl) ?_
    by_cases c4 : (if (a 157 103) = 0 then (a 157 109) else (a 157 110)) = 0
    · have e := (if_pos c4).symm.trans e
      refine ex_pc (if_pos c4) ?_
      exact le_E (l1 := [(1, .int x0)]) ⟨rfl, trivial⟩ rfl (tj392_38  hS e)
    · have e := (if_neg c4).symm.trans e
      refine ex_pc (if_neg c4) ?_
      refine ex_s (am_nb (m := 2) (pc1 := 27) (ls1 := [(2, .int (if (a 157 103) = 0 then (a 157 109) else (a 157 110))), (0, .ref 157), (1, .int x0)]) (st1 := [.int 95, .int x0, .ref 157]) (H1 := H) (k1 := 0) (n1 := 0) (by with_unfolding_all rfl)) ?_
      have kk : am_E sL sx am_cs 392 39 [(2, .int (if (a 157 103) = 0 then (a 157 109) else (a 157 110))), (0, .ref 157), (1, .int x0)] [.int (if x0 < 95 then (x0) else (x0 + 128)), .ref 157] H none (fun H1 => xS h b T a' H1) := by
        obtain ⟨a13, e12, e⟩ := xb1_some e
        refine ex_cv0 (as := [.int (if x0 < 95 then (x0) else (x0 + 128))]) (rest := []) rfl rfl rfl rfl (hS.obj rfl (by decide)) rfl (by with_unfolding_all rfl) (by with_unfolding_all rfl) (tf383_prints hS e12) (fun H10 s11 => ?_)
        cases e
        exact ex_r (st_vret rfl rfl) s11
      refine ex_s (st_icmp rfl) ?_
      by_cases c9 : x0 < 95
      · refine ex_pc (if_pos c9) ?_
        refine ex_s (am_nb (m := 1) (pc1 := 39) (ls1 := [(2, .int (if (a 157 103) = 0 then (a 157 109) else (a 157 110))), (0, .ref 157), (1, .int x0)]) (st1 := [.int x0, .ref 157]) (H1 := H) (k1 := 0) (n1 := 0) (by with_unfolding_all rfl)) ?_
        rw [if_pos c9] at kk
        exact kk
      · refine ex_pc (if_neg c9) ?_
        refine ex_s (am_nb (m := 4) (pc1 := 39) (ls1 := [(2, .int (if (a 157 103) = 0 then (a 157 109) else (a 157 110))), (0, .ref 157), (1, .int x0)]) (st1 := [.int (x0 + 128), .ref 157]) (H1 := H) (k1 := 0) (n1 := 0) (by with_unfolding_all rfl)) ?_
        rw [if_neg c9] at kk
        exact kk
  refine ex_s (st_if rfl) ?_
  by_cases c1 : (a 157 103) = 0
  · refine ex_pc (if_pos c1) ?_
    refine ex_s (am_nb (m := 1) (pc1 := 8) (ls1 := [(0, .ref 157), (1, .int x0)]) (st1 := [.ref 157]) (H1 := H) (k1 := 0) (n1 := 0) (by with_unfolding_all rfl)) ?_
    refine xe_get (v := .int (a 157 109)) hS rfl rfl (by decide) rfl ?_
    refine ex_s (am_nb (m := 1) (pc1 := 18) (ls1 := [(0, .ref 157), (1, .int x0)]) (st1 := [.int (a 157 109)]) (H1 := H) (k1 := 0) (n1 := 0) (by with_unfolding_all rfl)) ?_
    rw [if_pos c1] at kk
    exact kk
  · refine ex_pc (if_neg c1) ?_
    refine ex_s (am_nb (m := 1) (pc1 := 15) (ls1 := [(0, .ref 157), (1, .int x0)]) (st1 := [.ref 157]) (H1 := H) (k1 := 0) (n1 := 0) (by with_unfolding_all rfl)) ?_
    refine xe_get (v := .int (a 157 110)) hS rfl rfl (by decide) rfl ?_
    rw [if_neg c1] at kk
    exact kk

set_option maxRecDepth 100000 in
theorem tl394_130 {sL : Nat} {sx : Nat → Int32} {h b N : Nat} {T : List am_C} {R : Option Value} {F : am_H → Prop} {w2 : Int32} {z : Nat × xA} (k0 : z.1 = 0 → ∀ H2 : am_H, xS h b T z.2 H2 → am_E sL sx am_cs 394 157 [(0, .ref 157), (2, .int w2)] [] H2 R F) : ∀ (n : Nat) (v3 : Int32) (a : xA) (H : am_H), xS h b T a H → l394_130 N h b w2 n v3 a = some z → am_E sL sx am_cs 394 130 [(0, .ref 157), (2, .int w2), (3, .int v3)] [] H R F := by
  intro n
  induction n with
  | zero =>
    intro v3 a H hS e
    cases e
  | succ n ih =>
    intro v3 a H hS e
    unfold l394_130 at e
    refine ex_s (am_nb (m := 2) (pc1 := 132) (ls1 := [(0, .ref 157), (2, .int w2), (3, .int v3)]) (st1 := [.ref 157, .int v3]) (H1 := H) (k1 := 0) (n1 := 0) (by with_unfolding_all rfl)) ?_
    refine xe_get (v := .int (a 157 69)) hS rfl rfl (by decide) rfl ?_
    refine ex_s (st_icmp rfl) ?_
    by_cases c4 : (a 157 69) ≤ v3
    · have e := (if_pos c4).symm.trans e
      refine ex_pc (if_pos c4) ?_
      cases e
      exact le_E (l1 := [(0, .ref 157), (2, .int w2)]) ⟨rfl, rfl, trivial⟩ rfl (k0 rfl H hS)
    · have e := (if_neg c4).symm.trans e
      refine ex_pc (if_neg c4) ?_
      refine ex_s (am_nb (m := 1) (pc1 := 139) (ls1 := [(0, .ref 157), (2, .int w2), (3, .int v3)]) (st1 := [.ref 157]) (H1 := H) (k1 := 0) (n1 := 0) (by with_unfolding_all rfl)) ?_
      refine xe_get (v := .ref 190) hS rfl rfl (by decide) rfl ?_
      refine ex_s (am_nb (m := 6) (pc1 := 150) (ls1 := [(0, .ref 157), (2, .int w2), (3, .int v3)]) (st1 := [.int 69, .int ((80 * w2) + v3), .ref 190]) (H1 := H) (k1 := 0) (n1 := 0) (by with_unfolding_all rfl)) ?_
      obtain ⟨g8, e⟩ := xg_some e
      obtain ⟨a5, ha5, e⟩ := xw_some e
      refine xe_iast hS rfl rfl g8 (fun H6 s7 => ?_)
      have s7 : xS h b T a5 H6 := by rw [ha5]; exact s7
      refine ex_s (am_nb (m := 2) (pc1 := 130) (ls1 := [(3, .int (v3 + 1)), (0, .ref 157), (2, .int w2)]) (st1 := []) (H1 := H6) (k1 := 0) (n1 := 0) (by with_unfolding_all rfl)) ?_
      exact le_E (l1 := [(0, .ref 157), (2, .int w2), (3, .int (v3 + 1))]) ⟨rfl, rfl, rfl, trivial⟩ rfl (ih (v3 + 1) a5 H6 s7 e)

set_option maxRecDepth 100000 in
theorem tl394_120 {sL : Nat} {sx : Nat → Int32} {h b N : Nat} {T : List am_C} {R : Option Value} {F : am_H → Prop} {z : Nat × xA} (k0 : z.1 = 0 → ∀ H2 : am_H, xS h b T z.2 H2 → am_E sL sx am_cs 394 170 [(0, .ref 157)] [] H2 R F) : ∀ (n : Nat) (v2 : Int32) (a : xA) (H : am_H), xS h b T a H → l394_120 N h b n v2 a = some z → am_E sL sx am_cs 394 120 [(0, .ref 157), (2, .int v2)] [] H R F := by
  intro n
  induction n with
  | zero =>
    intro v2 a H hS e
    cases e
  | succ n ih =>
    intro v2 a H hS e
    unfold l394_120 at e
    refine ex_s (am_nb (m := 2) (pc1 := 122) (ls1 := [(0, .ref 157), (2, .int v2)]) (st1 := [.ref 157, .int v2]) (H1 := H) (k1 := 0) (n1 := 0) (by with_unfolding_all rfl)) ?_
    refine xe_get (v := .int (a 157 68)) hS rfl rfl (by decide) rfl ?_
    refine ex_s (st_icmp rfl) ?_
    by_cases c3 : (a 157 68) ≤ v2
    · have e := (if_pos c3).symm.trans e
      refine ex_pc (if_pos c3) ?_
      cases e
      exact le_E (l1 := [(0, .ref 157)]) ⟨rfl, trivial⟩ rfl (k0 rfl H hS)
    · have e := (if_neg c3).symm.trans e
      refine ex_pc (if_neg c3) ?_
      refine ex_s (am_nb (m := 2) (pc1 := 130) (ls1 := [(3, .int 0), (0, .ref 157), (2, .int v2)]) (st1 := []) (H1 := H) (k1 := 0) (n1 := 0) (by with_unfolding_all rfl)) ?_
      obtain ⟨z9, e10, e⟩ := Option.bind_eq_some_iff.mp e
      refine le_E (l1 := [(0, .ref 157), (2, .int v2), (3, .int 0)]) ⟨rfl, rfl, rfl, trivial⟩ rfl (tl394_130 (z := z9)  (fun uz9_0 Hz90 sz90 => ?_) N 0 a H hS e10)
      refine ex_s (am_nb (m := 1) (pc1 := 158) (ls1 := [(0, .ref 157), (2, .int v2)]) (st1 := [.ref 157]) (H1 := Hz90) (k1 := 0) (n1 := 0) (by with_unfolding_all rfl)) ?_
      refine xe_get (v := .ref 191) sz90 rfl rfl (by decide) rfl ?_
      refine ex_s (am_nb (m := 2) (pc1 := 163) (ls1 := [(0, .ref 157), (2, .int v2)]) (st1 := [.int 0, .int v2, .ref 191]) (H1 := Hz90) (k1 := 0) (n1 := 0) (by with_unfolding_all rfl)) ?_
      obtain ⟨g14, e⟩ := xg_some e
      obtain ⟨a11, ha11, e⟩ := xw_some e
      refine xe_iast sz90 rfl rfl g14 (fun H12 s13 => ?_)
      have s13 : xS h b T a11 H12 := by rw [ha11]; exact s13
      refine ex_s (am_nb (m := 2) (pc1 := 120) (ls1 := [(2, .int (v2 + 1)), (0, .ref 157)]) (st1 := []) (H1 := H12) (k1 := 0) (n1 := 0) (by with_unfolding_all rfl)) ?_
      exact le_E (l1 := [(0, .ref 157), (2, .int (v2 + 1))]) ⟨rfl, rfl, trivial⟩ rfl (ih (v2 + 1) a11 H12 s13 e)
