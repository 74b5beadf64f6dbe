/-! The program does what the functions say. -/
set_option maxRecDepth 100000 in
theorem tf10_nearest {sL : Nat} {sx : Nat → Int32} {h b N : Nat} {T : List am_C} {r : Int32} {a' : xA} {x0 : Int32} {x1 : Int32} {x2 : Int32} {a : xA} {H : am_H} (hS : xS h b T a H) (e : f10_nearest N h b x0 x1 x2 a = some (r, a')) : am_E sL sx am_cs 10 0 [(0, .int x0), (1, .int x1), (2, .int x2)] [] H (some (.int r)) (fun H1 => xS h b T a' H1) := by
  unfold f10_nearest at e
  refine ex_s (am_nb (m := 2) (pc1 := 2) (ls1 := [(0, .int x0), (1, .int x1), (2, .int x2)]) (st1 := [.int x1, .int x0]) (H1 := H) (k1 := 0) (n1 := 0) (by with_unfolding_all rfl)) ?_
  refine ex_s (st_icmp rfl) ?_
  by_cases c1 : x1 ≤ x0
  · have e := (if_pos c1).symm.trans e
    refine ex_pc (if_pos c1) ?_
    refine ex_s (am_nb (m := 2) (pc1 := 9) (ls1 := [(0, .int x0), (1, .int x1), (2, .int x2)]) (st1 := [.int x2, .int x0]) (H1 := H) (k1 := 0) (n1 := 0) (by with_unfolding_all rfl)) ?_
    have kk : am_E sL sx am_cs 10 17 [(0, .int x0), (1, .int x1), (2, .int x2)] [.int (if x0 ≤ x2 then (x0) else (x2))] H (some (.int r)) (fun H1 => xS h b T a' H1) := by
      cases e
      exact ex_r (st_iret rfl rfl rfl) hS
    refine ex_s (st_icmp rfl) ?_
    by_cases c2 : x0 ≤ x2
    · refine ex_pc (if_pos c2) ?_
      refine ex_s (am_nb (m := 1) (pc1 := 17) (ls1 := [(0, .int x0), (1, .int x1), (2, .int x2)]) (st1 := [.int x0]) (H1 := H) (k1 := 0) (n1 := 0) (by with_unfolding_all rfl)) ?_
      rw [if_pos c2] at kk
      exact kk
    · refine ex_pc (if_neg c2) ?_
      refine ex_s (am_nb (m := 2) (pc1 := 17) (ls1 := [(0, .int x0), (1, .int x1), (2, .int x2)]) (st1 := [.int x2]) (H1 := H) (k1 := 0) (n1 := 0) (by with_unfolding_all rfl)) ?_
      rw [if_neg c2] at kk
      exact kk
  · have e := (if_neg c1).symm.trans e
    refine ex_pc (if_neg c1) ?_
    refine ex_s (am_nb (m := 1) (pc1 := 6) (ls1 := [(0, .int x0), (1, .int x1), (2, .int x2)]) (st1 := [.int x1]) (H1 := H) (k1 := 0) (n1 := 0) (by with_unfolding_all rfl)) ?_
    cases e
    exact ex_r (st_iret rfl rfl rfl) hS

set_option maxRecDepth 100000 in
theorem tf17_last {sL : Nat} {sx : Nat → Int32} {h b N : Nat} {T : List am_C} {r : Int32} {a' : xA} {a : xA} {H : am_H} (hS : xS h b T a H) (e : f17_last N h b a = some (r, a')) : am_E sL sx am_cs 17 0 [(0, .ref 136)] [] H (some (.int r)) (fun H1 => xS h b T a' H1) := by
  unfold f17_last at e
  refine ex_s (am_nb (m := 1) (pc1 := 1) (ls1 := [(0, .ref 136)]) (st1 := [.ref 136]) (H1 := H) (k1 := 0) (n1 := 0) (by with_unfolding_all rfl)) ?_
  refine xe_get (v := .ref 139) hS rfl rfl (by decide) rfl ?_
  refine ex_s (am_nb (m := 1) (pc1 := 5) (ls1 := [(0, .ref 136)]) (st1 := [.ref 136, .ref 139]) (H1 := H) (k1 := 0) (n1 := 0) (by with_unfolding_all rfl)) ?_
  refine xe_get (v := .int (a 136 5)) hS rfl rfl (by decide) rfl ?_
  obtain ⟨g1, e⟩ := xg_some e
  refine xe_iald hS rfl rfl g1 ?_
  refine ex_s (st_if rfl) ?_
  by_cases c3 : (a 139 ((a 136 5).toNatClampNeg)) = 0
  · have e := (if_pos c3).symm.trans e
    refine ex_pc (if_pos c3) ?_
    refine ex_s (am_nb (m := 1) (pc1 := 13) (ls1 := [(0, .ref 136)]) (st1 := [.ref 136]) (H1 := H) (k1 := 0) (n1 := 0) (by with_unfolding_all rfl)) ?_
    refine xe_get (v := .int (a 136 1)) hS rfl rfl (by decide) rfl ?_
    refine ex_s (am_nb (m := 3) (pc1 := 29) (ls1 := [(0, .ref 136)]) (st1 := [.int ((a 136 1) - 1)]) (H1 := H) (k1 := 0) (n1 := 0) (by with_unfolding_all rfl)) ?_
    cases e
    exact ex_r (st_iret rfl rfl rfl) hS
  · have e := (if_neg c3).symm.trans e
    refine ex_pc (if_neg c3) ?_
    refine ex_s (am_nb (m := 1) (pc1 := 22) (ls1 := [(0, .ref 136)]) (st1 := [.ref 136]) (H1 := H) (k1 := 0) (n1 := 0) (by with_unfolding_all rfl)) ?_
    refine xe_get (v := .int (a 136 1)) hS rfl rfl (by decide) rfl ?_
    refine ex_s (am_nb (m := 4) (pc1 := 29) (ls1 := [(0, .ref 136)]) (st1 := [.int (((a 136 1) / 2) - 1)]) (H1 := H) (k1 := 0) (n1 := 0) (by with_unfolding_all rfl)) ?_
    cases e
    exact ex_r (st_iret rfl rfl rfl) hS

set_option maxRecDepth 100000 in
theorem tf16_place {sL : Nat} {sx : Nat → Int32} {h b N : Nat} {T : List am_C} {a' : xA} {x0 : Int32} {x1 : Int32} {a : xA} {H : am_H} (hS : xS h b T a H) (e : f16_place N h b x0 x1 a = some a') : am_E sL sx am_cs 16 0 [(0, .ref 136), (1, .int x0), (2, .int x1)] [] H none (fun H1 => xS h b T a' H1) := by
  unfold f16_place at e
  refine ex_s (am_nb (m := 4) (pc1 := 4) (ls1 := [(0, .ref 136), (1, .int x0), (2, .int x1)]) (st1 := [.ref 136, .int 0, .int x0, .ref 136]) (H1 := H) (k1 := 0) (n1 := 0) (by with_unfolding_all rfl)) ?_
  refine xe_get (v := .int (a 136 0)) hS rfl rfl (by decide) rfl ?_
  refine ex_s (am_nb (m := 2) (pc1 := 9) (ls1 := [(0, .ref 136), (1, .int x0), (2, .int x1)]) (st1 := [.int ((a 136 0) - 1), .int 0, .int x0, .ref 136]) (H1 := H) (k1 := 0) (n1 := 0) (by with_unfolding_all rfl)) ?_
  obtain ⟨r4, a5, e3, e⟩ := xb2_some e
  refine ex_cs1 (as := [.int x0, .int 0, .int ((a 136 0) - 1)]) (rest := [.ref 136]) rfl (by decide) rfl rfl (by with_unfolding_all rfl) (by with_unfolding_all rfl) (tf10_nearest hS e3) (fun H1 s2 => ?_)
  obtain ⟨a6, ha6, e⟩ := xw_some e
  refine xe_put (w := r4) s2 rfl rfl (by decide) rfl rfl rfl rfl (fun H7 s8 => ?_)
  have s8 : xS h b T a6 H7 := by rw [ha6]; exact s8
  refine ex_s (am_nb (m := 4) (pc1 := 19) (ls1 := [(0, .ref 136), (1, .int x0), (2, .int x1)]) (st1 := [.ref 136, .int 0, .int x1, .ref 136]) (H1 := H7) (k1 := 0) (n1 := 0) (by with_unfolding_all rfl)) ?_
  obtain ⟨r12, a13, e11, e⟩ := xb2_some e
  refine ex_cv1 (as := []) (rest := [.int 0, .int x1, .ref 136]) rfl rfl rfl rfl (s8.obj rfl (by decide)) rfl (by with_unfolding_all rfl) (by with_unfolding_all rfl) (tf17_last s8 e11) (fun H9 s10 => ?_)
  obtain ⟨r17, a18, e16, e⟩ := xb2_some e
  refine ex_cs1 (as := [.int x1, .int 0, .int r12]) (rest := [.ref 136]) rfl (by decide) rfl rfl (by with_unfolding_all rfl) (by with_unfolding_all rfl) (tf10_nearest s10 e16) (fun H14 s15 => ?_)
  obtain ⟨a19, ha19, e⟩ := xw_some e
  refine xe_put (w := r17) s15 rfl rfl (by decide) rfl rfl rfl rfl (fun H20 s21 => ?_)
  have s21 : xS h b T a19 H20 := by rw [ha19]; exact s21
  refine ex_s (am_nb (m := 2) (pc1 := 30) (ls1 := [(0, .ref 136), (1, .int x0), (2, .int x1)]) (st1 := [.int 0, .ref 136]) (H1 := H20) (k1 := 0) (n1 := 0) (by with_unfolding_all rfl)) ?_
  obtain ⟨a22, ha22, e⟩ := xw_some e
  refine xe_put (w := 0) s21 rfl rfl (by decide) rfl rfl rfl rfl (fun H23 s24 => ?_)
  have s24 : xS h b T a22 H23 := by rw [ha22]; exact s24
  cases e
  exact ex_r (st_vret rfl rfl) s24

set_option maxRecDepth 100000 in
theorem tf18_save {sL : Nat} {sx : Nat → Int32} {h b N : Nat} {T : List am_C} {a' : xA} {a : xA} {H : am_H} (hS : xS h b T a H) (e : f18_save N h b a = some a') : am_E sL sx am_cs 18 0 [(0, .ref 136)] [] H none (fun H1 => xS h b T a' H1) := by
  unfold f18_save at e
  refine ex_s (am_nb (m := 1) (pc1 := 1) (ls1 := [(0, .ref 136)]) (st1 := [.ref 136]) (H1 := H) (k1 := 0) (n1 := 0) (by with_unfolding_all rfl)) ?_
  refine xe_get (v := .ref 137) hS rfl rfl (by decide) rfl ?_
  refine ex_s (am_nb (m := 2) (pc1 := 6) (ls1 := [(0, .ref 136)]) (st1 := [.ref 136, .int 0, .ref 137]) (H1 := H) (k1 := 0) (n1 := 0) (by with_unfolding_all rfl)) ?_
  refine xe_get (v := .int (a 136 5)) hS rfl rfl (by decide) rfl ?_
  obtain ⟨a1, ha1, e⟩ := xw_some e
  refine xe_iast hS rfl rfl (show ¬ ((0 : Int32) < 0 ∨ 6 ≤ ((0 : Int32)).toNatClampNeg) by decide) (fun H2 s3 => ?_)
  have s3 : xS h b T a1 H2 := by rw [ha1]; exact s3
  refine ex_s (am_nb (m := 1) (pc1 := 11) (ls1 := [(0, .ref 136)]) (st1 := [.ref 136]) (H1 := H2) (k1 := 0) (n1 := 0) (by with_unfolding_all rfl)) ?_
  refine xe_get (v := .ref 137) s3 rfl rfl (by decide) rfl ?_
  refine ex_s (am_nb (m := 2) (pc1 := 16) (ls1 := [(0, .ref 136)]) (st1 := [.ref 136, .int 1, .ref 137]) (H1 := H2) (k1 := 0) (n1 := 0) (by with_unfolding_all rfl)) ?_
  refine xe_get (v := .int (a1 136 6)) s3 rfl rfl (by decide) rfl ?_
  obtain ⟨a4, ha4, e⟩ := xw_some e
  refine xe_iast s3 rfl rfl (show ¬ ((1 : Int32) < 0 ∨ 6 ≤ ((1 : Int32)).toNatClampNeg) by decide) (fun H5 s6 => ?_)
  have s6 : xS h b T a4 H5 := by rw [ha4]; exact s6
  refine ex_s (am_nb (m := 1) (pc1 := 21) (ls1 := [(0, .ref 136)]) (st1 := [.ref 136]) (H1 := H5) (k1 := 0) (n1 := 0) (by with_unfolding_all rfl)) ?_
  refine xe_get (v := .ref 137) s6 rfl rfl (by decide) rfl ?_
  refine ex_s (am_nb (m := 2) (pc1 := 26) (ls1 := [(0, .ref 136)]) (st1 := [.ref 136, .int 2, .ref 137]) (H1 := H5) (k1 := 0) (n1 := 0) (by with_unfolding_all rfl)) ?_
  refine xe_get (v := .int (a4 136 11)) s6 rfl rfl (by decide) rfl ?_
  obtain ⟨a7, ha7, e⟩ := xw_some e
  refine xe_iast s6 rfl rfl (show ¬ ((2 : Int32) < 0 ∨ 6 ≤ ((2 : Int32)).toNatClampNeg) by decide) (fun H8 s9 => ?_)
  have s9 : xS h b T a7 H8 := by rw [ha7]; exact s9
  refine ex_s (am_nb (m := 1) (pc1 := 31) (ls1 := [(0, .ref 136)]) (st1 := [.ref 136]) (H1 := H8) (k1 := 0) (n1 := 0) (by with_unfolding_all rfl)) ?_
  refine xe_get (v := .ref 137) s9 rfl rfl (by decide) rfl ?_
  refine ex_s (am_nb (m := 2) (pc1 := 36) (ls1 := [(0, .ref 136)]) (st1 := [.ref 136, .int 3, .ref 137]) (H1 := H8) (k1 := 0) (n1 := 0) (by with_unfolding_all rfl)) ?_
  refine xe_get (v := .int (a7 136 12)) s9 rfl rfl (by decide) rfl ?_
  obtain ⟨a10, ha10, e⟩ := xw_some e
  refine xe_iast s9 rfl rfl (show ¬ ((3 : Int32) < 0 ∨ 6 ≤ ((3 : Int32)).toNatClampNeg) by decide) (fun H11 s12 => ?_)
  have s12 : xS h b T a10 H11 := by rw [ha10]; exact s12
  refine ex_s (am_nb (m := 1) (pc1 := 41) (ls1 := [(0, .ref 136)]) (st1 := [.ref 136]) (H1 := H11) (k1 := 0) (n1 := 0) (by with_unfolding_all rfl)) ?_
  refine xe_get (v := .ref 137) s12 rfl rfl (by decide) rfl ?_
  refine ex_s (am_nb (m := 2) (pc1 := 46) (ls1 := [(0, .ref 136)]) (st1 := [.ref 136, .int 4, .ref 137]) (H1 := H11) (k1 := 0) (n1 := 0) (by with_unfolding_all rfl)) ?_
  refine xe_get (v := .int (a10 136 13)) s12 rfl rfl (by decide) rfl ?_
  obtain ⟨a13, ha13, e⟩ := xw_some e
  refine xe_iast s12 rfl rfl (show ¬ ((4 : Int32) < 0 ∨ 6 ≤ ((4 : Int32)).toNatClampNeg) by decide) (fun H14 s15 => ?_)
  have s15 : xS h b T a13 H14 := by rw [ha13]; exact s15
  refine ex_s (am_nb (m := 1) (pc1 := 51) (ls1 := [(0, .ref 136)]) (st1 := [.ref 136]) (H1 := H14) (k1 := 0) (n1 := 0) (by with_unfolding_all rfl)) ?_
  refine xe_get (v := .ref 137) s15 rfl rfl (by decide) rfl ?_
  refine ex_s (am_nb (m := 2) (pc1 := 56) (ls1 := [(0, .ref 136)]) (st1 := [.ref 136, .int 5, .ref 137]) (H1 := H14) (k1 := 0) (n1 := 0) (by with_unfolding_all rfl)) ?_
  refine xe_get (v := .int (a13 136 10)) s15 rfl rfl (by decide) rfl ?_
  refine ex_s (am_nb (m := 2) (pc1 := 62) (ls1 := [(0, .ref 136)]) (st1 := [.int ((a13 136 10) &&& 16), .int 5, .ref 137]) (H1 := H14) (k1 := 0) (n1 := 0) (by with_unfolding_all rfl)) ?_
  obtain ⟨a16, ha16, e⟩ := xw_some e
  refine xe_iast s15 rfl rfl (show ¬ ((5 : Int32) < 0 ∨ 6 ≤ ((5 : Int32)).toNatClampNeg) by decide) (fun H17 s18 => ?_)
  have s18 : xS h b T a16 H17 := by rw [ha16]; exact s18
  cases e
  exact ex_r (st_vret rfl rfl) s18

set_option maxRecDepth 100000 in
theorem tj13_59 {sL : Nat} {sx : Nat → Int32} {h b N : Nat} {T : List am_C} {R : Option Value} {F : am_H → Prop} {z : Nat × xA} {rc : Int32 → xA → Option (Nat × xA)} (k0 : z.1 = 0 → ∀ H2 : am_H, xS h b T z.2 H2 → am_E sL sx am_cs 13 66 [(0, .ref 136)] [] H2 R F) (ih : ∀ (v1 : Int32) (a : xA) (H : am_H), xS h b T a H → rc v1 a = some z → am_E sL sx am_cs 13 30 [(0, .ref 136), (1, .int v1)] [] H R F) {q1 : Int32} {t0 : Int32} {t1 : Int32} {a : xA} {H : am_H} (hS : xS h b T a H) (e : j13_59 N h b rc q1 t0 t1 a = some z) : am_E sL sx am_cs 13 59 [(0, .ref 136), (1, .int q1)] [.int t0, .int t1, .ref 140] H R F := by
  unfold j13_59 at e
  obtain ⟨g15, e⟩ := xg_some e
  obtain ⟨a12, ha12, e⟩ := xw_some e
  refine xe_zast hS rfl rfl g15 (fun H13 s14 => ?_)
  have s14 : xS h b T a12 H13 := by rw [ha12]; exact s14
  refine ex_s (am_nb (m := 2) (pc1 := 30) (ls1 := [(1, .int (q1 + 1)), (0, .ref 136)]) (st1 := []) (H1 := H13) (k1 := 0) (n1 := 0) (by with_unfolding_all rfl)) ?_
  exact le_E (l1 := [(0, .ref 136), (1, .int (q1 + 1))]) ⟨rfl, rfl, trivial⟩ rfl (ih (q1 + 1) a12 H13 s14 e)

set_option maxRecDepth 100000 in
theorem tj13_58 {sL : Nat} {sx : Nat → Int32} {h b N : Nat} {T : List am_C} {R : Option Value} {F : am_H → Prop} {z : Nat × xA} {rc : Int32 → xA → Option (Nat × xA)} (k0 : z.1 = 0 → ∀ H2 : am_H, xS h b T z.2 H2 → am_E sL sx am_cs 13 66 [(0, .ref 136)] [] H2 R F) (ih : ∀ (v1 : Int32) (a : xA) (H : am_H), xS h b T a H → rc v1 a = some z → am_E sL sx am_cs 13 30 [(0, .ref 136), (1, .int v1)] [] H R F) {q1 : Int32} {t0 : Int32} {a : xA} {H : am_H} (hS : xS h b T a H) (e : j13_58 N h b rc q1 t0 a = some z) : am_E sL sx am_cs 13 58 [(0, .ref 136), (1, .int q1)] [.int t0, .ref 140] H R F := by
  unfold j13_58 at e
  refine ex_s (am_nb (m := 1) (pc1 := 59) (ls1 := [(0, .ref 136), (1, .int q1)]) (st1 := [.int 0, .int t0, .ref 140]) (H1 := H) (k1 := 0) (n1 := 0) (by with_unfolding_all rfl)) ?_
  exact le_E (l1 := [(0, .ref 136), (1, .int q1)]) ⟨rfl, rfl, trivial⟩ rfl (tj13_59 k0 ih  hS e)

set_option maxRecDepth 100000 in
theorem tl13_30 {sL : Nat} {sx : Nat → Int32} {h b N : Nat} {T : List am_C} {R : Option Value} {F : am_H → Prop} {z : Nat × xA} (k0 : z.1 = 0 → ∀ H2 : am_H, xS h b T z.2 H2 → am_E sL sx am_cs 13 66 [(0, .ref 136)] [] H2 R F) : ∀ (n : Nat) (v1 : Int32) (a : xA) (H : am_H), xS h b T a H → l13_30 N h b n v1 a = some z → am_E sL sx am_cs 13 30 [(0, .ref 136), (1, .int v1)] [] H R F := by
  intro n
  induction n with
  | zero =>
    intro v1 a H hS e
    cases e
  | succ n ih =>
    intro v1 a H hS e
    unfold l13_30 at e
    refine ex_s (am_nb (m := 2) (pc1 := 32) (ls1 := [(0, .ref 136), (1, .int v1)]) (st1 := [.ref 136, .int v1]) (H1 := H) (k1 := 0) (n1 := 0) (by with_unfolding_all rfl)) ?_
    refine xe_get (v := .int (a 136 1)) hS rfl rfl (by decide) rfl ?_
    refine ex_s (st_icmp rfl) ?_
    by_cases c9 : (a 136 1) ≤ v1
    · have e := (if_pos c9).symm.trans e
      refine ex_pc (if_pos c9) ?_
      cases e
      exact le_E (l1 := [(0, .ref 136)]) ⟨rfl, trivial⟩ rfl (k0 rfl H hS)
    · have e := (if_neg c9).symm.trans e
      refine ex_pc (if_neg c9) ?_
      refine ex_s (am_nb (m := 1) (pc1 := 39) (ls1 := [(0, .ref 136), (1, .int v1)]) (st1 := [.ref 136]) (H1 := H) (k1 := 0) (n1 := 0) (by with_unfolding_all rfl)) ?_
      refine xe_get (v := .ref 140) hS rfl rfl (by decide) rfl ?_
      refine ex_s (am_nb (m := 2) (pc1 := 44) (ls1 := [(0, .ref 136), (1, .int v1)]) (st1 := [.int v1, .int v1, .ref 140]) (H1 := H) (k1 := 0) (n1 := 0) (by with_unfolding_all rfl)) ?_
      refine ex_s (st_if rfl) ?_
      by_cases c11 : v1 ≤ 0
      · have e := (if_pos c11).symm.trans e
        refine ex_pc (if_pos c11) ?_
        exact le_E (l1 := [(0, .ref 136), (1, .int v1)]) ⟨rfl, rfl, trivial⟩ rfl (tj13_58 k0 ih  hS e)
      · have e := (if_neg c11).symm.trans e
        refine ex_pc (if_neg c11) ?_
        refine ex_s (am_nb (m := 3) (pc1 := 51) (ls1 := [(0, .ref 136), (1, .int v1)]) (st1 := [.int (v1 - v1 / 8 * 8), .int v1, .ref 140]) (H1 := H) (k1 := 0) (n1 := 0) (by with_unfolding_all rfl)) ?_
        have kk : am_E sL sx am_cs 13 59 [(0, .ref 136), (1, .int v1)] [.int (if (v1 - v1 / 8 * 8) = 0 then (1 : Int32) else (0 : Int32)), .int v1, .ref 140] H R F := by
          obtain ⟨g20, e⟩ := xg_some e
          obtain ⟨a17, ha17, e⟩ := xw_some e
          refine xe_zast hS rfl rfl g20 (fun H18 s19 => ?_)
          have s19 : xS h b T a17 H18 := by rw [ha17]; exact s19
          refine ex_s (am_nb (m := 2) (pc1 := 30) (ls1 := [(1, .int (v1 + 1)), (0, .ref 136)]) (st1 := []) (H1 := H18) (k1 := 0) (n1 := 0) (by with_unfolding_all rfl)) ?_
          exact le_E (l1 := [(0, .ref 136), (1, .int (v1 + 1))]) ⟨rfl, rfl, trivial⟩ rfl (ih (v1 + 1) a17 H18 s19 e)
        refine ex_s (st_if rfl) ?_
        by_cases c16 : (v1 - v1 / 8 * 8) = 0
        · refine ex_pc (if_pos c16) ?_
          refine ex_s (am_nb (m := 2) (pc1 := 59) (ls1 := [(0, .ref 136), (1, .int v1)]) (st1 := [.int 1, .int v1, .ref 140]) (H1 := H) (k1 := 0) (n1 := 0) (by with_unfolding_all rfl)) ?_
          rw [if_pos c16] at kk
          exact kk
        · refine ex_pc (if_neg c16) ?_
          refine ex_s (am_nb (m := 1) (pc1 := 59) (ls1 := [(0, .ref 136), (1, .int v1)]) (st1 := [.int 0, .int v1, .ref 140]) (H1 := H) (k1 := 0) (n1 := 0) (by with_unfolding_all rfl)) ?_
          rw [if_neg c16] at kk
          exact kk

set_option maxRecDepth 100000 in
theorem tf13_reset {sL : Nat} {sx : Nat → Int32} {h b N : Nat} {T : List am_C} {a' : xA} {a : xA} {H : am_H} (hS : xS h b T a H) (e : f13_reset N h b a = some a') : am_E sL sx am_cs 13 0 [(0, .ref 136)] [] H none (fun H1 => xS h b T a' H1) := by
  unfold f13_reset at e
  refine ex_s (am_nb (m := 1) (pc1 := 1) (ls1 := [(0, .ref 136)]) (st1 := [.ref 136]) (H1 := H) (k1 := 0) (n1 := 0) (by with_unfolding_all rfl)) ?_
  refine xe_get (v := .ref 138) hS rfl rfl (by decide) rfl ?_
  refine ex_s (am_nb (m := 2) (pc1 := 6) (ls1 := [(0, .ref 136)]) (st1 := [.ref 136, .int 0, .ref 138]) (H1 := H) (k1 := 0) (n1 := 0) (by with_unfolding_all rfl)) ?_
  refine xe_get (v := .ref 138) hS rfl rfl (by decide) rfl ?_
  refine xe_alenc (v := Int32.ofNat (h * b)) hS rfl rfl rfl ?_
  refine ex_s (am_nb (m := 1) (pc1 := 12) (ls1 := [(0, .ref 136)]) (st1 := [.int 32, .int (Int32.ofNat (h * b)), .int 0, .ref 138]) (H1 := H) (k1 := 0) (n1 := 0) (by with_unfolding_all rfl)) ?_
  obtain ⟨a4, e3, e⟩ := xb1_some e
  refine ex_cs0 (as := [.ref 138, .int 0, .int (Int32.ofNat (h * b)), .int 32]) (rest := []) rfl (by decide) rfl rfl (by with_unfolding_all rfl) (by with_unfolding_all rfl) (tf14_fill hS e3) (fun H1 s2 => ?_)
  refine ex_s (am_nb (m := 1) (pc1 := 16) (ls1 := [(0, .ref 136)]) (st1 := [.ref 136]) (H1 := H1) (k1 := 0) (n1 := 0) (by with_unfolding_all rfl)) ?_
  refine xe_get (v := .ref 139) s2 rfl rfl (by decide) rfl ?_
  refine ex_s (am_nb (m := 2) (pc1 := 21) (ls1 := [(0, .ref 136)]) (st1 := [.ref 136, .int 0, .ref 139]) (H1 := H1) (k1 := 0) (n1 := 0) (by with_unfolding_all rfl)) ?_
  refine xe_get (v := .int (a4 136 0)) s2 rfl rfl (by decide) rfl ?_
  refine ex_s (am_nb (m := 1) (pc1 := 25) (ls1 := [(0, .ref 136)]) (st1 := [.int 0, .int (a4 136 0), .int 0, .ref 139]) (H1 := H1) (k1 := 0) (n1 := 0) (by with_unfolding_all rfl)) ?_
  obtain ⟨a8, e7, e⟩ := xb1_some e
  refine ex_cs0 (as := [.ref 139, .int 0, .int (a4 136 0), .int 0]) (rest := []) rfl (by decide) rfl rfl (by with_unfolding_all rfl) (by with_unfolding_all rfl) (tf14_fill s2 e7) (fun H5 s6 => ?_)
  refine ex_s (am_nb (m := 2) (pc1 := 30) (ls1 := [(1, .int 0), (0, .ref 136)]) (st1 := []) (H1 := H5) (k1 := 0) (n1 := 0) (by with_unfolding_all rfl)) ?_
  obtain ⟨z21, e22, e⟩ := Option.bind_eq_some_iff.mp e
  refine le_E (l1 := [(0, .ref 136), (1, .int 0)]) ⟨rfl, rfl, trivial⟩ rfl (tl13_30 (z := z21)  (fun uz21_0 Hz210 sz210 => ?_) N 0 a8 H5 s6 e22)
  refine ex_s (am_nb (m := 2) (pc1 := 68) (ls1 := [(0, .ref 136)]) (st1 := [.int 0, .ref 136]) (H1 := Hz210) (k1 := 0) (n1 := 0) (by with_unfolding_all rfl)) ?_
  obtain ⟨a23, ha23, e⟩ := xw_some e
  refine xe_put (w := 0) sz210 rfl rfl (by decide) rfl rfl rfl rfl (fun H24 s25 => ?_)
  have s25 : xS h b T a23 H24 := by rw [ha23]; exact s25
  refine ex_s (am_nb (m := 2) (pc1 := 73) (ls1 := [(0, .ref 136)]) (st1 := [.ref 136, .ref 136]) (H1 := H24) (k1 := 0) (n1 := 0) (by with_unfolding_all rfl)) ?_
  refine xe_get (v := .int (a23 136 0)) s25 rfl rfl (by decide) rfl ?_
  refine ex_s (am_nb (m := 2) (pc1 := 78) (ls1 := [(0, .ref 136)]) (st1 := [.int ((a23 136 0) - 1), .ref 136]) (H1 := H24) (k1 := 0) (n1 := 0) (by with_unfolding_all rfl)) ?_
  obtain ⟨a26, ha26, e⟩ := xw_some e
  refine xe_put (w := ((a23 136 0) - 1)) s25 rfl rfl (by decide) rfl rfl rfl rfl (fun H27 s28 => ?_)
  have s28 : xS h b T a26 H27 := by rw [ha26]; exact s28
  refine ex_s (am_nb (m := 2) (pc1 := 84) (ls1 := [(0, .ref 136)]) (st1 := [.int 96, .ref 136]) (H1 := H27) (k1 := 0) (n1 := 0) (by with_unfolding_all rfl)) ?_
  obtain ⟨a29, ha29, e⟩ := xw_some e
  refine xe_put (w := 96) s28 rfl rfl (by decide) rfl rfl rfl rfl (fun H30 s31 => ?_)
  have s31 : xS h b T a29 H30 := by rw [ha29]; exact s31
  refine ex_s (am_nb (m := 2) (pc1 := 89) (ls1 := [(0, .ref 136)]) (st1 := [.int 0, .ref 136]) (H1 := H30) (k1 := 0) (n1 := 0) (by with_unfolding_all rfl)) ?_
  obtain ⟨a32, ha32, e⟩ := xw_some e
  refine xe_put (w := 0) s31 rfl rfl (by decide) rfl rfl rfl rfl (fun H33 s34 => ?_)
  have s34 : xS h b T a32 H33 := by rw [ha32]; exact s34
  refine ex_s (am_nb (m := 2) (pc1 := 94) (ls1 := [(0, .ref 136)]) (st1 := [.int 0, .ref 136]) (H1 := H33) (k1 := 0) (n1 := 0) (by with_unfolding_all rfl)) ?_
  obtain ⟨a35, ha35, e⟩ := xw_some e
  refine xe_put (w := 0) s34 rfl rfl (by decide) rfl rfl rfl rfl (fun H36 s37 => ?_)
  have s37 : xS h b T a35 H36 := by rw [ha35]; exact s37
  refine ex_s (am_nb (m := 2) (pc1 := 99) (ls1 := [(0, .ref 136)]) (st1 := [.int 0, .ref 136]) (H1 := H36) (k1 := 0) (n1 := 0) (by with_unfolding_all rfl)) ?_
  obtain ⟨a38, ha38, e⟩ := xw_some e
  refine xe_put (w := 0) s37 rfl rfl (by decide) rfl rfl rfl rfl (fun H39 s40 => ?_)
  have s40 : xS h b T a38 H39 := by rw [ha38]; exact s40
  refine ex_s (am_nb (m := 2) (pc1 := 104) (ls1 := [(0, .ref 136)]) (st1 := [.int 0, .ref 136]) (H1 := H39) (k1 := 0) (n1 := 0) (by with_unfolding_all rfl)) ?_
  obtain ⟨a41, ha41, e⟩ := xw_some e
  refine xe_put (w := 0) s40 rfl rfl (by decide) rfl rfl rfl rfl (fun H42 s43 => ?_)
  have s43 : xS h b T a41 H42 := by rw [ha41]; exact s43
  refine ex_s (am_nb (m := 3) (pc1 := 110) (ls1 := [(0, .ref 136)]) (st1 := [.int 0, .int 0, .ref 136]) (H1 := H42) (k1 := 0) (n1 := 0) (by with_unfolding_all rfl)) ?_
  obtain ⟨a47, e46, e⟩ := xb1_some e
  refine ex_cv0 (as := [.int 0, .int 0]) (rest := []) rfl rfl rfl rfl (s43.obj rfl (by decide)) rfl (by with_unfolding_all rfl) (by with_unfolding_all rfl) (tf16_place s43 e46) (fun H44 s45 => ?_)
  refine ex_s (am_nb (m := 1) (pc1 := 114) (ls1 := [(0, .ref 136)]) (st1 := [.ref 136]) (H1 := H44) (k1 := 0) (n1 := 0) (by with_unfolding_all rfl)) ?_
  obtain ⟨a51, e50, e⟩ := xb1_some e
  refine ex_cv0 (as := []) (rest := []) rfl rfl rfl rfl (s45.obj rfl (by decide)) rfl (by with_unfolding_all rfl) (by with_unfolding_all rfl) (tf18_save s45 e50) (fun H48 s49 => ?_)
  cases e
  exact ex_r (st_vret rfl rfl) s49

set_option maxRecDepth 100000 in
theorem tl20_3 {sL : Nat} {sx : Nat → Int32} {h b N : Nat} {T : List am_C} {R : Option Value} {F : am_H → Prop} {w1 : Int32} {z : Nat × xA} (k0 : z.1 = 0 → ∀ H2 : am_H, xS h b T z.2 H2 → am_E sL sx am_cs 20 49 [] [] H2 R F) : ∀ (n : Nat) (v2 : Int32) (a : xA) (H : am_H), xS h b T a H → l20_3 N h b w1 n v2 a = some z → am_E sL sx am_cs 20 3 [(0, .ref 0), (1, .int w1), (2, .int v2)] [] H R F := by
  intro n
  induction n with
  | zero =>
    intro v2 a H hS e
    cases e
  | succ n ih =>
    intro v2 a H hS e
    unfold l20_3 at e
    refine ex_s (am_nb (m := 1) (pc1 := 4) (ls1 := [(0, .ref 0), (1, .int w1), (2, .int v2)]) (st1 := [.int v2]) (H1 := H) (k1 := 0) (n1 := 0) (by with_unfolding_all rfl)) ?_
    refine ex_s (st_if rfl) ?_
    by_cases c3 : v2 < 0
    · have e := (if_pos c3).symm.trans e
      refine ex_pc (if_pos c3) ?_
      cases e
      exact le_E (l1 := []) trivial rfl (k0 rfl H hS)
    · have e := (if_neg c3).symm.trans e
      refine ex_pc (if_neg c3) ?_
      refine ex_s (am_nb (m := 1) (pc1 := 8) (ls1 := [(0, .ref 0), (1, .int w1), (2, .int v2)]) (st1 := [.ref 0]) (H1 := H) (k1 := 0) (n1 := 0) (by with_unfolding_all rfl)) ?_
      refine xe_get (v := .int (a 0 1)) hS rfl rfl (by decide) rfl ?_
      refine ex_s (am_nb (m := 1) (pc1 := 14) (ls1 := [(0, .ref 0), (1, .int w1), (2, .int v2)]) (st1 := [.int 3000, .int (a 0 1)]) (H1 := H) (k1 := 0) (n1 := 0) (by with_unfolding_all rfl)) ?_
      refine ex_s (st_icmp rfl) ?_
      by_cases c4 : 3000 ≤ (a 0 1)
      · have e := (if_pos c4).symm.trans e
        refine ex_pc (if_pos c4) ?_
        cases e
        exact le_E (l1 := []) trivial rfl (k0 rfl H hS)
      · have e := (if_neg c4).symm.trans e
        refine ex_pc (if_neg c4) ?_
        refine ex_s (am_nb (m := 1) (pc1 := 18) (ls1 := [(0, .ref 0), (1, .int w1), (2, .int v2)]) (st1 := [.ref 0]) (H1 := H) (k1 := 0) (n1 := 0) (by with_unfolding_all rfl)) ?_
        refine xe_get (v := .ref 1) hS rfl rfl (by decide) rfl ?_
        refine ex_s (am_nb (m := 1) (pc1 := 22) (ls1 := [(0, .ref 0), (1, .int w1), (2, .int v2)]) (st1 := [.ref 0, .ref 1]) (H1 := H) (k1 := 0) (n1 := 0) (by with_unfolding_all rfl)) ?_
        refine xe_get (v := .int (a 0 1)) hS rfl rfl (by decide) rfl ?_
        refine ex_s (am_nb (m := 5) (pc1 := 32) (ls1 := [(0, .ref 0), (1, .int w1), (2, .int v2)]) (st1 := [.int (((w1.toUInt32 >>> (v2.toUInt32 &&& Int32.toUInt32 31)).toInt32) &&& 255), .int (a 0 1), .ref 1]) (H1 := H) (k1 := 0) (n1 := 0) (by with_unfolding_all rfl)) ?_
        obtain ⟨g8, e⟩ := xg_some e
        obtain ⟨a5, ha5, e⟩ := xw_some e
        refine xe_iast hS rfl rfl g8 (fun H6 s7 => ?_)
        have s7 : xS h b T a5 H6 := by rw [ha5]; exact s7
        refine ex_s (am_nb (m := 2) (pc1 := 35) (ls1 := [(0, .ref 0), (1, .int w1), (2, .int v2)]) (st1 := [.ref 0, .ref 0]) (H1 := H6) (k1 := 0) (n1 := 0) (by with_unfolding_all rfl)) ?_
        refine xe_get (v := .int (a5 0 1)) s7 rfl rfl (by decide) rfl ?_
        refine ex_s (am_nb (m := 2) (pc1 := 40) (ls1 := [(0, .ref 0), (1, .int w1), (2, .int v2)]) (st1 := [.int ((a5 0 1) + 1), .ref 0]) (H1 := H6) (k1 := 0) (n1 := 0) (by with_unfolding_all rfl)) ?_
        obtain ⟨a9, ha9, e⟩ := xw_some e
        refine xe_put (w := ((a5 0 1) + 1)) s7 rfl rfl (by decide) rfl rfl rfl rfl (fun H10 s11 => ?_)
        have s11 : xS h b T a9 H10 := by rw [ha9]; exact s11
        refine ex_s (am_nb (m := 2) (pc1 := 3) (ls1 := [(2, .int (v2 + (-8))), (0, .ref 0), (1, .int w1)]) (st1 := []) (H1 := H10) (k1 := 0) (n1 := 0) (by with_unfolding_all rfl)) ?_
        exact le_E (l1 := [(0, .ref 0), (1, .int w1), (2, .int (v2 + (-8)))]) ⟨rfl, rfl, rfl, trivial⟩ rfl (ih (v2 + (-8)) a9 H10 s11 e)

set_option maxRecDepth 100000 in
theorem tf20_feedFour {sL : Nat} {sx : Nat → Int32} {h b N : Nat} {T : List am_C} {a' : xA} {x0 : Int32} {a : xA} {H : am_H} (hS : xS h b T a H) (e : f20_feedFour N h b x0 a = some a') : am_E sL sx am_cs 20 0 [(0, .ref 0), (1, .int x0)] [] H none (fun H1 => xS h b T a' H1) := by
  unfold f20_feedFour at e
  refine ex_s (am_nb (m := 2) (pc1 := 3) (ls1 := [(2, .int 24), (0, .ref 0), (1, .int x0)]) (st1 := []) (H1 := H) (k1 := 0) (n1 := 0) (by with_unfolding_all rfl)) ?_
  obtain ⟨z12, e13, e⟩ := Option.bind_eq_some_iff.mp e
  refine le_E (l1 := [(0, .ref 0), (1, .int x0), (2, .int 24)]) ⟨rfl, rfl, rfl, trivial⟩ rfl (tl20_3 (z := z12)  (fun uz12_0 Hz120 sz120 => ?_) N 24 a H hS e13)
  cases e
  exact ex_r (st_vret rfl rfl) sz120

set_option maxRecDepth 100000 in
theorem tf19_feed {sL : Nat} {sx : Nat → Int32} {h b N : Nat} {T : List am_C} {r : Int32} {a' : xA} {x0 : Int32} {x1 : Int32} {x2 : Int32} {x3 : Int32} {x4 : Int32} {a : xA} {H : am_H} (hS : xS h b T a H) (e : f19_feed N h b x0 x1 x2 x3 x4 a = some (r, a')) : am_E sL sx am_cs 19 0 [(0, .ref 0), (1, .int x0), (2, .int x1), (3, .int x2), (4, .int x3), (5, .int x4)] [] H (some (.int r)) (fun H1 => xS h b T a' H1) := by
  unfold f19_feed at e
  refine ex_s (am_nb (m := 1) (pc1 := 1) (ls1 := [(0, .ref 0), (1, .int x0), (2, .int x1), (3, .int x2), (4, .int x3), (5, .int x4)]) (st1 := [.ref 0]) (H1 := H) (k1 := 0) (n1 := 0) (by with_unfolding_all rfl)) ?_
  refine xe_get (v := .int (a 0 1)) hS rfl rfl (by decide) rfl ?_
  refine ex_s (am_nb (m := 3) (pc1 := 10) (ls1 := [(0, .ref 0), (1, .int x0), (2, .int x1), (3, .int x2), (4, .int x3), (5, .int x4)]) (st1 := [.int 3000, .int ((a 0 1) + 20)]) (H1 := H) (k1 := 0) (n1 := 0) (by with_unfolding_all rfl)) ?_
  refine ex_s (st_icmp rfl) ?_
  by_cases c1 : ((a 0 1) + 20) ≤ 3000
  · have e := (if_pos c1).symm.trans e
    refine ex_pc (if_pos c1) ?_
    refine ex_s (am_nb (m := 2) (pc1 := 17) (ls1 := [(0, .ref 0), (1, .int x0), (2, .int x1), (3, .int x2), (4, .int x3), (5, .int x4)]) (st1 := [.int x0, .ref 0]) (H1 := H) (k1 := 0) (n1 := 0) (by with_unfolding_all rfl)) ?_
    obtain ⟨a5, e4, e⟩ := xb1_some e
    refine ex_cv0 (as := [.int x0]) (rest := []) rfl rfl rfl rfl (hS.obj rfl (by decide)) rfl (by with_unfolding_all rfl) (by with_unfolding_all rfl) (tf20_feedFour hS e4) (fun H2 s3 => ?_)
    refine ex_s (am_nb (m := 2) (pc1 := 22) (ls1 := [(0, .ref 0), (1, .int x0), (2, .int x1), (3, .int x2), (4, .int x3), (5, .int x4)]) (st1 := [.int x1, .ref 0]) (H1 := H2) (k1 := 0) (n1 := 0) (by with_unfolding_all rfl)) ?_
    obtain ⟨a9, e8, e⟩ := xb1_some e
    refine ex_cv0 (as := [.int x1]) (rest := []) rfl rfl rfl rfl (s3.obj rfl (by decide)) rfl (by with_unfolding_all rfl) (by with_unfolding_all rfl) (tf20_feedFour s3 e8) (fun H6 s7 => ?_)
    refine ex_s (am_nb (m := 2) (pc1 := 27) (ls1 := [(0, .ref 0), (1, .int x0), (2, .int x1), (3, .int x2), (4, .int x3), (5, .int x4)]) (st1 := [.int x2, .ref 0]) (H1 := H6) (k1 := 0) (n1 := 0) (by with_unfolding_all rfl)) ?_
    obtain ⟨a13, e12, e⟩ := xb1_some e
    refine ex_cv0 (as := [.int x2]) (rest := []) rfl rfl rfl rfl (s7.obj rfl (by decide)) rfl (by with_unfolding_all rfl) (by with_unfolding_all rfl) (tf20_feedFour s7 e12) (fun H10 s11 => ?_)
    refine ex_s (am_nb (m := 2) (pc1 := 33) (ls1 := [(0, .ref 0), (1, .int x0), (2, .int x1), (3, .int x2), (4, .int x3), (5, .int x4)]) (st1 := [.int x3, .ref 0]) (H1 := H10) (k1 := 0) (n1 := 0) (by with_unfolding_all rfl)) ?_
    obtain ⟨a17, e16, e⟩ := xb1_some e
    refine ex_cv0 (as := [.int x3]) (rest := []) rfl rfl rfl rfl (s11.obj rfl (by decide)) rfl (by with_unfolding_all rfl) (by with_unfolding_all rfl) (tf20_feedFour s11 e16) (fun H14 s15 => ?_)
    refine ex_s (am_nb (m := 2) (pc1 := 39) (ls1 := [(0, .ref 0), (1, .int x0), (2, .int x1), (3, .int x2), (4, .int x3), (5, .int x4)]) (st1 := [.int x4, .ref 0]) (H1 := H14) (k1 := 0) (n1 := 0) (by with_unfolding_all rfl)) ?_
    obtain ⟨a21, e20, e⟩ := xb1_some e
    refine ex_cv0 (as := [.int x4]) (rest := []) rfl rfl rfl rfl (s15.obj rfl (by decide)) rfl (by with_unfolding_all rfl) (by with_unfolding_all rfl) (tf20_feedFour s15 e20) (fun H18 s19 => ?_)
    refine ex_s (am_nb (m := 1) (pc1 := 43) (ls1 := [(0, .ref 0), (1, .int x0), (2, .int x1), (3, .int x2), (4, .int x3), (5, .int x4)]) (st1 := [.int 1]) (H1 := H18) (k1 := 0) (n1 := 0) (by with_unfolding_all rfl)) ?_
    cases e
    exact ex_r (st_iret rfl rfl rfl) s19
  · have e := (if_neg c1).symm.trans e
    refine ex_pc (if_neg c1) ?_
    refine ex_s (am_nb (m := 1) (pc1 := 14) (ls1 := [(0, .ref 0), (1, .int x0), (2, .int x1), (3, .int x2), (4, .int x3), (5, .int x4)]) (st1 := [.int 0]) (H1 := H) (k1 := 0) (n1 := 0) (by with_unfolding_all rfl)) ?_
    cases e
    exact ex_r (st_iret rfl rfl rfl) hS

set_option maxRecDepth 100000 in
theorem tf21_end {sL : Nat} {sx : Nat → Int32} {h b N : Nat} {T : List am_C} {r : Int32} {a' : xA} {x0 : Int32} {a : xA} {H : am_H} (hS : xS h b T a H) (e : f21_end N h b x0 a = some (r, a')) : am_E sL sx am_cs 21 0 [(0, .ref 0), (1, .int x0)] [] H (some (.int r)) (fun H1 => xS h b T a' H1) := by
  unfold f21_end at e
  refine ex_s (am_nb (m := 1) (pc1 := 1) (ls1 := [(0, .ref 0), (1, .int x0)]) (st1 := [.int x0]) (H1 := H) (k1 := 0) (n1 := 0) (by with_unfolding_all rfl)) ?_
  refine ex_s (st_if rfl) ?_
  by_cases c3 : x0 < 0
  · have e := (if_pos c3).symm.trans e
    refine ex_pc (if_pos c3) ?_
    refine ex_s (am_nb (m := 1) (pc1 := 13) (ls1 := [(0, .ref 0), (1, .int x0)]) (st1 := [.int 0]) (H1 := H) (k1 := 0) (n1 := 0) (by with_unfolding_all rfl)) ?_
    cases e
    exact ex_r (st_iret rfl rfl rfl) hS
  · have e := (if_neg c3).symm.trans e
    refine ex_pc (if_neg c3) ?_
    refine ex_s (am_nb (m := 2) (pc1 := 6) (ls1 := [(0, .ref 0), (1, .int x0)]) (st1 := [.ref 0, .int x0]) (H1 := H) (k1 := 0) (n1 := 0) (by with_unfolding_all rfl)) ?_
    refine xe_get (v := .int (a 0 1)) hS rfl rfl (by decide) rfl ?_
    refine ex_s (st_icmp rfl) ?_
    by_cases c4 : x0 ≤ (a 0 1)
    · have e := (if_pos c4).symm.trans e
      refine ex_pc (if_pos c4) ?_
      refine ex_s (am_nb (m := 2) (pc1 := 16) (ls1 := [(0, .ref 0), (1, .int x0)]) (st1 := [.int x0, .ref 0]) (H1 := H) (k1 := 0) (n1 := 0) (by with_unfolding_all rfl)) ?_
      obtain ⟨a5, ha5, e⟩ := xw_some e
      refine xe_put (w := x0) hS rfl rfl (by decide) rfl rfl rfl rfl (fun H6 s7 => ?_)
      have s7 : xS h b T a5 H6 := by rw [ha5]; exact s7
      refine ex_s (am_nb (m := 1) (pc1 := 20) (ls1 := [(0, .ref 0), (1, .int x0)]) (st1 := [.int 1]) (H1 := H6) (k1 := 0) (n1 := 0) (by with_unfolding_all rfl)) ?_
      cases e
      exact ex_r (st_iret rfl rfl rfl) s7
    · have e := (if_neg c4).symm.trans e
      refine ex_pc (if_neg c4) ?_
      refine ex_s (am_nb (m := 1) (pc1 := 13) (ls1 := [(0, .ref 0), (1, .int x0)]) (st1 := [.int 0]) (H1 := H) (k1 := 0) (n1 := 0) (by with_unfolding_all rfl)) ?_
      cases e
      exact ex_r (st_iret rfl rfl rfl) hS

set_option maxRecDepth 100000 in
theorem tj25_29 {sL : Nat} {sx : Nat → Int32} {h b N : Nat} {T : List am_C} {r : Int32} {a' : xA} {a : xA} {H : am_H} (hS : xS h b T a H) (e : j25_29 N h b a = some (r, a')) : am_E sL sx am_cs 25 29 [] [] H (some (.int r)) (fun H1 => xS h b T a' H1) := by
  unfold j25_29 at e
  refine ex_s (am_nb (m := 2) (pc1 := 34) (ls1 := []) (st1 := [.int 1]) (H1 := H) (k1 := 0) (n1 := 0) (by with_unfolding_all rfl)) ?_
  cases e
  exact ex_r (st_iret rfl rfl rfl) hS

set_option maxRecDepth 100000 in
theorem tf25_isText {sL : Nat} {sx : Nat → Int32} {h b N : Nat} {T : List am_C} {r : Int32} {a' : xA} {x0 : Int32} {a : xA} {H : am_H} (hS : xS h b T a H) (e : f25_isText N h b x0 a = some (r, a')) : am_E sL sx am_cs 25 0 [(0, .int x0)] [] H (some (.int r)) (fun H1 => xS h b T a' H1) := by
  unfold f25_isText at e
  refine ex_s (am_nb (m := 2) (pc1 := 2) (ls1 := [(0, .int x0)]) (st1 := [.int (-1), .int x0]) (H1 := H) (k1 := 0) (n1 := 0) (by with_unfolding_all rfl)) ?_
  refine ex_s (st_icmp rfl) ?_
  by_cases c5 : x0 = (-1)
  · have e := (if_pos c5).symm.trans e
    refine ex_pc (if_pos c5) ?_
    exact le_E (l1 := []) trivial rfl (tj25_29  hS e)
  · have e := (if_neg c5).symm.trans e
    refine ex_pc (if_neg c5) ?_
    refine ex_s (am_nb (m := 2) (pc1 := 8) (ls1 := [(0, .int x0)]) (st1 := [.int 10, .int x0]) (H1 := H) (k1 := 0) (n1 := 0) (by with_unfolding_all rfl)) ?_
    refine ex_s (st_icmp rfl) ?_
    by_cases c9 : x0 = 10
    · have e := (if_pos c9).symm.trans e
      refine ex_pc (if_pos c9) ?_
      exact le_E (l1 := []) trivial rfl (tj25_29  hS e)
    · have e := (if_neg c9).symm.trans e
      refine ex_pc (if_neg c9) ?_
      refine ex_s (am_nb (m := 2) (pc1 := 14) (ls1 := [(0, .int x0)]) (st1 := [.int 9, .int x0]) (H1 := H) (k1 := 0) (n1 := 0) (by with_unfolding_all rfl)) ?_
      refine ex_s (st_icmp rfl) ?_
      by_cases c12 : x0 = 9
      · have e := (if_pos c12).symm.trans e
        refine ex_pc (if_pos c12) ?_
        exact le_E (l1 := []) trivial rfl (tj25_29  hS e)
      · have e := (if_neg c12).symm.trans e
        refine ex_pc (if_neg c12) ?_
        refine ex_s (am_nb (m := 2) (pc1 := 20) (ls1 := [(0, .int x0)]) (st1 := [.int 32, .int x0]) (H1 := H) (k1 := 0) (n1 := 0) (by with_unfolding_all rfl)) ?_
        refine ex_s (st_icmp rfl) ?_
        by_cases c15 : x0 < 32
        · have e := (if_pos c15).symm.trans e
          refine ex_pc (if_pos c15) ?_
          refine ex_s (am_nb (m := 1) (pc1 := 34) (ls1 := [(0, .int x0)]) (st1 := [.int 0]) (H1 := H) (k1 := 0) (n1 := 0) (by with_unfolding_all rfl)) ?_
          cases e
          exact ex_r (st_iret rfl rfl rfl) hS
        · have e := (if_neg c15).symm.trans e
          refine ex_pc (if_neg c15) ?_
          refine ex_s (am_nb (m := 2) (pc1 := 26) (ls1 := [(0, .int x0)]) (st1 := [.int 126, .int x0]) (H1 := H) (k1 := 0) (n1 := 0) (by with_unfolding_all rfl)) ?_
          have kk : am_E sL sx am_cs 25 34 [(0, .int x0)] [.int (if 126 < x0 then (0 : Int32) else (1 : Int32))] H (some (.int r)) (fun H1 => xS h b T a' H1) := by
            obtain ⟨g17, e⟩ := xg_some e
            cases e
            exact ex_r (st_iret rfl rfl (xnar_z g17)) hS
          refine ex_s (st_icmp rfl) ?_
          by_cases c16 : 126 < x0
          · refine ex_pc (if_pos c16) ?_
            refine ex_s (am_nb (m := 1) (pc1 := 34) (ls1 := [(0, .int x0)]) (st1 := [.int 0]) (H1 := H) (k1 := 0) (n1 := 0) (by with_unfolding_all rfl)) ?_
            rw [if_pos c16] at kk
            exact kk
          · refine ex_pc (if_neg c16) ?_
            refine ex_s (am_nb (m := 2) (pc1 := 34) (ls1 := [(0, .int x0)]) (st1 := [.int 1]) (H1 := H) (k1 := 0) (n1 := 0) (by with_unfolding_all rfl)) ?_
            rw [if_neg c16] at kk
            exact kk

set_option maxRecDepth 100000 in
theorem tf26_failed {sL : Nat} {sx : Nat → Int32} {h b N : Nat} {T : List am_C} {r : Int32} {a' : xA} {x0 : Int32} {x1 : Int32} {a : xA} {H : am_H} (hS : xS h b T a H) (e : f26_failed N h b x0 x1 a = some (r, a')) : am_E sL sx am_cs 26 0 [(0, .ref 3), (1, .int x0), (2, .int x1)] [] H (some (.int r)) (fun H1 => xS h b T a' H1) := by
  unfold f26_failed at e
  refine ex_s (am_nb (m := 2) (pc1 := 2) (ls1 := [(0, .ref 3), (1, .int x0), (2, .int x1)]) (st1 := [.int x0, .ref 3]) (H1 := H) (k1 := 0) (n1 := 0) (by with_unfolding_all rfl)) ?_
  obtain ⟨a1, ha1, e⟩ := xw_some e
  refine xe_put (w := x0) hS rfl rfl (by decide) rfl rfl rfl rfl (fun H2 s3 => ?_)
  have s3 : xS h b T a1 H2 := by rw [ha1]; exact s3
  refine ex_s (am_nb (m := 2) (pc1 := 7) (ls1 := [(0, .ref 3), (1, .int x0), (2, .int x1)]) (st1 := [.int x1, .ref 3]) (H1 := H2) (k1 := 0) (n1 := 0) (by with_unfolding_all rfl)) ?_
  obtain ⟨a4, ha4, e⟩ := xw_some e
  refine xe_put (w := x1) s3 rfl rfl (by decide) rfl rfl rfl rfl (fun H5 s6 => ?_)
  have s6 : xS h b T a4 H5 := by rw [ha4]; exact s6
  refine ex_s (am_nb (m := 1) (pc1 := 11) (ls1 := [(0, .ref 3), (1, .int x0), (2, .int x1)]) (st1 := [.int 0]) (H1 := H5) (k1 := 0) (n1 := 0) (by with_unfolding_all rfl)) ?_
  cases e
  exact ex_r (st_iret rfl rfl rfl) s6

set_option maxRecDepth 100000 in
theorem tj28_12 {sL : Nat} {sx : Nat → Int32} {h b N : Nat} {T : List am_C} {r : Int32} {a' : xA} {a : xA} {H : am_H} (hS : xS h b T a H) (e : j28_12 N h b a = some (r, a')) : am_E sL sx am_cs 28 12 [] [] H (some (.int r)) (fun H1 => xS h b T a' H1) := by
  unfold j28_12 at e
  refine ex_s (am_nb (m := 2) (pc1 := 22) (ls1 := []) (st1 := [.int (-1)]) (H1 := H) (k1 := 0) (n1 := 0) (by with_unfolding_all rfl)) ?_
  cases e
  exact ex_r (st_iret rfl rfl rfl) hS

set_option maxRecDepth 100000 in
theorem tf28_byteAt {sL : Nat} {sx : Nat → Int32} {h b N : Nat} {T : List am_C} {r : Int32} {a' : xA} {x0 : Int32} {a : xA} {H : am_H} (hS : xS h b T a H) (e : f28_byteAt N h b x0 a = some (r, a')) : am_E sL sx am_cs 28 0 [(0, .ref 3), (1, .int x0)] [] H (some (.int r)) (fun H1 => xS h b T a' H1) := by
  unfold f28_byteAt at e
  refine ex_s (am_nb (m := 1) (pc1 := 1) (ls1 := [(0, .ref 3), (1, .int x0)]) (st1 := [.int x0]) (H1 := H) (k1 := 0) (n1 := 0) (by with_unfolding_all rfl)) ?_
  refine ex_s (st_if rfl) ?_
  by_cases c3 : x0 < 0
  · have e := (if_pos c3).symm.trans e
    refine ex_pc (if_pos c3) ?_
    exact le_E (l1 := []) trivial rfl (tj28_12  hS e)
  · have e := (if_neg c3).symm.trans e
    refine ex_pc (if_neg c3) ?_
    refine ex_s (am_nb (m := 2) (pc1 := 6) (ls1 := [(0, .ref 3), (1, .int x0)]) (st1 := [.ref 3, .int x0]) (H1 := H) (k1 := 0) (n1 := 0) (by with_unfolding_all rfl)) ?_
    refine xe_get (v := .int (a 3 5)) hS rfl rfl (by decide) rfl ?_
    refine ex_s (st_icmp rfl) ?_
    by_cases c5 : x0 < (a 3 5)
    · have e := (if_pos c5).symm.trans e
      refine ex_pc (if_pos c5) ?_
      refine ex_s (am_nb (m := 1) (pc1 := 17) (ls1 := [(0, .ref 3), (1, .int x0)]) (st1 := [.ref 3]) (H1 := H) (k1 := 0) (n1 := 0) (by with_unfolding_all rfl)) ?_
      refine xe_get (v := xN (a 3 4)) hS rfl rfl (by decide) rfl ?_
      refine ex_s (am_nb (m := 1) (pc1 := 21) (ls1 := [(0, .ref 3), (1, .int x0)]) (st1 := [.int x0, xN (a 3 4)]) (H1 := H) (k1 := 0) (n1 := 0) (by first | with_unfolding_all rfl | (unfold xN; (repeat' split) <;> with_unfolding_all rfl))) ?_
      obtain ⟨g6, e⟩ := xg_some e
      rw [show xN (a 3 4) = .ref ((a 3 4).toNatClampNeg) from if_neg g6]
      obtain ⟨g7, e⟩ := xg_some e
      obtain ⟨g8, e⟩ := xg_some e
      refine xe_iald hS rfl g7 g8 ?_
      cases e
      exact ex_r (st_iret rfl rfl rfl) hS
    · have e := (if_neg c5).symm.trans e
      refine ex_pc (if_neg c5) ?_
      exact le_E (l1 := []) trivial rfl (tj28_12  hS e)

set_option maxRecDepth 100000 in
theorem tj27_30 {sL : Nat} {sx : Nat → Int32} {h b N : Nat} {T : List am_C} {r : Int32} {a' : xA} {a : xA} {H : am_H} (hS : xS h b T a H) (e : j27_30 N h b a = some (r, a')) : am_E sL sx am_cs 27 30 [(0, .ref 3)] [] H (some (.int r)) (fun H1 => xS h b T a' H1) := by
  unfold j27_30 at e
  refine ex_s (am_nb (m := 2) (pc1 := 32) (ls1 := [(0, .ref 3)]) (st1 := [.ref 3, .ref 3]) (H1 := H) (k1 := 0) (n1 := 0) (by with_unfolding_all rfl)) ?_
  refine xe_get (v := .int (a 3 6)) hS rfl rfl (by decide) rfl ?_
  refine ex_s (am_nb (m := 2) (pc1 := 37) (ls1 := [(0, .ref 3)]) (st1 := [.int ((a 3 6) + 1), .ref 3]) (H1 := H) (k1 := 0) (n1 := 0) (by with_unfolding_all rfl)) ?_
  obtain ⟨a9, ha9, e⟩ := xw_some e
  refine xe_put (w := ((a 3 6) + 1)) hS rfl rfl (by decide) rfl rfl rfl rfl (fun H10 s11 => ?_)
  have s11 : xS h b T a9 H10 := by rw [ha9]; exact s11
  refine ex_s (am_nb (m := 1) (pc1 := 41) (ls1 := [(0, .ref 3)]) (st1 := [.int 1]) (H1 := H10) (k1 := 0) (n1 := 0) (by with_unfolding_all rfl)) ?_
  cases e
  exact ex_r (st_iret rfl rfl rfl) s11

set_option maxRecDepth 100000 in
theorem tf27_passLineEnd {sL : Nat} {sx : Nat → Int32} {h b N : Nat} {T : List am_C} {r : Int32} {a' : xA} {a : xA} {H : am_H} (hS : xS h b T a H) (e : f27_passLineEnd N h b a = some (r, a')) : am_E sL sx am_cs 27 0 [(0, .ref 3)] [] H (some (.int r)) (fun H1 => xS h b T a' H1) := by
  unfold f27_passLineEnd at e
  refine ex_s (am_nb (m := 2) (pc1 := 2) (ls1 := [(0, .ref 3)]) (st1 := [.ref 3, .ref 3]) (H1 := H) (k1 := 0) (n1 := 0) (by with_unfolding_all rfl)) ?_
  refine xe_get (v := .int (a 3 6)) hS rfl rfl (by decide) rfl ?_
  obtain ⟨r4, a5, e3, e⟩ := xb2_some e
  refine ex_cv1 (as := [.int (a 3 6)]) (rest := []) rfl rfl rfl rfl (hS.obj rfl (by decide)) rfl (by with_unfolding_all rfl) (by with_unfolding_all rfl) (tf28_byteAt hS e3) (fun H1 s2 => ?_)
  refine ex_s (am_nb (m := 3) (pc1 := 11) (ls1 := [(1, .int r4), (0, .ref 3)]) (st1 := [.int (-1), .int r4]) (H1 := H1) (k1 := 0) (n1 := 0) (by with_unfolding_all rfl)) ?_
  refine ex_s (st_icmp rfl) ?_
  by_cases c8 : r4 = (-1)
  · have e := (if_pos c8).symm.trans e
    refine ex_pc (if_pos c8) ?_
    exact le_E (l1 := [(0, .ref 3)]) ⟨rfl, trivial⟩ rfl (tj27_30  s2 e)
  · have e := (if_neg c8).symm.trans e
    refine ex_pc (if_neg c8) ?_
    refine ex_s (am_nb (m := 2) (pc1 := 17) (ls1 := [(1, .int r4), (0, .ref 3)]) (st1 := [.int 10, .int r4]) (H1 := H1) (k1 := 0) (n1 := 0) (by with_unfolding_all rfl)) ?_
    refine ex_s (st_icmp rfl) ?_
    by_cases c12 : r4 = 10
    · have e := (if_pos c12).symm.trans e
      refine ex_pc (if_pos c12) ?_
      exact le_E (l1 := [(0, .ref 3)]) ⟨rfl, trivial⟩ rfl (tj27_30  s2 e)
    · have e := (if_neg c12).symm.trans e
      refine ex_pc (if_neg c12) ?_
      refine ex_s (am_nb (m := 3) (pc1 := 23) (ls1 := [(1, .int r4), (0, .ref 3)]) (st1 := [.ref 3, .int 1, .ref 3]) (H1 := H1) (k1 := 0) (n1 := 0) (by with_unfolding_all rfl)) ?_
      refine xe_get (v := .int (a5 3 6)) s2 rfl rfl (by decide) rfl ?_
      obtain ⟨r16, a17, e15, e⟩ := xb2_some e
      refine ex_cv1 (as := [.int 1, .int (a5 3 6)]) (rest := []) rfl rfl rfl rfl (s2.obj rfl (by decide)) rfl (by with_unfolding_all rfl) (by with_unfolding_all rfl) (tf26_failed s2 e15) (fun H13 s14 => ?_)
      obtain ⟨g18, e⟩ := xg_some e
      cases e
      exact ex_r (st_iret rfl rfl (xnar_z g18)) s14

set_option maxRecDepth 100000 in
theorem tj24_63 {sL : Nat} {sx : Nat → Int32} {h b N : Nat} {T : List am_C} {r : Int32} {a' : xA} {a : xA} {H : am_H} (hS : xS h b T a H) (e : j24_63 N h b a = some (r, a')) : am_E sL sx am_cs 24 63 [(0, .ref 3)] [] H (some (.int r)) (fun H1 => xS h b T a' H1) := by
  unfold j24_63 at e
  refine ex_s (am_nb (m := 1) (pc1 := 64) (ls1 := [(0, .ref 3)]) (st1 := [.ref 3]) (H1 := H) (k1 := 0) (n1 := 0) (by with_unfolding_all rfl)) ?_
  obtain ⟨r6, a7, e5, e⟩ := xb2_some e
  refine ex_cv1 (as := []) (rest := []) rfl rfl rfl rfl (hS.obj rfl (by decide)) rfl (by with_unfolding_all rfl) (by with_unfolding_all rfl) (tf27_passLineEnd hS e5) (fun H3 s4 => ?_)
  obtain ⟨g8, e⟩ := xg_some e
  cases e
  exact ex_r (st_iret rfl rfl (xnar_z g8)) s4

set_option maxRecDepth 100000 in
theorem tl24_0 {sL : Nat} {sx : Nat → Int32} {h b N : Nat} {T : List am_C} {R : Option Value} {F : am_H → Prop} {z : Nat × xA} (k0 : z.1 = 0 → ∀ H2 : am_H, xS h b T z.2 H2 → am_E sL sx am_cs 24 40 [(0, .ref 3)] [] H2 R F) (k1 : z.1 = 1 → ∀ H2 : am_H, xS h b T z.2 H2 → am_E sL sx am_cs 24 63 [(0, .ref 3)] [] H2 R F) : ∀ (n : Nat) (a : xA) (H : am_H), xS h b T a H → l24_0 N h b n a = some z → am_E sL sx am_cs 24 0 [(0, .ref 3)] [] H R F := by
  intro n
  induction n with
  | zero =>
    intro a H hS e
    cases e
  | succ n ih =>
    intro a H hS e
    unfold l24_0 at e
    refine ex_s (am_nb (m := 1) (pc1 := 1) (ls1 := [(0, .ref 3)]) (st1 := [.ref 3]) (H1 := H) (k1 := 0) (n1 := 0) (by with_unfolding_all rfl)) ?_
    refine xe_get (v := .int (a 3 6)) hS rfl rfl (by decide) rfl ?_
    refine ex_s (am_nb (m := 1) (pc1 := 5) (ls1 := [(0, .ref 3)]) (st1 := [.ref 3, .int (a 3 6)]) (H1 := H) (k1 := 0) (n1 := 0) (by with_unfolding_all rfl)) ?_
    refine xe_get (v := .int (a 3 5)) hS rfl rfl (by decide) rfl ?_
    refine ex_s (st_icmp rfl) ?_
    by_cases c30 : (a 3 5) ≤ (a 3 6)
    · have e := (if_pos c30).symm.trans e
      refine ex_pc (if_pos c30) ?_
      cases e
      exact le_E (l1 := [(0, .ref 3)]) ⟨rfl, trivial⟩ rfl (k1 rfl H hS)
    · have e := (if_neg c30).symm.trans e
      refine ex_pc (if_neg c30) ?_
      refine ex_s (am_nb (m := 1) (pc1 := 12) (ls1 := [(0, .ref 3)]) (st1 := [.ref 3]) (H1 := H) (k1 := 0) (n1 := 0) (by with_unfolding_all rfl)) ?_
      refine xe_get (v := xN (a 3 4)) hS rfl rfl (by decide) rfl ?_
      refine ex_s (am_nb (m := 1) (pc1 := 16) (ls1 := [(0, .ref 3)]) (st1 := [.ref 3, xN (a 3 4)]) (H1 := H) (k1 := 0) (n1 := 0) (by first | with_unfolding_all rfl | (unfold xN; (repeat' split) <;> with_unfolding_all rfl))) ?_
      refine xe_get (v := .int (a 3 6)) hS rfl rfl (by decide) rfl ?_
      obtain ⟨g31, e⟩ := xg_some e
      rw [show xN (a 3 4) = .ref ((a 3 4).toNatClampNeg) from if_neg g31]
      obtain ⟨g32, e⟩ := xg_some e
      obtain ⟨g33, e⟩ := xg_some e
      refine xe_iald hS rfl g32 g33 ?_
      refine ex_s (am_nb (m := 1) (pc1 := 22) (ls1 := [(0, .ref 3)]) (st1 := [.int 10, .int (a ((a 3 4).toNatClampNeg) ((a 3 6).toNatClampNeg))]) (H1 := H) (k1 := 0) (n1 := 0) (by first | with_unfolding_all rfl | (unfold xN; (repeat' split) <;> with_unfolding_all rfl))) ?_
      refine ex_s (st_icmp rfl) ?_
      by_cases c34 : (a ((a 3 4).toNatClampNeg) ((a 3 6).toNatClampNeg)) = 10
      · have e := (if_pos c34).symm.trans e
        refine ex_pc (if_pos c34) ?_
        cases e
        exact le_E (l1 := [(0, .ref 3)]) ⟨rfl, trivial⟩ rfl (k1 rfl H hS)
      · have e := (if_neg c34).symm.trans e
        refine ex_pc (if_neg c34) ?_
        refine ex_s (am_nb (m := 1) (pc1 := 26) (ls1 := [(0, .ref 3)]) (st1 := [.ref 3]) (H1 := H) (k1 := 0) (n1 := 0) (by with_unfolding_all rfl)) ?_
        refine xe_get (v := xN (a 3 4)) hS rfl rfl (by decide) rfl ?_
        refine ex_s (am_nb (m := 1) (pc1 := 30) (ls1 := [(0, .ref 3)]) (st1 := [.ref 3, xN (a 3 4)]) (H1 := H) (k1 := 0) (n1 := 0) (by first | with_unfolding_all rfl | (unfold xN; (repeat' split) <;> with_unfolding_all rfl))) ?_
        refine xe_get (v := .int (a 3 6)) hS rfl rfl (by decide) rfl ?_
        rw [show xN (a 3 4) = .ref ((a 3 4).toNatClampNeg) from if_neg g31]
        refine xe_iald hS rfl g32 g33 ?_
        obtain ⟨r38, a39, e37, e⟩ := xb2_some e
        refine ex_cs1 (as := [.int (a ((a 3 4).toNatClampNeg) ((a 3 6).toNatClampNeg))]) (rest := []) rfl (by decide) rfl rfl (by with_unfolding_all rfl) (by with_unfolding_all rfl) (tf25_isText hS e37) (fun H35 s36 => ?_)
        refine ex_s (st_if rfl) ?_
        by_cases c40 : r38 = 0
        · have e := (if_pos c40).symm.trans e
          refine ex_pc (if_pos c40) ?_
          cases e
          exact le_E (l1 := [(0, .ref 3)]) ⟨rfl, trivial⟩ rfl (k0 rfl H35 s36)
        · have e := (if_neg c40).symm.trans e
          refine ex_pc (if_neg c40) ?_
          refine ex_s (am_nb (m := 2) (pc1 := 52) (ls1 := [(0, .ref 3)]) (st1 := [.ref 3, .ref 3]) (H1 := H35) (k1 := 0) (n1 := 0) (by with_unfolding_all rfl)) ?_
          refine xe_get (v := .int (a39 3 6)) s36 rfl rfl (by decide) rfl ?_
          refine ex_s (am_nb (m := 2) (pc1 := 57) (ls1 := [(0, .ref 3)]) (st1 := [.int ((a39 3 6) + 1), .ref 3]) (H1 := H35) (k1 := 0) (n1 := 0) (by with_unfolding_all rfl)) ?_
          obtain ⟨a41, ha41, e⟩ := xw_some e
          refine xe_put (w := ((a39 3 6) + 1)) s36 rfl rfl (by decide) rfl rfl rfl rfl (fun H42 s43 => ?_)
          have s43 : xS h b T a41 H42 := by rw [ha41]; exact s43
          refine ex_s (am_nb (m := 1) (pc1 := 0) (ls1 := [(0, .ref 3)]) (st1 := []) (H1 := H42) (k1 := 0) (n1 := 0) (by with_unfolding_all rfl)) ?_
          exact le_E (l1 := [(0, .ref 3)]) ⟨rfl, trivial⟩ rfl (ih a41 H42 s43 e)

set_option maxRecDepth 100000 in
theorem tf24_passComment {sL : Nat} {sx : Nat → Int32} {h b N : Nat} {T : List am_C} {r : Int32} {a' : xA} {a : xA} {H : am_H} (hS : xS h b T a H) (e : f24_passComment N h b a = some (r, a')) : am_E sL sx am_cs 24 0 [(0, .ref 3)] [] H (some (.int r)) (fun H1 => xS h b T a' H1) := by
  unfold f24_passComment at e
  refine ex_s (am_nb (m := 1) (pc1 := 1) (ls1 := [(0, .ref 3)]) (st1 := [.ref 3]) (H1 := H) (k1 := 0) (n1 := 0) (by with_unfolding_all rfl)) ?_
  refine xe_get (v := .int (a 3 6)) hS rfl rfl (by decide) rfl ?_
  refine ex_s (am_nb (m := 1) (pc1 := 5) (ls1 := [(0, .ref 3)]) (st1 := [.ref 3, .int (a 3 6)]) (H1 := H) (k1 := 0) (n1 := 0) (by with_unfolding_all rfl)) ?_
  refine xe_get (v := .int (a 3 5)) hS rfl rfl (by decide) rfl ?_
  refine ex_s (st_icmp rfl) ?_
  by_cases c2 : (a 3 5) ≤ (a 3 6)
  · have e := (if_pos c2).symm.trans e
    refine ex_pc (if_pos c2) ?_
    exact le_E (l1 := [(0, .ref 3)]) ⟨rfl, trivial⟩ rfl (tj24_63  hS e)
  · have e := (if_neg c2).symm.trans e
    refine ex_pc (if_neg c2) ?_
    refine ex_s (am_nb (m := 1) (pc1 := 12) (ls1 := [(0, .ref 3)]) (st1 := [.ref 3]) (H1 := H) (k1 := 0) (n1 := 0) (by with_unfolding_all rfl)) ?_
    refine xe_get (v := xN (a 3 4)) hS rfl rfl (by decide) rfl ?_
    refine ex_s (am_nb (m := 1) (pc1 := 16) (ls1 := [(0, .ref 3)]) (st1 := [.ref 3, xN (a 3 4)]) (H1 := H) (k1 := 0) (n1 := 0) (by first | with_unfolding_all rfl | (unfold xN; (repeat' split) <;> with_unfolding_all rfl))) ?_
    refine xe_get (v := .int (a 3 6)) hS rfl rfl (by decide) rfl ?_
    obtain ⟨g9, e⟩ := xg_some e
    rw [show xN (a 3 4) = .ref ((a 3 4).toNatClampNeg) from if_neg g9]
    obtain ⟨g10, e⟩ := xg_some e
    obtain ⟨g11, e⟩ := xg_some e
    refine xe_iald hS rfl g10 g11 ?_
    refine ex_s (am_nb (m := 1) (pc1 := 22) (ls1 := [(0, .ref 3)]) (st1 := [.int 10, .int (a ((a 3 4).toNatClampNeg) ((a 3 6).toNatClampNeg))]) (H1 := H) (k1 := 0) (n1 := 0) (by first | with_unfolding_all rfl | (unfold xN; (repeat' split) <;> with_unfolding_all rfl))) ?_
    refine ex_s (st_icmp rfl) ?_
    by_cases c13 : (a ((a 3 4).toNatClampNeg) ((a 3 6).toNatClampNeg)) = 10
    · have e := (if_pos c13).symm.trans e
      refine ex_pc (if_pos c13) ?_
      exact le_E (l1 := [(0, .ref 3)]) ⟨rfl, trivial⟩ rfl (tj24_63  hS e)
    · have e := (if_neg c13).symm.trans e
      refine ex_pc (if_neg c13) ?_
      refine ex_s (am_nb (m := 1) (pc1 := 26) (ls1 := [(0, .ref 3)]) (st1 := [.ref 3]) (H1 := H) (k1 := 0) (n1 := 0) (by with_unfolding_all rfl)) ?_
      refine xe_get (v := xN (a 3 4)) hS rfl rfl (by decide) rfl ?_
      refine ex_s (am_nb (m := 1) (pc1 := 30) (ls1 := [(0, .ref 3)]) (st1 := [.ref 3, xN (a 3 4)]) (H1 := H) (k1 := 0) (n1 := 0) (by first | with_unfolding_all rfl | (unfold xN; (repeat' split) <;> with_unfolding_all rfl))) ?_
      refine xe_get (v := .int (a 3 6)) hS rfl rfl (by decide) rfl ?_
      rw [show xN (a 3 4) = .ref ((a 3 4).toNatClampNeg) from if_neg g9]
      refine xe_iald hS rfl g10 g11 ?_
      obtain ⟨r17, a18, e16, e⟩ := xb2_some e
      refine ex_cs1 (as := [.int (a ((a 3 4).toNatClampNeg) ((a 3 6).toNatClampNeg))]) (rest := []) rfl (by decide) rfl rfl (by with_unfolding_all rfl) (by with_unfolding_all rfl) (tf25_isText hS e16) (fun H14 s15 => ?_)
      refine ex_s (st_if rfl) ?_
      by_cases c19 : r17 = 0
      · have e := (if_pos c19).symm.trans e
        refine ex_pc (if_pos c19) ?_
        refine ex_s (am_nb (m := 3) (pc1 := 43) (ls1 := [(0, .ref 3)]) (st1 := [.ref 3, .int 1, .ref 3]) (H1 := H14) (k1 := 0) (n1 := 0) (by with_unfolding_all rfl)) ?_
        refine xe_get (v := .int (a18 3 6)) s15 rfl rfl (by decide) rfl ?_
        obtain ⟨r23, a24, e22, e⟩ := xb2_some e
        refine ex_cv1 (as := [.int 1, .int (a18 3 6)]) (rest := []) rfl rfl rfl rfl (s15.obj rfl (by decide)) rfl (by with_unfolding_all rfl) (by with_unfolding_all rfl) (tf26_failed s15 e22) (fun H20 s21 => ?_)
        obtain ⟨g25, e⟩ := xg_some e
        cases e
        exact ex_r (st_iret rfl rfl (xnar_z g25)) s21
      · have e := (if_neg c19).symm.trans e
        refine ex_pc (if_neg c19) ?_
        refine ex_s (am_nb (m := 2) (pc1 := 52) (ls1 := [(0, .ref 3)]) (st1 := [.ref 3, .ref 3]) (H1 := H14) (k1 := 0) (n1 := 0) (by with_unfolding_all rfl)) ?_
        refine xe_get (v := .int (a18 3 6)) s15 rfl rfl (by decide) rfl ?_
        refine ex_s (am_nb (m := 2) (pc1 := 57) (ls1 := [(0, .ref 3)]) (st1 := [.int ((a18 3 6) + 1), .ref 3]) (H1 := H14) (k1 := 0) (n1 := 0) (by with_unfolding_all rfl)) ?_
        obtain ⟨a26, ha26, e⟩ := xw_some e
        refine xe_put (w := ((a18 3 6) + 1)) s15 rfl rfl (by decide) rfl rfl rfl rfl (fun H27 s28 => ?_)
        have s28 : xS h b T a26 H27 := by rw [ha26]; exact s28
        refine ex_s (am_nb (m := 1) (pc1 := 0) (ls1 := [(0, .ref 3)]) (st1 := []) (H1 := H27) (k1 := 0) (n1 := 0) (by with_unfolding_all rfl)) ?_
        obtain ⟨z44, e45, e⟩ := Option.bind_eq_some_iff.mp e
        refine le_E (l1 := [(0, .ref 3)]) ⟨rfl, trivial⟩ rfl (tl24_0 (z := z44)  (fun uz44_0 Hz440 sz440 => ?_) (fun uz44_1 Hz441 sz441 => ?_) N a26 H27 s28 e45)
        · have e := (if_pos uz44_0).symm.trans e
          refine ex_s (am_nb (m := 3) (pc1 := 43) (ls1 := [(0, .ref 3)]) (st1 := [.ref 3, .int 1, .ref 3]) (H1 := Hz440) (k1 := 0) (n1 := 0) (by with_unfolding_all rfl)) ?_
          refine xe_get (v := .int (z44.2 3 6)) sz440 rfl rfl (by decide) rfl ?_
          obtain ⟨r49, a50, e48, e⟩ := xb2_some e
          refine ex_cv1 (as := [.int 1, .int (z44.2 3 6)]) (rest := []) rfl rfl rfl rfl (sz440.obj rfl (by decide)) rfl (by with_unfolding_all rfl) (by with_unfolding_all rfl) (tf26_failed sz440 e48) (fun H46 s47 => ?_)
          obtain ⟨g51, e⟩ := xg_some e
          cases e
          exact ex_r (st_iret rfl rfl (xnar_z g51)) s47
        · have e := (if_neg (show ¬ z44.1 = 0 by rw [uz44_1]; decide)).symm.trans e
          exact le_E (l1 := [(0, .ref 3)]) ⟨rfl, trivial⟩ rfl (tj24_63  sz441 e)

set_option maxRecDepth 100000 in
theorem tj29_12 {sL : Nat} {sx : Nat → Int32} {h b N : Nat} {T : List am_C} {r : Int32} {a' : xA} {a : xA} {H : am_H} (hS : xS h b T a H) (e : j29_12 N h b a = some (r, a')) : am_E sL sx am_cs 29 12 [] [] H (some (.int r)) (fun H1 => xS h b T a' H1) := by
  unfold j29_12 at e
  refine ex_s (am_nb (m := 2) (pc1 := 17) (ls1 := []) (st1 := [.int 1]) (H1 := H) (k1 := 0) (n1 := 0) (by with_unfolding_all rfl)) ?_
  cases e
  exact ex_r (st_iret rfl rfl rfl) hS

set_option maxRecDepth 100000 in
theorem tf29_isBlank {sL : Nat} {sx : Nat → Int32} {h b N : Nat} {T : List am_C} {r : Int32} {a' : xA} {x0 : Int32} {a : xA} {H : am_H} (hS : xS h b T a H) (e : f29_isBlank N h b x0 a = some (r, a')) : am_E sL sx am_cs 29 0 [(0, .int x0)] [] H (some (.int r)) (fun H1 => xS h b T a' H1) := by
  unfold f29_isBlank at e
  refine ex_s (am_nb (m := 2) (pc1 := 3) (ls1 := [(0, .int x0)]) (st1 := [.int 9, .int x0]) (H1 := H) (k1 := 0) (n1 := 0) (by with_unfolding_all rfl)) ?_
  refine ex_s (st_icmp rfl) ?_
  by_cases c3 : x0 = 9
  · have e := (if_pos c3).symm.trans e
    refine ex_pc (if_pos c3) ?_
    exact le_E (l1 := []) trivial rfl (tj29_12  hS e)
  · have e := (if_neg c3).symm.trans e
    refine ex_pc (if_neg c3) ?_
    refine ex_s (am_nb (m := 2) (pc1 := 9) (ls1 := [(0, .int x0)]) (st1 := [.int 32, .int x0]) (H1 := H) (k1 := 0) (n1 := 0) (by with_unfolding_all rfl)) ?_
    have kk : am_E sL sx am_cs 29 17 [(0, .int x0)] [.int (if x0 = 32 then (1 : Int32) else (0 : Int32))] H (some (.int r)) (fun H1 => xS h b T a' H1) := by
      obtain ⟨g5, e⟩ := xg_some e
      cases e
      exact ex_r (st_iret rfl rfl (xnar_z g5)) hS
    refine ex_s (st_icmp rfl) ?_
    by_cases c4 : x0 = 32
    · refine ex_pc (if_pos c4) ?_
      refine ex_s (am_nb (m := 2) (pc1 := 17) (ls1 := [(0, .int x0)]) (st1 := [.int 1]) (H1 := H) (k1 := 0) (n1 := 0) (by with_unfolding_all rfl)) ?_
      rw [if_pos c4] at kk
      exact kk
    · refine ex_pc (if_neg c4) ?_
      refine ex_s (am_nb (m := 1) (pc1 := 17) (ls1 := [(0, .int x0)]) (st1 := [.int 0]) (H1 := H) (k1 := 0) (n1 := 0) (by with_unfolding_all rfl)) ?_
      rw [if_neg c4] at kk
      exact kk

set_option maxRecDepth 100000 in
theorem tl31_0 {sL : Nat} {sx : Nat → Int32} {h b N : Nat} {T : List am_C} {R : Option Value} {F : am_H → Prop} {z : Nat × xA} (k0 : z.1 = 0 → ∀ H2 : am_H, xS h b T z.2 H2 → am_E sL sx am_cs 31 39 [] [] H2 R F) : ∀ (n : Nat) (a : xA) (H : am_H), xS h b T a H → l31_0 N h b n a = some z → am_E sL sx am_cs 31 0 [(0, .ref 3)] [] H R F := by
  intro n
  induction n with
  | zero =>
    intro a H hS e
    cases e
  | succ n ih =>
    intro a H hS e
    unfold l31_0 at e
    refine ex_s (am_nb (m := 1) (pc1 := 1) (ls1 := [(0, .ref 3)]) (st1 := [.ref 3]) (H1 := H) (k1 := 0) (n1 := 0) (by with_unfolding_all rfl)) ?_
    refine xe_get (v := .int (a 3 6)) hS rfl rfl (by decide) rfl ?_
    refine ex_s (am_nb (m := 1) (pc1 := 5) (ls1 := [(0, .ref 3)]) (st1 := [.ref 3, .int (a 3 6)]) (H1 := H) (k1 := 0) (n1 := 0) (by with_unfolding_all rfl)) ?_
    refine xe_get (v := .int (a 3 5)) hS rfl rfl (by decide) rfl ?_
    refine ex_s (st_icmp rfl) ?_
    by_cases c17 : (a 3 5) ≤ (a 3 6)
    · have e := (if_pos c17).symm.trans e
      refine ex_pc (if_pos c17) ?_
      cases e
      exact le_E (l1 := []) trivial rfl (k0 rfl H hS)
    · have e := (if_neg c17).symm.trans e
      refine ex_pc (if_neg c17) ?_
      refine ex_s (am_nb (m := 1) (pc1 := 12) (ls1 := [(0, .ref 3)]) (st1 := [.ref 3]) (H1 := H) (k1 := 0) (n1 := 0) (by with_unfolding_all rfl)) ?_
      refine xe_get (v := xN (a 3 4)) hS rfl rfl (by decide) rfl ?_
      refine ex_s (am_nb (m := 1) (pc1 := 16) (ls1 := [(0, .ref 3)]) (st1 := [.ref 3, xN (a 3 4)]) (H1 := H) (k1 := 0) (n1 := 0) (by first | with_unfolding_all rfl | (unfold xN; (repeat' split) <;> with_unfolding_all rfl))) ?_
      refine xe_get (v := .int (a 3 6)) hS rfl rfl (by decide) rfl ?_
      obtain ⟨g18, e⟩ := xg_some e
      rw [show xN (a 3 4) = .ref ((a 3 4).toNatClampNeg) from if_neg g18]
      obtain ⟨g19, e⟩ := xg_some e
      obtain ⟨g20, e⟩ := xg_some e
      refine xe_iald hS rfl g19 g20 ?_
      obtain ⟨r24, a25, e23, e⟩ := xb2_some e
      refine ex_cs1 (as := [.int (a ((a 3 4).toNatClampNeg) ((a 3 6).toNatClampNeg))]) (rest := []) rfl (by decide) rfl rfl (by with_unfolding_all rfl) (by with_unfolding_all rfl) (tf29_isBlank hS e23) (fun H21 s22 => ?_)
      refine ex_s (st_if rfl) ?_
      by_cases c26 : r24 = 0
      · have e := (if_pos c26).symm.trans e
        refine ex_pc (if_pos c26) ?_
        cases e
        exact le_E (l1 := []) trivial rfl (k0 rfl H21 s22)
      · have e := (if_neg c26).symm.trans e
        refine ex_pc (if_neg c26) ?_
        refine ex_s (am_nb (m := 2) (pc1 := 28) (ls1 := [(0, .ref 3)]) (st1 := [.ref 3, .ref 3]) (H1 := H21) (k1 := 0) (n1 := 0) (by with_unfolding_all rfl)) ?_
        refine xe_get (v := .int (a25 3 6)) s22 rfl rfl (by decide) rfl ?_
        refine ex_s (am_nb (m := 2) (pc1 := 33) (ls1 := [(0, .ref 3)]) (st1 := [.int ((a25 3 6) + 1), .ref 3]) (H1 := H21) (k1 := 0) (n1 := 0) (by with_unfolding_all rfl)) ?_
        obtain ⟨a27, ha27, e⟩ := xw_some e
        refine xe_put (w := ((a25 3 6) + 1)) s22 rfl rfl (by decide) rfl rfl rfl rfl (fun H28 s29 => ?_)
        have s29 : xS h b T a27 H28 := by rw [ha27]; exact s29
        refine ex_s (am_nb (m := 1) (pc1 := 0) (ls1 := [(0, .ref 3)]) (st1 := []) (H1 := H28) (k1 := 0) (n1 := 0) (by with_unfolding_all rfl)) ?_
        exact le_E (l1 := [(0, .ref 3)]) ⟨rfl, trivial⟩ rfl (ih a27 H28 s29 e)

set_option maxRecDepth 100000 in
theorem tf31_passBlanks {sL : Nat} {sx : Nat → Int32} {h b N : Nat} {T : List am_C} {a' : xA} {a : xA} {H : am_H} (hS : xS h b T a H) (e : f31_passBlanks N h b a = some a') : am_E sL sx am_cs 31 0 [(0, .ref 3)] [] H none (fun H1 => xS h b T a' H1) := by
  unfold f31_passBlanks at e
  refine ex_s (am_nb (m := 1) (pc1 := 1) (ls1 := [(0, .ref 3)]) (st1 := [.ref 3]) (H1 := H) (k1 := 0) (n1 := 0) (by with_unfolding_all rfl)) ?_
  refine xe_get (v := .int (a 3 6)) hS rfl rfl (by decide) rfl ?_
  refine ex_s (am_nb (m := 1) (pc1 := 5) (ls1 := [(0, .ref 3)]) (st1 := [.ref 3, .int (a 3 6)]) (H1 := H) (k1 := 0) (n1 := 0) (by with_unfolding_all rfl)) ?_
  refine xe_get (v := .int (a 3 5)) hS rfl rfl (by decide) rfl ?_
  refine ex_s (st_icmp rfl) ?_
  by_cases c2 : (a 3 5) ≤ (a 3 6)
  · have e := (if_pos c2).symm.trans e
    refine ex_pc (if_pos c2) ?_
    cases e
    exact ex_r (st_vret rfl rfl) hS
  · have e := (if_neg c2).symm.trans e
    refine ex_pc (if_neg c2) ?_
    refine ex_s (am_nb (m := 1) (pc1 := 12) (ls1 := [(0, .ref 3)]) (st1 := [.ref 3]) (H1 := H) (k1 := 0) (n1 := 0) (by with_unfolding_all rfl)) ?_
    refine xe_get (v := xN (a 3 4)) hS rfl rfl (by decide) rfl ?_
    refine ex_s (am_nb (m := 1) (pc1 := 16) (ls1 := [(0, .ref 3)]) (st1 := [.ref 3, xN (a 3 4)]) (H1 := H) (k1 := 0) (n1 := 0) (by first | with_unfolding_all rfl | (unfold xN; (repeat' split) <;> with_unfolding_all rfl))) ?_
    refine xe_get (v := .int (a 3 6)) hS rfl rfl (by decide) rfl ?_
    obtain ⟨g3, e⟩ := xg_some e
    rw [show xN (a 3 4) = .ref ((a 3 4).toNatClampNeg) from if_neg g3]
    obtain ⟨g4, e⟩ := xg_some e
    obtain ⟨g5, e⟩ := xg_some e
    refine xe_iald hS rfl g4 g5 ?_
    obtain ⟨r9, a10, e8, e⟩ := xb2_some e
    refine ex_cs1 (as := [.int (a ((a 3 4).toNatClampNeg) ((a 3 6).toNatClampNeg))]) (rest := []) rfl (by decide) rfl rfl (by with_unfolding_all rfl) (by with_unfolding_all rfl) (tf29_isBlank hS e8) (fun H6 s7 => ?_)
    refine ex_s (st_if rfl) ?_
    by_cases c12 : r9 = 0
    · have e := (if_pos c12).symm.trans e
      refine ex_pc (if_pos c12) ?_
      cases e
      exact ex_r (st_vret rfl rfl) s7
    · have e := (if_neg c12).symm.trans e
      refine ex_pc (if_neg c12) ?_
      refine ex_s (am_nb (m := 2) (pc1 := 28) (ls1 := [(0, .ref 3)]) (st1 := [.ref 3, .ref 3]) (H1 := H6) (k1 := 0) (n1 := 0) (by with_unfolding_all rfl)) ?_
      refine xe_get (v := .int (a10 3 6)) s7 rfl rfl (by decide) rfl ?_
      refine ex_s (am_nb (m := 2) (pc1 := 33) (ls1 := [(0, .ref 3)]) (st1 := [.int ((a10 3 6) + 1), .ref 3]) (H1 := H6) (k1 := 0) (n1 := 0) (by with_unfolding_all rfl)) ?_
      obtain ⟨a13, ha13, e⟩ := xw_some e
      refine xe_put (w := ((a10 3 6) + 1)) s7 rfl rfl (by decide) rfl rfl rfl rfl (fun H14 s15 => ?_)
      have s15 : xS h b T a13 H14 := by rw [ha13]; exact s15
      refine ex_s (am_nb (m := 1) (pc1 := 0) (ls1 := [(0, .ref 3)]) (st1 := []) (H1 := H14) (k1 := 0) (n1 := 0) (by with_unfolding_all rfl)) ?_
      obtain ⟨z30, e31, e⟩ := Option.bind_eq_some_iff.mp e
      refine le_E (l1 := [(0, .ref 3)]) ⟨rfl, trivial⟩ rfl (tl31_0 (z := z30)  (fun uz30_0 Hz300 sz300 => ?_) N a13 H14 s15 e31)
      cases e
      exact ex_r (st_vret rfl rfl) sz300

set_option maxRecDepth 100000 in
theorem tf34_isLetter {sL : Nat} {sx : Nat → Int32} {h b N : Nat} {T : List am_C} {r : Int32} {a' : xA} {x0 : Int32} {a : xA} {H : am_H} (hS : xS h b T a H) (e : f34_isLetter N h b x0 a = some (r, a')) : am_E sL sx am_cs 34 0 [(0, .int x0)] [] H (some (.int r)) (fun H1 => xS h b T a' H1) := by
  unfold f34_isLetter at e
  refine ex_s (am_nb (m := 2) (pc1 := 3) (ls1 := [(0, .int x0)]) (st1 := [.int 97, .int x0]) (H1 := H) (k1 := 0) (n1 := 0) (by with_unfolding_all rfl)) ?_
  refine ex_s (st_icmp rfl) ?_
  by_cases c3 : x0 < 97
  · have e := (if_pos c3).symm.trans e
    refine ex_pc (if_pos c3) ?_
    refine ex_s (am_nb (m := 1) (pc1 := 17) (ls1 := [(0, .int x0)]) (st1 := [.int 0]) (H1 := H) (k1 := 0) (n1 := 0) (by with_unfolding_all rfl)) ?_
    cases e
    exact ex_r (st_iret rfl rfl rfl) hS
  · have e := (if_neg c3).symm.trans e
    refine ex_pc (if_neg c3) ?_
    refine ex_s (am_nb (m := 2) (pc1 := 9) (ls1 := [(0, .int x0)]) (st1 := [.int 122, .int x0]) (H1 := H) (k1 := 0) (n1 := 0) (by with_unfolding_all rfl)) ?_
    have kk : am_E sL sx am_cs 34 17 [(0, .int x0)] [.int (if 122 < x0 then (0 : Int32) else (1 : Int32))] H (some (.int r)) (fun H1 => xS h b T a' H1) := by
      obtain ⟨g5, e⟩ := xg_some e
      cases e
      exact ex_r (st_iret rfl rfl (xnar_z g5)) hS
    refine ex_s (st_icmp rfl) ?_
    by_cases c4 : 122 < x0
    · refine ex_pc (if_pos c4) ?_
      refine ex_s (am_nb (m := 1) (pc1 := 17) (ls1 := [(0, .int x0)]) (st1 := [.int 0]) (H1 := H) (k1 := 0) (n1 := 0) (by with_unfolding_all rfl)) ?_
      rw [if_pos c4] at kk
      exact kk
    · refine ex_pc (if_neg c4) ?_
      refine ex_s (am_nb (m := 2) (pc1 := 17) (ls1 := [(0, .int x0)]) (st1 := [.int 1]) (H1 := H) (k1 := 0) (n1 := 0) (by with_unfolding_all rfl)) ?_
      rw [if_neg c4] at kk
      exact kk

set_option maxRecDepth 100000 in
theorem tf35_isDigit {sL : Nat} {sx : Nat → Int32} {h b N : Nat} {T : List am_C} {r : Int32} {a' : xA} {x0 : Int32} {a : xA} {H : am_H} (hS : xS h b T a H) (e : f35_isDigit N h b x0 a = some (r, a')) : am_E sL sx am_cs 35 0 [(0, .int x0)] [] H (some (.int r)) (fun H1 => xS h b T a' H1) := by
  unfold f35_isDigit at e
  refine ex_s (am_nb (m := 2) (pc1 := 3) (ls1 := [(0, .int x0)]) (st1 := [.int 48, .int x0]) (H1 := H) (k1 := 0) (n1 := 0) (by with_unfolding_all rfl)) ?_
  refine ex_s (st_icmp rfl) ?_
  by_cases c3 : x0 < 48
  · have e := (if_pos c3).symm.trans e
    refine ex_pc (if_pos c3) ?_
    refine ex_s (am_nb (m := 1) (pc1 := 17) (ls1 := [(0, .int x0)]) (st1 := [.int 0]) (H1 := H) (k1 := 0) (n1 := 0) (by with_unfolding_all rfl)) ?_
    cases e
    exact ex_r (st_iret rfl rfl rfl) hS
  · have e := (if_neg c3).symm.trans e
    refine ex_pc (if_neg c3) ?_
    refine ex_s (am_nb (m := 2) (pc1 := 9) (ls1 := [(0, .int x0)]) (st1 := [.int 57, .int x0]) (H1 := H) (k1 := 0) (n1 := 0) (by with_unfolding_all rfl)) ?_
    have kk : am_E sL sx am_cs 35 17 [(0, .int x0)] [.int (if 57 < x0 then (0 : Int32) else (1 : Int32))] H (some (.int r)) (fun H1 => xS h b T a' H1) := by
      obtain ⟨g5, e⟩ := xg_some e
      cases e
      exact ex_r (st_iret rfl rfl (xnar_z g5)) hS
    refine ex_s (st_icmp rfl) ?_
    by_cases c4 : 57 < x0
    · refine ex_pc (if_pos c4) ?_
      refine ex_s (am_nb (m := 1) (pc1 := 17) (ls1 := [(0, .int x0)]) (st1 := [.int 0]) (H1 := H) (k1 := 0) (n1 := 0) (by with_unfolding_all rfl)) ?_
      rw [if_pos c4] at kk
      exact kk
    · refine ex_pc (if_neg c4) ?_
      refine ex_s (am_nb (m := 2) (pc1 := 17) (ls1 := [(0, .int x0)]) (st1 := [.int 1]) (H1 := H) (k1 := 0) (n1 := 0) (by with_unfolding_all rfl)) ?_
      rw [if_neg c4] at kk
      exact kk

set_option maxRecDepth 100000 in
theorem tj33_65 {sL : Nat} {sx : Nat → Int32} {h b N : Nat} {T : List am_C} {R : Option Value} {F : am_H → Prop} {z : Nat × xA} {rc : xA → Option (Nat × xA)} (k0 : z.1 = 0 → ∀ H2 : am_H, xS h b T z.2 H2 → am_E sL sx am_cs 33 78 [(0, .ref 3)] [] H2 R F) (ih : ∀ (a : xA) (H : am_H), xS h b T a H → rc a = some z → am_E sL sx am_cs 33 24 [(0, .ref 3)] [] H R F) {a : xA} {H : am_H} (hS : xS h b T a H) (e : j33_65 N h b rc a = some z) : am_E sL sx am_cs 33 65 [(0, .ref 3)] [] H R F := by
  unfold j33_65 at e
  refine ex_s (am_nb (m := 2) (pc1 := 67) (ls1 := [(0, .ref 3)]) (st1 := [.ref 3, .ref 3]) (H1 := H) (k1 := 0) (n1 := 0) (by with_unfolding_all rfl)) ?_
  refine xe_get (v := .int (a 3 6)) hS rfl rfl (by decide) rfl ?_
  refine ex_s (am_nb (m := 2) (pc1 := 72) (ls1 := [(0, .ref 3)]) (st1 := [.int ((a 3 6) + 1), .ref 3]) (H1 := H) (k1 := 0) (n1 := 0) (by with_unfolding_all rfl)) ?_
  obtain ⟨a39, ha39, e⟩ := xw_some e
  refine xe_put (w := ((a 3 6) + 1)) hS rfl rfl (by decide) rfl rfl rfl rfl (fun H40 s41 => ?_)
  have s41 : xS h b T a39 H40 := by rw [ha39]; exact s41
  refine ex_s (am_nb (m := 1) (pc1 := 24) (ls1 := [(0, .ref 3)]) (st1 := []) (H1 := H40) (k1 := 0) (n1 := 0) (by with_unfolding_all rfl)) ?_
  exact le_E (l1 := [(0, .ref 3)]) ⟨rfl, trivial⟩ rfl (ih a39 H40 s41 e)

set_option maxRecDepth 100000 in
theorem tl33_24 {sL : Nat} {sx : Nat → Int32} {h b N : Nat} {T : List am_C} {R : Option Value} {F : am_H → Prop} {z : Nat × xA} (k0 : z.1 = 0 → ∀ H2 : am_H, xS h b T z.2 H2 → am_E sL sx am_cs 33 78 [(0, .ref 3)] [] H2 R F) : ∀ (n : Nat) (a : xA) (H : am_H), xS h b T a H → l33_24 N h b n a = some z → am_E sL sx am_cs 33 24 [(0, .ref 3)] [] H R F := by
  intro n
  induction n with
  | zero =>
    intro a H hS e
    cases e
  | succ n ih =>
    intro a H hS e
    unfold l33_24 at e
    refine ex_s (am_nb (m := 1) (pc1 := 25) (ls1 := [(0, .ref 3)]) (st1 := [.ref 3]) (H1 := H) (k1 := 0) (n1 := 0) (by with_unfolding_all rfl)) ?_
    refine xe_get (v := .int (a 3 6)) hS rfl rfl (by decide) rfl ?_
    refine ex_s (am_nb (m := 1) (pc1 := 29) (ls1 := [(0, .ref 3)]) (st1 := [.ref 3, .int (a 3 6)]) (H1 := H) (k1 := 0) (n1 := 0) (by with_unfolding_all rfl)) ?_
    refine xe_get (v := .int (a 3 5)) hS rfl rfl (by decide) rfl ?_
    refine ex_s (st_icmp rfl) ?_
    by_cases c19 : (a 3 5) ≤ (a 3 6)
    · have e := (if_pos c19).symm.trans e
      refine ex_pc (if_pos c19) ?_
      cases e
      exact le_E (l1 := [(0, .ref 3)]) ⟨rfl, trivial⟩ rfl (k0 rfl H hS)
    · have e := (if_neg c19).symm.trans e
      refine ex_pc (if_neg c19) ?_
      refine ex_s (am_nb (m := 1) (pc1 := 36) (ls1 := [(0, .ref 3)]) (st1 := [.ref 3]) (H1 := H) (k1 := 0) (n1 := 0) (by with_unfolding_all rfl)) ?_
      refine xe_get (v := xN (a 3 4)) hS rfl rfl (by decide) rfl ?_
      refine ex_s (am_nb (m := 1) (pc1 := 40) (ls1 := [(0, .ref 3)]) (st1 := [.ref 3, xN (a 3 4)]) (H1 := H) (k1 := 0) (n1 := 0) (by first | with_unfolding_all rfl | (unfold xN; (repeat' split) <;> with_unfolding_all rfl))) ?_
      refine xe_get (v := .int (a 3 6)) hS rfl rfl (by decide) rfl ?_
      obtain ⟨g20, e⟩ := xg_some e
      rw [show xN (a 3 4) = .ref ((a 3 4).toNatClampNeg) from if_neg g20]
      obtain ⟨g21, e⟩ := xg_some e
      obtain ⟨g22, e⟩ := xg_some e
      refine xe_iald hS rfl g21 g22 ?_
      obtain ⟨r26, a27, e25, e⟩ := xb2_some e
      refine ex_cs1 (as := [.int (a ((a 3 4).toNatClampNeg) ((a 3 6).toNatClampNeg))]) (rest := []) rfl (by decide) rfl rfl (by with_unfolding_all rfl) (by with_unfolding_all rfl) (tf34_isLetter hS e25) (fun H23 s24 => ?_)
      refine ex_s (st_if rfl) ?_
      by_cases c29 : r26 = 0
      · have e := (if_pos c29).symm.trans e
        refine ex_pc (if_pos c29) ?_
        refine ex_s (am_nb (m := 1) (pc1 := 51) (ls1 := [(0, .ref 3)]) (st1 := [.ref 3]) (H1 := H23) (k1 := 0) (n1 := 0) (by with_unfolding_all rfl)) ?_
        refine xe_get (v := xN (a27 3 4)) s24 rfl rfl (by decide) rfl ?_
        refine ex_s (am_nb (m := 1) (pc1 := 55) (ls1 := [(0, .ref 3)]) (st1 := [.ref 3, xN (a27 3 4)]) (H1 := H23) (k1 := 0) (n1 := 0) (by first | with_unfolding_all rfl | (unfold xN; (repeat' split) <;> with_unfolding_all rfl))) ?_
        refine xe_get (v := .int (a27 3 6)) s24 rfl rfl (by decide) rfl ?_
        obtain ⟨g30, e⟩ := xg_some e
        rw [show xN (a27 3 4) = .ref ((a27 3 4).toNatClampNeg) from if_neg g30]
        obtain ⟨g31, e⟩ := xg_some e
        obtain ⟨g32, e⟩ := xg_some e
        refine xe_iald s24 rfl g31 g32 ?_
        obtain ⟨r36, a37, e35, e⟩ := xb2_some e
        refine ex_cs1 (as := [.int (a27 ((a27 3 4).toNatClampNeg) ((a27 3 6).toNatClampNeg))]) (rest := []) rfl (by decide) rfl rfl (by with_unfolding_all rfl) (by with_unfolding_all rfl) (tf35_isDigit s24 e35) (fun H33 s34 => ?_)
        refine ex_s (st_if rfl) ?_
        by_cases c38 : r36 = 0
        · have e := (if_pos c38).symm.trans e
          refine ex_pc (if_pos c38) ?_
          cases e
          exact le_E (l1 := [(0, .ref 3)]) ⟨rfl, trivial⟩ rfl (k0 rfl H33 s34)
        · have e := (if_neg c38).symm.trans e
          refine ex_pc (if_neg c38) ?_
          exact le_E (l1 := [(0, .ref 3)]) ⟨rfl, trivial⟩ rfl (tj33_65 k0 ih  s34 e)
      · have e := (if_neg c29).symm.trans e
        refine ex_pc (if_neg c29) ?_
        exact le_E (l1 := [(0, .ref 3)]) ⟨rfl, trivial⟩ rfl (tj33_65 k0 ih  s24 e)

set_option maxRecDepth 100000 in
theorem tj33_104 {sL : Nat} {sx : Nat → Int32} {h b N : Nat} {T : List am_C} {r : Int32} {a' : xA} {a : xA} {H : am_H} (hS : xS h b T a H) (e : j33_104 N h b a = some (r, a')) : am_E sL sx am_cs 33 104 [] [] H (some (.int r)) (fun H1 => xS h b T a' H1) := by
  unfold j33_104 at e
  refine ex_s (am_nb (m := 2) (pc1 := 109) (ls1 := []) (st1 := [.int 1]) (H1 := H) (k1 := 0) (n1 := 0) (by with_unfolding_all rfl)) ?_
  cases e
  exact ex_r (st_iret rfl rfl rfl) hS

set_option maxRecDepth 100000 in
theorem tj33_78 {sL : Nat} {sx : Nat → Int32} {h b N : Nat} {T : List am_C} {r : Int32} {a' : xA} {a : xA} {H : am_H} (hS : xS h b T a H) (e : j33_78 N h b a = some (r, a')) : am_E sL sx am_cs 33 78 [(0, .ref 3)] [] H (some (.int r)) (fun H1 => xS h b T a' H1) := by
  unfold j33_78 at e
  refine ex_s (am_nb (m := 2) (pc1 := 80) (ls1 := [(0, .ref 3)]) (st1 := [.ref 3, .ref 3]) (H1 := H) (k1 := 0) (n1 := 0) (by with_unfolding_all rfl)) ?_
  refine xe_get (v := .int (a 3 6)) hS rfl rfl (by decide) rfl ?_
  obtain ⟨r47, a48, e46, e⟩ := xb2_some e
  refine ex_cv1 (as := [.int (a 3 6)]) (rest := []) rfl rfl rfl rfl (hS.obj rfl (by decide)) rfl (by with_unfolding_all rfl) (by with_unfolding_all rfl) (tf28_byteAt hS e46) (fun H44 s45 => ?_)
  obtain ⟨r52, a53, e51, e⟩ := xb2_some e
  refine ex_cs1 (as := [.int r47]) (rest := []) rfl (by decide) rfl rfl (by with_unfolding_all rfl) (by with_unfolding_all rfl) (tf25_isText s45 e51) (fun H49 s50 => ?_)
  refine ex_s (st_if rfl) ?_
  by_cases c55 : r52 = 0
  · have e := (if_pos c55).symm.trans e
    refine ex_pc (if_pos c55) ?_
    refine ex_s (am_nb (m := 3) (pc1 := 95) (ls1 := [(0, .ref 3)]) (st1 := [.ref 3, .int 1, .ref 3]) (H1 := H49) (k1 := 0) (n1 := 0) (by with_unfolding_all rfl)) ?_
    refine xe_get (v := .int (a53 3 6)) s50 rfl rfl (by decide) rfl ?_
    obtain ⟨r59, a60, e58, e⟩ := xb2_some e
    refine ex_cv1 (as := [.int 1, .int (a53 3 6)]) (rest := []) rfl rfl rfl rfl (s50.obj rfl (by decide)) rfl (by with_unfolding_all rfl) (by with_unfolding_all rfl) (tf26_failed s50 e58) (fun H56 s57 => ?_)
    have kk : am_E sL sx am_cs 33 109 [(0, .ref 3)] [.int (if r59 = 0 then (0 : Int32) else (1 : Int32))] H56 (some (.int r)) (fun H1 => xS h b T a' H1) := by
      obtain ⟨g62, e⟩ := xg_some e
      cases e
      exact ex_r (st_iret rfl rfl (xnar_z g62)) s57
    refine ex_s (st_if rfl) ?_
    by_cases c61 : r59 = 0
    · refine ex_pc (if_pos c61) ?_
      refine ex_s (am_nb (m := 1) (pc1 := 109) (ls1 := [(0, .ref 3)]) (st1 := [.int 0]) (H1 := H56) (k1 := 0) (n1 := 0) (by with_unfolding_all rfl)) ?_
      rw [if_pos c61] at kk
      exact kk
    · refine ex_pc (if_neg c61) ?_
      refine ex_s (am_nb (m := 2) (pc1 := 109) (ls1 := [(0, .ref 3)]) (st1 := [.int 1]) (H1 := H56) (k1 := 0) (n1 := 0) (by with_unfolding_all rfl)) ?_
      rw [if_neg c61] at kk
      exact kk
  · have e := (if_neg c55).symm.trans e
    refine ex_pc (if_neg c55) ?_
    exact le_E (l1 := []) trivial rfl (tj33_104  s50 e)

set_option maxRecDepth 100000 in
theorem tf33_passAbility {sL : Nat} {sx : Nat → Int32} {h b N : Nat} {T : List am_C} {r : Int32} {a' : xA} {a : xA} {H : am_H} (hS : xS h b T a H) (e : f33_passAbility N h b a = some (r, a')) : am_E sL sx am_cs 33 0 [(0, .ref 3)] [] H (some (.int r)) (fun H1 => xS h b T a' H1) := by
  unfold f33_passAbility at e
  refine ex_s (am_nb (m := 2) (pc1 := 2) (ls1 := [(0, .ref 3)]) (st1 := [.ref 3, .ref 3]) (H1 := H) (k1 := 0) (n1 := 0) (by with_unfolding_all rfl)) ?_
  refine xe_get (v := .int (a 3 6)) hS rfl rfl (by decide) rfl ?_
  obtain ⟨r4, a5, e3, e⟩ := xb2_some e
  refine ex_cv1 (as := [.int (a 3 6)]) (rest := []) rfl rfl rfl rfl (hS.obj rfl (by decide)) rfl (by with_unfolding_all rfl) (by with_unfolding_all rfl) (tf28_byteAt hS e3) (fun H1 s2 => ?_)
  obtain ⟨r9, a10, e8, e⟩ := xb2_some e
  refine ex_cs1 (as := [.int r4]) (rest := []) rfl (by decide) rfl rfl (by with_unfolding_all rfl) (by with_unfolding_all rfl) (tf34_isLetter s2 e8) (fun H6 s7 => ?_)
  refine ex_s (st_if rfl) ?_
  by_cases c11 : r9 = 0
  · have e := (if_pos c11).symm.trans e
    refine ex_pc (if_pos c11) ?_
    refine ex_s (am_nb (m := 3) (pc1 := 17) (ls1 := [(0, .ref 3)]) (st1 := [.ref 3, .int 1, .ref 3]) (H1 := H6) (k1 := 0) (n1 := 0) (by with_unfolding_all rfl)) ?_
    refine xe_get (v := .int (a10 3 6)) s7 rfl rfl (by decide) rfl ?_
    obtain ⟨r15, a16, e14, e⟩ := xb2_some e
    refine ex_cv1 (as := [.int 1, .int (a10 3 6)]) (rest := []) rfl rfl rfl rfl (s7.obj rfl (by decide)) rfl (by with_unfolding_all rfl) (by with_unfolding_all rfl) (tf26_failed s7 e14) (fun H12 s13 => ?_)
    obtain ⟨g17, e⟩ := xg_some e
    cases e
    exact ex_r (st_iret rfl rfl (xnar_z g17)) s13
  · have e := (if_neg c11).symm.trans e
    refine ex_pc (if_neg c11) ?_
    obtain ⟨z42, e43, e⟩ := Option.bind_eq_some_iff.mp e
    refine le_E (l1 := [(0, .ref 3)]) ⟨rfl, trivial⟩ rfl (tl33_24 (z := z42)  (fun uz42_0 Hz420 sz420 => ?_) N a10 H6 s7 e43)
    exact le_E (l1 := [(0, .ref 3)]) ⟨rfl, trivial⟩ rfl (tj33_78  sz420 e)

set_option maxRecDepth 100000 in
theorem tf36_isUse {sL : Nat} {sx : Nat → Int32} {h b N : Nat} {T : List am_C} {r : Int32} {a' : xA} {x0 : Int32} {x1 : Int32} {a : xA} {H : am_H} (hS : xS h b T a H) (e : f36_isUse N h b x0 x1 a = some (r, a')) : am_E sL sx am_cs 36 0 [(0, .ref 3), (1, .int x0), (2, .int x1)] [] H (some (.int r)) (fun H1 => xS h b T a' H1) := by
  unfold f36_isUse at e
  refine ex_s (am_nb (m := 2) (pc1 := 2) (ls1 := [(0, .ref 3), (1, .int x0), (2, .int x1)]) (st1 := [.int 3, .int x1]) (H1 := H) (k1 := 0) (n1 := 0) (by with_unfolding_all rfl)) ?_
  refine ex_s (st_icmp rfl) ?_
  by_cases c2 : x1 = 3
  · have e := (if_pos c2).symm.trans e
    refine ex_pc (if_pos c2) ?_
    refine ex_s (am_nb (m := 1) (pc1 := 6) (ls1 := [(0, .ref 3), (1, .int x0), (2, .int x1)]) (st1 := [.ref 3]) (H1 := H) (k1 := 0) (n1 := 0) (by with_unfolding_all rfl)) ?_
    refine xe_get (v := xN (a 3 4)) hS rfl rfl (by decide) rfl ?_
    refine ex_s (am_nb (m := 1) (pc1 := 10) (ls1 := [(0, .ref 3), (1, .int x0), (2, .int x1)]) (st1 := [.int x0, xN (a 3 4)]) (H1 := H) (k1 := 0) (n1 := 0) (by first | with_unfolding_all rfl | (unfold xN; (repeat' split) <;> with_unfolding_all rfl))) ?_
    obtain ⟨g3, e⟩ := xg_some e
    rw [show xN (a 3 4) = .ref ((a 3 4).toNatClampNeg) from if_neg g3]
    obtain ⟨g4, e⟩ := xg_some e
    obtain ⟨g5, e⟩ := xg_some e
    refine xe_iald hS rfl g4 g5 ?_
    refine ex_s (am_nb (m := 1) (pc1 := 13) (ls1 := [(0, .ref 3), (1, .int x0), (2, .int x1)]) (st1 := [.int 117, .int (a ((a 3 4).toNatClampNeg) (x0.toNatClampNeg))]) (H1 := H) (k1 := 0) (n1 := 0) (by first | with_unfolding_all rfl | (unfold xN; (repeat' split) <;> with_unfolding_all rfl))) ?_
    refine ex_s (st_icmp rfl) ?_
    by_cases c7 : (a ((a 3 4).toNatClampNeg) (x0.toNatClampNeg)) = 117
    · have e := (if_pos c7).symm.trans e
      refine ex_pc (if_pos c7) ?_
      refine ex_s (am_nb (m := 1) (pc1 := 17) (ls1 := [(0, .ref 3), (1, .int x0), (2, .int x1)]) (st1 := [.ref 3]) (H1 := H) (k1 := 0) (n1 := 0) (by with_unfolding_all rfl)) ?_
      refine xe_get (v := xN (a 3 4)) hS rfl rfl (by decide) rfl ?_
      refine ex_s (am_nb (m := 3) (pc1 := 23) (ls1 := [(0, .ref 3), (1, .int x0), (2, .int x1)]) (st1 := [.int (x0 + 1), xN (a 3 4)]) (H1 := H) (k1 := 0) (n1 := 0) (by first | with_unfolding_all rfl | (unfold xN; (repeat' split) <;> with_unfolding_all rfl))) ?_
      rw [show xN (a 3 4) = .ref ((a 3 4).toNatClampNeg) from if_neg g3]
      obtain ⟨g8, e⟩ := xg_some e
      refine xe_iald hS rfl g4 g8 ?_
      refine ex_s (am_nb (m := 1) (pc1 := 26) (ls1 := [(0, .ref 3), (1, .int x0), (2, .int x1)]) (st1 := [.int 115, .int (a ((a 3 4).toNatClampNeg) ((x0 + 1).toNatClampNeg))]) (H1 := H) (k1 := 0) (n1 := 0) (by first | with_unfolding_all rfl | (unfold xN; (repeat' split) <;> with_unfolding_all rfl))) ?_
      refine ex_s (st_icmp rfl) ?_
      by_cases c10 : (a ((a 3 4).toNatClampNeg) ((x0 + 1).toNatClampNeg)) = 115
      · have e := (if_pos c10).symm.trans e
        refine ex_pc (if_pos c10) ?_
        refine ex_s (am_nb (m := 1) (pc1 := 30) (ls1 := [(0, .ref 3), (1, .int x0), (2, .int x1)]) (st1 := [.ref 3]) (H1 := H) (k1 := 0) (n1 := 0) (by with_unfolding_all rfl)) ?_
        refine xe_get (v := xN (a 3 4)) hS rfl rfl (by decide) rfl ?_
        refine ex_s (am_nb (m := 3) (pc1 := 36) (ls1 := [(0, .ref 3), (1, .int x0), (2, .int x1)]) (st1 := [.int (x0 + 2), xN (a 3 4)]) (H1 := H) (k1 := 0) (n1 := 0) (by first | with_unfolding_all rfl | (unfold xN; (repeat' split) <;> with_unfolding_all rfl))) ?_
        rw [show xN (a 3 4) = .ref ((a 3 4).toNatClampNeg) from if_neg g3]
        obtain ⟨g11, e⟩ := xg_some e
        refine xe_iald hS rfl g4 g11 ?_
        refine ex_s (am_nb (m := 1) (pc1 := 39) (ls1 := [(0, .ref 3), (1, .int x0), (2, .int x1)]) (st1 := [.int 101, .int (a ((a 3 4).toNatClampNeg) ((x0 + 2).toNatClampNeg))]) (H1 := H) (k1 := 0) (n1 := 0) (by first | with_unfolding_all rfl | (unfold xN; (repeat' split) <;> with_unfolding_all rfl))) ?_
        have kk : am_E sL sx am_cs 36 47 [(0, .ref 3), (1, .int x0), (2, .int x1)] [.int (if (a ((a 3 4).toNatClampNeg) ((x0 + 2).toNatClampNeg)) = 101 then (1 : Int32) else (0 : Int32))] H (some (.int r)) (fun H1 => xS h b T a' H1) := by
          obtain ⟨g13, e⟩ := xg_some e
          cases e
          exact ex_r (st_iret rfl rfl (xnar_z g13)) hS
        refine ex_s (st_icmp rfl) ?_
        by_cases c12 : (a ((a 3 4).toNatClampNeg) ((x0 + 2).toNatClampNeg)) = 101
        · refine ex_pc (if_pos c12) ?_
          refine ex_s (am_nb (m := 2) (pc1 := 47) (ls1 := [(0, .ref 3), (1, .int x0), (2, .int x1)]) (st1 := [.int 1]) (H1 := H) (k1 := 0) (n1 := 0) (by with_unfolding_all rfl)) ?_
          rw [if_pos c12] at kk
          exact kk
        · refine ex_pc (if_neg c12) ?_
          refine ex_s (am_nb (m := 1) (pc1 := 47) (ls1 := [(0, .ref 3), (1, .int x0), (2, .int x1)]) (st1 := [.int 0]) (H1 := H) (k1 := 0) (n1 := 0) (by with_unfolding_all rfl)) ?_
          rw [if_neg c12] at kk
          exact kk
      · have e := (if_neg c10).symm.trans e
        refine ex_pc (if_neg c10) ?_
        refine ex_s (am_nb (m := 1) (pc1 := 47) (ls1 := [(0, .ref 3), (1, .int x0), (2, .int x1)]) (st1 := [.int 0]) (H1 := H) (k1 := 0) (n1 := 0) (by with_unfolding_all rfl)) ?_
        cases e
        exact ex_r (st_iret rfl rfl rfl) hS
    · have e := (if_neg c7).symm.trans e
      refine ex_pc (if_neg c7) ?_
      refine ex_s (am_nb (m := 1) (pc1 := 47) (ls1 := [(0, .ref 3), (1, .int x0), (2, .int x1)]) (st1 := [.int 0]) (H1 := H) (k1 := 0) (n1 := 0) (by with_unfolding_all rfl)) ?_
      cases e
      exact ex_r (st_iret rfl rfl rfl) hS
  · have e := (if_neg c2).symm.trans e
    refine ex_pc (if_neg c2) ?_
    refine ex_s (am_nb (m := 1) (pc1 := 47) (ls1 := [(0, .ref 3), (1, .int x0), (2, .int x1)]) (st1 := [.int 0]) (H1 := H) (k1 := 0) (n1 := 0) (by with_unfolding_all rfl)) ?_
    cases e
    exact ex_r (st_iret rfl rfl rfl) hS

set_option maxRecDepth 100000 in
theorem tj39_26 {sL : Nat} {sx : Nat → Int32} {h b N : Nat} {T : List am_C} {r : Int32} {a' : xA} {a : xA} {H : am_H} (hS : xS h b T a H) (e : j39_26 N h b a = some (r, a')) : am_E sL sx am_cs 39 26 [] [] H (some (.int r)) (fun H1 => xS h b T a' H1) := by
  unfold j39_26 at e
  refine ex_s (am_nb (m := 2) (pc1 := 31) (ls1 := []) (st1 := [.int 1]) (H1 := H) (k1 := 0) (n1 := 0) (by with_unfolding_all rfl)) ?_
  cases e
  exact ex_r (st_iret rfl rfl rfl) hS

set_option maxRecDepth 100000 in
theorem tf39_isNameByte {sL : Nat} {sx : Nat → Int32} {h b N : Nat} {T : List am_C} {r : Int32} {a' : xA} {x0 : Int32} {a : xA} {H : am_H} (hS : xS h b T a H) (e : f39_isNameByte N h b x0 a = some (r, a')) : am_E sL sx am_cs 39 0 [(0, .int x0)] [] H (some (.int r)) (fun H1 => xS h b T a' H1) := by
  unfold f39_isNameByte at e
  refine ex_s (am_nb (m := 1) (pc1 := 1) (ls1 := [(0, .int x0)]) (st1 := [.int x0]) (H1 := H) (k1 := 0) (n1 := 0) (by with_unfolding_all rfl)) ?_
  obtain ⟨r4, a5, e3, e⟩ := xb2_some e
  refine ex_cs1 (as := [.int x0]) (rest := []) rfl (by decide) rfl rfl (by with_unfolding_all rfl) (by with_unfolding_all rfl) (tf34_isLetter hS e3) (fun H1 s2 => ?_)
  refine ex_s (st_if rfl) ?_
  by_cases c7 : r4 = 0
  · have e := (if_pos c7).symm.trans e
    refine ex_pc (if_pos c7) ?_
    refine ex_s (am_nb (m := 1) (pc1 := 8) (ls1 := [(0, .int x0)]) (st1 := [.int x0]) (H1 := H1) (k1 := 0) (n1 := 0) (by with_unfolding_all rfl)) ?_
    obtain ⟨r11, a12, e10, e⟩ := xb2_some e
    refine ex_cs1 (as := [.int x0]) (rest := []) rfl (by decide) rfl rfl (by with_unfolding_all rfl) (by with_unfolding_all rfl) (tf35_isDigit s2 e10) (fun H8 s9 => ?_)
    refine ex_s (st_if rfl) ?_
    by_cases c16 : r11 = 0
    · have e := (if_pos c16).symm.trans e
      refine ex_pc (if_pos c16) ?_
      refine ex_s (am_nb (m := 2) (pc1 := 17) (ls1 := [(0, .int x0)]) (st1 := [.int 45, .int x0]) (H1 := H8) (k1 := 0) (n1 := 0) (by with_unfolding_all rfl)) ?_
      refine ex_s (st_icmp rfl) ?_
      by_cases c19 : x0 = 45
      · have e := (if_pos c19).symm.trans e
        refine ex_pc (if_pos c19) ?_
        exact le_E (l1 := []) trivial rfl (tj39_26  s9 e)
      · have e := (if_neg c19).symm.trans e
        refine ex_pc (if_neg c19) ?_
        refine ex_s (am_nb (m := 2) (pc1 := 23) (ls1 := [(0, .int x0)]) (st1 := [.int 43, .int x0]) (H1 := H8) (k1 := 0) (n1 := 0) (by with_unfolding_all rfl)) ?_
        have kk : am_E sL sx am_cs 39 31 [(0, .int x0)] [.int (if x0 = 43 then (1 : Int32) else (0 : Int32))] H8 (some (.int r)) (fun H1 => xS h b T a' H1) := by
          obtain ⟨g21, e⟩ := xg_some e
          cases e
          exact ex_r (st_iret rfl rfl (xnar_z g21)) s9
        refine ex_s (st_icmp rfl) ?_
        by_cases c20 : x0 = 43
        · refine ex_pc (if_pos c20) ?_
          refine ex_s (am_nb (m := 2) (pc1 := 31) (ls1 := [(0, .int x0)]) (st1 := [.int 1]) (H1 := H8) (k1 := 0) (n1 := 0) (by with_unfolding_all rfl)) ?_
          rw [if_pos c20] at kk
          exact kk
        · refine ex_pc (if_neg c20) ?_
          refine ex_s (am_nb (m := 1) (pc1 := 31) (ls1 := [(0, .int x0)]) (st1 := [.int 0]) (H1 := H8) (k1 := 0) (n1 := 0) (by with_unfolding_all rfl)) ?_
          rw [if_neg c20] at kk
          exact kk
    · have e := (if_neg c16).symm.trans e
      refine ex_pc (if_neg c16) ?_
      exact le_E (l1 := []) trivial rfl (tj39_26  s9 e)
  · have e := (if_neg c7).symm.trans e
    refine ex_pc (if_neg c7) ?_
    exact le_E (l1 := []) trivial rfl (tj39_26  s2 e)

set_option maxRecDepth 100000 in
theorem tl38_5 {sL : Nat} {sx : Nat → Int32} {h b N : Nat} {T : List am_C} {R : Option Value} {F : am_H → Prop} {w1 : Int32} {z : Nat × xA} (k0 : z.1 = 0 → ∀ H2 : am_H, xS h b T z.2 H2 → am_E sL sx am_cs 38 44 [(0, .ref 3), (1, .int w1)] [] H2 R F) : ∀ (n : Nat) (a : xA) (H : am_H), xS h b T a H → l38_5 N h b w1 n a = some z → am_E sL sx am_cs 38 5 [(0, .ref 3), (1, .int w1)] [] H R F := by
  intro n
  induction n with
  | zero =>
    intro a H hS e
    cases e
  | succ n ih =>
    intro a H hS e
    unfold l38_5 at e
    refine ex_s (am_nb (m := 1) (pc1 := 6) (ls1 := [(0, .ref 3), (1, .int w1)]) (st1 := [.ref 3]) (H1 := H) (k1 := 0) (n1 := 0) (by with_unfolding_all rfl)) ?_
    refine xe_get (v := .int (a 3 6)) hS rfl rfl (by decide) rfl ?_
    refine ex_s (am_nb (m := 1) (pc1 := 10) (ls1 := [(0, .ref 3), (1, .int w1)]) (st1 := [.ref 3, .int (a 3 6)]) (H1 := H) (k1 := 0) (n1 := 0) (by with_unfolding_all rfl)) ?_
    refine xe_get (v := .int (a 3 5)) hS rfl rfl (by decide) rfl ?_
    refine ex_s (st_icmp rfl) ?_
    by_cases c2 : (a 3 5) ≤ (a 3 6)
    · have e := (if_pos c2).symm.trans e
      refine ex_pc (if_pos c2) ?_
      cases e
      exact le_E (l1 := [(0, .ref 3), (1, .int w1)]) ⟨rfl, rfl, trivial⟩ rfl (k0 rfl H hS)
    · have e := (if_neg c2).symm.trans e
      refine ex_pc (if_neg c2) ?_
      refine ex_s (am_nb (m := 1) (pc1 := 17) (ls1 := [(0, .ref 3), (1, .int w1)]) (st1 := [.ref 3]) (H1 := H) (k1 := 0) (n1 := 0) (by with_unfolding_all rfl)) ?_
      refine xe_get (v := xN (a 3 4)) hS rfl rfl (by decide) rfl ?_
      refine ex_s (am_nb (m := 1) (pc1 := 21) (ls1 := [(0, .ref 3), (1, .int w1)]) (st1 := [.ref 3, xN (a 3 4)]) (H1 := H) (k1 := 0) (n1 := 0) (by first | with_unfolding_all rfl | (unfold xN; (repeat' split) <;> with_unfolding_all rfl))) ?_
      refine xe_get (v := .int (a 3 6)) hS rfl rfl (by decide) rfl ?_
      obtain ⟨g3, e⟩ := xg_some e
      rw [show xN (a 3 4) = .ref ((a 3 4).toNatClampNeg) from if_neg g3]
      obtain ⟨g4, e⟩ := xg_some e
      obtain ⟨g5, e⟩ := xg_some e
      refine xe_iald hS rfl g4 g5 ?_
      obtain ⟨r9, a10, e8, e⟩ := xb2_some e
      refine ex_cs1 (as := [.int (a ((a 3 4).toNatClampNeg) ((a 3 6).toNatClampNeg))]) (rest := []) rfl (by decide) rfl rfl (by with_unfolding_all rfl) (by with_unfolding_all rfl) (tf39_isNameByte hS e8) (fun H6 s7 => ?_)
      refine ex_s (st_if rfl) ?_
      by_cases c11 : r9 = 0
      · have e := (if_pos c11).symm.trans e
        refine ex_pc (if_pos c11) ?_
        cases e
        exact le_E (l1 := [(0, .ref 3), (1, .int w1)]) ⟨rfl, rfl, trivial⟩ rfl (k0 rfl H6 s7)
      · have e := (if_neg c11).symm.trans e
        refine ex_pc (if_neg c11) ?_
        refine ex_s (am_nb (m := 2) (pc1 := 33) (ls1 := [(0, .ref 3), (1, .int w1)]) (st1 := [.ref 3, .ref 3]) (H1 := H6) (k1 := 0) (n1 := 0) (by with_unfolding_all rfl)) ?_
        refine xe_get (v := .int (a10 3 6)) s7 rfl rfl (by decide) rfl ?_
        refine ex_s (am_nb (m := 2) (pc1 := 38) (ls1 := [(0, .ref 3), (1, .int w1)]) (st1 := [.int ((a10 3 6) + 1), .ref 3]) (H1 := H6) (k1 := 0) (n1 := 0) (by with_unfolding_all rfl)) ?_
        obtain ⟨a12, ha12, e⟩ := xw_some e
        refine xe_put (w := ((a10 3 6) + 1)) s7 rfl rfl (by decide) rfl rfl rfl rfl (fun H13 s14 => ?_)
        have s14 : xS h b T a12 H13 := by rw [ha12]; exact s14
        refine ex_s (am_nb (m := 1) (pc1 := 5) (ls1 := [(0, .ref 3), (1, .int w1)]) (st1 := []) (H1 := H13) (k1 := 0) (n1 := 0) (by with_unfolding_all rfl)) ?_
        exact le_E (l1 := [(0, .ref 3), (1, .int w1)]) ⟨rfl, rfl, trivial⟩ rfl (ih a12 H13 s14 e)

set_option maxRecDepth 100000 in
theorem tj38_66 {sL : Nat} {sx : Nat → Int32} {h b N : Nat} {T : List am_C} {r : Int32} {a' : xA} {a : xA} {H : am_H} (hS : xS h b T a H) (e : j38_66 N h b a = some (r, a')) : am_E sL sx am_cs 38 66 [(0, .ref 3)] [] H (some (.int r)) (fun H1 => xS h b T a' H1) := by
  unfold j38_66 at e
  refine ex_s (am_nb (m := 3) (pc1 := 69) (ls1 := [(0, .ref 3)]) (st1 := [.ref 3, .int 1, .ref 3]) (H1 := H) (k1 := 0) (n1 := 0) (by with_unfolding_all rfl)) ?_
  refine xe_get (v := .int (a 3 6)) hS rfl rfl (by decide) rfl ?_
  obtain ⟨r22, a23, e21, e⟩ := xb2_some e
  refine ex_cv1 (as := [.int 1, .int (a 3 6)]) (rest := []) rfl rfl rfl rfl (hS.obj rfl (by decide)) rfl (by with_unfolding_all rfl) (by with_unfolding_all rfl) (tf26_failed hS e21) (fun H19 s20 => ?_)
  obtain ⟨g24, e⟩ := xg_some e
  cases e
  exact ex_r (st_iret rfl rfl (xnar_z g24)) s20

set_option maxRecDepth 100000 in
theorem tj38_44 {sL : Nat} {sx : Nat → Int32} {h b N : Nat} {T : List am_C} {r : Int32} {a' : xA} {q1 : Int32} {a : xA} {H : am_H} (hS : xS h b T a H) (e : j38_44 N h b q1 a = some (r, a')) : am_E sL sx am_cs 38 44 [(0, .ref 3), (1, .int q1)] [] H (some (.int r)) (fun H1 => xS h b T a' H1) := by
  unfold j38_44 at e
  refine ex_s (am_nb (m := 1) (pc1 := 45) (ls1 := [(0, .ref 3), (1, .int q1)]) (st1 := [.ref 3]) (H1 := H) (k1 := 0) (n1 := 0) (by with_unfolding_all rfl)) ?_
  refine xe_get (v := .int (a 3 6)) hS rfl rfl (by decide) rfl ?_
  refine ex_s (am_nb (m := 1) (pc1 := 49) (ls1 := [(0, .ref 3), (1, .int q1)]) (st1 := [.int q1, .int (a 3 6)]) (H1 := H) (k1 := 0) (n1 := 0) (by with_unfolding_all rfl)) ?_
  refine ex_s (st_icmp rfl) ?_
  by_cases c18 : (a 3 6) = q1
  · have e := (if_pos c18).symm.trans e
    refine ex_pc (if_pos c18) ?_
    exact le_E (l1 := [(0, .ref 3)]) ⟨rfl, trivial⟩ rfl (tj38_66  hS e)
  · have e := (if_neg c18).symm.trans e
    refine ex_pc (if_neg c18) ?_
    refine ex_s (am_nb (m := 2) (pc1 := 54) (ls1 := [(0, .ref 3), (1, .int q1)]) (st1 := [.ref 3, .ref 3]) (H1 := H) (k1 := 0) (n1 := 0) (by with_unfolding_all rfl)) ?_
    refine xe_get (v := .int (a 3 6)) hS rfl rfl (by decide) rfl ?_
    obtain ⟨r28, a29, e27, e⟩ := xb2_some e
    refine ex_cv1 (as := [.int (a 3 6)]) (rest := []) rfl rfl rfl rfl (hS.obj rfl (by decide)) rfl (by with_unfolding_all rfl) (by with_unfolding_all rfl) (tf28_byteAt hS e27) (fun H25 s26 => ?_)
    obtain ⟨r33, a34, e32, e⟩ := xb2_some e
    refine ex_cs1 (as := [.int r28]) (rest := []) rfl (by decide) rfl rfl (by with_unfolding_all rfl) (by with_unfolding_all rfl) (tf25_isText s26 e32) (fun H30 s31 => ?_)
    refine ex_s (st_if rfl) ?_
    by_cases c35 : r33 = 0
    · have e := (if_pos c35).symm.trans e
      refine ex_pc (if_pos c35) ?_
      exact le_E (l1 := [(0, .ref 3)]) ⟨rfl, trivial⟩ rfl (tj38_66  s31 e)
    · have e := (if_neg c35).symm.trans e
      refine ex_pc (if_neg c35) ?_
      refine ex_s (am_nb (m := 1) (pc1 := 77) (ls1 := [(0, .ref 3), (1, .int q1)]) (st1 := [.int 1]) (H1 := H30) (k1 := 0) (n1 := 0) (by with_unfolding_all rfl)) ?_
      cases e
      exact ex_r (st_iret rfl rfl rfl) s31

set_option maxRecDepth 100000 in
theorem tf38_passName {sL : Nat} {sx : Nat → Int32} {h b N : Nat} {T : List am_C} {r : Int32} {a' : xA} {a : xA} {H : am_H} (hS : xS h b T a H) (e : f38_passName N h b a = some (r, a')) : am_E sL sx am_cs 38 0 [(0, .ref 3)] [] H (some (.int r)) (fun H1 => xS h b T a' H1) := by
  unfold f38_passName at e
  refine ex_s (am_nb (m := 1) (pc1 := 1) (ls1 := [(0, .ref 3)]) (st1 := [.ref 3]) (H1 := H) (k1 := 0) (n1 := 0) (by with_unfolding_all rfl)) ?_
  refine xe_get (v := .int (a 3 6)) hS rfl rfl (by decide) rfl ?_
  refine ex_s (am_nb (m := 1) (pc1 := 5) (ls1 := [(1, .int (a 3 6)), (0, .ref 3)]) (st1 := []) (H1 := H) (k1 := 0) (n1 := 0) (by with_unfolding_all rfl)) ?_
  obtain ⟨z15, e16, e⟩ := Option.bind_eq_some_iff.mp e
  refine le_E (l1 := [(0, .ref 3), (1, .int (a 3 6))]) ⟨rfl, rfl, trivial⟩ rfl (tl38_5 (z := z15)  (fun uz15_0 Hz150 sz150 => ?_) N a H hS e16)
  exact le_E (l1 := [(0, .ref 3), (1, .int (a 3 6))]) ⟨rfl, rfl, trivial⟩ rfl (tj38_44  sz150 e)

set_option maxRecDepth 100000 in
theorem tl42_9 {sL : Nat} {sx : Nat → Int32} {h b N : Nat} {T : List am_C} {R : Option Value} {F : am_H → Prop} {w0 : Nat} {w1 : Int32} {w2 : Nat} {w3 : Int32} {w4 : Int32} {z : Nat × xA} (kw0 : xk w0 = 3) (kw2 : xk w2 = 100) (k0 : z.1 = 0 → ∀ H2 : am_H, xS h b T z.2 H2 → am_E sL sx am_cs 42 39 [] [] H2 R F) (k1 : z.1 = 1 → ∀ H2 : am_H, xS h b T z.2 H2 → am_E sL sx am_cs 42 47 [] [] H2 R F) : ∀ (n : Nat) (v5 : Int32) (a : xA) (H : am_H), xS h b T a H → l42_9 N h b w0 w1 w2 w3 w4 n v5 a = some z → am_E sL sx am_cs 42 9 [(0, .ref w0), (1, .int w1), (2, .ref w2), (3, .int w3), (4, .int w4), (5, .int v5)] [] H R F := by
  intro n
  induction n with
  | zero =>
    intro v5 a H hS e
    cases e
  | succ n ih =>
    intro v5 a H hS e
    unfold l42_9 at e
    refine ex_s (am_nb (m := 2) (pc1 := 12) (ls1 := [(0, .ref w0), (1, .int w1), (2, .ref w2), (3, .int w3), (4, .int w4), (5, .int v5)]) (st1 := [.ref w0, .int v5]) (H1 := H) (k1 := 0) (n1 := 0) (by with_unfolding_all rfl)) ?_
    refine xe_get (v := .ref (w0 + 2)) hS rfl kw0 (by decide) rfl ?_
    refine ex_s (am_nb (m := 1) (pc1 := 16) (ls1 := [(0, .ref w0), (1, .int w1), (2, .ref w2), (3, .int w3), (4, .int w4), (5, .int v5)]) (st1 := [.int w1, .ref (w0 + 2), .int v5]) (H1 := H) (k1 := 0) (n1 := 0) (by with_unfolding_all rfl)) ?_
    obtain ⟨g3, e⟩ := xg_some e
    refine xe_iald hS rfl (xd_2_2 kw0) g3 ?_
    refine ex_s (st_icmp rfl) ?_
    by_cases c4 : (a (w0 + 2) (w1.toNatClampNeg)) ≤ v5
    · have e := (if_pos c4).symm.trans e
      refine ex_pc (if_pos c4) ?_
      cases e
      exact le_E (l1 := []) trivial rfl (k1 rfl H hS)
    · have e := (if_neg c4).symm.trans e
      refine ex_pc (if_neg c4) ?_
      refine ex_s (am_nb (m := 1) (pc1 := 21) (ls1 := [(0, .ref w0), (1, .int w1), (2, .ref w2), (3, .int w3), (4, .int w4), (5, .int v5)]) (st1 := [.ref w0]) (H1 := H) (k1 := 0) (n1 := 0) (by with_unfolding_all rfl)) ?_
      refine xe_get (v := .ref (w0 + 1)) hS rfl kw0 (by decide) rfl ?_
      refine ex_s (am_nb (m := 3) (pc1 := 29) (ls1 := [(0, .ref w0), (1, .int w1), (2, .ref w2), (3, .int w3), (4, .int w4), (5, .int v5)]) (st1 := [.int (w4 + v5), .ref (w0 + 1)]) (H1 := H) (k1 := 0) (n1 := 0) (by with_unfolding_all rfl)) ?_
      obtain ⟨g5, e⟩ := xg_some e
      refine xe_iald hS rfl (xd_2_1 kw0) g5 ?_
      refine ex_s (am_nb (m := 4) (pc1 := 35) (ls1 := [(0, .ref w0), (1, .int w1), (2, .ref w2), (3, .int w3), (4, .int w4), (5, .int v5)]) (st1 := [.int (w3 + v5), .ref w2, .int (a (w0 + 1) ((w4 + v5).toNatClampNeg))]) (H1 := H) (k1 := 0) (n1 := 0) (by with_unfolding_all rfl)) ?_
      obtain ⟨g6, e⟩ := xg_some e
      refine xe_iald hS rfl kw2 g6 ?_
      refine ex_s (st_icmp rfl) ?_
      by_cases c7 : (a (w0 + 1) ((w4 + v5).toNatClampNeg)) = (a w2 ((w3 + v5).toNatClampNeg))
      · have e := (if_pos c7).symm.trans e
        refine ex_pc (if_pos c7) ?_
        refine ex_s (am_nb (m := 2) (pc1 := 9) (ls1 := [(5, .int (v5 + 1)), (0, .ref w0), (1, .int w1), (2, .ref w2), (3, .int w3), (4, .int w4)]) (st1 := []) (H1 := H) (k1 := 0) (n1 := 0) (by with_unfolding_all rfl)) ?_
        exact le_E (l1 := [(0, .ref w0), (1, .int w1), (2, .ref w2), (3, .int w3), (4, .int w4), (5, .int (v5 + 1))]) ⟨rfl, rfl, rfl, rfl, rfl, rfl, trivial⟩ rfl (ih (v5 + 1) a H hS e)
      · have e := (if_neg c7).symm.trans e
        refine ex_pc (if_neg c7) ?_
        cases e
        exact le_E (l1 := []) trivial rfl (k0 rfl H hS)

set_option maxRecDepth 100000 in
theorem tf42_sameName {sL : Nat} {sx : Nat → Int32} {h b N : Nat} {T : List am_C} {r : Int32} {a' : xA} {o : Nat} {x0 : Int32} {x1 : Nat} {x2 : Int32} {a : xA} {H : am_H} (hS : xS h b T a H) (e : f42_sameName N h b o x0 x1 x2 a = some (r, a')) : am_E sL sx am_cs 42 0 [(0, .ref o), (1, .int x0), (2, .ref x1), (3, .int x2)] [] H (some (.int r)) (fun H1 => xS h b T a' H1) := by
  unfold f42_sameName at e
  obtain ⟨g1, e⟩ := xg_some e
  obtain ⟨g2, e⟩ := xg_some e
  refine ex_s (am_nb (m := 6) (pc1 := 9) (ls1 := [(5, .int 0), (4, .int (x0 * 12)), (0, .ref o), (1, .int x0), (2, .ref x1), (3, .int x2)]) (st1 := []) (H1 := H) (k1 := 0) (n1 := 0) (by with_unfolding_all rfl)) ?_
  obtain ⟨z8, e9, e⟩ := Option.bind_eq_some_iff.mp e
  refine le_E (l1 := [(0, .ref o), (1, .int x0), (2, .ref x1), (3, .int x2), (4, .int (x0 * 12)), (5, .int 0)]) ⟨rfl, rfl, rfl, rfl, rfl, rfl, trivial⟩ rfl (tl42_9 (z := z8) g1 g2 (fun uz8_0 Hz80 sz80 => ?_) (fun uz8_1 Hz81 sz81 => ?_) N 0 a H hS e9)
  · have e := (if_pos uz8_0).symm.trans e
    refine ex_s (am_nb (m := 1) (pc1 := 40) (ls1 := []) (st1 := [.int 0]) (H1 := Hz80) (k1 := 0) (n1 := 0) (by with_unfolding_all rfl)) ?_
    cases e
    exact ex_r (st_iret rfl rfl rfl) sz80
  · have e := (if_neg (show ¬ z8.1 = 0 by rw [uz8_1]; decide)).symm.trans e
    refine ex_s (am_nb (m := 1) (pc1 := 48) (ls1 := []) (st1 := [.int 1]) (H1 := Hz81) (k1 := 0) (n1 := 0) (by with_unfolding_all rfl)) ?_
    cases e
    exact ex_r (st_iret rfl rfl rfl) sz81

set_option maxRecDepth 100000 in
theorem tj41_36 {sL : Nat} {sx : Nat → Int32} {h b N : Nat} {T : List am_C} {R : Option Value} {F : am_H → Prop} {w0 : Nat} {w1 : Nat} {w2 : Int32} {w3 : Int32} {z : Nat × xA} {rc : Int32 → xA → Option (Nat × xA)} (k0 : z.1 = 0 → ∀ H2 : am_H, xS h b T z.2 H2 → am_E sL sx am_cs 41 34 [] [] H2 R F) (k1 : z.1 = 1 → ∀ H2 : am_H, xS h b T z.2 H2 → am_E sL sx am_cs 41 42 [] [] H2 R F) (ih : ∀ (v4 : Int32) (a : xA) (H : am_H), xS h b T a H → rc v4 a = some z → am_E sL sx am_cs 41 3 [(0, .ref w0), (1, .ref w1), (2, .int w2), (3, .int w3), (4, .int v4)] [] H R F) {q4 : Int32} {a : xA} {H : am_H} (kw0 : xk w0 = 3) (kw1 : xk w1 = 100) (hS : xS h b T a H) (e : j41_36 N h b rc w0 w1 w2 w3 q4 a = some z) : am_E sL sx am_cs 41 36 [(0, .ref w0), (1, .ref w1), (2, .int w2), (3, .int w3), (4, .int q4)] [] H R F := by
  unfold j41_36 at e
  refine ex_s (am_nb (m := 2) (pc1 := 3) (ls1 := [(4, .int (q4 + 1)), (0, .ref w0), (1, .ref w1), (2, .int w2), (3, .int w3)]) (st1 := []) (H1 := H) (k1 := 0) (n1 := 0) (by with_unfolding_all rfl)) ?_
  exact le_E (l1 := [(0, .ref w0), (1, .ref w1), (2, .int w2), (3, .int w3), (4, .int (q4 + 1))]) ⟨rfl, rfl, rfl, rfl, rfl, trivial⟩ rfl (ih (q4 + 1) a H hS e)

set_option maxRecDepth 100000 in
theorem tl41_3 {sL : Nat} {sx : Nat → Int32} {h b N : Nat} {T : List am_C} {R : Option Value} {F : am_H → Prop} {w0 : Nat} {w1 : Nat} {w2 : Int32} {w3 : Int32} {z : Nat × xA} (kw0 : xk w0 = 3) (kw1 : xk w1 = 100) (k0 : z.1 = 0 → ∀ H2 : am_H, xS h b T z.2 H2 → am_E sL sx am_cs 41 34 [] [] H2 R F) (k1 : z.1 = 1 → ∀ H2 : am_H, xS h b T z.2 H2 → am_E sL sx am_cs 41 42 [] [] H2 R F) : ∀ (n : Nat) (v4 : Int32) (a : xA) (H : am_H), xS h b T a H → l41_3 N h b w0 w1 w2 w3 n v4 a = some z → am_E sL sx am_cs 41 3 [(0, .ref w0), (1, .ref w1), (2, .int w2), (3, .int w3), (4, .int v4)] [] H R F := by
  intro n
  induction n with
  | zero =>
    intro v4 a H hS e
    cases e
  | succ n ih =>
    intro v4 a H hS e
    unfold l41_3 at e
    refine ex_s (am_nb (m := 2) (pc1 := 6) (ls1 := [(0, .ref w0), (1, .ref w1), (2, .int w2), (3, .int w3), (4, .int v4)]) (st1 := [.ref w0, .int v4]) (H1 := H) (k1 := 0) (n1 := 0) (by with_unfolding_all rfl)) ?_
    refine xe_get (v := .int (a w0 2)) hS rfl kw0 (by decide) rfl ?_
    refine ex_s (st_icmp rfl) ?_
    by_cases c3 : (a w0 2) ≤ v4
    · have e := (if_pos c3).symm.trans e
      refine ex_pc (if_pos c3) ?_
      cases e
      exact le_E (l1 := []) trivial rfl (k1 rfl H hS)
    · have e := (if_neg c3).symm.trans e
      refine ex_pc (if_neg c3) ?_
      refine ex_s (am_nb (m := 1) (pc1 := 13) (ls1 := [(0, .ref w0), (1, .ref w1), (2, .int w2), (3, .int w3), (4, .int v4)]) (st1 := [.ref w0]) (H1 := H) (k1 := 0) (n1 := 0) (by with_unfolding_all rfl)) ?_
      refine xe_get (v := .ref (w0 + 2)) hS rfl kw0 (by decide) rfl ?_
      refine ex_s (am_nb (m := 1) (pc1 := 18) (ls1 := [(0, .ref w0), (1, .ref w1), (2, .int w2), (3, .int w3), (4, .int v4)]) (st1 := [.int v4, .ref (w0 + 2)]) (H1 := H) (k1 := 0) (n1 := 0) (by with_unfolding_all rfl)) ?_
      obtain ⟨g4, e⟩ := xg_some e
      refine xe_iald hS rfl (xd_2_2 kw0) g4 ?_
      refine ex_s (am_nb (m := 1) (pc1 := 20) (ls1 := [(0, .ref w0), (1, .ref w1), (2, .int w2), (3, .int w3), (4, .int v4)]) (st1 := [.int w3, .int (a (w0 + 2) (v4.toNatClampNeg))]) (H1 := H) (k1 := 0) (n1 := 0) (by with_unfolding_all rfl)) ?_
      refine ex_s (st_icmp rfl) ?_
      by_cases c6 : (a (w0 + 2) (v4.toNatClampNeg)) = w3
      · have e := (if_pos c6).symm.trans e
        refine ex_pc (if_pos c6) ?_
        refine ex_s (am_nb (m := 4) (pc1 := 28) (ls1 := [(0, .ref w0), (1, .ref w1), (2, .int w2), (3, .int w3), (4, .int v4)]) (st1 := [.int w2, .ref w1, .int v4, .ref w0]) (H1 := H) (k1 := 0) (n1 := 0) (by with_unfolding_all rfl)) ?_
        obtain ⟨r10, a11, e9, e⟩ := xb2_some e
        refine ex_cv1 (as := [.int v4, .ref w1, .int w2]) (rest := []) rfl rfl rfl rfl (hS.obj kw0 (by decide)) rfl (by with_unfolding_all rfl) (by with_unfolding_all rfl) (tf42_sameName hS e9) (fun H7 s8 => ?_)
        refine ex_s (st_if rfl) ?_
        by_cases c12 : r10 = 0
        · have e := (if_pos c12).symm.trans e
          refine ex_pc (if_pos c12) ?_
          exact le_E (l1 := [(0, .ref w0), (1, .ref w1), (2, .int w2), (3, .int w3), (4, .int v4)]) ⟨rfl, rfl, rfl, rfl, rfl, trivial⟩ rfl (tj41_36 k0 k1 ih kw0 kw1 s8 e)
        · have e := (if_neg c12).symm.trans e
          refine ex_pc (if_neg c12) ?_
          cases e
          exact le_E (l1 := []) trivial rfl (k0 rfl H7 s8)
      · have e := (if_neg c6).symm.trans e
        refine ex_pc (if_neg c6) ?_
        exact le_E (l1 := [(0, .ref w0), (1, .ref w1), (2, .int w2), (3, .int w3), (4, .int v4)]) ⟨rfl, rfl, rfl, rfl, rfl, trivial⟩ rfl (tj41_36 k0 k1 ih kw0 kw1 hS e)

set_option maxRecDepth 100000 in
theorem tf41_isNamed {sL : Nat} {sx : Nat → Int32} {h b N : Nat} {T : List am_C} {r : Int32} {a' : xA} {o : Nat} {x0 : Nat} {x1 : Int32} {x2 : Int32} {a : xA} {H : am_H} (hS : xS h b T a H) (e : f41_isNamed N h b o x0 x1 x2 a = some (r, a')) : am_E sL sx am_cs 41 0 [(0, .ref o), (1, .ref x0), (2, .int x1), (3, .int x2)] [] H (some (.int r)) (fun H1 => xS h b T a' H1) := by
  unfold f41_isNamed at e
  obtain ⟨g1, e⟩ := xg_some e
  obtain ⟨g2, e⟩ := xg_some e
  refine ex_s (am_nb (m := 2) (pc1 := 3) (ls1 := [(4, .int 0), (0, .ref o), (1, .ref x0), (2, .int x1), (3, .int x2)]) (st1 := []) (H1 := H) (k1 := 0) (n1 := 0) (by with_unfolding_all rfl)) ?_
  obtain ⟨z13, e14, e⟩ := Option.bind_eq_some_iff.mp e
  refine le_E (l1 := [(0, .ref o), (1, .ref x0), (2, .int x1), (3, .int x2), (4, .int 0)]) ⟨rfl, rfl, rfl, rfl, rfl, trivial⟩ rfl (tl41_3 (z := z13) g1 g2 (fun uz13_0 Hz130 sz130 => ?_) (fun uz13_1 Hz131 sz131 => ?_) N 0 a H hS e14)
  · have e := (if_pos uz13_0).symm.trans e
    refine ex_s (am_nb (m := 1) (pc1 := 35) (ls1 := []) (st1 := [.int 1]) (H1 := Hz130) (k1 := 0) (n1 := 0) (by with_unfolding_all rfl)) ?_
    cases e
    exact ex_r (st_iret rfl rfl rfl) sz130
  · have e := (if_neg (show ¬ z13.1 = 0 by rw [uz13_1]; decide)).symm.trans e
    refine ex_s (am_nb (m := 1) (pc1 := 43) (ls1 := []) (st1 := [.int 0]) (H1 := Hz131) (k1 := 0) (n1 := 0) (by with_unfolding_all rfl)) ?_
    cases e
    exact ex_r (st_iret rfl rfl rfl) sz131

set_option maxRecDepth 100000 in
theorem tl40_3 {sL : Nat} {sx : Nat → Int32} {h b N : Nat} {T : List am_C} {R : Option Value} {F : am_H → Prop} {w1 : Nat} {w2 : Int32} {w3 : Int32} {w4 : Int32} {z : Nat × Int32 × xA} (kw1 : xk w1 = 100) (k0 : z.1 = 0 → ∀ H2 : am_H, xS h b T z.2.2 H2 → am_E sL sx am_cs 40 33 [(5, .int z.2.1)] [] H2 R F) (k1 : z.1 = 1 → ∀ H2 : am_H, xS h b T z.2.2 H2 → am_E sL sx am_cs 40 42 [] [] H2 R F) : ∀ (n : Nat) (v5 : Int32) (a : xA) (H : am_H), xS h b T a H → l40_3 N h b w1 w2 w3 w4 n v5 a = some z → am_E sL sx am_cs 40 3 [(0, .ref 3), (1, .ref w1), (2, .int w2), (3, .int w3), (4, .int w4), (5, .int v5)] [] H R F := by
  intro n
  induction n with
  | zero =>
    intro v5 a H hS e
    cases e
  | succ n ih =>
    intro v5 a H hS e
    unfold l40_3 at e
    refine ex_s (am_nb (m := 2) (pc1 := 7) (ls1 := [(0, .ref 3), (1, .ref w1), (2, .int w2), (3, .int w3), (4, .int w4), (5, .int v5)]) (st1 := [.int w4, .int v5]) (H1 := H) (k1 := 0) (n1 := 0) (by with_unfolding_all rfl)) ?_
    refine ex_s (st_icmp rfl) ?_
    by_cases c4 : w4 ≤ v5
    · have e := (if_pos c4).symm.trans e
      refine ex_pc (if_pos c4) ?_
      cases e
      exact le_E (l1 := []) trivial rfl (k1 rfl H hS)
    · have e := (if_neg c4).symm.trans e
      refine ex_pc (if_neg c4) ?_
      refine ex_s (am_nb (m := 2) (pc1 := 14) (ls1 := [(0, .ref 3), (1, .ref w1), (2, .int w2), (3, .int w3), (4, .int w4), (5, .int v5)]) (st1 := [.int 12, .int v5]) (H1 := H) (k1 := 0) (n1 := 0) (by with_unfolding_all rfl)) ?_
      refine ex_s (st_icmp rfl) ?_
      by_cases c5 : 12 ≤ v5
      · have e := (if_pos c5).symm.trans e
        refine ex_pc (if_pos c5) ?_
        cases e
        exact le_E (l1 := []) trivial rfl (k1 rfl H hS)
      · have e := (if_neg c5).symm.trans e
        refine ex_pc (if_neg c5) ?_
        refine ex_s (am_nb (m := 1) (pc1 := 18) (ls1 := [(0, .ref 3), (1, .ref w1), (2, .int w2), (3, .int w3), (4, .int w4), (5, .int v5)]) (st1 := [.ref 3]) (H1 := H) (k1 := 0) (n1 := 0) (by with_unfolding_all rfl)) ?_
        refine xe_get (v := .ref 4) hS rfl rfl (by decide) rfl ?_
        refine ex_s (am_nb (m := 1) (pc1 := 23) (ls1 := [(0, .ref 3), (1, .ref w1), (2, .int w2), (3, .int w3), (4, .int w4), (5, .int v5)]) (st1 := [.int v5, .ref 4]) (H1 := H) (k1 := 0) (n1 := 0) (by with_unfolding_all rfl)) ?_
        obtain ⟨g6, e⟩ := xg_some e
        refine xe_q4 hS rfl g6 ?_
        refine ex_s (am_nb (m := 3) (pc1 := 27) (ls1 := [(0, .ref 3), (1, .ref w1), (2, .int w2), (3, .int w3), (4, .int w4), (5, .int v5)]) (st1 := [.int w3, .int w2, .ref w1, .ref (9 + 7 * v5.toNatClampNeg)]) (H1 := H) (k1 := 0) (n1 := 0) (by with_unfolding_all rfl)) ?_
        obtain ⟨r10, a11, e9, e⟩ := xb2_some e
        refine ex_cv1 (as := [.ref w1, .int w2, .int w3]) (rest := []) rfl rfl rfl rfl (hS.obj (xkq4 g6) (by decide)) rfl (by with_unfolding_all rfl) (by with_unfolding_all rfl) (tf41_isNamed hS e9) (fun H7 s8 => ?_)
        refine ex_s (st_if rfl) ?_
        by_cases c12 : r10 = 0
        · have e := (if_pos c12).symm.trans e
          refine ex_pc (if_pos c12) ?_
          refine ex_s (am_nb (m := 2) (pc1 := 3) (ls1 := [(5, .int (v5 + 1)), (0, .ref 3), (1, .ref w1), (2, .int w2), (3, .int w3), (4, .int w4)]) (st1 := []) (H1 := H7) (k1 := 0) (n1 := 0) (by with_unfolding_all rfl)) ?_
          exact le_E (l1 := [(0, .ref 3), (1, .ref w1), (2, .int w2), (3, .int w3), (4, .int w4), (5, .int (v5 + 1))]) ⟨rfl, rfl, rfl, rfl, rfl, rfl, trivial⟩ rfl (ih (v5 + 1) a11 H7 s8 e)
        · have e := (if_neg c12).symm.trans e
          refine ex_pc (if_neg c12) ?_
          cases e
          exact le_E (l1 := [(5, .int v5)]) ⟨rfl, trivial⟩ rfl (k0 rfl H7 s8)

set_option maxRecDepth 100000 in
theorem tf40_indexNamed {sL : Nat} {sx : Nat → Int32} {h b N : Nat} {T : List am_C} {r : Int32} {a' : xA} {x0 : Nat} {x1 : Int32} {x2 : Int32} {x3 : Int32} {a : xA} {H : am_H} (hS : xS h b T a H) (e : f40_indexNamed N h b x0 x1 x2 x3 a = some (r, a')) : am_E sL sx am_cs 40 0 [(0, .ref 3), (1, .ref x0), (2, .int x1), (3, .int x2), (4, .int x3)] [] H (some (.int r)) (fun H1 => xS h b T a' H1) := by
  unfold f40_indexNamed at e
  obtain ⟨g1, e⟩ := xg_some e
  refine ex_s (am_nb (m := 2) (pc1 := 3) (ls1 := [(5, .int 0), (0, .ref 3), (1, .ref x0), (2, .int x1), (3, .int x2), (4, .int x3)]) (st1 := []) (H1 := H) (k1 := 0) (n1 := 0) (by with_unfolding_all rfl)) ?_
  obtain ⟨z13, e14, e⟩ := Option.bind_eq_some_iff.mp e
  refine le_E (l1 := [(0, .ref 3), (1, .ref x0), (2, .int x1), (3, .int x2), (4, .int x3), (5, .int 0)]) ⟨rfl, rfl, rfl, rfl, rfl, rfl, trivial⟩ rfl (tl40_3 (z := z13) g1 (fun uz13_0 Hz130 sz130 => ?_) (fun uz13_1 Hz131 sz131 => ?_) N 0 a H hS e14)
  · have e := (if_pos uz13_0).symm.trans e
    refine ex_s (am_nb (m := 1) (pc1 := 35) (ls1 := [(5, .int z13.2.1)]) (st1 := [.int z13.2.1]) (H1 := Hz130) (k1 := 0) (n1 := 0) (by with_unfolding_all rfl)) ?_
    cases e
    exact ex_r (st_iret rfl rfl rfl) sz130
  · have e := (if_neg (show ¬ z13.1 = 0 by rw [uz13_1]; decide)).symm.trans e
    refine ex_s (am_nb (m := 1) (pc1 := 43) (ls1 := []) (st1 := [.int (-1)]) (H1 := Hz131) (k1 := 0) (n1 := 0) (by with_unfolding_all rfl)) ?_
    cases e
    exact ex_r (st_iret rfl rfl rfl) sz131

set_option maxRecDepth 100000 in
theorem tf37_readUse {sL : Nat} {sx : Nat → Int32} {h b N : Nat} {T : List am_C} {r : Int32} {a' : xA} {a : xA} {H : am_H} (hS : xS h b T a H) (e : f37_readUse N h b a = some (r, a')) : am_E sL sx am_cs 37 0 [(0, .ref 3)] [] H (some (.int r)) (fun H1 => xS h b T a' H1) := by
  unfold f37_readUse at e
  refine ex_s (am_nb (m := 1) (pc1 := 1) (ls1 := [(0, .ref 3)]) (st1 := [.ref 3]) (H1 := H) (k1 := 0) (n1 := 0) (by with_unfolding_all rfl)) ?_
  refine xe_get (v := .int (a 3 6)) hS rfl rfl (by decide) rfl ?_
  refine ex_s (am_nb (m := 2) (pc1 := 6) (ls1 := [(1, .int (a 3 6)), (0, .ref 3)]) (st1 := [.ref 3]) (H1 := H) (k1 := 0) (n1 := 0) (by with_unfolding_all rfl)) ?_
  obtain ⟨r4, a5, e3, e⟩ := xb2_some e
  refine ex_cv1 (as := []) (rest := []) rfl rfl rfl rfl (hS.obj rfl (by decide)) rfl (by with_unfolding_all rfl) (by with_unfolding_all rfl) (tf38_passName hS e3) (fun H1 s2 => ?_)
  refine ex_s (st_if rfl) ?_
  by_cases c6 : r4 = 0
  · have e := (if_pos c6).symm.trans e
    refine ex_pc (if_pos c6) ?_
    refine ex_s (am_nb (m := 1) (pc1 := 13) (ls1 := [(1, .int (a 3 6)), (0, .ref 3)]) (st1 := [.int 0]) (H1 := H1) (k1 := 0) (n1 := 0) (by with_unfolding_all rfl)) ?_
    cases e
    exact ex_r (st_iret rfl rfl rfl) s2
  · have e := (if_neg c6).symm.trans e
    refine ex_pc (if_neg c6) ?_
    refine ex_s (am_nb (m := 1) (pc1 := 15) (ls1 := [(1, .int (a 3 6)), (0, .ref 3)]) (st1 := [.ref 3]) (H1 := H1) (k1 := 0) (n1 := 0) (by with_unfolding_all rfl)) ?_
    refine xe_get (v := .int (a5 3 6)) s2 rfl rfl (by decide) rfl ?_
    refine ex_s (am_nb (m := 5) (pc1 := 24) (ls1 := [(2, .int ((a5 3 6) - (a 3 6))), (1, .int (a 3 6)), (0, .ref 3)]) (st1 := [.int 12, .int ((a5 3 6) - (a 3 6))]) (H1 := H1) (k1 := 0) (n1 := 0) (by with_unfolding_all rfl)) ?_
    refine ex_s (st_icmp rfl) ?_
    by_cases c7 : ((a5 3 6) - (a 3 6)) ≤ 12
    · have e := (if_pos c7).symm.trans e
      refine ex_pc (if_pos c7) ?_
      refine ex_s (am_nb (m := 1) (pc1 := 35) (ls1 := [(2, .int ((a5 3 6) - (a 3 6))), (1, .int (a 3 6)), (0, .ref 3)]) (st1 := [.ref 3]) (H1 := H1) (k1 := 0) (n1 := 0) (by with_unfolding_all rfl)) ?_
      refine xe_get (v := .int (a5 3 11)) s2 rfl rfl (by decide) rfl ?_
      refine ex_s (am_nb (m := 1) (pc1 := 39) (ls1 := [(2, .int ((a5 3 6) - (a 3 6))), (1, .int (a 3 6)), (0, .ref 3)]) (st1 := [.int 4, .int (a5 3 11)]) (H1 := H1) (k1 := 0) (n1 := 0) (by with_unfolding_all rfl)) ?_
      refine ex_s (st_icmp rfl) ?_
      by_cases c8 : (a5 3 11) < 4
      · have e := (if_pos c8).symm.trans e
        refine ex_pc (if_pos c8) ?_
        refine ex_s (am_nb (m := 2) (pc1 := 52) (ls1 := [(2, .int ((a5 3 6) - (a 3 6))), (1, .int (a 3 6)), (0, .ref 3)]) (st1 := [.ref 3, .ref 3]) (H1 := H1) (k1 := 0) (n1 := 0) (by with_unfolding_all rfl)) ?_
        refine xe_get (v := xN (a5 3 4)) s2 rfl rfl (by decide) rfl ?_
        refine ex_s (am_nb (m := 3) (pc1 := 58) (ls1 := [(2, .int ((a5 3 6) - (a 3 6))), (1, .int (a 3 6)), (0, .ref 3)]) (st1 := [.ref 3, .int ((a5 3 6) - (a 3 6)), .int (a 3 6), xN (a5 3 4), .ref 3]) (H1 := H1) (k1 := 0) (n1 := 0) (by first | with_unfolding_all rfl | (unfold xN; (repeat' split) <;> with_unfolding_all rfl))) ?_
        refine xe_get (v := .int (a5 3 7)) s2 rfl rfl (by decide) rfl ?_
        obtain ⟨g9, e⟩ := xg_some e
        rw [show xN (a5 3 4) = .ref ((a5 3 4).toNatClampNeg) from if_neg g9]
        obtain ⟨r13, a14, e12, e⟩ := xb2_some e
        refine ex_cv1 (as := [.ref ((a5 3 4).toNatClampNeg), .int (a 3 6), .int ((a5 3 6) - (a 3 6)), .int (a5 3 7)]) (rest := []) rfl rfl rfl rfl (s2.obj rfl (by decide)) rfl (by with_unfolding_all rfl) (by with_unfolding_all rfl) (tf40_indexNamed s2 e12) (fun H10 s11 => ?_)
        refine ex_s (am_nb (m := 3) (pc1 := 67) (ls1 := [(3, .int r13), (2, .int ((a5 3 6) - (a 3 6))), (1, .int (a 3 6)), (0, .ref 3)]) (st1 := [.int (-1), .int r13]) (H1 := H10) (k1 := 0) (n1 := 0) (by with_unfolding_all rfl)) ?_
        refine ex_s (st_icmp rfl) ?_
        by_cases c15 : r13 = (-1)
        · have e := (if_pos c15).symm.trans e
          refine ex_pc (if_pos c15) ?_
          refine ex_s (am_nb (m := 3) (pc1 := 74) (ls1 := [(3, .int r13), (2, .int ((a5 3 6) - (a 3 6))), (1, .int (a 3 6)), (0, .ref 3)]) (st1 := [.int (a 3 6), .int 9, .ref 3]) (H1 := H10) (k1 := 0) (n1 := 0) (by with_unfolding_all rfl)) ?_
          obtain ⟨r19, a20, e18, e⟩ := xb2_some e
          refine ex_cv1 (as := [.int 9, .int (a 3 6)]) (rest := []) rfl rfl rfl rfl (s11.obj rfl (by decide)) rfl (by with_unfolding_all rfl) (by with_unfolding_all rfl) (tf26_failed s11 e18) (fun H16 s17 => ?_)
          obtain ⟨g21, e⟩ := xg_some e
          cases e
          exact ex_r (st_iret rfl rfl (xnar_z g21)) s17
        · have e := (if_neg c15).symm.trans e
          refine ex_pc (if_neg c15) ?_
          refine ex_s (am_nb (m := 1) (pc1 := 79) (ls1 := [(3, .int r13), (2, .int ((a5 3 6) - (a 3 6))), (1, .int (a 3 6)), (0, .ref 3)]) (st1 := [.ref 3]) (H1 := H10) (k1 := 0) (n1 := 0) (by with_unfolding_all rfl)) ?_
          refine xe_get (v := .ref 7) s11 rfl rfl (by decide) rfl ?_
          refine ex_s (am_nb (m := 1) (pc1 := 83) (ls1 := [(3, .int r13), (2, .int ((a5 3 6) - (a 3 6))), (1, .int (a 3 6)), (0, .ref 3)]) (st1 := [.ref 3, .ref 7]) (H1 := H10) (k1 := 0) (n1 := 0) (by with_unfolding_all rfl)) ?_
          refine xe_get (v := .int (a14 3 11)) s11 rfl rfl (by decide) rfl ?_
          refine ex_s (am_nb (m := 1) (pc1 := 87) (ls1 := [(3, .int r13), (2, .int ((a5 3 6) - (a 3 6))), (1, .int (a 3 6)), (0, .ref 3)]) (st1 := [.int r13, .int (a14 3 11), .ref 7]) (H1 := H10) (k1 := 0) (n1 := 0) (by with_unfolding_all rfl)) ?_
          obtain ⟨g25, e⟩ := xg_some e
          obtain ⟨a22, ha22, e⟩ := xw_some e
          refine xe_iast s11 rfl rfl g25 (fun H23 s24 => ?_)
          have s24 : xS h b T a22 H23 := by rw [ha22]; exact s24
          refine ex_s (am_nb (m := 2) (pc1 := 90) (ls1 := [(3, .int r13), (2, .int ((a5 3 6) - (a 3 6))), (1, .int (a 3 6)), (0, .ref 3)]) (st1 := [.ref 3, .ref 3]) (H1 := H23) (k1 := 0) (n1 := 0) (by with_unfolding_all rfl)) ?_
          refine xe_get (v := .int (a22 3 11)) s24 rfl rfl (by decide) rfl ?_
          refine ex_s (am_nb (m := 2) (pc1 := 95) (ls1 := [(3, .int r13), (2, .int ((a5 3 6) - (a 3 6))), (1, .int (a 3 6)), (0, .ref 3)]) (st1 := [.int ((a22 3 11) + 1), .ref 3]) (H1 := H23) (k1 := 0) (n1 := 0) (by with_unfolding_all rfl)) ?_
          obtain ⟨a26, ha26, e⟩ := xw_some e
          refine xe_put (w := ((a22 3 11) + 1)) s24 rfl rfl (by decide) rfl rfl rfl rfl (fun H27 s28 => ?_)
          have s28 : xS h b T a26 H27 := by rw [ha26]; exact s28
          refine ex_s (am_nb (m := 1) (pc1 := 99) (ls1 := [(3, .int r13), (2, .int ((a5 3 6) - (a 3 6))), (1, .int (a 3 6)), (0, .ref 3)]) (st1 := [.int 1]) (H1 := H27) (k1 := 0) (n1 := 0) (by with_unfolding_all rfl)) ?_
          cases e
          exact ex_r (st_iret rfl rfl rfl) s28
      · have e := (if_neg c8).symm.trans e
        refine ex_pc (if_neg c8) ?_
        refine ex_s (am_nb (m := 3) (pc1 := 46) (ls1 := [(2, .int ((a5 3 6) - (a 3 6))), (1, .int (a 3 6)), (0, .ref 3)]) (st1 := [.int (a 3 6), .int 11, .ref 3]) (H1 := H1) (k1 := 0) (n1 := 0) (by with_unfolding_all rfl)) ?_
        obtain ⟨r32, a33, e31, e⟩ := xb2_some e
        refine ex_cv1 (as := [.int 11, .int (a 3 6)]) (rest := []) rfl rfl rfl rfl (s2.obj rfl (by decide)) rfl (by with_unfolding_all rfl) (by with_unfolding_all rfl) (tf26_failed s2 e31) (fun H29 s30 => ?_)
        obtain ⟨g34, e⟩ := xg_some e
        cases e
        exact ex_r (st_iret rfl rfl (xnar_z g34)) s30
    · have e := (if_neg c7).symm.trans e
      refine ex_pc (if_neg c7) ?_
      refine ex_s (am_nb (m := 3) (pc1 := 30) (ls1 := [(2, .int ((a5 3 6) - (a 3 6))), (1, .int (a 3 6)), (0, .ref 3)]) (st1 := [.int (a 3 6), .int 2, .ref 3]) (H1 := H1) (k1 := 0) (n1 := 0) (by with_unfolding_all rfl)) ?_
      obtain ⟨r38, a39, e37, e⟩ := xb2_some e
      refine ex_cv1 (as := [.int 2, .int (a 3 6)]) (rest := []) rfl rfl rfl rfl (s2.obj rfl (by decide)) rfl (by with_unfolding_all rfl) (by with_unfolding_all rfl) (tf26_failed s2 e37) (fun H35 s36 => ?_)
      obtain ⟨g40, e⟩ := xg_some e
      cases e
      exact ex_r (st_iret rfl rfl (xnar_z g40)) s36

set_option maxRecDepth 100000 in
theorem tf43_passComma {sL : Nat} {sx : Nat → Int32} {h b N : Nat} {T : List am_C} {r : Int32} {a' : xA} {a : xA} {H : am_H} (hS : xS h b T a H) (e : f43_passComma N h b a = some (r, a')) : am_E sL sx am_cs 43 0 [(0, .ref 3)] [] H (some (.int r)) (fun H1 => xS h b T a' H1) := by
  unfold f43_passComma at e
  refine ex_s (am_nb (m := 2) (pc1 := 2) (ls1 := [(0, .ref 3)]) (st1 := [.ref 3, .ref 3]) (H1 := H) (k1 := 0) (n1 := 0) (by with_unfolding_all rfl)) ?_
  refine xe_get (v := .int (a 3 6)) hS rfl rfl (by decide) rfl ?_
  obtain ⟨r4, a5, e3, e⟩ := xb2_some e
  refine ex_cv1 (as := [.int (a 3 6)]) (rest := []) rfl rfl rfl rfl (hS.obj rfl (by decide)) rfl (by with_unfolding_all rfl) (by with_unfolding_all rfl) (tf28_byteAt hS e3) (fun H1 s2 => ?_)
  refine ex_s (am_nb (m := 1) (pc1 := 10) (ls1 := [(0, .ref 3)]) (st1 := [.int 44, .int r4]) (H1 := H1) (k1 := 0) (n1 := 0) (by with_unfolding_all rfl)) ?_
  refine ex_s (st_icmp rfl) ?_
  by_cases c6 : r4 = 44
  · have e := (if_pos c6).symm.trans e
    refine ex_pc (if_pos c6) ?_
    refine ex_s (am_nb (m := 2) (pc1 := 25) (ls1 := [(0, .ref 3)]) (st1 := [.ref 3, .ref 3]) (H1 := H1) (k1 := 0) (n1 := 0) (by with_unfolding_all rfl)) ?_
    refine xe_get (v := .int (a5 3 6)) s2 rfl rfl (by decide) rfl ?_
    refine ex_s (am_nb (m := 2) (pc1 := 30) (ls1 := [(0, .ref 3)]) (st1 := [.int ((a5 3 6) + 1), .ref 3]) (H1 := H1) (k1 := 0) (n1 := 0) (by with_unfolding_all rfl)) ?_
    obtain ⟨a7, ha7, e⟩ := xw_some e
    refine xe_put (w := ((a5 3 6) + 1)) s2 rfl rfl (by decide) rfl rfl rfl rfl (fun H8 s9 => ?_)
    have s9 : xS h b T a7 H8 := by rw [ha7]; exact s9
    refine ex_s (am_nb (m := 1) (pc1 := 34) (ls1 := [(0, .ref 3)]) (st1 := [.int 1]) (H1 := H8) (k1 := 0) (n1 := 0) (by with_unfolding_all rfl)) ?_
    cases e
    exact ex_r (st_iret rfl rfl rfl) s9
  · have e := (if_neg c6).symm.trans e
    refine ex_pc (if_neg c6) ?_
    refine ex_s (am_nb (m := 3) (pc1 := 16) (ls1 := [(0, .ref 3)]) (st1 := [.ref 3, .int 1, .ref 3]) (H1 := H1) (k1 := 0) (n1 := 0) (by with_unfolding_all rfl)) ?_
    refine xe_get (v := .int (a5 3 6)) s2 rfl rfl (by decide) rfl ?_
    obtain ⟨r13, a14, e12, e⟩ := xb2_some e
    refine ex_cv1 (as := [.int 1, .int (a5 3 6)]) (rest := []) rfl rfl rfl rfl (s2.obj rfl (by decide)) rfl (by with_unfolding_all rfl) (by with_unfolding_all rfl) (tf26_failed s2 e12) (fun H10 s11 => ?_)
    obtain ⟨g15, e⟩ := xg_some e
    cases e
    exact ex_r (st_iret rfl rfl (xnar_z g15)) s11

set_option maxRecDepth 100000 in
theorem tj45_71 {sL : Nat} {sx : Nat → Int32} {h b N : Nat} {T : List am_C} {R : Option Value} {F : am_H → Prop} {w1 : Nat} {w2 : Int32} {w3 : Int32} {w4 : Int32} {z : Nat × xA} {rc : Int32 → xA → Option (Nat × xA)} (k0 : z.1 = 0 → ∀ H2 : am_H, xS h b T z.2 H2 → am_E sL sx am_cs 45 78 [] [] H2 R F) (k1 : z.1 = 1 → ∀ H2 : am_H, xS h b T z.2 H2 → am_E sL sx am_cs 45 86 [] [] H2 R F) (ih : ∀ (v5 : Int32) (a : xA) (H : am_H), xS h b T a H → rc v5 a = some z → am_E sL sx am_cs 45 8 [(1, .ref w1), (2, .int w2), (3, .int w3), (4, .int w4), (5, .int v5)] [] H R F) {q5 : Int32} {t0 : Int32} {a : xA} {H : am_H} (kw1 : xk w1 = 100) (hS : xS h b T a H) (e : j45_71 N h b rc w1 w2 w3 w4 q5 t0 a = some z) : am_E sL sx am_cs 45 71 [(1, .ref w1), (2, .int w2), (3, .int w3), (4, .int w4), (5, .int q5)] [.int t0] H R F := by
  unfold j45_71 at e
  refine ex_s (am_nb (m := 2) (pc1 := 75) (ls1 := [(7, .int t0), (1, .ref w1), (2, .int w2), (3, .int w3), (4, .int w4), (5, .int q5)]) (st1 := [.int t0]) (H1 := H) (k1 := 0) (n1 := 0) (by with_unfolding_all rfl)) ?_
  refine ex_s (st_if rfl) ?_
  by_cases c13 : t0 = 0
  · have e := (if_pos c13).symm.trans e
    refine ex_pc (if_pos c13) ?_
    cases e
    exact le_E (l1 := []) trivial rfl (k0 rfl H hS)
  · have e := (if_neg c13).symm.trans e
    refine ex_pc (if_neg c13) ?_
    refine ex_s (am_nb (m := 2) (pc1 := 8) (ls1 := [(5, .int (q5 + 1)), (7, .int t0), (1, .ref w1), (2, .int w2), (3, .int w3), (4, .int w4)]) (st1 := []) (H1 := H) (k1 := 0) (n1 := 0) (by with_unfolding_all rfl)) ?_
    exact le_E (l1 := [(1, .ref w1), (2, .int w2), (3, .int w3), (4, .int w4), (5, .int (q5 + 1))]) ⟨rfl, rfl, rfl, rfl, rfl, trivial⟩ rfl (ih (q5 + 1) a H hS e)

set_option maxRecDepth 100000 in
theorem tj45_55 {sL : Nat} {sx : Nat → Int32} {h b N : Nat} {T : List am_C} {R : Option Value} {F : am_H → Prop} {w1 : Nat} {w2 : Int32} {w3 : Int32} {w4 : Int32} {z : Nat × xA} {rc : Int32 → xA → Option (Nat × xA)} (k0 : z.1 = 0 → ∀ H2 : am_H, xS h b T z.2 H2 → am_E sL sx am_cs 45 78 [] [] H2 R F) (k1 : z.1 = 1 → ∀ H2 : am_H, xS h b T z.2 H2 → am_E sL sx am_cs 45 86 [] [] H2 R F) (ih : ∀ (v5 : Int32) (a : xA) (H : am_H), xS h b T a H → rc v5 a = some z → am_E sL sx am_cs 45 8 [(1, .ref w1), (2, .int w2), (3, .int w3), (4, .int w4), (5, .int v5)] [] H R F) {q5 : Int32} {a : xA} {H : am_H} (kw1 : xk w1 = 100) (hS : xS h b T a H) (e : j45_55 N h b rc w1 w2 w3 w4 q5 a = some z) : am_E sL sx am_cs 45 55 [(1, .ref w1), (2, .int w2), (3, .int w3), (4, .int w4), (5, .int q5)] [] H R F := by
  unfold j45_55 at e
  refine ex_s (am_nb (m := 2) (pc1 := 71) (ls1 := [(1, .ref w1), (2, .int w2), (3, .int w3), (4, .int w4), (5, .int q5)]) (st1 := [.int 0]) (H1 := H) (k1 := 0) (n1 := 0) (by with_unfolding_all rfl)) ?_
  exact le_E (l1 := [(1, .ref w1), (2, .int w2), (3, .int w3), (4, .int w4), (5, .int q5)]) ⟨rfl, rfl, rfl, rfl, rfl, trivial⟩ rfl (tj45_71 k0 k1 ih kw1 hS e)

set_option maxRecDepth 100000 in
theorem tl45_8 {sL : Nat} {sx : Nat → Int32} {h b N : Nat} {T : List am_C} {R : Option Value} {F : am_H → Prop} {w1 : Nat} {w2 : Int32} {w3 : Int32} {w4 : Int32} {z : Nat × xA} (kw1 : xk w1 = 100) (k0 : z.1 = 0 → ∀ H2 : am_H, xS h b T z.2 H2 → am_E sL sx am_cs 45 78 [] [] H2 R F) (k1 : z.1 = 1 → ∀ H2 : am_H, xS h b T z.2 H2 → am_E sL sx am_cs 45 86 [] [] H2 R F) : ∀ (n : Nat) (v5 : Int32) (a : xA) (H : am_H), xS h b T a H → l45_8 N h b w1 w2 w3 w4 n v5 a = some z → am_E sL sx am_cs 45 8 [(1, .ref w1), (2, .int w2), (3, .int w3), (4, .int w4), (5, .int v5)] [] H R F := by
  intro n
  induction n with
  | zero =>
    intro v5 a H hS e
    cases e
  | succ n ih =>
    intro v5 a H hS e
    unfold l45_8 at e
    refine ex_s (am_nb (m := 2) (pc1 := 11) (ls1 := [(1, .ref w1), (2, .int w2), (3, .int w3), (4, .int w4), (5, .int v5)]) (st1 := [.int 5, .int v5]) (H1 := H) (k1 := 0) (n1 := 0) (by with_unfolding_all rfl)) ?_
    refine ex_s (st_icmp rfl) ?_
    by_cases c2 : 5 ≤ v5
    · have e := (if_pos c2).symm.trans e
      refine ex_pc (if_pos c2) ?_
      cases e
      exact le_E (l1 := []) trivial rfl (k1 rfl H hS)
    · have e := (if_neg c2).symm.trans e
      refine ex_pc (if_neg c2) ?_
      refine ex_s (am_nb (m := 4) (pc1 := 22) (ls1 := [(1, .ref w1), (2, .int w2), (3, .int w3), (4, .int w4), (5, .int v5)]) (st1 := [.int (w4 + v5), .retAddr 1]) (H1 := H) (k1 := 0) (n1 := 0) (by with_unfolding_all rfl)) ?_
      obtain ⟨g3, e⟩ := xg_some e
      obtain ⟨r4, er4, e⟩ := xbc_some e
      refine ex_s (st_chr rfl g3 er4 (by decide)) ?_
      refine ex_s (am_nb (m := 3) (pc1 := 30) (ls1 := [(6, .int r4), (1, .ref w1), (2, .int w2), (3, .int w3), (4, .int w4), (5, .int v5)]) (st1 := [.int w3, .int v5]) (H1 := H) (k1 := 0) (n1 := 0) (by with_unfolding_all rfl)) ?_
      refine ex_s (st_icmp rfl) ?_
      by_cases c8 : w3 ≤ v5
      · have e := (if_pos c8).symm.trans e
        refine ex_pc (if_pos c8) ?_
        refine ex_s (am_nb (m := 2) (pc1 := 63) (ls1 := [(6, .int r4), (1, .ref w1), (2, .int w2), (3, .int w3), (4, .int w4), (5, .int v5)]) (st1 := [.int 32, .int r4]) (H1 := H) (k1 := 0) (n1 := 0) (by with_unfolding_all rfl)) ?_
        have kk : am_E sL sx am_cs 45 71 [(6, .int r4), (1, .ref w1), (2, .int w2), (3, .int w3), (4, .int w4), (5, .int v5)] [.int (if r4 = 32 then (1 : Int32) else (0 : Int32))] H R F := by
          refine ex_s (am_nb (m := 2) (pc1 := 75) (ls1 := [(7, .int (if r4 = 32 then (1 : Int32) else (0 : Int32))), (6, .int r4), (1, .ref w1), (2, .int w2), (3, .int w3), (4, .int w4), (5, .int v5)]) (st1 := [.int (if r4 = 32 then (1 : Int32) else (0 : Int32))]) (H1 := H) (k1 := 0) (n1 := 0) (by with_unfolding_all rfl)) ?_
          refine ex_s (st_if rfl) ?_
          by_cases c10 : (if r4 = 32 then (1 : Int32) else (0 : Int32)) = 0
          · have e := (if_pos c10).symm.trans e
            refine ex_pc (if_pos c10) ?_
            cases e
            exact le_E (l1 := []) trivial rfl (k0 rfl H hS)
          · have e := (if_neg c10).symm.trans e
            refine ex_pc (if_neg c10) ?_
            refine ex_s (am_nb (m := 2) (pc1 := 8) (ls1 := [(5, .int (v5 + 1)), (7, .int (if r4 = 32 then (1 : Int32) else (0 : Int32))), (6, .int r4), (1, .ref w1), (2, .int w2), (3, .int w3), (4, .int w4)]) (st1 := []) (H1 := H) (k1 := 0) (n1 := 0) (by with_unfolding_all rfl)) ?_
            exact le_E (l1 := [(1, .ref w1), (2, .int w2), (3, .int w3), (4, .int w4), (5, .int (v5 + 1))]) ⟨rfl, rfl, rfl, rfl, rfl, trivial⟩ rfl (ih (v5 + 1) a H hS e)
        refine ex_s (st_icmp rfl) ?_
        by_cases c9 : r4 = 32
        · refine ex_pc (if_pos c9) ?_
          refine ex_s (am_nb (m := 2) (pc1 := 71) (ls1 := [(6, .int r4), (1, .ref w1), (2, .int w2), (3, .int w3), (4, .int w4), (5, .int v5)]) (st1 := [.int 1]) (H1 := H) (k1 := 0) (n1 := 0) (by with_unfolding_all rfl)) ?_
          rw [if_pos c9] at kk
          exact kk
        · refine ex_pc (if_neg c9) ?_
          refine ex_s (am_nb (m := 1) (pc1 := 71) (ls1 := [(6, .int r4), (1, .ref w1), (2, .int w2), (3, .int w3), (4, .int w4), (5, .int v5)]) (st1 := [.int 0]) (H1 := H) (k1 := 0) (n1 := 0) (by with_unfolding_all rfl)) ?_
          rw [if_neg c9] at kk
          exact kk
      · have e := (if_neg c8).symm.trans e
        refine ex_pc (if_neg c8) ?_
        refine ex_s (am_nb (m := 2) (pc1 := 37) (ls1 := [(6, .int r4), (1, .ref w1), (2, .int w2), (3, .int w3), (4, .int w4), (5, .int v5)]) (st1 := [.int 32, .int r4]) (H1 := H) (k1 := 0) (n1 := 0) (by with_unfolding_all rfl)) ?_
        refine ex_s (st_icmp rfl) ?_
        by_cases c12 : r4 = 32
        · have e := (if_pos c12).symm.trans e
          refine ex_pc (if_pos c12) ?_
          exact le_E (l1 := [(1, .ref w1), (2, .int w2), (3, .int w3), (4, .int w4), (5, .int v5)]) ⟨rfl, rfl, rfl, rfl, rfl, trivial⟩ rfl (tj45_55 k0 k1 ih kw1 hS e)
        · have e := (if_neg c12).symm.trans e
          refine ex_pc (if_neg c12) ?_
          refine ex_s (am_nb (m := 4) (pc1 := 45) (ls1 := [(6, .int r4), (1, .ref w1), (2, .int w2), (3, .int w3), (4, .int w4), (5, .int v5)]) (st1 := [.int (w2 + v5), .ref w1]) (H1 := H) (k1 := 0) (n1 := 0) (by with_unfolding_all rfl)) ?_
          obtain ⟨g14, e⟩ := xg_some e
          refine xe_iald hS rfl kw1 g14 ?_
          refine ex_s (am_nb (m := 1) (pc1 := 48) (ls1 := [(6, .int r4), (1, .ref w1), (2, .int w2), (3, .int w3), (4, .int w4), (5, .int v5)]) (st1 := [.int r4, .int (a w1 ((w2 + v5).toNatClampNeg))]) (H1 := H) (k1 := 0) (n1 := 0) (by with_unfolding_all rfl)) ?_
          have kk : am_E sL sx am_cs 45 71 [(6, .int r4), (1, .ref w1), (2, .int w2), (3, .int w3), (4, .int w4), (5, .int v5)] [.int (if (a w1 ((w2 + v5).toNatClampNeg)) = r4 then (1 : Int32) else (0 : Int32))] H R F := by
            refine ex_s (am_nb (m := 2) (pc1 := 75) (ls1 := [(7, .int (if (a w1 ((w2 + v5).toNatClampNeg)) = r4 then (1 : Int32) else (0 : Int32))), (6, .int r4), (1, .ref w1), (2, .int w2), (3, .int w3), (4, .int w4), (5, .int v5)]) (st1 := [.int (if (a w1 ((w2 + v5).toNatClampNeg)) = r4 then (1 : Int32) else (0 : Int32))]) (H1 := H) (k1 := 0) (n1 := 0) (by with_unfolding_all rfl)) ?_
            refine ex_s (st_if rfl) ?_
            by_cases c16 : (if (a w1 ((w2 + v5).toNatClampNeg)) = r4 then (1 : Int32) else (0 : Int32)) = 0
            · have e := (if_pos c16).symm.trans e
              refine ex_pc (if_pos c16) ?_
              cases e
              exact le_E (l1 := []) trivial rfl (k0 rfl H hS)
            · have e := (if_neg c16).symm.trans e
              refine ex_pc (if_neg c16) ?_
              refine ex_s (am_nb (m := 2) (pc1 := 8) (ls1 := [(5, .int (v5 + 1)), (7, .int (if (a w1 ((w2 + v5).toNatClampNeg)) = r4 then (1 : Int32) else (0 : Int32))), (6, .int r4), (1, .ref w1), (2, .int w2), (3, .int w3), (4, .int w4)]) (st1 := []) (H1 := H) (k1 := 0) (n1 := 0) (by with_unfolding_all rfl)) ?_
              exact le_E (l1 := [(1, .ref w1), (2, .int w2), (3, .int w3), (4, .int w4), (5, .int (v5 + 1))]) ⟨rfl, rfl, rfl, rfl, rfl, trivial⟩ rfl (ih (v5 + 1) a H hS e)
          refine ex_s (st_icmp rfl) ?_
          by_cases c15 : (a w1 ((w2 + v5).toNatClampNeg)) = r4
          · refine ex_pc (if_pos c15) ?_
            refine ex_s (am_nb (m := 2) (pc1 := 71) (ls1 := [(6, .int r4), (1, .ref w1), (2, .int w2), (3, .int w3), (4, .int w4), (5, .int v5)]) (st1 := [.int 1]) (H1 := H) (k1 := 0) (n1 := 0) (by with_unfolding_all rfl)) ?_
            rw [if_pos c15] at kk
            exact kk
          · refine ex_pc (if_neg c15) ?_
            refine ex_s (am_nb (m := 2) (pc1 := 71) (ls1 := [(6, .int r4), (1, .ref w1), (2, .int w2), (3, .int w3), (4, .int w4), (5, .int v5)]) (st1 := [.int 0]) (H1 := H) (k1 := 0) (n1 := 0) (by with_unfolding_all rfl)) ?_
            rw [if_neg c15] at kk
            exact kk

set_option maxRecDepth 100000 in
theorem tf45_isAbility {sL : Nat} {sx : Nat → Int32} {h b N : Nat} {T : List am_C} {r : Int32} {a' : xA} {x0 : Int32} {x1 : Nat} {x2 : Int32} {x3 : Int32} {a : xA} {H : am_H} (hS : xS h b T a H) (e : f45_isAbility N h b x0 x1 x2 x3 a = some (r, a')) : am_E sL sx am_cs 45 0 [(0, .int x0), (1, .ref x1), (2, .int x2), (3, .int x3)] [] H (some (.int r)) (fun H1 => xS h b T a' H1) := by
  unfold f45_isAbility at e
  obtain ⟨g1, e⟩ := xg_some e
  refine ex_s (am_nb (m := 6) (pc1 := 8) (ls1 := [(5, .int 0), (4, .int (x0 * 5)), (0, .int x0), (1, .ref x1), (2, .int x2), (3, .int x3)]) (st1 := []) (H1 := H) (k1 := 0) (n1 := 0) (by with_unfolding_all rfl)) ?_
  obtain ⟨z17, e18, e⟩ := Option.bind_eq_some_iff.mp e
  refine le_E (l1 := [(1, .ref x1), (2, .int x2), (3, .int x3), (4, .int (x0 * 5)), (5, .int 0)]) ⟨rfl, rfl, rfl, rfl, rfl, trivial⟩ rfl (tl45_8 (z := z17) g1 (fun uz17_0 Hz170 sz170 => ?_) (fun uz17_1 Hz171 sz171 => ?_) N 0 a H hS e18)
  · have e := (if_pos uz17_0).symm.trans e
    refine ex_s (am_nb (m := 1) (pc1 := 79) (ls1 := []) (st1 := [.int 0]) (H1 := Hz170) (k1 := 0) (n1 := 0) (by with_unfolding_all rfl)) ?_
    cases e
    exact ex_r (st_iret rfl rfl rfl) sz170
  · have e := (if_neg (show ¬ z17.1 = 0 by rw [uz17_1]; decide)).symm.trans e
    refine ex_s (am_nb (m := 1) (pc1 := 87) (ls1 := []) (st1 := [.int 1]) (H1 := Hz171) (k1 := 0) (n1 := 0) (by with_unfolding_all rfl)) ?_
    cases e
    exact ex_r (st_iret rfl rfl rfl) sz171

set_option maxRecDepth 100000 in
theorem tl44_26 {sL : Nat} {sx : Nat → Int32} {h b N : Nat} {T : List am_C} {R : Option Value} {F : am_H → Prop} {w0 : Nat} {w1 : Int32} {w2 : Int32} {z : Nat × Int32 × xA} (kw0 : xk w0 = 100) (k0 : z.1 = 0 → ∀ H2 : am_H, xS h b T z.2.2 H2 → am_E sL sx am_cs 44 42 [(3, .int z.2.1)] [] H2 R F) (k1 : z.1 = 1 → ∀ H2 : am_H, xS h b T z.2.2 H2 → am_E sL sx am_cs 44 50 [] [] H2 R F) : ∀ (n : Nat) (v3 : Int32) (a : xA) (H : am_H), xS h b T a H → l44_26 N h b w0 w1 w2 n v3 a = some z → am_E sL sx am_cs 44 26 [(0, .ref w0), (1, .int w1), (2, .int w2), (3, .int v3)] [] H R F := by
  intro n
  induction n with
  | zero =>
    intro v3 a H hS e
    cases e
  | succ n ih =>
    intro v3 a H hS e
    unfold l44_26 at e
    refine ex_s (am_nb (m := 2) (pc1 := 29) (ls1 := [(0, .ref w0), (1, .int w1), (2, .int w2), (3, .int v3)]) (st1 := [.int 39, .int v3]) (H1 := H) (k1 := 0) (n1 := 0) (by with_unfolding_all rfl)) ?_
    refine ex_s (st_icmp rfl) ?_
    by_cases c12 : 39 ≤ v3
    · have e := (if_pos c12).symm.trans e
      refine ex_pc (if_pos c12) ?_
      cases e
      exact le_E (l1 := []) trivial rfl (k1 rfl H hS)
    · have e := (if_neg c12).symm.trans e
      refine ex_pc (if_neg c12) ?_
      refine ex_s (am_nb (m := 4) (pc1 := 36) (ls1 := [(0, .ref w0), (1, .int w1), (2, .int w2), (3, .int v3)]) (st1 := [.int w2, .int w1, .ref w0, .int v3]) (H1 := H) (k1 := 0) (n1 := 0) (by with_unfolding_all rfl)) ?_
      obtain ⟨r16, a17, e15, e⟩ := xb2_some e
      refine ex_cs1 (as := [.int v3, .ref w0, .int w1, .int w2]) (rest := []) rfl (by decide) rfl rfl (by with_unfolding_all rfl) (by with_unfolding_all rfl) (tf45_isAbility hS e15) (fun H13 s14 => ?_)
      refine ex_s (st_if rfl) ?_
      by_cases c18 : r16 = 0
      · have e := (if_pos c18).symm.trans e
        refine ex_pc (if_pos c18) ?_
        refine ex_s (am_nb (m := 2) (pc1 := 26) (ls1 := [(3, .int (v3 + 1)), (0, .ref w0), (1, .int w1), (2, .int w2)]) (st1 := []) (H1 := H13) (k1 := 0) (n1 := 0) (by with_unfolding_all rfl)) ?_
        exact le_E (l1 := [(0, .ref w0), (1, .int w1), (2, .int w2), (3, .int (v3 + 1))]) ⟨rfl, rfl, rfl, rfl, trivial⟩ rfl (ih (v3 + 1) a17 H13 s14 e)
      · have e := (if_neg c18).symm.trans e
        refine ex_pc (if_neg c18) ?_
        cases e
        exact le_E (l1 := [(3, .int v3)]) ⟨rfl, trivial⟩ rfl (k0 rfl H13 s14)

set_option maxRecDepth 100000 in
theorem tf44_abilityNamed {sL : Nat} {sx : Nat → Int32} {h b N : Nat} {T : List am_C} {r : Int32} {a' : xA} {x0 : Nat} {x1 : Int32} {x2 : Int32} {a : xA} {H : am_H} (hS : xS h b T a H) (e : f44_abilityNamed N h b x0 x1 x2 a = some (r, a')) : am_E sL sx am_cs 44 0 [(0, .ref x0), (1, .int x1), (2, .int x2)] [] H (some (.int r)) (fun H1 => xS h b T a' H1) := by
  unfold f44_abilityNamed at e
  obtain ⟨g1, e⟩ := xg_some e
  refine ex_s (am_nb (m := 2) (pc1 := 2) (ls1 := [(0, .ref x0), (1, .int x1), (2, .int x2)]) (st1 := [.int 1, .int x2]) (H1 := H) (k1 := 0) (n1 := 0) (by with_unfolding_all rfl)) ?_
  refine ex_s (st_icmp rfl) ?_
  by_cases c5 : x2 < 1
  · have e := (if_pos c5).symm.trans e
    refine ex_pc (if_pos c5) ?_
    refine ex_s (am_nb (m := 1) (pc1 := 23) (ls1 := [(0, .ref x0), (1, .int x1), (2, .int x2)]) (st1 := [.int (-1)]) (H1 := H) (k1 := 0) (n1 := 0) (by with_unfolding_all rfl)) ?_
    cases e
    exact ex_r (st_iret rfl rfl rfl) hS
  · have e := (if_neg c5).symm.trans e
    refine ex_pc (if_neg c5) ?_
    refine ex_s (am_nb (m := 2) (pc1 := 7) (ls1 := [(0, .ref x0), (1, .int x1), (2, .int x2)]) (st1 := [.int 5, .int x2]) (H1 := H) (k1 := 0) (n1 := 0) (by with_unfolding_all rfl)) ?_
    refine ex_s (st_icmp rfl) ?_
    by_cases c8 : 5 < x2
    · have e := (if_pos c8).symm.trans e
      refine ex_pc (if_pos c8) ?_
      refine ex_s (am_nb (m := 1) (pc1 := 23) (ls1 := [(0, .ref x0), (1, .int x1), (2, .int x2)]) (st1 := [.int (-1)]) (H1 := H) (k1 := 0) (n1 := 0) (by with_unfolding_all rfl)) ?_
      cases e
      exact ex_r (st_iret rfl rfl rfl) hS
    · have e := (if_neg c8).symm.trans e
      refine ex_pc (if_neg c8) ?_
      refine ex_s (am_nb (m := 1) (pc1 := 11) (ls1 := [(0, .ref x0), (1, .int x1), (2, .int x2)]) (st1 := [.int x1]) (H1 := H) (k1 := 0) (n1 := 0) (by with_unfolding_all rfl)) ?_
      refine ex_s (st_if rfl) ?_
      by_cases c10 : x1 < 0
      · have e := (if_pos c10).symm.trans e
        refine ex_pc (if_pos c10) ?_
        refine ex_s (am_nb (m := 1) (pc1 := 23) (ls1 := [(0, .ref x0), (1, .int x1), (2, .int x2)]) (st1 := [.int (-1)]) (H1 := H) (k1 := 0) (n1 := 0) (by with_unfolding_all rfl)) ?_
        cases e
        exact ex_r (st_iret rfl rfl rfl) hS
      · have e := (if_neg c10).symm.trans e
        refine ex_pc (if_neg c10) ?_
        refine ex_s (am_nb (m := 2) (pc1 := 16) (ls1 := [(0, .ref x0), (1, .int x1), (2, .int x2)]) (st1 := [.ref x0, .int x1]) (H1 := H) (k1 := 0) (n1 := 0) (by with_unfolding_all rfl)) ?_
        refine xe_alenc (v := Int32.ofNat (xl h b x0)) hS rfl g1 rfl ?_
        refine ex_s (am_nb (m := 2) (pc1 := 19) (ls1 := [(0, .ref x0), (1, .int x1), (2, .int x2)]) (st1 := [.int ((Int32.ofNat (xl h b x0)) - x2), .int x1]) (H1 := H) (k1 := 0) (n1 := 0) (by with_unfolding_all rfl)) ?_
        refine ex_s (st_icmp rfl) ?_
        by_cases c11 : x1 ≤ ((Int32.ofNat (xl h b x0)) - x2)
        · have e := (if_pos c11).symm.trans e
          refine ex_pc (if_pos c11) ?_
          refine ex_s (am_nb (m := 2) (pc1 := 26) (ls1 := [(3, .int 0), (0, .ref x0), (1, .int x1), (2, .int x2)]) (st1 := []) (H1 := H) (k1 := 0) (n1 := 0) (by with_unfolding_all rfl)) ?_
          obtain ⟨z19, e20, e⟩ := Option.bind_eq_some_iff.mp e
          refine le_E (l1 := [(0, .ref x0), (1, .int x1), (2, .int x2), (3, .int 0)]) ⟨rfl, rfl, rfl, rfl, trivial⟩ rfl (tl44_26 (z := z19) g1 (fun uz19_0 Hz190 sz190 => ?_) (fun uz19_1 Hz191 sz191 => ?_) N 0 a H hS e20)
          · have e := (if_pos uz19_0).symm.trans e
            refine ex_s (am_nb (m := 1) (pc1 := 43) (ls1 := [(3, .int z19.2.1)]) (st1 := [.int z19.2.1]) (H1 := Hz190) (k1 := 0) (n1 := 0) (by with_unfolding_all rfl)) ?_
            cases e
            exact ex_r (st_iret rfl rfl rfl) sz190
          · have e := (if_neg (show ¬ z19.1 = 0 by rw [uz19_1]; decide)).symm.trans e
            refine ex_s (am_nb (m := 1) (pc1 := 51) (ls1 := []) (st1 := [.int (-1)]) (H1 := Hz191) (k1 := 0) (n1 := 0) (by with_unfolding_all rfl)) ?_
            cases e
            exact ex_r (st_iret rfl rfl rfl) sz191
        · have e := (if_neg c11).symm.trans e
          refine ex_pc (if_neg c11) ?_
          refine ex_s (am_nb (m := 1) (pc1 := 23) (ls1 := [(0, .ref x0), (1, .int x1), (2, .int x2)]) (st1 := [.int (-1)]) (H1 := H) (k1 := 0) (n1 := 0) (by with_unfolding_all rfl)) ?_
          cases e
          exact ex_r (st_iret rfl rfl rfl) hS

set_option maxRecDepth 100000 in
theorem tf46_signOf {sL : Nat} {sx : Nat → Int32} {h b N : Nat} {T : List am_C} {r : Int32} {a' : xA} {x0 : Int32} {a : xA} {H : am_H} (hS : xS h b T a H) (e : f46_signOf N h b x0 a = some (r, a')) : am_E sL sx am_cs 46 0 [(0, .int x0)] [] H (some (.int r)) (fun H1 => xS h b T a' H1) := by
  unfold f46_signOf at e
  refine ex_s (am_nb (m := 2) (pc1 := 2) (ls1 := [(0, .int x0)]) (st1 := [.int 3, .int x0]) (H1 := H) (k1 := 0) (n1 := 0) (by with_unfolding_all rfl)) ?_
  refine ex_s (st_icmp rfl) ?_
  by_cases c1 : 3 ≤ x0
  · have e := (if_pos c1).symm.trans e
    refine ex_pc (if_pos c1) ?_
    refine ex_s (am_nb (m := 2) (pc1 := 11) (ls1 := [(0, .int x0)]) (st1 := [.int 6, .int x0]) (H1 := H) (k1 := 0) (n1 := 0) (by with_unfolding_all rfl)) ?_
    have kk : am_E sL sx am_cs 46 21 [(0, .int x0)] [.int (if 6 ≤ x0 then (61 : Int32) else (35 : Int32))] H (some (.int r)) (fun H1 => xS h b T a' H1) := by
      cases e
      exact ex_r (st_iret rfl rfl rfl) hS
    refine ex_s (st_icmp rfl) ?_
    by_cases c2 : 6 ≤ x0
    · refine ex_pc (if_pos c2) ?_
      refine ex_s (am_nb (m := 1) (pc1 := 21) (ls1 := [(0, .int x0)]) (st1 := [.int 61]) (H1 := H) (k1 := 0) (n1 := 0) (by with_unfolding_all rfl)) ?_
      rw [if_pos c2] at kk
      exact kk
    · refine ex_pc (if_neg c2) ?_
      refine ex_s (am_nb (m := 2) (pc1 := 21) (ls1 := [(0, .int x0)]) (st1 := [.int 35]) (H1 := H) (k1 := 0) (n1 := 0) (by with_unfolding_all rfl)) ?_
      rw [if_neg c2] at kk
      exact kk
  · have e := (if_neg c1).symm.trans e
    refine ex_pc (if_neg c1) ?_
    refine ex_s (am_nb (m := 1) (pc1 := 7) (ls1 := [(0, .int x0)]) (st1 := [.int 44]) (H1 := H) (k1 := 0) (n1 := 0) (by with_unfolding_all rfl)) ?_
    cases e
    exact ex_r (st_iret rfl rfl rfl) hS

set_option maxRecDepth 100000 in
theorem tf48_tellNumber {sL : Nat} {sx : Nat → Int32} {h b N : Nat} {T : List am_C} {a' : xA} {o : Nat} {x0 : Int32} {x1 : Int32} {a : xA} {H : am_H} (hS : xS h b T a H) (e : f48_tellNumber N h b o x0 x1 a = some a') : am_E sL sx am_cs 48 0 [(0, .ref o), (1, .int x0), (2, .int x1)] [] H none (fun H1 => xS h b T a' H1) := by
  unfold f48_tellNumber at e
  obtain ⟨g1, e⟩ := xg_some e
  refine ex_s (am_nb (m := 1) (pc1 := 1) (ls1 := [(0, .ref o), (1, .int x0), (2, .int x1)]) (st1 := [.ref o]) (H1 := H) (k1 := 0) (n1 := 0) (by with_unfolding_all rfl)) ?_
  refine xe_get (v := .ref (o + 3)) hS rfl g1 (by decide) rfl ?_
  refine ex_s (am_nb (m := 2) (pc1 := 6) (ls1 := [(0, .ref o), (1, .int x0), (2, .int x1)]) (st1 := [.int 1, .int x0, .ref (o + 3)]) (H1 := H) (k1 := 0) (n1 := 0) (by with_unfolding_all rfl)) ?_
  obtain ⟨g5, e⟩ := xg_some e
  obtain ⟨a2, ha2, e⟩ := xw_some e
  refine xe_zast hS rfl (xd_2_3 g1) g5 (fun H3 s4 => ?_)
  have s4 : xS h b T a2 H3 := by rw [ha2]; exact s4
  refine ex_s (am_nb (m := 1) (pc1 := 8) (ls1 := [(0, .ref o), (1, .int x0), (2, .int x1)]) (st1 := [.ref o]) (H1 := H3) (k1 := 0) (n1 := 0) (by with_unfolding_all rfl)) ?_
  refine xe_get (v := .ref (o + 4)) s4 rfl g1 (by decide) rfl ?_
  refine ex_s (am_nb (m := 2) (pc1 := 13) (ls1 := [(0, .ref o), (1, .int x0), (2, .int x1)]) (st1 := [.int x1, .int x0, .ref (o + 4)]) (H1 := H3) (k1 := 0) (n1 := 0) (by with_unfolding_all rfl)) ?_
  obtain ⟨g9, e⟩ := xg_some e
  obtain ⟨a6, ha6, e⟩ := xw_some e
  refine xe_iast s4 rfl (xd_2_4 g1) g9 (fun H7 s8 => ?_)
  have s8 : xS h b T a6 H7 := by rw [ha6]; exact s8
  cases e
  exact ex_r (st_vret rfl rfl) s8

set_option maxRecDepth 100000 in
theorem tl47_7 {sL : Nat} {sx : Nat → Int32} {h b N : Nat} {T : List am_C} {R : Option Value} {F : am_H → Prop} {w1 : Int32} {w2 : Int32} {z : Nat × Int32 × xA} (k0 : z.1 = 0 → ∀ H2 : am_H, xS h b T z.2.2 H2 → am_E sL sx am_cs 47 69 [(0, .ref 3), (1, .int w1), (2, .int w2), (3, .int z.2.1)] [] H2 R F) : ∀ (n : Nat) (v3 : Int32) (a : xA) (H : am_H), xS h b T a H → l47_7 N h b w1 w2 n v3 a = some z → am_E sL sx am_cs 47 7 [(0, .ref 3), (1, .int w1), (2, .int w2), (3, .int v3)] [] H R F := by
  intro n
  induction n with
  | zero =>
    intro v3 a H hS e
    cases e
  | succ n ih =>
    intro v3 a H hS e
    unfold l47_7 at e
    refine ex_s (am_nb (m := 1) (pc1 := 8) (ls1 := [(0, .ref 3), (1, .int w1), (2, .int w2), (3, .int v3)]) (st1 := [.ref 3]) (H1 := H) (k1 := 0) (n1 := 0) (by with_unfolding_all rfl)) ?_
    refine xe_get (v := .int (a 3 6)) hS rfl rfl (by decide) rfl ?_
    refine ex_s (am_nb (m := 1) (pc1 := 12) (ls1 := [(0, .ref 3), (1, .int w1), (2, .int w2), (3, .int v3)]) (st1 := [.ref 3, .int (a 3 6)]) (H1 := H) (k1 := 0) (n1 := 0) (by with_unfolding_all rfl)) ?_
    refine xe_get (v := .int (a 3 5)) hS rfl rfl (by decide) rfl ?_
    refine ex_s (st_icmp rfl) ?_
    by_cases c2 : (a 3 5) ≤ (a 3 6)
    · have e := (if_pos c2).symm.trans e
      refine ex_pc (if_pos c2) ?_
      cases e
      exact le_E (l1 := [(0, .ref 3), (1, .int w1), (2, .int w2), (3, .int v3)]) ⟨rfl, rfl, rfl, rfl, trivial⟩ rfl (k0 rfl H hS)
    · have e := (if_neg c2).symm.trans e
      refine ex_pc (if_neg c2) ?_
      refine ex_s (am_nb (m := 1) (pc1 := 19) (ls1 := [(0, .ref 3), (1, .int w1), (2, .int w2), (3, .int v3)]) (st1 := [.ref 3]) (H1 := H) (k1 := 0) (n1 := 0) (by with_unfolding_all rfl)) ?_
      refine xe_get (v := xN (a 3 4)) hS rfl rfl (by decide) rfl ?_
      refine ex_s (am_nb (m := 1) (pc1 := 23) (ls1 := [(0, .ref 3), (1, .int w1), (2, .int w2), (3, .int v3)]) (st1 := [.ref 3, xN (a 3 4)]) (H1 := H) (k1 := 0) (n1 := 0) (by first | with_unfolding_all rfl | (unfold xN; (repeat' split) <;> with_unfolding_all rfl))) ?_
      refine xe_get (v := .int (a 3 6)) hS rfl rfl (by decide) rfl ?_
      obtain ⟨g3, e⟩ := xg_some e
      rw [show xN (a 3 4) = .ref ((a 3 4).toNatClampNeg) from if_neg g3]
      obtain ⟨g4, e⟩ := xg_some e
      obtain ⟨g5, e⟩ := xg_some e
      refine xe_iald hS rfl g4 g5 ?_
      obtain ⟨r9, a10, e8, e⟩ := xb2_some e
      refine ex_cs1 (as := [.int (a ((a 3 4).toNatClampNeg) ((a 3 6).toNatClampNeg))]) (rest := []) rfl (by decide) rfl rfl (by with_unfolding_all rfl) (by with_unfolding_all rfl) (tf35_isDigit hS e8) (fun H6 s7 => ?_)
      refine ex_s (st_if rfl) ?_
      by_cases c11 : r9 = 0
      · have e := (if_pos c11).symm.trans e
        refine ex_pc (if_pos c11) ?_
        cases e
        exact le_E (l1 := [(0, .ref 3), (1, .int w1), (2, .int w2), (3, .int v3)]) ⟨rfl, rfl, rfl, rfl, trivial⟩ rfl (k0 rfl H6 s7)
      · have e := (if_neg c11).symm.trans e
        refine ex_pc (if_neg c11) ?_
        refine ex_s (am_nb (m := 5) (pc1 := 40) (ls1 := [(0, .ref 3), (1, .int w1), (2, .int w2), (3, .int v3)]) (st1 := [.ref 3, .int (v3 * 10), .int 32768]) (H1 := H6) (k1 := 0) (n1 := 0) (by with_unfolding_all rfl)) ?_
        refine xe_get (v := xN (a10 3 4)) s7 rfl rfl (by decide) rfl ?_
        refine ex_s (am_nb (m := 1) (pc1 := 44) (ls1 := [(0, .ref 3), (1, .int w1), (2, .int w2), (3, .int v3)]) (st1 := [.ref 3, xN (a10 3 4), .int (v3 * 10), .int 32768]) (H1 := H6) (k1 := 0) (n1 := 0) (by first | with_unfolding_all rfl | (unfold xN; (repeat' split) <;> with_unfolding_all rfl))) ?_
        refine xe_get (v := .int (a10 3 6)) s7 rfl rfl (by decide) rfl ?_
        obtain ⟨g12, e⟩ := xg_some e
        rw [show xN (a10 3 4) = .ref ((a10 3 4).toNatClampNeg) from if_neg g12]
        obtain ⟨g13, e⟩ := xg_some e
        obtain ⟨g14, e⟩ := xg_some e
        refine xe_iald s7 rfl g13 g14 ?_
        refine ex_s (am_nb (m := 7) (pc1 := 58) (ls1 := [(3, .int (xmin 32768 (((v3 * 10) + (a10 ((a10 3 4).toNatClampNeg) ((a10 3 6).toNatClampNeg))) - 48))), (0, .ref 3), (1, .int w1), (2, .int w2)]) (st1 := [.ref 3, .ref 3]) (H1 := H6) (k1 := 0) (n1 := 0) (by first | with_unfolding_all rfl | (unfold xN; (repeat' split) <;> with_unfolding_all rfl))) ?_
        refine xe_get (v := .int (a10 3 6)) s7 rfl rfl (by decide) rfl ?_
        refine ex_s (am_nb (m := 2) (pc1 := 63) (ls1 := [(3, .int (xmin 32768 (((v3 * 10) + (a10 ((a10 3 4).toNatClampNeg) ((a10 3 6).toNatClampNeg))) - 48))), (0, .ref 3), (1, .int w1), (2, .int w2)]) (st1 := [.int ((a10 3 6) + 1), .ref 3]) (H1 := H6) (k1 := 0) (n1 := 0) (by with_unfolding_all rfl)) ?_
        obtain ⟨a15, ha15, e⟩ := xw_some e
        refine xe_put (w := ((a10 3 6) + 1)) s7 rfl rfl (by decide) rfl rfl rfl rfl (fun H16 s17 => ?_)
        have s17 : xS h b T a15 H16 := by rw [ha15]; exact s17
        refine ex_s (am_nb (m := 1) (pc1 := 7) (ls1 := [(3, .int (xmin 32768 (((v3 * 10) + (a10 ((a10 3 4).toNatClampNeg) ((a10 3 6).toNatClampNeg))) - 48))), (0, .ref 3), (1, .int w1), (2, .int w2)]) (st1 := []) (H1 := H16) (k1 := 0) (n1 := 0) (by with_unfolding_all rfl)) ?_
        exact le_E (l1 := [(0, .ref 3), (1, .int w1), (2, .int w2), (3, .int (xmin 32768 (((v3 * 10) + (a10 ((a10 3 4).toNatClampNeg) ((a10 3 6).toNatClampNeg))) - 48)))]) ⟨rfl, rfl, rfl, rfl, trivial⟩ rfl (ih (xmin 32768 (((v3 * 10) + (a10 ((a10 3 4).toNatClampNeg) ((a10 3 6).toNatClampNeg))) - 48)) a15 H16 s17 e)

set_option maxRecDepth 100000 in
theorem tj47_91 {sL : Nat} {sx : Nat → Int32} {h b N : Nat} {T : List am_C} {r : Int32} {a' : xA} {a : xA} {H : am_H} (hS : xS h b T a H) (e : j47_91 N h b a = some (r, a')) : am_E sL sx am_cs 47 91 [(0, .ref 3)] [] H (some (.int r)) (fun H1 => xS h b T a' H1) := by
  unfold j47_91 at e
  refine ex_s (am_nb (m := 3) (pc1 := 94) (ls1 := [(0, .ref 3)]) (st1 := [.ref 3, .int 1, .ref 3]) (H1 := H) (k1 := 0) (n1 := 0) (by with_unfolding_all rfl)) ?_
  refine xe_get (v := .int (a 3 6)) hS rfl rfl (by decide) rfl ?_
  obtain ⟨r25, a26, e24, e⟩ := xb2_some e
  refine ex_cv1 (as := [.int 1, .int (a 3 6)]) (rest := []) rfl rfl rfl rfl (hS.obj rfl (by decide)) rfl (by with_unfolding_all rfl) (by with_unfolding_all rfl) (tf26_failed hS e24) (fun H22 s23 => ?_)
  obtain ⟨g27, e⟩ := xg_some e
  cases e
  exact ex_r (st_iret rfl rfl (xnar_z g27)) s23

set_option maxRecDepth 100000 in
theorem tj47_118 {sL : Nat} {sx : Nat → Int32} {h b N : Nat} {T : List am_C} {r : Int32} {a' : xA} {q2 : Int32} {a : xA} {H : am_H} (hS : xS h b T a H) (e : j47_118 N h b q2 a = some (r, a')) : am_E sL sx am_cs 47 118 [(0, .ref 3), (2, .int q2)] [] H (some (.int r)) (fun H1 => xS h b T a' H1) := by
  unfold j47_118 at e
  refine ex_s (am_nb (m := 3) (pc1 := 121) (ls1 := [(0, .ref 3), (2, .int q2)]) (st1 := [.int q2, .int 2, .ref 3]) (H1 := H) (k1 := 0) (n1 := 0) (by with_unfolding_all rfl)) ?_
  obtain ⟨r45, a46, e44, e⟩ := xb2_some e
  refine ex_cv1 (as := [.int 2, .int q2]) (rest := []) rfl rfl rfl rfl (hS.obj rfl (by decide)) rfl (by with_unfolding_all rfl) (by with_unfolding_all rfl) (tf26_failed hS e44) (fun H42 s43 => ?_)
  obtain ⟨g47, e⟩ := xg_some e
  cases e
  exact ex_r (st_iret rfl rfl (xnar_z g47)) s43

set_option maxRecDepth 100000 in
theorem tj47_69 {sL : Nat} {sx : Nat → Int32} {h b N : Nat} {T : List am_C} {r : Int32} {a' : xA} {q1 : Int32} {q2 : Int32} {q3 : Int32} {a : xA} {H : am_H} (hS : xS h b T a H) (e : j47_69 N h b q1 q2 q3 a = some (r, a')) : am_E sL sx am_cs 47 69 [(0, .ref 3), (1, .int q1), (2, .int q2), (3, .int q3)] [] H (some (.int r)) (fun H1 => xS h b T a' H1) := by
  unfold j47_69 at e
  refine ex_s (am_nb (m := 1) (pc1 := 70) (ls1 := [(0, .ref 3), (1, .int q1), (2, .int q2), (3, .int q3)]) (st1 := [.ref 3]) (H1 := H) (k1 := 0) (n1 := 0) (by with_unfolding_all rfl)) ?_
  refine xe_get (v := .int (a 3 6)) hS rfl rfl (by decide) rfl ?_
  refine ex_s (am_nb (m := 1) (pc1 := 74) (ls1 := [(0, .ref 3), (1, .int q1), (2, .int q2), (3, .int q3)]) (st1 := [.int q2, .int (a 3 6)]) (H1 := H) (k1 := 0) (n1 := 0) (by with_unfolding_all rfl)) ?_
  refine ex_s (st_icmp rfl) ?_
  by_cases c21 : (a 3 6) = q2
  · have e := (if_pos c21).symm.trans e
    refine ex_pc (if_pos c21) ?_
    exact le_E (l1 := [(0, .ref 3)]) ⟨rfl, trivial⟩ rfl (tj47_91  hS e)
  · have e := (if_neg c21).symm.trans e
    refine ex_pc (if_neg c21) ?_
    refine ex_s (am_nb (m := 2) (pc1 := 79) (ls1 := [(0, .ref 3), (1, .int q1), (2, .int q2), (3, .int q3)]) (st1 := [.ref 3, .ref 3]) (H1 := H) (k1 := 0) (n1 := 0) (by with_unfolding_all rfl)) ?_
    refine xe_get (v := .int (a 3 6)) hS rfl rfl (by decide) rfl ?_
    obtain ⟨r31, a32, e30, e⟩ := xb2_some e
    refine ex_cv1 (as := [.int (a 3 6)]) (rest := []) rfl rfl rfl rfl (hS.obj rfl (by decide)) rfl (by with_unfolding_all rfl) (by with_unfolding_all rfl) (tf28_byteAt hS e30) (fun H28 s29 => ?_)
    obtain ⟨r36, a37, e35, e⟩ := xb2_some e
    refine ex_cs1 (as := [.int r31]) (rest := []) rfl (by decide) rfl rfl (by with_unfolding_all rfl) (by with_unfolding_all rfl) (tf25_isText s29 e35) (fun H33 s34 => ?_)
    refine ex_s (st_if rfl) ?_
    by_cases c38 : r36 = 0
    · have e := (if_pos c38).symm.trans e
      refine ex_pc (if_pos c38) ?_
      exact le_E (l1 := [(0, .ref 3)]) ⟨rfl, trivial⟩ rfl (tj47_91  s34 e)
    · have e := (if_neg c38).symm.trans e
      refine ex_pc (if_neg c38) ?_
      refine ex_s (am_nb (m := 1) (pc1 := 102) (ls1 := [(0, .ref 3), (1, .int q1), (2, .int q2), (3, .int q3)]) (st1 := [.ref 3]) (H1 := H33) (k1 := 0) (n1 := 0) (by with_unfolding_all rfl)) ?_
      refine xe_get (v := .int (a37 3 6)) s34 rfl rfl (by decide) rfl ?_
      refine ex_s (am_nb (m := 3) (pc1 := 108) (ls1 := [(0, .ref 3), (1, .int q1), (2, .int q2), (3, .int q3)]) (st1 := [.int 5, .int ((a37 3 6) - q2)]) (H1 := H33) (k1 := 0) (n1 := 0) (by with_unfolding_all rfl)) ?_
      refine ex_s (st_icmp rfl) ?_
      by_cases c41 : 5 < ((a37 3 6) - q2)
      · have e := (if_pos c41).symm.trans e
        refine ex_pc (if_pos c41) ?_
        exact le_E (l1 := [(0, .ref 3), (2, .int q2)]) ⟨rfl, rfl, trivial⟩ rfl (tj47_118  s34 e)
      · have e := (if_neg c41).symm.trans e
        refine ex_pc (if_neg c41) ?_
        refine ex_s (am_nb (m := 2) (pc1 := 115) (ls1 := [(0, .ref 3), (1, .int q1), (2, .int q2), (3, .int q3)]) (st1 := [.int 32767, .int q3]) (H1 := H33) (k1 := 0) (n1 := 0) (by with_unfolding_all rfl)) ?_
        refine ex_s (st_icmp rfl) ?_
        by_cases c48 : q3 ≤ 32767
        · have e := (if_pos c48).symm.trans e
          refine ex_pc (if_pos c48) ?_
          refine ex_s (am_nb (m := 1) (pc1 := 126) (ls1 := [(0, .ref 3), (1, .int q1), (2, .int q2), (3, .int q3)]) (st1 := [.ref 3]) (H1 := H33) (k1 := 0) (n1 := 0) (by with_unfolding_all rfl)) ?_
          refine xe_get (v := xN (a37 3 8)) s34 rfl rfl (by decide) rfl ?_
          refine ex_s (am_nb (m := 2) (pc1 := 131) (ls1 := [(0, .ref 3), (1, .int q1), (2, .int q2), (3, .int q3)]) (st1 := [.int q3, .int q1, xN (a37 3 8)]) (H1 := H33) (k1 := 0) (n1 := 0) (by first | with_unfolding_all rfl | (unfold xN; (repeat' split) <;> with_unfolding_all rfl))) ?_
          obtain ⟨g49, e⟩ := xg_some e
          rw [show xN (a37 3 8) = .ref ((a37 3 8).toNatClampNeg) from if_neg g49]
          obtain ⟨g50, e⟩ := xg_some e
          obtain ⟨a54, e53, e⟩ := xb1_some e
          refine ex_cv0 (as := [.int q1, .int q3]) (rest := []) rfl rfl rfl rfl (s34.obj g50 (by decide)) rfl (by with_unfolding_all rfl) (by with_unfolding_all rfl) (tf48_tellNumber s34 e53) (fun H51 s52 => ?_)
          refine ex_s (am_nb (m := 1) (pc1 := 135) (ls1 := [(0, .ref 3), (1, .int q1), (2, .int q2), (3, .int q3)]) (st1 := [.int 1]) (H1 := H51) (k1 := 0) (n1 := 0) (by with_unfolding_all rfl)) ?_
          cases e
          exact ex_r (st_iret rfl rfl rfl) s52
        · have e := (if_neg c48).symm.trans e
          refine ex_pc (if_neg c48) ?_
          exact le_E (l1 := [(0, .ref 3), (2, .int q2)]) ⟨rfl, rfl, trivial⟩ rfl (tj47_118  s34 e)

set_option maxRecDepth 100000 in
theorem tf47_readNumber {sL : Nat} {sx : Nat → Int32} {h b N : Nat} {T : List am_C} {r : Int32} {a' : xA} {x0 : Int32} {a : xA} {H : am_H} (hS : xS h b T a H) (e : f47_readNumber N h b x0 a = some (r, a')) : am_E sL sx am_cs 47 0 [(0, .ref 3), (1, .int x0)] [] H (some (.int r)) (fun H1 => xS h b T a' H1) := by
  unfold f47_readNumber at e
  refine ex_s (am_nb (m := 1) (pc1 := 1) (ls1 := [(0, .ref 3), (1, .int x0)]) (st1 := [.ref 3]) (H1 := H) (k1 := 0) (n1 := 0) (by with_unfolding_all rfl)) ?_
  refine xe_get (v := .int (a 3 6)) hS rfl rfl (by decide) rfl ?_
  refine ex_s (am_nb (m := 3) (pc1 := 7) (ls1 := [(3, .int 0), (2, .int (a 3 6)), (0, .ref 3), (1, .int x0)]) (st1 := []) (H1 := H) (k1 := 0) (n1 := 0) (by with_unfolding_all rfl)) ?_
  obtain ⟨z18, e19, e⟩ := Option.bind_eq_some_iff.mp e
  refine le_E (l1 := [(0, .ref 3), (1, .int x0), (2, .int (a 3 6)), (3, .int 0)]) ⟨rfl, rfl, rfl, rfl, trivial⟩ rfl (tl47_7 (z := z18)  (fun uz18_0 Hz180 sz180 => ?_) N 0 a H hS e19)
  exact le_E (l1 := [(0, .ref 3), (1, .int x0), (2, .int (a 3 6)), (3, .int z18.2.1)]) ⟨rfl, rfl, rfl, rfl, trivial⟩ rfl (tj47_69  sz180 e)

set_option maxRecDepth 100000 in
theorem tj52_19 {sL : Nat} {sx : Nat → Int32} {h b N : Nat} {T : List am_C} {a' : xA} {a : xA} {H : am_H} (hS : xS h b T a H) (e : j52_19 N h b a = some a') : am_E sL sx am_cs 52 19 [(0, .ref 3)] [] H none (fun H1 => xS h b T a' H1) := by
  unfold j52_19 at e
  refine ex_s (am_nb (m := 2) (pc1 := 21) (ls1 := [(0, .ref 3)]) (st1 := [.ref 3, .ref 3]) (H1 := H) (k1 := 0) (n1 := 0) (by with_unfolding_all rfl)) ?_
  refine xe_get (v := .int (a 3 13)) hS rfl rfl (by decide) rfl ?_
  refine ex_s (am_nb (m := 2) (pc1 := 26) (ls1 := [(0, .ref 3)]) (st1 := [.int ((a 3 13) + 1), .ref 3]) (H1 := H) (k1 := 0) (n1 := 0) (by with_unfolding_all rfl)) ?_
  obtain ⟨a3, ha3, e⟩ := xw_some e
  refine xe_put (w := ((a 3 13) + 1)) hS rfl rfl (by decide) rfl rfl rfl rfl (fun H4 s5 => ?_)
  have s5 : xS h b T a3 H4 := by rw [ha3]; exact s5
  cases e
  exact ex_r (st_vret rfl rfl) s5

set_option maxRecDepth 100000 in
theorem tf52_make {sL : Nat} {sx : Nat → Int32} {h b N : Nat} {T : List am_C} {a' : xA} {x0 : Int32} {a : xA} {H : am_H} (hS : xS h b T a H) (e : f52_make N h b x0 a = some a') : am_E sL sx am_cs 52 0 [(0, .ref 3), (1, .int x0)] [] H none (fun H1 => xS h b T a' H1) := by
  unfold f52_make at e
  refine ex_s (am_nb (m := 1) (pc1 := 1) (ls1 := [(0, .ref 3), (1, .int x0)]) (st1 := [.ref 3]) (H1 := H) (k1 := 0) (n1 := 0) (by with_unfolding_all rfl)) ?_
  refine xe_get (v := .int (a 3 13)) hS rfl rfl (by decide) rfl ?_
  refine ex_s (am_nb (m := 1) (pc1 := 6) (ls1 := [(0, .ref 3), (1, .int x0)]) (st1 := [.int 40, .int (a 3 13)]) (H1 := H) (k1 := 0) (n1 := 0) (by with_unfolding_all rfl)) ?_
  refine ex_s (st_icmp rfl) ?_
  by_cases c2 : 40 ≤ (a 3 13)
  · have e := (if_pos c2).symm.trans e
    refine ex_pc (if_pos c2) ?_
    exact le_E (l1 := [(0, .ref 3)]) ⟨rfl, trivial⟩ rfl (tj52_19  hS e)
  · have e := (if_neg c2).symm.trans e
    refine ex_pc (if_neg c2) ?_
    refine ex_s (am_nb (m := 1) (pc1 := 10) (ls1 := [(0, .ref 3), (1, .int x0)]) (st1 := [.ref 3]) (H1 := H) (k1 := 0) (n1 := 0) (by with_unfolding_all rfl)) ?_
    refine xe_get (v := .ref 8) hS rfl rfl (by decide) rfl ?_
    refine ex_s (am_nb (m := 1) (pc1 := 14) (ls1 := [(0, .ref 3), (1, .int x0)]) (st1 := [.ref 3, .ref 8]) (H1 := H) (k1 := 0) (n1 := 0) (by with_unfolding_all rfl)) ?_
    refine xe_get (v := .int (a 3 13)) hS rfl rfl (by decide) rfl ?_
    refine ex_s (am_nb (m := 1) (pc1 := 18) (ls1 := [(0, .ref 3), (1, .int x0)]) (st1 := [.int x0, .int (a 3 13), .ref 8]) (H1 := H) (k1 := 0) (n1 := 0) (by with_unfolding_all rfl)) ?_
    obtain ⟨g9, e⟩ := xg_some e
    obtain ⟨a6, ha6, e⟩ := xw_some e
    refine xe_iast hS rfl rfl g9 (fun H7 s8 => ?_)
    have s8 : xS h b T a6 H7 := by rw [ha6]; exact s8
    exact le_E (l1 := [(0, .ref 3)]) ⟨rfl, trivial⟩ rfl (tj52_19  s8 e)
