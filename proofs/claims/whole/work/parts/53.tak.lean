/-! The program does what the functions say. -/
set_option maxRecDepth 100000 in
theorem tf268_blanks {sL : Nat} {sx : Nat → Int32} {h b N : Nat} {T : List am_C} {a' : xA} {a : xA} {H : am_H} (hS : xS h b T a H) (e : f268_blanks N h b a = some a') : am_E sL sx am_cs 268 0 [(0, .ref 157)] [] H none (fun H1 => xS h b T a' H1) := by
  unfold f268_blanks at e
  refine ex_s (am_nb (m := 2) (pc1 := 2) (ls1 := [(0, .ref 157)]) (st1 := [.ref 157, .ref 157]) (H1 := H) (k1 := 0) (n1 := 0) (by with_unfolding_all rfl)) ?_
  refine xe_get (v := .int (a 157 15)) hS rfl rfl (by decide) rfl ?_
  obtain ⟨r4, a5, e3, e⟩ := xb2_some e
  refine ex_cv1 (as := [.int (a 157 15)]) (rest := []) rfl rfl rfl rfl (hS.obj rfl (by decide)) rfl (by with_unfolding_all rfl) (by with_unfolding_all rfl) (tf266_here hS e3) (fun H1 s2 => ?_)
  obtain ⟨r9, a10, e8, e⟩ := xb2_some e
  refine ex_cs1 (as := [.int r4]) (rest := []) rfl (by decide) rfl rfl (by with_unfolding_all rfl) (by with_unfolding_all rfl) (tf267_isBlank s2 e8) (fun H6 s7 => ?_)
  refine ex_s (st_if rfl) ?_
  by_cases c11 : r9 = 0
  · have e := (if_pos c11).symm.trans e
    refine ex_pc (if_pos c11) ?_
    cases e
    exact ex_r (st_vret rfl rfl) s7
  · have e := (if_neg c11).symm.trans e
    refine ex_pc (if_neg c11) ?_
    refine ex_s (am_nb (m := 2) (pc1 := 16) (ls1 := [(0, .ref 157)]) (st1 := [.ref 157, .ref 157]) (H1 := H6) (k1 := 0) (n1 := 0) (by with_unfolding_all rfl)) ?_
    refine xe_get (v := .int (a10 157 15)) s7 rfl rfl (by decide) rfl ?_
    refine ex_s (am_nb (m := 2) (pc1 := 21) (ls1 := [(0, .ref 157)]) (st1 := [.int ((a10 157 15) + 1), .ref 157]) (H1 := H6) (k1 := 0) (n1 := 0) (by with_unfolding_all rfl)) ?_
    obtain ⟨a12, ha12, e⟩ := xw_some e
    refine xe_put (w := ((a10 157 15) + 1)) s7 rfl rfl (by decide) rfl rfl rfl rfl (fun H13 s14 => ?_)
    have s14 : xS h b T a12 H13 := by rw [ha12]; exact s14
    refine ex_s (am_nb (m := 1) (pc1 := 0) (ls1 := [(0, .ref 157)]) (st1 := []) (H1 := H13) (k1 := 0) (n1 := 0) (by with_unfolding_all rfl)) ?_
    obtain ⟨z29, e30, e⟩ := Option.bind_eq_some_iff.mp e
    refine le_E (l1 := [(0, .ref 157)]) ⟨rfl, trivial⟩ rfl (tl268_0 (z := z29)  (fun uz29_0 Hz290 sz290 => ?_) N a12 H13 s14 e30)
    cases e
    exact ex_r (st_vret rfl rfl) sz290

set_option maxRecDepth 100000 in
theorem tj269_19 {sL : Nat} {sx : Nat → Int32} {h b N : Nat} {T : List am_C} {r : Int32} {a' : xA} {a : xA} {H : am_H} (hS : xS h b T a H) (e : j269_19 N h b a = some (r, a')) : am_E sL sx am_cs 269 19 [] [] H (some (.int r)) (fun H1 => xS h b T a' H1) := by
  unfold j269_19 at e
  refine ex_s (am_nb (m := 2) (pc1 := 24) (ls1 := []) (st1 := [.int 1]) (H1 := H) (k1 := 0) (n1 := 0) (by with_unfolding_all rfl)) ?_
  cases e
  exact ex_r (st_iret rfl rfl rfl) hS

set_option maxRecDepth 100000 in
theorem tf269_ends {sL : Nat} {sx : Nat → Int32} {h b N : Nat} {T : List am_C} {r : Int32} {a' : xA} {x0 : Int32} {a : xA} {H : am_H} (hS : xS h b T a H) (e : f269_ends N h b x0 a = some (r, a')) : am_E sL sx am_cs 269 0 [(0, .ref 157), (1, .int x0)] [] H (some (.int r)) (fun H1 => xS h b T a' H1) := by
  unfold f269_ends at e
  refine ex_s (am_nb (m := 2) (pc1 := 2) (ls1 := [(0, .ref 157), (1, .int x0)]) (st1 := [.ref 157, .int x0]) (H1 := H) (k1 := 0) (n1 := 0) (by with_unfolding_all rfl)) ?_
  refine xe_get (v := .int (a 157 16)) hS rfl rfl (by decide) rfl ?_
  refine ex_s (st_icmp rfl) ?_
  by_cases c2 : (a 157 16) ≤ x0
  · have e := (if_pos c2).symm.trans e
    refine ex_pc (if_pos c2) ?_
    exact le_E (l1 := []) trivial rfl (tj269_19  hS e)
  · have e := (if_neg c2).symm.trans e
    refine ex_pc (if_neg c2) ?_
    refine ex_s (am_nb (m := 1) (pc1 := 9) (ls1 := [(0, .ref 157), (1, .int x0)]) (st1 := [.ref 157]) (H1 := H) (k1 := 0) (n1 := 0) (by with_unfolding_all rfl)) ?_
    refine xe_get (v := .ref 158) hS rfl rfl (by decide) rfl ?_
    refine ex_s (am_nb (m := 1) (pc1 := 13) (ls1 := [(0, .ref 157), (1, .int x0)]) (st1 := [.int x0, .ref 158]) (H1 := H) (k1 := 0) (n1 := 0) (by with_unfolding_all rfl)) ?_
    obtain ⟨g3, e⟩ := xg_some e
    refine xe_bald hS rfl rfl g3 ?_
    refine ex_s (am_nb (m := 1) (pc1 := 16) (ls1 := [(0, .ref 157), (1, .int x0)]) (st1 := [.int 10, .int (a 158 (x0.toNatClampNeg))]) (H1 := H) (k1 := 0) (n1 := 0) (by with_unfolding_all rfl)) ?_
    have kk : am_E sL sx am_cs 269 24 [(0, .ref 157), (1, .int x0)] [.int (if (a 158 (x0.toNatClampNeg)) = 10 then (1 : Int32) else (0 : Int32))] H (some (.int r)) (fun H1 => xS h b T a' H1) := by
      obtain ⟨g5, e⟩ := xg_some e
      cases e
      exact ex_r (st_iret rfl rfl (xnar_z g5)) hS
    refine ex_s (st_icmp rfl) ?_
    by_cases c4 : (a 158 (x0.toNatClampNeg)) = 10
    · refine ex_pc (if_pos c4) ?_
      refine ex_s (am_nb (m := 2) (pc1 := 24) (ls1 := [(0, .ref 157), (1, .int x0)]) (st1 := [.int 1]) (H1 := H) (k1 := 0) (n1 := 0) (by with_unfolding_all rfl)) ?_
      rw [if_pos c4] at kk
      exact kk
    · refine ex_pc (if_neg c4) ?_
      refine ex_s (am_nb (m := 1) (pc1 := 24) (ls1 := [(0, .ref 157), (1, .int x0)]) (st1 := [.int 0]) (H1 := H) (k1 := 0) (n1 := 0) (by with_unfolding_all rfl)) ?_
      rw [if_neg c4] at kk
      exact kk

set_option maxRecDepth 100000 in
theorem tf270_fails {sL : Nat} {sx : Nat → Int32} {h b N : Nat} {T : List am_C} {r : Int32} {a' : xA} {x0 : Int32} {x1 : Int32} {a : xA} {H : am_H} (hS : xS h b T a H) (e : f270_fails N h b x0 x1 a = some (r, a')) : am_E sL sx am_cs 270 0 [(0, .ref 157), (1, .int x0), (2, .int x1)] [] H (some (.int r)) (fun H1 => xS h b T a' H1) := by
  unfold f270_fails at e
  refine ex_s (am_nb (m := 2) (pc1 := 2) (ls1 := [(0, .ref 157), (1, .int x0), (2, .int x1)]) (st1 := [.int x0, .ref 157]) (H1 := H) (k1 := 0) (n1 := 0) (by with_unfolding_all rfl)) ?_
  obtain ⟨a1, ha1, e⟩ := xw_some e
  refine xe_put (w := x0) hS rfl rfl (by decide) rfl rfl rfl rfl (fun H2 s3 => ?_)
  have s3 : xS h b T a1 H2 := by rw [ha1]; exact s3
  refine ex_s (am_nb (m := 2) (pc1 := 7) (ls1 := [(0, .ref 157), (1, .int x0), (2, .int x1)]) (st1 := [.int x1, .ref 157]) (H1 := H2) (k1 := 0) (n1 := 0) (by with_unfolding_all rfl)) ?_
  obtain ⟨a4, ha4, e⟩ := xw_some e
  refine xe_put (w := x1) s3 rfl rfl (by decide) rfl rfl rfl rfl (fun H5 s6 => ?_)
  have s6 : xS h b T a4 H5 := by rw [ha4]; exact s6
  refine ex_s (am_nb (m := 1) (pc1 := 11) (ls1 := [(0, .ref 157), (1, .int x0), (2, .int x1)]) (st1 := [.int 0]) (H1 := H5) (k1 := 0) (n1 := 0) (by with_unfolding_all rfl)) ?_
  cases e
  exact ex_r (st_iret rfl rfl rfl) s6

set_option maxRecDepth 100000 in
theorem tf273_isLetter {sL : Nat} {sx : Nat → Int32} {h b N : Nat} {T : List am_C} {r : Int32} {a' : xA} {x0 : Int32} {a : xA} {H : am_H} (hS : xS h b T a H) (e : f273_isLetter N h b x0 a = some (r, a')) : am_E sL sx am_cs 273 0 [(0, .int x0)] [] H (some (.int r)) (fun H1 => xS h b T a' H1) := by
  unfold f273_isLetter at e
  refine ex_s (am_nb (m := 2) (pc1 := 3) (ls1 := [(0, .int x0)]) (st1 := [.int 97, .int x0]) (H1 := H) (k1 := 0) (n1 := 0) (by with_unfolding_all rfl)) ?_
  refine ex_s (st_icmp rfl) ?_
  by_cases c3 : x0 < 97
  · have e := (if_pos c3).symm.trans e
    refine ex_pc (if_pos c3) ?_
    refine ex_s (am_nb (m := 1) (pc1 := 17) (ls1 := [(0, .int x0)]) (st1 := [.int 0]) (H1 := H) (k1 := 0) (n1 := 0) (by with_unfolding_all rfl)) ?_
    cases e
    exact ex_r (st_iret rfl rfl rfl) hS
  · have e := (if_neg c3).symm.trans e
    refine ex_pc (if_neg c3) ?_
    refine ex_s (am_nb (m := 2) (pc1 := 9) (ls1 := [(0, .int x0)]) (st1 := [.int 122, .int x0]) (H1 := H) (k1 := 0) (n1 := 0) (by with_unfolding_all rfl)) ?_
    have kk : am_E sL sx am_cs 273 17 [(0, .int x0)] [.int (if 122 < x0 then (0 : Int32) else (1 : Int32))] H (some (.int r)) (fun H1 => xS h b T a' H1) := by
      obtain ⟨g5, e⟩ := xg_some e
      cases e
      exact ex_r (st_iret rfl rfl (xnar_z g5)) hS
    refine ex_s (st_icmp rfl) ?_
    by_cases c4 : 122 < x0
    · refine ex_pc (if_pos c4) ?_
      refine ex_s (am_nb (m := 1) (pc1 := 17) (ls1 := [(0, .int x0)]) (st1 := [.int 0]) (H1 := H) (k1 := 0) (n1 := 0) (by with_unfolding_all rfl)) ?_
      rw [if_pos c4] at kk
      exact kk
    · refine ex_pc (if_neg c4) ?_
      refine ex_s (am_nb (m := 2) (pc1 := 17) (ls1 := [(0, .int x0)]) (st1 := [.int 1]) (H1 := H) (k1 := 0) (n1 := 0) (by with_unfolding_all rfl)) ?_
      rw [if_neg c4] at kk
      exact kk

set_option maxRecDepth 100000 in
theorem tf274_isDigit {sL : Nat} {sx : Nat → Int32} {h b N : Nat} {T : List am_C} {r : Int32} {a' : xA} {x0 : Int32} {a : xA} {H : am_H} (hS : xS h b T a H) (e : f274_isDigit N h b x0 a = some (r, a')) : am_E sL sx am_cs 274 0 [(0, .int x0)] [] H (some (.int r)) (fun H1 => xS h b T a' H1) := by
  unfold f274_isDigit at e
  refine ex_s (am_nb (m := 2) (pc1 := 3) (ls1 := [(0, .int x0)]) (st1 := [.int 48, .int x0]) (H1 := H) (k1 := 0) (n1 := 0) (by with_unfolding_all rfl)) ?_
  refine ex_s (st_icmp rfl) ?_
  by_cases c3 : x0 < 48
  · have e := (if_pos c3).symm.trans e
    refine ex_pc (if_pos c3) ?_
    refine ex_s (am_nb (m := 1) (pc1 := 17) (ls1 := [(0, .int x0)]) (st1 := [.int 0]) (H1 := H) (k1 := 0) (n1 := 0) (by with_unfolding_all rfl)) ?_
    cases e
    exact ex_r (st_iret rfl rfl rfl) hS
  · have e := (if_neg c3).symm.trans e
    refine ex_pc (if_neg c3) ?_
    refine ex_s (am_nb (m := 2) (pc1 := 9) (ls1 := [(0, .int x0)]) (st1 := [.int 57, .int x0]) (H1 := H) (k1 := 0) (n1 := 0) (by with_unfolding_all rfl)) ?_
    have kk : am_E sL sx am_cs 274 17 [(0, .int x0)] [.int (if 57 < x0 then (0 : Int32) else (1 : Int32))] H (some (.int r)) (fun H1 => xS h b T a' H1) := by
      obtain ⟨g5, e⟩ := xg_some e
      cases e
      exact ex_r (st_iret rfl rfl (xnar_z g5)) hS
    refine ex_s (st_icmp rfl) ?_
    by_cases c4 : 57 < x0
    · refine ex_pc (if_pos c4) ?_
      refine ex_s (am_nb (m := 1) (pc1 := 17) (ls1 := [(0, .int x0)]) (st1 := [.int 0]) (H1 := H) (k1 := 0) (n1 := 0) (by with_unfolding_all rfl)) ?_
      rw [if_pos c4] at kk
      exact kk
    · refine ex_pc (if_neg c4) ?_
      refine ex_s (am_nb (m := 2) (pc1 := 17) (ls1 := [(0, .int x0)]) (st1 := [.int 1]) (H1 := H) (k1 := 0) (n1 := 0) (by with_unfolding_all rfl)) ?_
      rw [if_neg c4] at kk
      exact kk

set_option maxRecDepth 100000 in
theorem tj276_24 {sL : Nat} {sx : Nat → Int32} {h b N : Nat} {T : List am_C} {r : Int32} {a' : xA} {a : xA} {H : am_H} (hS : xS h b T a H) (e : j276_24 N h b a = some (r, a')) : am_E sL sx am_cs 276 24 [] [] H (some (.int r)) (fun H1 => xS h b T a' H1) := by
  unfold j276_24 at e
  refine ex_s (am_nb (m := 2) (pc1 := 29) (ls1 := []) (st1 := [.int 1]) (H1 := H) (k1 := 0) (n1 := 0) (by with_unfolding_all rfl)) ?_
  cases e
  exact ex_r (st_iret rfl rfl rfl) hS

set_option maxRecDepth 100000 in
theorem tf276_isText {sL : Nat} {sx : Nat → Int32} {h b N : Nat} {T : List am_C} {r : Int32} {a' : xA} {x0 : Int32} {a : xA} {H : am_H} (hS : xS h b T a H) (e : f276_isText N h b x0 a = some (r, a')) : am_E sL sx am_cs 276 0 [(0, .int x0)] [] H (some (.int r)) (fun H1 => xS h b T a' H1) := by
  unfold f276_isText at e
  refine ex_s (am_nb (m := 2) (pc1 := 3) (ls1 := [(0, .int x0)]) (st1 := [.int 9, .int x0]) (H1 := H) (k1 := 0) (n1 := 0) (by with_unfolding_all rfl)) ?_
  refine ex_s (st_icmp rfl) ?_
  by_cases c4 : x0 = 9
  · have e := (if_pos c4).symm.trans e
    refine ex_pc (if_pos c4) ?_
    exact le_E (l1 := []) trivial rfl (tj276_24  hS e)
  · have e := (if_neg c4).symm.trans e
    refine ex_pc (if_neg c4) ?_
    refine ex_s (am_nb (m := 2) (pc1 := 9) (ls1 := [(0, .int x0)]) (st1 := [.int 10, .int x0]) (H1 := H) (k1 := 0) (n1 := 0) (by with_unfolding_all rfl)) ?_
    refine ex_s (st_icmp rfl) ?_
    by_cases c7 : x0 = 10
    · have e := (if_pos c7).symm.trans e
      refine ex_pc (if_pos c7) ?_
      exact le_E (l1 := []) trivial rfl (tj276_24  hS e)
    · have e := (if_neg c7).symm.trans e
      refine ex_pc (if_neg c7) ?_
      refine ex_s (am_nb (m := 2) (pc1 := 15) (ls1 := [(0, .int x0)]) (st1 := [.int 32, .int x0]) (H1 := H) (k1 := 0) (n1 := 0) (by with_unfolding_all rfl)) ?_
      refine ex_s (st_icmp rfl) ?_
      by_cases c10 : x0 < 32
      · have e := (if_pos c10).symm.trans e
        refine ex_pc (if_pos c10) ?_
        refine ex_s (am_nb (m := 1) (pc1 := 29) (ls1 := [(0, .int x0)]) (st1 := [.int 0]) (H1 := H) (k1 := 0) (n1 := 0) (by with_unfolding_all rfl)) ?_
        cases e
        exact ex_r (st_iret rfl rfl rfl) hS
      · have e := (if_neg c10).symm.trans e
        refine ex_pc (if_neg c10) ?_
        refine ex_s (am_nb (m := 2) (pc1 := 21) (ls1 := [(0, .int x0)]) (st1 := [.int 126, .int x0]) (H1 := H) (k1 := 0) (n1 := 0) (by with_unfolding_all rfl)) ?_
        have kk : am_E sL sx am_cs 276 29 [(0, .int x0)] [.int (if 126 < x0 then (0 : Int32) else (1 : Int32))] H (some (.int r)) (fun H1 => xS h b T a' H1) := by
          obtain ⟨g12, e⟩ := xg_some e
          cases e
          exact ex_r (st_iret rfl rfl (xnar_z g12)) hS
        refine ex_s (st_icmp rfl) ?_
        by_cases c11 : 126 < x0
        · refine ex_pc (if_pos c11) ?_
          refine ex_s (am_nb (m := 1) (pc1 := 29) (ls1 := [(0, .int x0)]) (st1 := [.int 0]) (H1 := H) (k1 := 0) (n1 := 0) (by with_unfolding_all rfl)) ?_
          rw [if_pos c11] at kk
          exact kk
        · refine ex_pc (if_neg c11) ?_
          refine ex_s (am_nb (m := 2) (pc1 := 29) (ls1 := [(0, .int x0)]) (st1 := [.int 1]) (H1 := H) (k1 := 0) (n1 := 0) (by with_unfolding_all rfl)) ?_
          rw [if_neg c11] at kk
          exact kk

set_option maxRecDepth 100000 in
theorem tf275_isNone {sL : Nat} {sx : Nat → Int32} {h b N : Nat} {T : List am_C} {r : Int32} {a' : xA} {a : xA} {H : am_H} (hS : xS h b T a H) (e : f275_isNone N h b a = some (r, a')) : am_E sL sx am_cs 275 0 [(0, .ref 157)] [] H (some (.int r)) (fun H1 => xS h b T a' H1) := by
  unfold f275_isNone at e
  refine ex_s (am_nb (m := 1) (pc1 := 1) (ls1 := [(0, .ref 157)]) (st1 := [.ref 157]) (H1 := H) (k1 := 0) (n1 := 0) (by with_unfolding_all rfl)) ?_
  refine xe_get (v := .int (a 157 15)) hS rfl rfl (by decide) rfl ?_
  refine ex_s (am_nb (m := 1) (pc1 := 5) (ls1 := [(0, .ref 157)]) (st1 := [.ref 157, .int (a 157 15)]) (H1 := H) (k1 := 0) (n1 := 0) (by with_unfolding_all rfl)) ?_
  refine xe_get (v := .int (a 157 16)) hS rfl rfl (by decide) rfl ?_
  refine ex_s (st_icmp rfl) ?_
  by_cases c2 : (a 157 16) ≤ (a 157 15)
  · have e := (if_pos c2).symm.trans e
    refine ex_pc (if_pos c2) ?_
    refine ex_s (am_nb (m := 1) (pc1 := 30) (ls1 := [(0, .ref 157)]) (st1 := [.int 0]) (H1 := H) (k1 := 0) (n1 := 0) (by with_unfolding_all rfl)) ?_
    cases e
    exact ex_r (st_iret rfl rfl rfl) hS
  · have e := (if_neg c2).symm.trans e
    refine ex_pc (if_neg c2) ?_
    refine ex_s (am_nb (m := 2) (pc1 := 13) (ls1 := [(0, .ref 157)]) (st1 := [.ref 157, .ref 157]) (H1 := H) (k1 := 0) (n1 := 0) (by with_unfolding_all rfl)) ?_
    refine xe_get (v := .int (a 157 15)) hS rfl rfl (by decide) rfl ?_
    obtain ⟨r6, a7, e5, e⟩ := xb2_some e
    refine ex_cv1 (as := [.int (a 157 15)]) (rest := []) rfl rfl rfl rfl (hS.obj rfl (by decide)) rfl (by with_unfolding_all rfl) (by with_unfolding_all rfl) (tf266_here hS e5) (fun H3 s4 => ?_)
    obtain ⟨r11, a12, e10, e⟩ := xb2_some e
    refine ex_cs1 (as := [.int r6]) (rest := []) rfl (by decide) rfl rfl (by with_unfolding_all rfl) (by with_unfolding_all rfl) (tf276_isText s4 e10) (fun H8 s9 => ?_)
    have kk : am_E sL sx am_cs 275 30 [(0, .ref 157)] [.int (if r11 = 0 then (1 : Int32) else (0 : Int32))] H8 (some (.int r)) (fun H1 => xS h b T a' H1) := by
      obtain ⟨g14, e⟩ := xg_some e
      cases e
      exact ex_r (st_iret rfl rfl (xnar_z g14)) s9
    refine ex_s (st_if rfl) ?_
    by_cases c13 : r11 = 0
    · refine ex_pc (if_pos c13) ?_
      refine ex_s (am_nb (m := 2) (pc1 := 30) (ls1 := [(0, .ref 157)]) (st1 := [.int 1]) (H1 := H8) (k1 := 0) (n1 := 0) (by with_unfolding_all rfl)) ?_
      rw [if_pos c13] at kk
      exact kk
    · refine ex_pc (if_neg c13) ?_
      refine ex_s (am_nb (m := 1) (pc1 := 30) (ls1 := [(0, .ref 157)]) (st1 := [.int 0]) (H1 := H8) (k1 := 0) (n1 := 0) (by with_unfolding_all rfl)) ?_
      rw [if_neg c13] at kk
      exact kk

set_option maxRecDepth 100000 in
theorem tj278_26 {sL : Nat} {sx : Nat → Int32} {h b N : Nat} {T : List am_C} {r : Int32} {a' : xA} {a : xA} {H : am_H} (hS : xS h b T a H) (e : j278_26 N h b a = some (r, a')) : am_E sL sx am_cs 278 26 [] [] H (some (.int r)) (fun H1 => xS h b T a' H1) := by
  unfold j278_26 at e
  refine ex_s (am_nb (m := 2) (pc1 := 31) (ls1 := []) (st1 := [.int 1]) (H1 := H) (k1 := 0) (n1 := 0) (by with_unfolding_all rfl)) ?_
  cases e
  exact ex_r (st_iret rfl rfl rfl) hS

set_option maxRecDepth 100000 in
theorem tf278_isOfName {sL : Nat} {sx : Nat → Int32} {h b N : Nat} {T : List am_C} {r : Int32} {a' : xA} {x0 : Int32} {a : xA} {H : am_H} (hS : xS h b T a H) (e : f278_isOfName N h b x0 a = some (r, a')) : am_E sL sx am_cs 278 0 [(0, .int x0)] [] H (some (.int r)) (fun H1 => xS h b T a' H1) := by
  unfold f278_isOfName at e
  refine ex_s (am_nb (m := 1) (pc1 := 1) (ls1 := [(0, .int x0)]) (st1 := [.int x0]) (H1 := H) (k1 := 0) (n1 := 0) (by with_unfolding_all rfl)) ?_
  obtain ⟨r4, a5, e3, e⟩ := xb2_some e
  refine ex_cs1 (as := [.int x0]) (rest := []) rfl (by decide) rfl rfl (by with_unfolding_all rfl) (by with_unfolding_all rfl) (tf273_isLetter hS e3) (fun H1 s2 => ?_)
  refine ex_s (st_if rfl) ?_
  by_cases c7 : r4 = 0
  · have e := (if_pos c7).symm.trans e
    refine ex_pc (if_pos c7) ?_
    refine ex_s (am_nb (m := 1) (pc1 := 8) (ls1 := [(0, .int x0)]) (st1 := [.int x0]) (H1 := H1) (k1 := 0) (n1 := 0) (by with_unfolding_all rfl)) ?_
    obtain ⟨r11, a12, e10, e⟩ := xb2_some e
    refine ex_cs1 (as := [.int x0]) (rest := []) rfl (by decide) rfl rfl (by with_unfolding_all rfl) (by with_unfolding_all rfl) (tf274_isDigit s2 e10) (fun H8 s9 => ?_)
    refine ex_s (st_if rfl) ?_
    by_cases c16 : r11 = 0
    · have e := (if_pos c16).symm.trans e
      refine ex_pc (if_pos c16) ?_
      refine ex_s (am_nb (m := 2) (pc1 := 17) (ls1 := [(0, .int x0)]) (st1 := [.int 45, .int x0]) (H1 := H8) (k1 := 0) (n1 := 0) (by with_unfolding_all rfl)) ?_
      refine ex_s (st_icmp rfl) ?_
      by_cases c19 : x0 = 45
      · have e := (if_pos c19).symm.trans e
        refine ex_pc (if_pos c19) ?_
        exact le_E (l1 := []) trivial rfl (tj278_26  s9 e)
      · have e := (if_neg c19).symm.trans e
        refine ex_pc (if_neg c19) ?_
        refine ex_s (am_nb (m := 2) (pc1 := 23) (ls1 := [(0, .int x0)]) (st1 := [.int 43, .int x0]) (H1 := H8) (k1 := 0) (n1 := 0) (by with_unfolding_all rfl)) ?_
        have kk : am_E sL sx am_cs 278 31 [(0, .int x0)] [.int (if x0 = 43 then (1 : Int32) else (0 : Int32))] H8 (some (.int r)) (fun H1 => xS h b T a' H1) := by
          obtain ⟨g21, e⟩ := xg_some e
          cases e
          exact ex_r (st_iret rfl rfl (xnar_z g21)) s9
        refine ex_s (st_icmp rfl) ?_
        by_cases c20 : x0 = 43
        · refine ex_pc (if_pos c20) ?_
          refine ex_s (am_nb (m := 2) (pc1 := 31) (ls1 := [(0, .int x0)]) (st1 := [.int 1]) (H1 := H8) (k1 := 0) (n1 := 0) (by with_unfolding_all rfl)) ?_
          rw [if_pos c20] at kk
          exact kk
        · refine ex_pc (if_neg c20) ?_
          refine ex_s (am_nb (m := 1) (pc1 := 31) (ls1 := [(0, .int x0)]) (st1 := [.int 0]) (H1 := H8) (k1 := 0) (n1 := 0) (by with_unfolding_all rfl)) ?_
          rw [if_neg c20] at kk
          exact kk
    · have e := (if_neg c16).symm.trans e
      refine ex_pc (if_neg c16) ?_
      exact le_E (l1 := []) trivial rfl (tj278_26  s9 e)
  · have e := (if_neg c7).symm.trans e
    refine ex_pc (if_neg c7) ?_
    exact le_E (l1 := []) trivial rfl (tj278_26  s2 e)

set_option maxRecDepth 100000 in
theorem tl280_21 {sL : Nat} {sx : Nat → Int32} {h b N : Nat} {T : List am_C} {R : Option Value} {F : am_H → Prop} {w1 : Int32} {w2 : Nat} {w3 : Int32} {w4 : Int32} {z : Nat × Int32 × xA} (kw2 : xk w2 = 102) (k0 : z.1 = 0 → ∀ H2 : am_H, xS h b T z.2.2 H2 → am_E sL sx am_cs 280 67 [(5, .int z.2.1)] [] H2 R F) : ∀ (n : Nat) (v5 : Int32) (v6 : Int32) (a : xA) (H : am_H), xS h b T a H → l280_21 N h b w1 w2 w3 w4 n v5 v6 a = some z → am_E sL sx am_cs 280 21 [(0, .ref 157), (1, .int w1), (2, .ref w2), (3, .int w3), (4, .int w4), (5, .int v5), (6, .int v6)] [] H R F := by
  intro n
  induction n with
  | zero =>
    intro v5 v6 a H hS e
    cases e
  | succ n ih =>
    intro v5 v6 a H hS e
    unfold l280_21 at e
    refine ex_s (am_nb (m := 2) (pc1 := 25) (ls1 := [(0, .ref 157), (1, .int w1), (2, .ref w2), (3, .int w3), (4, .int w4), (5, .int v5), (6, .int v6)]) (st1 := [.int w4, .int v6]) (H1 := H) (k1 := 0) (n1 := 0) (by with_unfolding_all rfl)) ?_
    refine ex_s (st_icmp rfl) ?_
    by_cases c6 : w4 ≤ v6
    · have e := (if_pos c6).symm.trans e
      refine ex_pc (if_pos c6) ?_
      cases e
      exact le_E (l1 := [(5, .int v5)]) ⟨rfl, trivial⟩ rfl (k0 rfl H hS)
    · have e := (if_neg c6).symm.trans e
      refine ex_pc (if_neg c6) ?_
      refine ex_s (am_nb (m := 1) (pc1 := 30) (ls1 := [(0, .ref 157), (1, .int w1), (2, .ref w2), (3, .int w3), (4, .int w4), (5, .int v5), (6, .int v6)]) (st1 := [.int v5]) (H1 := H) (k1 := 0) (n1 := 0) (by with_unfolding_all rfl)) ?_
      refine ex_s (st_if rfl) ?_
      by_cases c7 : v5 = 0
      · have e := (if_pos c7).symm.trans e
        refine ex_pc (if_pos c7) ?_
        cases e
        exact le_E (l1 := [(5, .int v5)]) ⟨rfl, trivial⟩ rfl (k0 rfl H hS)
      · have e := (if_neg c7).symm.trans e
        refine ex_pc (if_neg c7) ?_
        refine ex_s (am_nb (m := 1) (pc1 := 34) (ls1 := [(0, .ref 157), (1, .int w1), (2, .ref w2), (3, .int w3), (4, .int w4), (5, .int v5), (6, .int v6)]) (st1 := [.ref 157]) (H1 := H) (k1 := 0) (n1 := 0) (by with_unfolding_all rfl)) ?_
        refine xe_get (v := .ref 161) hS rfl rfl (by decide) rfl ?_
        refine ex_s (am_nb (m := 5) (pc1 := 44) (ls1 := [(0, .ref 157), (1, .int w1), (2, .ref w2), (3, .int w3), (4, .int w4), (5, .int v5), (6, .int v6)]) (st1 := [.int ((12 * w1) + v6), .ref 161]) (H1 := H) (k1 := 0) (n1 := 0) (by with_unfolding_all rfl)) ?_
        obtain ⟨g8, e⟩ := xg_some e
        refine xe_bald hS rfl rfl g8 ?_
        refine ex_s (am_nb (m := 4) (pc1 := 50) (ls1 := [(0, .ref 157), (1, .int w1), (2, .ref w2), (3, .int w3), (4, .int w4), (5, .int v5), (6, .int v6)]) (st1 := [.int (w3 + v6), .ref w2, .int (a 161 (((12 * w1) + v6).toNatClampNeg))]) (H1 := H) (k1 := 0) (n1 := 0) (by with_unfolding_all rfl)) ?_
        obtain ⟨g9, e⟩ := xg_some e
        refine xe_bald hS rfl kw2 g9 ?_
        have kk : am_E sL sx am_cs 280 59 [(0, .ref 157), (1, .int w1), (2, .ref w2), (3, .int w3), (4, .int w4), (5, .int v5), (6, .int v6)] [.int (if (a 161 (((12 * w1) + v6).toNatClampNeg)) = (a w2 ((w3 + v6).toNatClampNeg)) then (1 : Int32) else (0 : Int32))] H R F := by
          refine ex_s (am_nb (m := 3) (pc1 := 21) (ls1 := [(6, .int (v6 + 1)), (5, .int (if (a 161 (((12 * w1) + v6).toNatClampNeg)) = (a w2 ((w3 + v6).toNatClampNeg)) then (1 : Int32) else (0 : Int32))), (0, .ref 157), (1, .int w1), (2, .ref w2), (3, .int w3), (4, .int w4)]) (st1 := []) (H1 := H) (k1 := 0) (n1 := 0) (by with_unfolding_all rfl)) ?_
          exact le_E (l1 := [(0, .ref 157), (1, .int w1), (2, .ref w2), (3, .int w3), (4, .int w4), (5, .int (if (a 161 (((12 * w1) + v6).toNatClampNeg)) = (a w2 ((w3 + v6).toNatClampNeg)) then (1 : Int32) else (0 : Int32))), (6, .int (v6 + 1))]) ⟨rfl, rfl, rfl, rfl, rfl, rfl, rfl, trivial⟩ rfl (ih (if (a 161 (((12 * w1) + v6).toNatClampNeg)) = (a w2 ((w3 + v6).toNatClampNeg)) then (1 : Int32) else (0 : Int32)) (v6 + 1) a H hS e)
        refine ex_s (st_icmp rfl) ?_
        by_cases c10 : (a 161 (((12 * w1) + v6).toNatClampNeg)) = (a w2 ((w3 + v6).toNatClampNeg))
        · refine ex_pc (if_pos c10) ?_
          refine ex_s (am_nb (m := 2) (pc1 := 59) (ls1 := [(0, .ref 157), (1, .int w1), (2, .ref w2), (3, .int w3), (4, .int w4), (5, .int v5), (6, .int v6)]) (st1 := [.int 1]) (H1 := H) (k1 := 0) (n1 := 0) (by with_unfolding_all rfl)) ?_
          rw [if_pos c10] at kk
          exact kk
        · refine ex_pc (if_neg c10) ?_
          refine ex_s (am_nb (m := 1) (pc1 := 59) (ls1 := [(0, .ref 157), (1, .int w1), (2, .ref w2), (3, .int w3), (4, .int w4), (5, .int v5), (6, .int v6)]) (st1 := [.int 0]) (H1 := H) (k1 := 0) (n1 := 0) (by with_unfolding_all rfl)) ?_
          rw [if_neg c10] at kk
          exact kk

set_option maxRecDepth 100000 in
theorem tf280_isName {sL : Nat} {sx : Nat → Int32} {h b N : Nat} {T : List am_C} {r : Int32} {a' : xA} {x0 : Int32} {x1 : Nat} {x2 : Int32} {x3 : Int32} {a : xA} {H : am_H} (hS : xS h b T a H) (e : f280_isName N h b x0 x1 x2 x3 a = some (r, a')) : am_E sL sx am_cs 280 0 [(0, .ref 157), (1, .int x0), (2, .ref x1), (3, .int x2), (4, .int x3)] [] H (some (.int r)) (fun H1 => xS h b T a' H1) := by
  unfold f280_isName at e
  obtain ⟨g1, e⟩ := xg_some e
  refine ex_s (am_nb (m := 1) (pc1 := 1) (ls1 := [(0, .ref 157), (1, .int x0), (2, .ref x1), (3, .int x2), (4, .int x3)]) (st1 := [.ref 157]) (H1 := H) (k1 := 0) (n1 := 0) (by with_unfolding_all rfl)) ?_
  refine xe_get (v := .ref 162) hS rfl rfl (by decide) rfl ?_
  refine ex_s (am_nb (m := 1) (pc1 := 5) (ls1 := [(0, .ref 157), (1, .int x0), (2, .ref x1), (3, .int x2), (4, .int x3)]) (st1 := [.int x0, .ref 162]) (H1 := H) (k1 := 0) (n1 := 0) (by with_unfolding_all rfl)) ?_
  obtain ⟨g2, e⟩ := xg_some e
  refine xe_iald hS rfl rfl g2 ?_
  refine ex_s (am_nb (m := 1) (pc1 := 8) (ls1 := [(0, .ref 157), (1, .int x0), (2, .ref x1), (3, .int x2), (4, .int x3)]) (st1 := [.int x3, .int (a 162 (x0.toNatClampNeg))]) (H1 := H) (k1 := 0) (n1 := 0) (by with_unfolding_all rfl)) ?_
  have kk : am_E sL sx am_cs 280 16 [(0, .ref 157), (1, .int x0), (2, .ref x1), (3, .int x2), (4, .int x3)] [.int (if (a 162 (x0.toNatClampNeg)) = x3 then (1 : Int32) else (0 : Int32))] H (some (.int r)) (fun H1 => xS h b T a' H1) := by
    refine ex_s (am_nb (m := 3) (pc1 := 21) (ls1 := [(6, .int 0), (5, .int (if (a 162 (x0.toNatClampNeg)) = x3 then (1 : Int32) else (0 : Int32))), (0, .ref 157), (1, .int x0), (2, .ref x1), (3, .int x2), (4, .int x3)]) (st1 := []) (H1 := H) (k1 := 0) (n1 := 0) (by with_unfolding_all rfl)) ?_
    obtain ⟨z11, e12, e⟩ := Option.bind_eq_some_iff.mp e
    refine le_E (l1 := [(0, .ref 157), (1, .int x0), (2, .ref x1), (3, .int x2), (4, .int x3), (5, .int (if (a 162 (x0.toNatClampNeg)) = x3 then (1 : Int32) else (0 : Int32))), (6, .int 0)]) ⟨rfl, rfl, rfl, rfl, rfl, rfl, rfl, trivial⟩ rfl (tl280_21 (z := z11) g1 (fun uz11_0 Hz110 sz110 => ?_) N (if (a 162 (x0.toNatClampNeg)) = x3 then (1 : Int32) else (0 : Int32)) 0 a H hS e12)
    refine ex_s (am_nb (m := 1) (pc1 := 69) (ls1 := [(5, .int z11.2.1)]) (st1 := [.int z11.2.1]) (H1 := Hz110) (k1 := 0) (n1 := 0) (by with_unfolding_all rfl)) ?_
    obtain ⟨g13, e⟩ := xg_some e
    cases e
    exact ex_r (st_iret rfl rfl (xnar_z g13)) sz110
  refine ex_s (st_icmp rfl) ?_
  by_cases c3 : (a 162 (x0.toNatClampNeg)) = x3
  · refine ex_pc (if_pos c3) ?_
    refine ex_s (am_nb (m := 2) (pc1 := 16) (ls1 := [(0, .ref 157), (1, .int x0), (2, .ref x1), (3, .int x2), (4, .int x3)]) (st1 := [.int 1]) (H1 := H) (k1 := 0) (n1 := 0) (by with_unfolding_all rfl)) ?_
    rw [if_pos c3] at kk
    exact kk
  · refine ex_pc (if_neg c3) ?_
    refine ex_s (am_nb (m := 1) (pc1 := 16) (ls1 := [(0, .ref 157), (1, .int x0), (2, .ref x1), (3, .int x2), (4, .int x3)]) (st1 := [.int 0]) (H1 := H) (k1 := 0) (n1 := 0) (by with_unfolding_all rfl)) ?_
    rw [if_neg c3] at kk
    exact kk

set_option maxRecDepth 100000 in
theorem tl279_13 {sL : Nat} {sx : Nat → Int32} {h b N : Nat} {T : List am_C} {R : Option Value} {F : am_H → Prop} {w1 : Nat} {w2 : Int32} {w3 : Int32} {w4 : Int32} {w5 : Int32} {z : Nat × xA} (kw1 : xk w1 = 102) (k0 : z.1 = 0 → ∀ H2 : am_H, xS h b T z.2 H2 → am_E sL sx am_cs 279 42 [(5, .int w5)] [] H2 R F) (k1 : z.1 = 1 → ∀ H2 : am_H, xS h b T z.2 H2 → am_E sL sx am_cs 279 51 [(0, .ref 157), (1, .ref w1), (2, .int w2), (3, .int w3), (4, .int w4), (5, .int w5)] [] H2 R F) : ∀ (n : Nat) (v6 : Int32) (a : xA) (H : am_H), xS h b T a H → l279_13 N h b w1 w2 w3 w4 w5 n v6 a = some z → am_E sL sx am_cs 279 13 [(0, .ref 157), (1, .ref w1), (2, .int w2), (3, .int w3), (4, .int w4), (5, .int w5), (6, .int v6)] [] H R F := by
  intro n
  induction n with
  | zero =>
    intro v6 a H hS e
    cases e
  | succ n ih =>
    intro v6 a H hS e
    unfold l279_13 at e
    refine ex_s (am_nb (m := 2) (pc1 := 16) (ls1 := [(0, .ref 157), (1, .ref w1), (2, .int w2), (3, .int w3), (4, .int w4), (5, .int w5), (6, .int v6)]) (st1 := [.ref 157, .int v6]) (H1 := H) (k1 := 0) (n1 := 0) (by with_unfolding_all rfl)) ?_
    refine xe_get (v := .ref 160) hS rfl rfl (by decide) rfl ?_
    refine ex_s (am_nb (m := 1) (pc1 := 21) (ls1 := [(0, .ref 157), (1, .ref w1), (2, .int w2), (3, .int w3), (4, .int w4), (5, .int w5), (6, .int v6)]) (st1 := [.int w5, .ref 160, .int v6]) (H1 := H) (k1 := 0) (n1 := 0) (by with_unfolding_all rfl)) ?_
    obtain ⟨g3, e⟩ := xg_some e
    refine xe_iald hS rfl rfl g3 ?_
    refine ex_s (st_icmp rfl) ?_
    by_cases c4 : (a 160 (w5.toNatClampNeg)) ≤ v6
    · have e := (if_pos c4).symm.trans e
      refine ex_pc (if_pos c4) ?_
      cases e
      exact le_E (l1 := [(0, .ref 157), (1, .ref w1), (2, .int w2), (3, .int w3), (4, .int w4), (5, .int w5)]) ⟨rfl, rfl, rfl, rfl, rfl, rfl, trivial⟩ rfl (k1 rfl H hS)
    · have e := (if_neg c4).symm.trans e
      refine ex_pc (if_neg c4) ?_
      refine ex_s (am_nb (m := 9) (pc1 := 36) (ls1 := [(0, .ref 157), (1, .ref w1), (2, .int w2), (3, .int w3), (4, .int w4), (5, .int w5), (6, .int v6)]) (st1 := [.int w3, .int w2, .ref w1, .int ((4 * w5) + v6), .ref 157]) (H1 := H) (k1 := 0) (n1 := 0) (by with_unfolding_all rfl)) ?_
      obtain ⟨r8, a9, e7, e⟩ := xb2_some e
      refine ex_cv1 (as := [.int ((4 * w5) + v6), .ref w1, .int w2, .int w3]) (rest := []) rfl rfl rfl rfl (hS.obj rfl (by decide)) rfl (by with_unfolding_all rfl) (by with_unfolding_all rfl) (tf280_isName hS e7) (fun H5 s6 => ?_)
      refine ex_s (st_if rfl) ?_
      by_cases c10 : r8 = 0
      · have e := (if_pos c10).symm.trans e
        refine ex_pc (if_pos c10) ?_
        refine ex_s (am_nb (m := 2) (pc1 := 13) (ls1 := [(6, .int (v6 + 1)), (0, .ref 157), (1, .ref w1), (2, .int w2), (3, .int w3), (4, .int w4), (5, .int w5)]) (st1 := []) (H1 := H5) (k1 := 0) (n1 := 0) (by with_unfolding_all rfl)) ?_
        exact le_E (l1 := [(0, .ref 157), (1, .ref w1), (2, .int w2), (3, .int w3), (4, .int w4), (5, .int w5), (6, .int (v6 + 1))]) ⟨rfl, rfl, rfl, rfl, rfl, rfl, rfl, trivial⟩ rfl (ih (v6 + 1) a9 H5 s6 e)
      · have e := (if_neg c10).symm.trans e
        refine ex_pc (if_neg c10) ?_
        cases e
        exact le_E (l1 := [(5, .int w5)]) ⟨rfl, trivial⟩ rfl (k0 rfl H5 s6)

set_option maxRecDepth 100000 in
theorem tl279_3 {sL : Nat} {sx : Nat → Int32} {h b N : Nat} {T : List am_C} {R : Option Value} {F : am_H → Prop} {w1 : Nat} {w2 : Int32} {w3 : Int32} {w4 : Int32} {z : Nat × Int32 × xA} (kw1 : xk w1 = 102) (k0 : z.1 = 0 → ∀ H2 : am_H, xS h b T z.2.2 H2 → am_E sL sx am_cs 279 42 [(5, .int z.2.1)] [] H2 R F) (k1 : z.1 = 1 → ∀ H2 : am_H, xS h b T z.2.2 H2 → am_E sL sx am_cs 279 57 [] [] H2 R F) : ∀ (n : Nat) (v5 : Int32) (a : xA) (H : am_H), xS h b T a H → l279_3 N h b w1 w2 w3 w4 n v5 a = some z → am_E sL sx am_cs 279 3 [(0, .ref 157), (1, .ref w1), (2, .int w2), (3, .int w3), (4, .int w4), (5, .int v5)] [] H R F := by
  intro n
  induction n with
  | zero =>
    intro v5 a H hS e
    cases e
  | succ n ih =>
    intro v5 a H hS e
    unfold l279_3 at e
    refine ex_s (am_nb (m := 2) (pc1 := 7) (ls1 := [(0, .ref 157), (1, .ref w1), (2, .int w2), (3, .int w3), (4, .int w4), (5, .int v5)]) (st1 := [.int w4, .int v5]) (H1 := H) (k1 := 0) (n1 := 0) (by with_unfolding_all rfl)) ?_
    refine ex_s (st_icmp rfl) ?_
    by_cases c2 : w4 ≤ v5
    · have e := (if_pos c2).symm.trans e
      refine ex_pc (if_pos c2) ?_
      cases e
      exact le_E (l1 := []) trivial rfl (k1 rfl H hS)
    · have e := (if_neg c2).symm.trans e
      refine ex_pc (if_neg c2) ?_
      refine ex_s (am_nb (m := 2) (pc1 := 13) (ls1 := [(6, .int 0), (0, .ref 157), (1, .ref w1), (2, .int w2), (3, .int w3), (4, .int w4), (5, .int v5)]) (st1 := []) (H1 := H) (k1 := 0) (n1 := 0) (by with_unfolding_all rfl)) ?_
      obtain ⟨z11, e12, e⟩ := Option.bind_eq_some_iff.mp e
      refine le_E (l1 := [(0, .ref 157), (1, .ref w1), (2, .int w2), (3, .int w3), (4, .int w4), (5, .int v5), (6, .int 0)]) ⟨rfl, rfl, rfl, rfl, rfl, rfl, rfl, trivial⟩ rfl (tl279_13 (z := z11) kw1 (fun uz11_0 Hz110 sz110 => ?_) (fun uz11_1 Hz111 sz111 => ?_) N 0 a H hS e12)
      · have e := (if_pos uz11_0).symm.trans e
        cases e
        exact le_E (l1 := [(5, .int v5)]) ⟨rfl, trivial⟩ rfl (k0 rfl Hz110 sz110)
      · have e := (if_neg (show ¬ z11.1 = 0 by rw [uz11_1]; decide)).symm.trans e
        refine ex_s (am_nb (m := 2) (pc1 := 3) (ls1 := [(5, .int (v5 + 1)), (0, .ref 157), (1, .ref w1), (2, .int w2), (3, .int w3), (4, .int w4)]) (st1 := []) (H1 := Hz111) (k1 := 0) (n1 := 0) (by with_unfolding_all rfl)) ?_
        exact le_E (l1 := [(0, .ref 157), (1, .ref w1), (2, .int w2), (3, .int w3), (4, .int w4), (5, .int (v5 + 1))]) ⟨rfl, rfl, rfl, rfl, rfl, rfl, trivial⟩ rfl (ih (v5 + 1) z11.2 Hz111 sz111 e)

set_option maxRecDepth 100000 in
theorem tf279_entryOf {sL : Nat} {sx : Nat → Int32} {h b N : Nat} {T : List am_C} {r : Int32} {a' : xA} {x0 : Nat} {x1 : Int32} {x2 : Int32} {x3 : Int32} {a : xA} {H : am_H} (hS : xS h b T a H) (e : f279_entryOf N h b x0 x1 x2 x3 a = some (r, a')) : am_E sL sx am_cs 279 0 [(0, .ref 157), (1, .ref x0), (2, .int x1), (3, .int x2), (4, .int x3)] [] H (some (.int r)) (fun H1 => xS h b T a' H1) := by
  unfold f279_entryOf at e
  obtain ⟨g1, e⟩ := xg_some e
  refine ex_s (am_nb (m := 2) (pc1 := 3) (ls1 := [(5, .int 0), (0, .ref 157), (1, .ref x0), (2, .int x1), (3, .int x2), (4, .int x3)]) (st1 := []) (H1 := H) (k1 := 0) (n1 := 0) (by with_unfolding_all rfl)) ?_
  obtain ⟨z13, e14, e⟩ := Option.bind_eq_some_iff.mp e
  refine le_E (l1 := [(0, .ref 157), (1, .ref x0), (2, .int x1), (3, .int x2), (4, .int x3), (5, .int 0)]) ⟨rfl, rfl, rfl, rfl, rfl, rfl, trivial⟩ rfl (tl279_3 (z := z13) g1 (fun uz13_0 Hz130 sz130 => ?_) (fun uz13_1 Hz131 sz131 => ?_) N 0 a H hS e14)
  · have e := (if_pos uz13_0).symm.trans e
    refine ex_s (am_nb (m := 1) (pc1 := 44) (ls1 := [(5, .int z13.2.1)]) (st1 := [.int z13.2.1]) (H1 := Hz130) (k1 := 0) (n1 := 0) (by with_unfolding_all rfl)) ?_
    cases e
    exact ex_r (st_iret rfl rfl rfl) sz130
  · have e := (if_neg (show ¬ z13.1 = 0 by rw [uz13_1]; decide)).symm.trans e
    refine ex_s (am_nb (m := 1) (pc1 := 58) (ls1 := []) (st1 := [.int (-1)]) (H1 := Hz131) (k1 := 0) (n1 := 0) (by with_unfolding_all rfl)) ?_
    cases e
    exact ex_r (st_iret rfl rfl rfl) sz131

set_option maxRecDepth 100000 in
theorem tl277_15 {sL : Nat} {sx : Nat → Int32} {h b N : Nat} {T : List am_C} {R : Option Value} {F : am_H → Prop} {w1 : Int32} {z : Nat × xA} (k0 : z.1 = 0 → ∀ H2 : am_H, xS h b T z.2 H2 → am_E sL sx am_cs 277 42 [(0, .ref 157), (1, .int w1)] [] H2 R F) : ∀ (n : Nat) (a : xA) (H : am_H), xS h b T a H → l277_15 N h b w1 n a = some z → am_E sL sx am_cs 277 15 [(0, .ref 157), (1, .int w1)] [] H R F := by
  intro n
  induction n with
  | zero =>
    intro a H hS e
    cases e
  | succ n ih =>
    intro a H hS e
    unfold l277_15 at e
    refine ex_s (am_nb (m := 2) (pc1 := 17) (ls1 := [(0, .ref 157), (1, .int w1)]) (st1 := [.ref 157, .ref 157]) (H1 := H) (k1 := 0) (n1 := 0) (by with_unfolding_all rfl)) ?_
    refine xe_get (v := .int (a 157 15)) hS rfl rfl (by decide) rfl ?_
    obtain ⟨r7, a8, e6, e⟩ := xb2_some e
    refine ex_cv1 (as := [.int (a 157 15)]) (rest := []) rfl rfl rfl rfl (hS.obj rfl (by decide)) rfl (by with_unfolding_all rfl) (by with_unfolding_all rfl) (tf266_here hS e6) (fun H4 s5 => ?_)
    obtain ⟨r12, a13, e11, e⟩ := xb2_some e
    refine ex_cs1 (as := [.int r7]) (rest := []) rfl (by decide) rfl rfl (by with_unfolding_all rfl) (by with_unfolding_all rfl) (tf278_isOfName s5 e11) (fun H9 s10 => ?_)
    refine ex_s (st_if rfl) ?_
    by_cases c14 : r12 = 0
    · have e := (if_pos c14).symm.trans e
      refine ex_pc (if_pos c14) ?_
      cases e
      exact le_E (l1 := [(0, .ref 157), (1, .int w1)]) ⟨rfl, rfl, trivial⟩ rfl (k0 rfl H9 s10)
    · have e := (if_neg c14).symm.trans e
      refine ex_pc (if_neg c14) ?_
      refine ex_s (am_nb (m := 2) (pc1 := 31) (ls1 := [(0, .ref 157), (1, .int w1)]) (st1 := [.ref 157, .ref 157]) (H1 := H9) (k1 := 0) (n1 := 0) (by with_unfolding_all rfl)) ?_
      refine xe_get (v := .int (a13 157 15)) s10 rfl rfl (by decide) rfl ?_
      refine ex_s (am_nb (m := 2) (pc1 := 36) (ls1 := [(0, .ref 157), (1, .int w1)]) (st1 := [.int ((a13 157 15) + 1), .ref 157]) (H1 := H9) (k1 := 0) (n1 := 0) (by with_unfolding_all rfl)) ?_
      obtain ⟨a15, ha15, e⟩ := xw_some e
      refine xe_put (w := ((a13 157 15) + 1)) s10 rfl rfl (by decide) rfl rfl rfl rfl (fun H16 s17 => ?_)
      have s17 : xS h b T a15 H16 := by rw [ha15]; exact s17
      refine ex_s (am_nb (m := 1) (pc1 := 15) (ls1 := [(0, .ref 157), (1, .int w1)]) (st1 := []) (H1 := H16) (k1 := 0) (n1 := 0) (by with_unfolding_all rfl)) ?_
      exact le_E (l1 := [(0, .ref 157), (1, .int w1)]) ⟨rfl, rfl, trivial⟩ rfl (ih a15 H16 s17 e)

set_option maxRecDepth 100000 in
theorem tj277_57 {sL : Nat} {sx : Nat → Int32} {h b N : Nat} {T : List am_C} {r : Int32} {a' : xA} {a : xA} {H : am_H} (hS : xS h b T a H) (e : j277_57 N h b a = some (r, a')) : am_E sL sx am_cs 277 57 [(0, .ref 157)] [] H (some (.int r)) (fun H1 => xS h b T a' H1) := by
  unfold j277_57 at e
  refine ex_s (am_nb (m := 3) (pc1 := 60) (ls1 := [(0, .ref 157)]) (st1 := [.ref 157, .int 1, .ref 157]) (H1 := H) (k1 := 0) (n1 := 0) (by with_unfolding_all rfl)) ?_
  refine xe_get (v := .int (a 157 15)) hS rfl rfl (by decide) rfl ?_
  obtain ⟨r25, a26, e24, e⟩ := xb2_some e
  refine ex_cv1 (as := [.int 1, .int (a 157 15)]) (rest := []) rfl rfl rfl rfl (hS.obj rfl (by decide)) rfl (by with_unfolding_all rfl) (by with_unfolding_all rfl) (tf270_fails hS e24) (fun H22 s23 => ?_)
  obtain ⟨g27, e⟩ := xg_some e
  cases e
  exact ex_r (st_iret rfl rfl (xnar_z g27)) s23

set_option maxRecDepth 100000 in
theorem tf277_useOf {sL : Nat} {sx : Nat → Int32} {h b N : Nat} {T : List am_C} {r : Int32} {a' : xA} {a : xA} {H : am_H} (hS : xS h b T a H) (e : f277_useOf N h b a = some (r, a')) : am_E sL sx am_cs 277 0 [(0, .ref 157)] [] H (some (.int r)) (fun H1 => xS h b T a' H1) := by
  unfold f277_useOf at e
  refine ex_s (am_nb (m := 2) (pc1 := 2) (ls1 := [(0, .ref 157)]) (st1 := [.ref 157, .ref 157]) (H1 := H) (k1 := 0) (n1 := 0) (by with_unfolding_all rfl)) ?_
  refine xe_get (v := .int (a 157 15)) hS rfl rfl (by decide) rfl ?_
  refine ex_s (am_nb (m := 2) (pc1 := 7) (ls1 := [(0, .ref 157)]) (st1 := [.int ((a 157 15) + 1), .ref 157]) (H1 := H) (k1 := 0) (n1 := 0) (by with_unfolding_all rfl)) ?_
  obtain ⟨a1, ha1, e⟩ := xw_some e
  refine xe_put (w := ((a 157 15) + 1)) hS rfl rfl (by decide) rfl rfl rfl rfl (fun H2 s3 => ?_)
  have s3 : xS h b T a1 H2 := by rw [ha1]; exact s3
  refine ex_s (am_nb (m := 1) (pc1 := 11) (ls1 := [(0, .ref 157)]) (st1 := [.ref 157]) (H1 := H2) (k1 := 0) (n1 := 0) (by with_unfolding_all rfl)) ?_
  refine xe_get (v := .int (a1 157 15)) s3 rfl rfl (by decide) rfl ?_
  refine ex_s (am_nb (m := 1) (pc1 := 15) (ls1 := [(1, .int (a1 157 15)), (0, .ref 157)]) (st1 := []) (H1 := H2) (k1 := 0) (n1 := 0) (by with_unfolding_all rfl)) ?_
  obtain ⟨z18, e19, e⟩ := Option.bind_eq_some_iff.mp e
  refine le_E (l1 := [(0, .ref 157), (1, .int (a1 157 15))]) ⟨rfl, rfl, trivial⟩ rfl (tl277_15 (z := z18)  (fun uz18_0 Hz180 sz180 => ?_) N a1 H2 s3 e19)
  refine ex_s (am_nb (m := 1) (pc1 := 43) (ls1 := [(0, .ref 157), (1, .int (a1 157 15))]) (st1 := [.ref 157]) (H1 := Hz180) (k1 := 0) (n1 := 0) (by with_unfolding_all rfl)) ?_
  refine xe_get (v := .int (z18.2 157 15)) sz180 rfl rfl (by decide) rfl ?_
  refine ex_s (am_nb (m := 1) (pc1 := 47) (ls1 := [(0, .ref 157), (1, .int (a1 157 15))]) (st1 := [.int (a1 157 15), .int (z18.2 157 15)]) (H1 := Hz180) (k1 := 0) (n1 := 0) (by with_unfolding_all rfl)) ?_
  refine ex_s (st_icmp rfl) ?_
  by_cases c21 : (z18.2 157 15) = (a1 157 15)
  · have e := (if_pos c21).symm.trans e
    refine ex_pc (if_pos c21) ?_
    exact le_E (l1 := [(0, .ref 157)]) ⟨rfl, trivial⟩ rfl (tj277_57  sz180 e)
  · have e := (if_neg c21).symm.trans e
    refine ex_pc (if_neg c21) ?_
    refine ex_s (am_nb (m := 1) (pc1 := 51) (ls1 := [(0, .ref 157), (1, .int (a1 157 15))]) (st1 := [.ref 157]) (H1 := Hz180) (k1 := 0) (n1 := 0) (by with_unfolding_all rfl)) ?_
    obtain ⟨r31, a32, e30, e⟩ := xb2_some e
    refine ex_cv1 (as := []) (rest := []) rfl rfl rfl rfl (sz180.obj rfl (by decide)) rfl (by with_unfolding_all rfl) (by with_unfolding_all rfl) (tf275_isNone sz180 e30) (fun H28 s29 => ?_)
    refine ex_s (st_if rfl) ?_
    by_cases c33 : r31 = 0
    · have e := (if_pos c33).symm.trans e
      refine ex_pc (if_pos c33) ?_
      refine ex_s (am_nb (m := 1) (pc1 := 68) (ls1 := [(0, .ref 157), (1, .int (a1 157 15))]) (st1 := [.ref 157]) (H1 := H28) (k1 := 0) (n1 := 0) (by with_unfolding_all rfl)) ?_
      refine xe_get (v := .int (a32 157 15)) s29 rfl rfl (by decide) rfl ?_
      refine ex_s (am_nb (m := 3) (pc1 := 75) (ls1 := [(0, .ref 157), (1, .int (a1 157 15))]) (st1 := [.int 12, .int ((a32 157 15) - (a1 157 15))]) (H1 := H28) (k1 := 0) (n1 := 0) (by with_unfolding_all rfl)) ?_
      refine ex_s (st_icmp rfl) ?_
      by_cases c34 : ((a32 157 15) - (a1 157 15)) ≤ 12
      · have e := (if_pos c34).symm.trans e
        refine ex_pc (if_pos c34) ?_
        refine ex_s (am_nb (m := 1) (pc1 := 86) (ls1 := [(0, .ref 157), (1, .int (a1 157 15))]) (st1 := [.ref 157]) (H1 := H28) (k1 := 0) (n1 := 0) (by with_unfolding_all rfl)) ?_
        refine xe_get (v := .int (a32 157 19)) s29 rfl rfl (by decide) rfl ?_
        refine ex_s (am_nb (m := 1) (pc1 := 90) (ls1 := [(0, .ref 157), (1, .int (a1 157 15))]) (st1 := [.int 4, .int (a32 157 19)]) (H1 := H28) (k1 := 0) (n1 := 0) (by with_unfolding_all rfl)) ?_
        refine ex_s (st_icmp rfl) ?_
        by_cases c35 : (a32 157 19) = 4
        · have e := (if_pos c35).symm.trans e
          refine ex_pc (if_pos c35) ?_
          refine ex_s (am_nb (m := 3) (pc1 := 97) (ls1 := [(0, .ref 157), (1, .int (a1 157 15))]) (st1 := [.int (a1 157 15), .int 11, .ref 157]) (H1 := H28) (k1 := 0) (n1 := 0) (by with_unfolding_all rfl)) ?_
          obtain ⟨r39, a40, e38, e⟩ := xb2_some e
          refine ex_cv1 (as := [.int 11, .int (a1 157 15)]) (rest := []) rfl rfl rfl rfl (s29.obj rfl (by decide)) rfl (by with_unfolding_all rfl) (by with_unfolding_all rfl) (tf270_fails s29 e38) (fun H36 s37 => ?_)
          obtain ⟨g41, e⟩ := xg_some e
          cases e
          exact ex_r (st_iret rfl rfl (xnar_z g41)) s37
        · have e := (if_neg c35).symm.trans e
          refine ex_pc (if_neg c35) ?_
          refine ex_s (am_nb (m := 2) (pc1 := 103) (ls1 := [(0, .ref 157), (1, .int (a1 157 15))]) (st1 := [.ref 157, .ref 157]) (H1 := H28) (k1 := 0) (n1 := 0) (by with_unfolding_all rfl)) ?_
          refine xe_get (v := .ref 158) s29 rfl rfl (by decide) rfl ?_
          refine ex_s (am_nb (m := 2) (pc1 := 108) (ls1 := [(0, .ref 157), (1, .int (a1 157 15))]) (st1 := [.ref 157, .int (a1 157 15), .ref 158, .ref 157]) (H1 := H28) (k1 := 0) (n1 := 0) (by with_unfolding_all rfl)) ?_
          refine xe_get (v := .int (a32 157 15)) s29 rfl rfl (by decide) rfl ?_
          refine ex_s (am_nb (m := 3) (pc1 := 114) (ls1 := [(0, .ref 157), (1, .int (a1 157 15))]) (st1 := [.ref 157, .int ((a32 157 15) - (a1 157 15)), .int (a1 157 15), .ref 158, .ref 157]) (H1 := H28) (k1 := 0) (n1 := 0) (by with_unfolding_all rfl)) ?_
          refine xe_get (v := .int (a32 157 17)) s29 rfl rfl (by decide) rfl ?_
          obtain ⟨r45, a46, e44, e⟩ := xb2_some e
          refine ex_cv1 (as := [.ref 158, .int (a1 157 15), .int ((a32 157 15) - (a1 157 15)), .int (a32 157 17)]) (rest := []) rfl rfl rfl rfl (s29.obj rfl (by decide)) rfl (by with_unfolding_all rfl) (by with_unfolding_all rfl) (tf279_entryOf s29 e44) (fun H42 s43 => ?_)
          refine ex_s (am_nb (m := 3) (pc1 := 123) (ls1 := [(2, .int r45), (0, .ref 157), (1, .int (a1 157 15))]) (st1 := [.int (-1), .int r45]) (H1 := H42) (k1 := 0) (n1 := 0) (by with_unfolding_all rfl)) ?_
          refine ex_s (st_icmp rfl) ?_
          by_cases c47 : r45 = (-1)
          · have e := (if_pos c47).symm.trans e
            refine ex_pc (if_pos c47) ?_
            refine ex_s (am_nb (m := 3) (pc1 := 130) (ls1 := [(2, .int r45), (0, .ref 157), (1, .int (a1 157 15))]) (st1 := [.int (a1 157 15), .int 9, .ref 157]) (H1 := H42) (k1 := 0) (n1 := 0) (by with_unfolding_all rfl)) ?_
            obtain ⟨r51, a52, e50, e⟩ := xb2_some e
            refine ex_cv1 (as := [.int 9, .int (a1 157 15)]) (rest := []) rfl rfl rfl rfl (s43.obj rfl (by decide)) rfl (by with_unfolding_all rfl) (by with_unfolding_all rfl) (tf270_fails s43 e50) (fun H48 s49 => ?_)
            obtain ⟨g53, e⟩ := xg_some e
            cases e
            exact ex_r (st_iret rfl rfl (xnar_z g53)) s49
          · have e := (if_neg c47).symm.trans e
            refine ex_pc (if_neg c47) ?_
            refine ex_s (am_nb (m := 1) (pc1 := 135) (ls1 := [(2, .int r45), (0, .ref 157), (1, .int (a1 157 15))]) (st1 := [.ref 157]) (H1 := H42) (k1 := 0) (n1 := 0) (by with_unfolding_all rfl)) ?_
            refine xe_get (v := .ref 167) s43 rfl rfl (by decide) rfl ?_
            refine ex_s (am_nb (m := 1) (pc1 := 139) (ls1 := [(2, .int r45), (0, .ref 157), (1, .int (a1 157 15))]) (st1 := [.ref 157, .ref 167]) (H1 := H42) (k1 := 0) (n1 := 0) (by with_unfolding_all rfl)) ?_
            refine xe_get (v := .int (a46 157 19)) s43 rfl rfl (by decide) rfl ?_
            refine ex_s (am_nb (m := 1) (pc1 := 143) (ls1 := [(2, .int r45), (0, .ref 157), (1, .int (a1 157 15))]) (st1 := [.int r45, .int (a46 157 19), .ref 167]) (H1 := H42) (k1 := 0) (n1 := 0) (by with_unfolding_all rfl)) ?_
            obtain ⟨g57, e⟩ := xg_some e
            obtain ⟨a54, ha54, e⟩ := xw_some e
            refine xe_iast s43 rfl rfl g57 (fun H55 s56 => ?_)
            have s56 : xS h b T a54 H55 := by rw [ha54]; exact s56
            refine ex_s (am_nb (m := 2) (pc1 := 146) (ls1 := [(2, .int r45), (0, .ref 157), (1, .int (a1 157 15))]) (st1 := [.ref 157, .ref 157]) (H1 := H55) (k1 := 0) (n1 := 0) (by with_unfolding_all rfl)) ?_
            refine xe_get (v := .int (a54 157 19)) s56 rfl rfl (by decide) rfl ?_
            refine ex_s (am_nb (m := 2) (pc1 := 151) (ls1 := [(2, .int r45), (0, .ref 157), (1, .int (a1 157 15))]) (st1 := [.int ((a54 157 19) + 1), .ref 157]) (H1 := H55) (k1 := 0) (n1 := 0) (by with_unfolding_all rfl)) ?_
            obtain ⟨a58, ha58, e⟩ := xw_some e
            refine xe_put (w := ((a54 157 19) + 1)) s56 rfl rfl (by decide) rfl rfl rfl rfl (fun H59 s60 => ?_)
            have s60 : xS h b T a58 H59 := by rw [ha58]; exact s60
            refine ex_s (am_nb (m := 1) (pc1 := 155) (ls1 := [(2, .int r45), (0, .ref 157), (1, .int (a1 157 15))]) (st1 := [.int 1]) (H1 := H59) (k1 := 0) (n1 := 0) (by with_unfolding_all rfl)) ?_
            cases e
            exact ex_r (st_iret rfl rfl rfl) s60
      · have e := (if_neg c34).symm.trans e
        refine ex_pc (if_neg c34) ?_
        refine ex_s (am_nb (m := 3) (pc1 := 81) (ls1 := [(0, .ref 157), (1, .int (a1 157 15))]) (st1 := [.int (a1 157 15), .int 2, .ref 157]) (H1 := H28) (k1 := 0) (n1 := 0) (by with_unfolding_all rfl)) ?_
        obtain ⟨r64, a65, e63, e⟩ := xb2_some e
        refine ex_cv1 (as := [.int 2, .int (a1 157 15)]) (rest := []) rfl rfl rfl rfl (s29.obj rfl (by decide)) rfl (by with_unfolding_all rfl) (by with_unfolding_all rfl) (tf270_fails s29 e63) (fun H61 s62 => ?_)
        obtain ⟨g66, e⟩ := xg_some e
        cases e
        exact ex_r (st_iret rfl rfl (xnar_z g66)) s62
    · have e := (if_neg c33).symm.trans e
      refine ex_pc (if_neg c33) ?_
      exact le_E (l1 := [(0, .ref 157)]) ⟨rfl, trivial⟩ rfl (tj277_57  s29 e)

set_option maxRecDepth 100000 in
theorem tj281_112 {sL : Nat} {sx : Nat → Int32} {h b N : Nat} {T : List am_C} {R : Option Value} {F : am_H → Prop} {w1 : Int32} {w2 : Int32} {w3 : Int32} {z : Nat × Int32 × xA} {rc : Int32 → Int32 → xA → Option (Nat × Int32 × xA)} (k0 : z.1 = 0 → ∀ H2 : am_H, xS h b T z.2.2 H2 → am_E sL sx am_cs 281 120 [(0, .ref 157), (1, .int w1), (2, .int w2), (3, .int w3), (4, .int z.2.1)] [] H2 R F) (ih : ∀ (v4 : Int32) (v5 : Int32) (a : xA) (H : am_H), xS h b T a H → rc v4 v5 a = some z → am_E sL sx am_cs 281 23 [(0, .ref 157), (1, .int w1), (2, .int w2), (3, .int w3), (4, .int v4), (5, .int v5)] [] H R F) {q5 : Int32} {t0 : Int32} {a : xA} {H : am_H} (hS : xS h b T a H) (e : j281_112 N h b rc w1 w2 w3 q5 t0 a = some z) : am_E sL sx am_cs 281 112 [(0, .ref 157), (1, .int w1), (2, .int w2), (3, .int w3), (5, .int q5)] [.int t0] H R F := by
  unfold j281_112 at e
  refine ex_s (am_nb (m := 3) (pc1 := 23) (ls1 := [(5, .int (q5 + 1)), (4, .int t0), (0, .ref 157), (1, .int w1), (2, .int w2), (3, .int w3)]) (st1 := []) (H1 := H) (k1 := 0) (n1 := 0) (by with_unfolding_all rfl)) ?_
  exact le_E (l1 := [(0, .ref 157), (1, .int w1), (2, .int w2), (3, .int w3), (4, .int t0), (5, .int (q5 + 1))]) ⟨rfl, rfl, rfl, rfl, rfl, rfl, trivial⟩ rfl (ih t0 (q5 + 1) a H hS e)

set_option maxRecDepth 100000 in
theorem tj281_87 {sL : Nat} {sx : Nat → Int32} {h b N : Nat} {T : List am_C} {R : Option Value} {F : am_H → Prop} {w1 : Int32} {w2 : Int32} {w3 : Int32} {z : Nat × Int32 × xA} {rc : Int32 → Int32 → xA → Option (Nat × Int32 × xA)} (k0 : z.1 = 0 → ∀ H2 : am_H, xS h b T z.2.2 H2 → am_E sL sx am_cs 281 120 [(0, .ref 157), (1, .int w1), (2, .int w2), (3, .int w3), (4, .int z.2.1)] [] H2 R F) (ih : ∀ (v4 : Int32) (v5 : Int32) (a : xA) (H : am_H), xS h b T a H → rc v4 v5 a = some z → am_E sL sx am_cs 281 23 [(0, .ref 157), (1, .int w1), (2, .int w2), (3, .int w3), (4, .int v4), (5, .int v5)] [] H R F) {q5 : Int32} {a : xA} {H : am_H} (hS : xS h b T a H) (e : j281_87 N h b rc w1 w2 w3 q5 a = some z) : am_E sL sx am_cs 281 87 [(0, .ref 157), (1, .int w1), (2, .int w2), (3, .int w3), (5, .int q5)] [] H R F := by
  unfold j281_87 at e
  refine ex_s (am_nb (m := 2) (pc1 := 112) (ls1 := [(0, .ref 157), (1, .int w1), (2, .int w2), (3, .int w3), (5, .int q5)]) (st1 := [.int 0]) (H1 := H) (k1 := 0) (n1 := 0) (by with_unfolding_all rfl)) ?_
  exact le_E (l1 := [(0, .ref 157), (1, .int w1), (2, .int w2), (3, .int w3), (5, .int q5)]) ⟨rfl, rfl, rfl, rfl, rfl, trivial⟩ rfl (tj281_112 k0 ih  hS e)

set_option maxRecDepth 100000 in
theorem tl281_23 {sL : Nat} {sx : Nat → Int32} {h b N : Nat} {T : List am_C} {R : Option Value} {F : am_H → Prop} {w1 : Int32} {w2 : Int32} {w3 : Int32} {z : Nat × Int32 × xA} (k0 : z.1 = 0 → ∀ H2 : am_H, xS h b T z.2.2 H2 → am_E sL sx am_cs 281 120 [(0, .ref 157), (1, .int w1), (2, .int w2), (3, .int w3), (4, .int z.2.1)] [] H2 R F) : ∀ (n : Nat) (v4 : Int32) (v5 : Int32) (a : xA) (H : am_H), xS h b T a H → l281_23 N h b w1 w2 w3 n v4 v5 a = some z → am_E sL sx am_cs 281 23 [(0, .ref 157), (1, .int w1), (2, .int w2), (3, .int w3), (4, .int v4), (5, .int v5)] [] H R F := by
  intro n
  induction n with
  | zero =>
    intro v4 v5 a H hS e
    cases e
  | succ n ih =>
    intro v4 v5 a H hS e
    unfold l281_23 at e
    refine ex_s (am_nb (m := 2) (pc1 := 26) (ls1 := [(0, .ref 157), (1, .int w1), (2, .int w2), (3, .int w3), (4, .int v4), (5, .int v5)]) (st1 := [.int 5, .int v5]) (H1 := H) (k1 := 0) (n1 := 0) (by with_unfolding_all rfl)) ?_
    refine ex_s (st_icmp rfl) ?_
    by_cases c3 : 5 ≤ v5
    · have e := (if_pos c3).symm.trans e
      refine ex_pc (if_pos c3) ?_
      cases e
      exact le_E (l1 := [(0, .ref 157), (1, .int w1), (2, .int w2), (3, .int w3), (4, .int v4)]) ⟨rfl, rfl, rfl, rfl, rfl, trivial⟩ rfl (k0 rfl H hS)
    · have e := (if_neg c3).symm.trans e
      refine ex_pc (if_neg c3) ?_
      refine ex_s (am_nb (m := 1) (pc1 := 31) (ls1 := [(0, .ref 157), (1, .int w1), (2, .int w2), (3, .int w3), (4, .int v4), (5, .int v5)]) (st1 := [.int v4]) (H1 := H) (k1 := 0) (n1 := 0) (by with_unfolding_all rfl)) ?_
      refine ex_s (st_if rfl) ?_
      by_cases c4 : v4 = 0
      · have e := (if_pos c4).symm.trans e
        refine ex_pc (if_pos c4) ?_
        cases e
        exact le_E (l1 := [(0, .ref 157), (1, .int w1), (2, .int w2), (3, .int w3), (4, .int v4)]) ⟨rfl, rfl, rfl, rfl, rfl, trivial⟩ rfl (k0 rfl H hS)
      · have e := (if_neg c4).symm.trans e
        refine ex_pc (if_neg c4) ?_
        refine ex_s (am_nb (m := 2) (pc1 := 37) (ls1 := [(0, .ref 157), (1, .int w1), (2, .int w2), (3, .int w3), (4, .int v4), (5, .int v5)]) (st1 := [.int w2, .int v5]) (H1 := H) (k1 := 0) (n1 := 0) (by with_unfolding_all rfl)) ?_
        refine ex_s (st_icmp rfl) ?_
        by_cases c5 : w2 ≤ v5
        · have e := (if_pos c5).symm.trans e
          refine ex_pc (if_pos c5) ?_
          refine ex_s (am_nb (m := 6) (pc1 := 99) (ls1 := [(0, .ref 157), (1, .int w1), (2, .int w2), (3, .int w3), (4, .int v4), (5, .int v5)]) (st1 := [.int ((5 * w3) + v5), .retAddr 4]) (H1 := H) (k1 := 0) (n1 := 0) (by with_unfolding_all rfl)) ?_
          obtain ⟨g6, e⟩ := xg_some e
          obtain ⟨r7, er7, e⟩ := xbc_some e
          refine ex_s (st_chr rfl g6 er7 (by decide)) ?_
          refine ex_s (am_nb (m := 1) (pc1 := 104) (ls1 := [(0, .ref 157), (1, .int w1), (2, .int w2), (3, .int w3), (4, .int v4), (5, .int v5)]) (st1 := [.int 32, .int r7]) (H1 := H) (k1 := 0) (n1 := 0) (by with_unfolding_all rfl)) ?_
          have kk : am_E sL sx am_cs 281 112 [(0, .ref 157), (1, .int w1), (2, .int w2), (3, .int w3), (4, .int v4), (5, .int v5)] [.int (if r7 = 32 then (1 : Int32) else (0 : Int32))] H R F := by
            refine ex_s (am_nb (m := 3) (pc1 := 23) (ls1 := [(5, .int (v5 + 1)), (4, .int (if r7 = 32 then (1 : Int32) else (0 : Int32))), (0, .ref 157), (1, .int w1), (2, .int w2), (3, .int w3)]) (st1 := []) (H1 := H) (k1 := 0) (n1 := 0) (by with_unfolding_all rfl)) ?_
            exact le_E (l1 := [(0, .ref 157), (1, .int w1), (2, .int w2), (3, .int w3), (4, .int (if r7 = 32 then (1 : Int32) else (0 : Int32))), (5, .int (v5 + 1))]) ⟨rfl, rfl, rfl, rfl, rfl, rfl, trivial⟩ rfl (ih (if r7 = 32 then (1 : Int32) else (0 : Int32)) (v5 + 1) a H hS e)
          refine ex_s (st_icmp rfl) ?_
          by_cases c8 : r7 = 32
          · refine ex_pc (if_pos c8) ?_
            refine ex_s (am_nb (m := 2) (pc1 := 112) (ls1 := [(0, .ref 157), (1, .int w1), (2, .int w2), (3, .int w3), (4, .int v4), (5, .int v5)]) (st1 := [.int 1]) (H1 := H) (k1 := 0) (n1 := 0) (by with_unfolding_all rfl)) ?_
            rw [if_pos c8] at kk
            exact kk
          · refine ex_pc (if_neg c8) ?_
            refine ex_s (am_nb (m := 1) (pc1 := 112) (ls1 := [(0, .ref 157), (1, .int w1), (2, .int w2), (3, .int w3), (4, .int v4), (5, .int v5)]) (st1 := [.int 0]) (H1 := H) (k1 := 0) (n1 := 0) (by with_unfolding_all rfl)) ?_
            rw [if_neg c8] at kk
            exact kk
        · have e := (if_neg c5).symm.trans e
          refine ex_pc (if_neg c5) ?_
          refine ex_s (am_nb (m := 6) (pc1 := 48) (ls1 := [(0, .ref 157), (1, .int w1), (2, .int w2), (3, .int w3), (4, .int v4), (5, .int v5)]) (st1 := [.int ((5 * w3) + v5), .retAddr 4]) (H1 := H) (k1 := 0) (n1 := 0) (by with_unfolding_all rfl)) ?_
          obtain ⟨g9, e⟩ := xg_some e
          obtain ⟨r10, er10, e⟩ := xbc_some e
          refine ex_s (st_chr rfl g9 er10 (by decide)) ?_
          refine ex_s (am_nb (m := 1) (pc1 := 53) (ls1 := [(0, .ref 157), (1, .int w1), (2, .int w2), (3, .int w3), (4, .int v4), (5, .int v5)]) (st1 := [.int 32, .int r10]) (H1 := H) (k1 := 0) (n1 := 0) (by with_unfolding_all rfl)) ?_
          refine ex_s (st_icmp rfl) ?_
          by_cases c12 : r10 = 32
          · have e := (if_pos c12).symm.trans e
            refine ex_pc (if_pos c12) ?_
            exact le_E (l1 := [(0, .ref 157), (1, .int w1), (2, .int w2), (3, .int w3), (5, .int v5)]) ⟨rfl, rfl, rfl, rfl, rfl, trivial⟩ rfl (tj281_87 k0 ih  hS e)
          · have e := (if_neg c12).symm.trans e
            refine ex_pc (if_neg c12) ?_
            refine ex_s (am_nb (m := 6) (pc1 := 64) (ls1 := [(0, .ref 157), (1, .int w1), (2, .int w2), (3, .int w3), (4, .int v4), (5, .int v5)]) (st1 := [.int ((5 * w3) + v5), .retAddr 4]) (H1 := H) (k1 := 0) (n1 := 0) (by with_unfolding_all rfl)) ?_
            obtain ⟨r13, er13, e⟩ := xbc_some e
            refine ex_s (st_chr rfl g9 er13 (by decide)) ?_
            refine ex_s (am_nb (m := 1) (pc1 := 68) (ls1 := [(0, .ref 157), (1, .int w1), (2, .int w2), (3, .int w3), (4, .int v4), (5, .int v5)]) (st1 := [.ref 157, .int r13]) (H1 := H) (k1 := 0) (n1 := 0) (by with_unfolding_all rfl)) ?_
            refine xe_get (v := .ref 158) hS rfl rfl (by decide) rfl ?_
            refine ex_s (am_nb (m := 3) (pc1 := 75) (ls1 := [(0, .ref 157), (1, .int w1), (2, .int w2), (3, .int w3), (4, .int v4), (5, .int v5)]) (st1 := [.int (w1 + v5), .ref 158, .int r13]) (H1 := H) (k1 := 0) (n1 := 0) (by with_unfolding_all rfl)) ?_
            obtain ⟨g14, e⟩ := xg_some e
            refine xe_bald hS rfl rfl g14 ?_
            refine ex_s (am_nb (m := 2) (pc1 := 80) (ls1 := [(0, .ref 157), (1, .int w1), (2, .int w2), (3, .int w3), (4, .int v4), (5, .int v5)]) (st1 := [.int ((a 158 ((w1 + v5).toNatClampNeg)) &&& 255), .int r13]) (H1 := H) (k1 := 0) (n1 := 0) (by with_unfolding_all rfl)) ?_
            have kk : am_E sL sx am_cs 281 112 [(0, .ref 157), (1, .int w1), (2, .int w2), (3, .int w3), (4, .int v4), (5, .int v5)] [.int (if r13 = ((a 158 ((w1 + v5).toNatClampNeg)) &&& 255) then (1 : Int32) else (0 : Int32))] H R F := by
              refine ex_s (am_nb (m := 3) (pc1 := 23) (ls1 := [(5, .int (v5 + 1)), (4, .int (if r13 = ((a 158 ((w1 + v5).toNatClampNeg)) &&& 255) then (1 : Int32) else (0 : Int32))), (0, .ref 157), (1, .int w1), (2, .int w2), (3, .int w3)]) (st1 := []) (H1 := H) (k1 := 0) (n1 := 0) (by with_unfolding_all rfl)) ?_
              exact le_E (l1 := [(0, .ref 157), (1, .int w1), (2, .int w2), (3, .int w3), (4, .int (if r13 = ((a 158 ((w1 + v5).toNatClampNeg)) &&& 255) then (1 : Int32) else (0 : Int32))), (5, .int (v5 + 1))]) ⟨rfl, rfl, rfl, rfl, rfl, rfl, trivial⟩ rfl (ih (if r13 = ((a 158 ((w1 + v5).toNatClampNeg)) &&& 255) then (1 : Int32) else (0 : Int32)) (v5 + 1) a H hS e)
            refine ex_s (st_icmp rfl) ?_
            by_cases c15 : r13 = ((a 158 ((w1 + v5).toNatClampNeg)) &&& 255)
            · refine ex_pc (if_pos c15) ?_
              refine ex_s (am_nb (m := 2) (pc1 := 112) (ls1 := [(0, .ref 157), (1, .int w1), (2, .int w2), (3, .int w3), (4, .int v4), (5, .int v5)]) (st1 := [.int 1]) (H1 := H) (k1 := 0) (n1 := 0) (by with_unfolding_all rfl)) ?_
              rw [if_pos c15] at kk
              exact kk
            · refine ex_pc (if_neg c15) ?_
              refine ex_s (am_nb (m := 2) (pc1 := 112) (ls1 := [(0, .ref 157), (1, .int w1), (2, .int w2), (3, .int w3), (4, .int v4), (5, .int v5)]) (st1 := [.int 0]) (H1 := H) (k1 := 0) (n1 := 0) (by with_unfolding_all rfl)) ?_
              rw [if_neg c15] at kk
              exact kk

set_option maxRecDepth 100000 in
theorem tj281_120 {sL : Nat} {sx : Nat → Int32} {h b N : Nat} {T : List am_C} {R : Option Value} {F : am_H → Prop} {w1 : Int32} {w2 : Int32} {z : Nat × Int32 × xA} {rc : Int32 → xA → Option (Nat × Int32 × xA)} (k0 : z.1 = 0 → ∀ H2 : am_H, xS h b T z.2.2 H2 → am_E sL sx am_cs 281 125 [(3, .int z.2.1)] [] H2 R F) (k1 : z.1 = 1 → ∀ H2 : am_H, xS h b T z.2.2 H2 → am_E sL sx am_cs 281 133 [] [] H2 R F) (ih : ∀ (v3 : Int32) (a : xA) (H : am_H), xS h b T a H → rc v3 a = some z → am_E sL sx am_cs 281 2 [(0, .ref 157), (1, .int w1), (2, .int w2), (3, .int v3)] [] H R F) {q3 : Int32} {q4 : Int32} {a : xA} {H : am_H} (hS : xS h b T a H) (e : j281_120 N h b rc w1 w2 q3 q4 a = some z) : am_E sL sx am_cs 281 120 [(0, .ref 157), (1, .int w1), (2, .int w2), (3, .int q3), (4, .int q4)] [] H R F := by
  unfold j281_120 at e
  refine ex_s (am_nb (m := 1) (pc1 := 122) (ls1 := [(0, .ref 157), (1, .int w1), (2, .int w2), (3, .int q3), (4, .int q4)]) (st1 := [.int q4]) (H1 := H) (k1 := 0) (n1 := 0) (by with_unfolding_all rfl)) ?_
  refine ex_s (st_if rfl) ?_
  by_cases c18 : q4 = 0
  · have e := (if_pos c18).symm.trans e
    refine ex_pc (if_pos c18) ?_
    refine ex_s (am_nb (m := 2) (pc1 := 2) (ls1 := [(3, .int (q3 + 1)), (0, .ref 157), (1, .int w1), (2, .int w2), (4, .int q4)]) (st1 := []) (H1 := H) (k1 := 0) (n1 := 0) (by with_unfolding_all rfl)) ?_
    exact le_E (l1 := [(0, .ref 157), (1, .int w1), (2, .int w2), (3, .int (q3 + 1))]) ⟨rfl, rfl, rfl, rfl, trivial⟩ rfl (ih (q3 + 1) a H hS e)
  · have e := (if_neg c18).symm.trans e
    refine ex_pc (if_neg c18) ?_
    cases e
    exact le_E (l1 := [(3, .int q3)]) ⟨rfl, trivial⟩ rfl (k0 rfl H hS)

set_option maxRecDepth 100000 in
theorem tl281_2 {sL : Nat} {sx : Nat → Int32} {h b N : Nat} {T : List am_C} {R : Option Value} {F : am_H → Prop} {w1 : Int32} {w2 : Int32} {z : Nat × Int32 × xA} (k0 : z.1 = 0 → ∀ H2 : am_H, xS h b T z.2.2 H2 → am_E sL sx am_cs 281 125 [(3, .int z.2.1)] [] H2 R F) (k1 : z.1 = 1 → ∀ H2 : am_H, xS h b T z.2.2 H2 → am_E sL sx am_cs 281 133 [] [] H2 R F) : ∀ (n : Nat) (v3 : Int32) (a : xA) (H : am_H), xS h b T a H → l281_2 N h b w1 w2 n v3 a = some z → am_E sL sx am_cs 281 2 [(0, .ref 157), (1, .int w1), (2, .int w2), (3, .int v3)] [] H R F := by
  intro n
  induction n with
  | zero =>
    intro v3 a H hS e
    cases e
  | succ n ih =>
    intro v3 a H hS e
    unfold l281_2 at e
    refine ex_s (am_nb (m := 2) (pc1 := 5) (ls1 := [(0, .ref 157), (1, .int w1), (2, .int w2), (3, .int v3)]) (st1 := [.int 39, .int v3]) (H1 := H) (k1 := 0) (n1 := 0) (by with_unfolding_all rfl)) ?_
    refine ex_s (st_icmp rfl) ?_
    by_cases c1 : 39 ≤ v3
    · have e := (if_pos c1).symm.trans e
      refine ex_pc (if_pos c1) ?_
      cases e
      exact le_E (l1 := []) trivial rfl (k1 rfl H hS)
    · have e := (if_neg c1).symm.trans e
      refine ex_pc (if_neg c1) ?_
      refine ex_s (am_nb (m := 2) (pc1 := 10) (ls1 := [(0, .ref 157), (1, .int w1), (2, .int w2), (3, .int v3)]) (st1 := [.int 5, .int w2]) (H1 := H) (k1 := 0) (n1 := 0) (by with_unfolding_all rfl)) ?_
      have kk : am_E sL sx am_cs 281 18 [(0, .ref 157), (1, .int w1), (2, .int w2), (3, .int v3)] [.int (if 5 < w2 then (0 : Int32) else (1 : Int32))] H R F := by
        refine ex_s (am_nb (m := 3) (pc1 := 23) (ls1 := [(5, .int 0), (4, .int (if 5 < w2 then (0 : Int32) else (1 : Int32))), (0, .ref 157), (1, .int w1), (2, .int w2), (3, .int v3)]) (st1 := []) (H1 := H) (k1 := 0) (n1 := 0) (by with_unfolding_all rfl)) ?_
        obtain ⟨z16, e17, e⟩ := Option.bind_eq_some_iff.mp e
        refine le_E (l1 := [(0, .ref 157), (1, .int w1), (2, .int w2), (3, .int v3), (4, .int (if 5 < w2 then (0 : Int32) else (1 : Int32))), (5, .int 0)]) ⟨rfl, rfl, rfl, rfl, rfl, rfl, trivial⟩ rfl (tl281_23 (z := z16)  (fun uz16_0 Hz160 sz160 => ?_) N (if 5 < w2 then (0 : Int32) else (1 : Int32)) 0 a H hS e17)
        exact le_E (l1 := [(0, .ref 157), (1, .int w1), (2, .int w2), (3, .int v3), (4, .int z16.2.1)]) ⟨rfl, rfl, rfl, rfl, rfl, trivial⟩ rfl (tj281_120 k0 k1 ih  sz160 e)
      refine ex_s (st_icmp rfl) ?_
      by_cases c2 : 5 < w2
      · refine ex_pc (if_pos c2) ?_
        refine ex_s (am_nb (m := 1) (pc1 := 18) (ls1 := [(0, .ref 157), (1, .int w1), (2, .int w2), (3, .int v3)]) (st1 := [.int 0]) (H1 := H) (k1 := 0) (n1 := 0) (by with_unfolding_all rfl)) ?_
        rw [if_pos c2] at kk
        exact kk
      · refine ex_pc (if_neg c2) ?_
        refine ex_s (am_nb (m := 2) (pc1 := 18) (ls1 := [(0, .ref 157), (1, .int w1), (2, .int w2), (3, .int v3)]) (st1 := [.int 1]) (H1 := H) (k1 := 0) (n1 := 0) (by with_unfolding_all rfl)) ?_
        rw [if_neg c2] at kk
        exact kk

set_option maxRecDepth 100000 in
theorem tf281_abilityOf {sL : Nat} {sx : Nat → Int32} {h b N : Nat} {T : List am_C} {r : Int32} {a' : xA} {x0 : Int32} {x1 : Int32} {a : xA} {H : am_H} (hS : xS h b T a H) (e : f281_abilityOf N h b x0 x1 a = some (r, a')) : am_E sL sx am_cs 281 0 [(0, .ref 157), (1, .int x0), (2, .int x1)] [] H (some (.int r)) (fun H1 => xS h b T a' H1) := by
  unfold f281_abilityOf at e
  refine ex_s (am_nb (m := 2) (pc1 := 2) (ls1 := [(3, .int 0), (0, .ref 157), (1, .int x0), (2, .int x1)]) (st1 := []) (H1 := H) (k1 := 0) (n1 := 0) (by with_unfolding_all rfl)) ?_
  obtain ⟨z19, e20, e⟩ := Option.bind_eq_some_iff.mp e
  refine le_E (l1 := [(0, .ref 157), (1, .int x0), (2, .int x1), (3, .int 0)]) ⟨rfl, rfl, rfl, rfl, trivial⟩ rfl (tl281_2 (z := z19)  (fun uz19_0 Hz190 sz190 => ?_) (fun uz19_1 Hz191 sz191 => ?_) N 0 a H hS e20)
  · have e := (if_pos uz19_0).symm.trans e
    refine ex_s (am_nb (m := 1) (pc1 := 126) (ls1 := [(3, .int z19.2.1)]) (st1 := [.int z19.2.1]) (H1 := Hz190) (k1 := 0) (n1 := 0) (by with_unfolding_all rfl)) ?_
    cases e
    exact ex_r (st_iret rfl rfl rfl) sz190
  · have e := (if_neg (show ¬ z19.1 = 0 by rw [uz19_1]; decide)).symm.trans e
    refine ex_s (am_nb (m := 1) (pc1 := 134) (ls1 := []) (st1 := [.int (-1)]) (H1 := Hz191) (k1 := 0) (n1 := 0) (by with_unfolding_all rfl)) ?_
    cases e
    exact ex_r (st_iret rfl rfl rfl) sz191

set_option maxRecDepth 100000 in
theorem tl282_7 {sL : Nat} {sx : Nat → Int32} {h b N : Nat} {T : List am_C} {R : Option Value} {F : am_H → Prop} {w1 : Int32} {w2 : Int32} {z : Nat × Int64 × xA} (k0 : z.1 = 0 → ∀ H2 : am_H, xS h b T z.2.2 H2 → am_E sL sx am_cs 282 60 [(0, .ref 157), (1, .int w1), (2, .int w2), (3, .long z.2.1)] [] H2 R F) : ∀ (n : Nat) (v3 : Int64) (a : xA) (H : am_H), xS h b T a H → l282_7 N h b w1 w2 n v3 a = some z → am_E sL sx am_cs 282 7 [(0, .ref 157), (1, .int w1), (2, .int w2), (3, .long v3)] [] H R F := by
  intro n
  induction n with
  | zero =>
    intro v3 a H hS e
    cases e
  | succ n ih =>
    intro v3 a H hS e
    unfold l282_7 at e
    refine ex_s (am_nb (m := 2) (pc1 := 9) (ls1 := [(0, .ref 157), (1, .int w1), (2, .int w2), (3, .long v3)]) (st1 := [.ref 157, .ref 157]) (H1 := H) (k1 := 0) (n1 := 0) (by with_unfolding_all rfl)) ?_
    refine xe_get (v := .int (a 157 15)) hS rfl rfl (by decide) rfl ?_
    obtain ⟨r4, a5, e3, e⟩ := xb2_some e
    refine ex_cv1 (as := [.int (a 157 15)]) (rest := []) rfl rfl rfl rfl (hS.obj rfl (by decide)) rfl (by with_unfolding_all rfl) (by with_unfolding_all rfl) (tf266_here hS e3) (fun H1 s2 => ?_)
    obtain ⟨r9, a10, e8, e⟩ := xb2_some e
    refine ex_cs1 (as := [.int r4]) (rest := []) rfl (by decide) rfl rfl (by with_unfolding_all rfl) (by with_unfolding_all rfl) (tf274_isDigit s2 e8) (fun H6 s7 => ?_)
    refine ex_s (st_if rfl) ?_
    by_cases c11 : r9 = 0
    · have e := (if_pos c11).symm.trans e
      refine ex_pc (if_pos c11) ?_
      cases e
      exact le_E (l1 := [(0, .ref 157), (1, .int w1), (2, .int w2), (3, .long v3)]) ⟨rfl, rfl, rfl, rfl, trivial⟩ rfl (k0 rfl H6 s7)
    · have e := (if_neg c11).symm.trans e
      refine ex_pc (if_neg c11) ?_
      refine ex_s (am_nb (m := 5) (pc1 := 28) (ls1 := [(0, .ref 157), (1, .int w1), (2, .int w2), (3, .long v3)]) (st1 := [.ref 157, .ref 157, .long (10 * v3)]) (H1 := H6) (k1 := 0) (n1 := 0) (by with_unfolding_all rfl)) ?_
      refine xe_get (v := .int (a10 157 15)) s7 rfl rfl (by decide) rfl ?_
      obtain ⟨r15, a16, e14, e⟩ := xb2_some e
      refine ex_cv1 (as := [.int (a10 157 15)]) (rest := [.long (10 * v3)]) rfl rfl rfl rfl (s7.obj rfl (by decide)) rfl (by with_unfolding_all rfl) (by with_unfolding_all rfl) (tf266_here s7 e14) (fun H12 s13 => ?_)
      refine ex_s (am_nb (m := 9) (pc1 := 49) (ls1 := [(3, .long (xminl (((10 * v3) + r15.toInt64) - 48) 1000000)), (0, .ref 157), (1, .int w1), (2, .int w2)]) (st1 := [.ref 157, .ref 157]) (H1 := H12) (k1 := 0) (n1 := 0) (by with_unfolding_all rfl)) ?_
      refine xe_get (v := .int (a16 157 15)) s13 rfl rfl (by decide) rfl ?_
      refine ex_s (am_nb (m := 2) (pc1 := 54) (ls1 := [(3, .long (xminl (((10 * v3) + r15.toInt64) - 48) 1000000)), (0, .ref 157), (1, .int w1), (2, .int w2)]) (st1 := [.int ((a16 157 15) + 1), .ref 157]) (H1 := H12) (k1 := 0) (n1 := 0) (by with_unfolding_all rfl)) ?_
      obtain ⟨a17, ha17, e⟩ := xw_some e
      refine xe_put (w := ((a16 157 15) + 1)) s13 rfl rfl (by decide) rfl rfl rfl rfl (fun H18 s19 => ?_)
      have s19 : xS h b T a17 H18 := by rw [ha17]; exact s19
      refine ex_s (am_nb (m := 1) (pc1 := 7) (ls1 := [(3, .long (xminl (((10 * v3) + r15.toInt64) - 48) 1000000)), (0, .ref 157), (1, .int w1), (2, .int w2)]) (st1 := []) (H1 := H18) (k1 := 0) (n1 := 0) (by with_unfolding_all rfl)) ?_
      exact le_E (l1 := [(0, .ref 157), (1, .int w1), (2, .int w2), (3, .long (xminl (((10 * v3) + r15.toInt64) - 48) 1000000))]) ⟨rfl, rfl, rfl, rfl, trivial⟩ rfl (ih (xminl (((10 * v3) + r15.toInt64) - 48) 1000000) a17 H18 s19 e)

set_option maxRecDepth 100000 in
theorem tj282_75 {sL : Nat} {sx : Nat → Int32} {h b N : Nat} {T : List am_C} {r : Int32} {a' : xA} {a : xA} {H : am_H} (hS : xS h b T a H) (e : j282_75 N h b a = some (r, a')) : am_E sL sx am_cs 282 75 [(0, .ref 157)] [] H (some (.int r)) (fun H1 => xS h b T a' H1) := by
  unfold j282_75 at e
  refine ex_s (am_nb (m := 3) (pc1 := 78) (ls1 := [(0, .ref 157)]) (st1 := [.ref 157, .int 1, .ref 157]) (H1 := H) (k1 := 0) (n1 := 0) (by with_unfolding_all rfl)) ?_
  refine xe_get (v := .int (a 157 15)) hS rfl rfl (by decide) rfl ?_
  obtain ⟨r27, a28, e26, e⟩ := xb2_some e
  refine ex_cv1 (as := [.int 1, .int (a 157 15)]) (rest := []) rfl rfl rfl rfl (hS.obj rfl (by decide)) rfl (by with_unfolding_all rfl) (by with_unfolding_all rfl) (tf270_fails hS e26) (fun H24 s25 => ?_)
  obtain ⟨g29, e⟩ := xg_some e
  cases e
  exact ex_r (st_iret rfl rfl (xnar_z g29)) s25

set_option maxRecDepth 100000 in
theorem tj282_103 {sL : Nat} {sx : Nat → Int32} {h b N : Nat} {T : List am_C} {r : Int32} {a' : xA} {q2 : Int32} {a : xA} {H : am_H} (hS : xS h b T a H) (e : j282_103 N h b q2 a = some (r, a')) : am_E sL sx am_cs 282 103 [(0, .ref 157), (2, .int q2)] [] H (some (.int r)) (fun H1 => xS h b T a' H1) := by
  unfold j282_103 at e
  refine ex_s (am_nb (m := 3) (pc1 := 106) (ls1 := [(0, .ref 157), (2, .int q2)]) (st1 := [.int q2, .int 2, .ref 157]) (H1 := H) (k1 := 0) (n1 := 0) (by with_unfolding_all rfl)) ?_
  obtain ⟨r41, a42, e40, e⟩ := xb2_some e
  refine ex_cv1 (as := [.int 2, .int q2]) (rest := []) rfl rfl rfl rfl (hS.obj rfl (by decide)) rfl (by with_unfolding_all rfl) (by with_unfolding_all rfl) (tf270_fails hS e40) (fun H38 s39 => ?_)
  obtain ⟨g43, e⟩ := xg_some e
  cases e
  exact ex_r (st_iret rfl rfl (xnar_z g43)) s39

set_option maxRecDepth 100000 in
theorem tf282_digits {sL : Nat} {sx : Nat → Int32} {h b N : Nat} {T : List am_C} {r : Int32} {a' : xA} {x0 : Int32} {a : xA} {H : am_H} (hS : xS h b T a H) (e : f282_digits N h b x0 a = some (r, a')) : am_E sL sx am_cs 282 0 [(0, .ref 157), (1, .int x0)] [] H (some (.int r)) (fun H1 => xS h b T a' H1) := by
  unfold f282_digits at e
  refine ex_s (am_nb (m := 1) (pc1 := 1) (ls1 := [(0, .ref 157), (1, .int x0)]) (st1 := [.ref 157]) (H1 := H) (k1 := 0) (n1 := 0) (by with_unfolding_all rfl)) ?_
  refine xe_get (v := .int (a 157 15)) hS rfl rfl (by decide) rfl ?_
  refine ex_s (am_nb (m := 3) (pc1 := 7) (ls1 := [(3, .long 0), (2, .int (a 157 15)), (0, .ref 157), (1, .int x0)]) (st1 := []) (H1 := H) (k1 := 0) (n1 := 0) (by with_unfolding_all rfl)) ?_
  obtain ⟨z20, e21, e⟩ := Option.bind_eq_some_iff.mp e
  refine le_E (l1 := [(0, .ref 157), (1, .int x0), (2, .int (a 157 15)), (3, .long 0)]) ⟨rfl, rfl, rfl, rfl, trivial⟩ rfl (tl282_7 (z := z20)  (fun uz20_0 Hz200 sz200 => ?_) N 0 a H hS e21)
  refine ex_s (am_nb (m := 1) (pc1 := 61) (ls1 := [(0, .ref 157), (1, .int x0), (2, .int (a 157 15)), (3, .long z20.2.1)]) (st1 := [.ref 157]) (H1 := Hz200) (k1 := 0) (n1 := 0) (by with_unfolding_all rfl)) ?_
  refine xe_get (v := .int (z20.2.2 157 15)) sz200 rfl rfl (by decide) rfl ?_
  refine ex_s (am_nb (m := 1) (pc1 := 65) (ls1 := [(0, .ref 157), (1, .int x0), (2, .int (a 157 15)), (3, .long z20.2.1)]) (st1 := [.int (a 157 15), .int (z20.2.2 157 15)]) (H1 := Hz200) (k1 := 0) (n1 := 0) (by with_unfolding_all rfl)) ?_
  refine ex_s (st_icmp rfl) ?_
  by_cases c23 : (z20.2.2 157 15) = (a 157 15)
  · have e := (if_pos c23).symm.trans e
    refine ex_pc (if_pos c23) ?_
    exact le_E (l1 := [(0, .ref 157)]) ⟨rfl, trivial⟩ rfl (tj282_75  sz200 e)
  · have e := (if_neg c23).symm.trans e
    refine ex_pc (if_neg c23) ?_
    refine ex_s (am_nb (m := 1) (pc1 := 69) (ls1 := [(0, .ref 157), (1, .int x0), (2, .int (a 157 15)), (3, .long z20.2.1)]) (st1 := [.ref 157]) (H1 := Hz200) (k1 := 0) (n1 := 0) (by with_unfolding_all rfl)) ?_
    obtain ⟨r33, a34, e32, e⟩ := xb2_some e
    refine ex_cv1 (as := []) (rest := []) rfl rfl rfl rfl (sz200.obj rfl (by decide)) rfl (by with_unfolding_all rfl) (by with_unfolding_all rfl) (tf275_isNone sz200 e32) (fun H30 s31 => ?_)
    refine ex_s (st_if rfl) ?_
    by_cases c35 : r33 = 0
    · have e := (if_pos c35).symm.trans e
      refine ex_pc (if_pos c35) ?_
      refine ex_s (am_nb (m := 1) (pc1 := 86) (ls1 := [(0, .ref 157), (1, .int x0), (2, .int (a 157 15)), (3, .long z20.2.1)]) (st1 := [.ref 157]) (H1 := H30) (k1 := 0) (n1 := 0) (by with_unfolding_all rfl)) ?_
      refine xe_get (v := .int (a34 157 15)) s31 rfl rfl (by decide) rfl ?_
      refine ex_s (am_nb (m := 3) (pc1 := 92) (ls1 := [(0, .ref 157), (1, .int x0), (2, .int (a 157 15)), (3, .long z20.2.1)]) (st1 := [.int 5, .int ((a34 157 15) - (a 157 15))]) (H1 := H30) (k1 := 0) (n1 := 0) (by with_unfolding_all rfl)) ?_
      refine ex_s (st_icmp rfl) ?_
      by_cases c37 : 5 < ((a34 157 15) - (a 157 15))
      · have e := (if_pos c37).symm.trans e
        refine ex_pc (if_pos c37) ?_
        exact le_E (l1 := [(0, .ref 157), (2, .int (a 157 15))]) ⟨rfl, rfl, trivial⟩ rfl (tj282_103  s31 e)
      · have e := (if_neg c37).symm.trans e
        refine ex_pc (if_neg c37) ?_
        refine ex_s (am_nb (m := 3) (pc1 := 100) (ls1 := [(0, .ref 157), (1, .int x0), (2, .int (a 157 15)), (3, .long z20.2.1)]) (st1 := [.int (lg_cmp z20.2.1 32767)]) (H1 := H30) (k1 := 0) (n1 := 0) (by with_unfolding_all rfl)) ?_
        refine ex_s (st_if rfl) ?_
        by_cases c44 : (lg_cmp z20.2.1 32767) ≤ 0
        · have e := (if_pos c44).symm.trans e
          refine ex_pc (if_pos c44) ?_
          refine ex_s (am_nb (m := 1) (pc1 := 111) (ls1 := [(0, .ref 157), (1, .int x0), (2, .int (a 157 15)), (3, .long z20.2.1)]) (st1 := [.ref 157]) (H1 := H30) (k1 := 0) (n1 := 0) (by with_unfolding_all rfl)) ?_
          refine xe_get (v := .ref 164) s31 rfl rfl (by decide) rfl ?_
          refine ex_s (am_nb (m := 3) (pc1 := 117) (ls1 := [(0, .ref 157), (1, .int x0), (2, .int (a 157 15)), (3, .long z20.2.1)]) (st1 := [.int z20.2.1.toInt32, .int x0, .ref 164]) (H1 := H30) (k1 := 0) (n1 := 0) (by with_unfolding_all rfl)) ?_
          obtain ⟨g48, e⟩ := xg_some e
          obtain ⟨a45, ha45, e⟩ := xw_some e
          refine xe_iast s31 rfl rfl g48 (fun H46 s47 => ?_)
          have s47 : xS h b T a45 H46 := by rw [ha45]; exact s47
          refine ex_s (am_nb (m := 1) (pc1 := 119) (ls1 := [(0, .ref 157), (1, .int x0), (2, .int (a 157 15)), (3, .long z20.2.1)]) (st1 := [.int 1]) (H1 := H46) (k1 := 0) (n1 := 0) (by with_unfolding_all rfl)) ?_
          cases e
          exact ex_r (st_iret rfl rfl rfl) s47
        · have e := (if_neg c44).symm.trans e
          refine ex_pc (if_neg c44) ?_
          exact le_E (l1 := [(0, .ref 157), (2, .int (a 157 15))]) ⟨rfl, rfl, trivial⟩ rfl (tj282_103  s31 e)
    · have e := (if_neg c35).symm.trans e
      refine ex_pc (if_neg c35) ?_
      exact le_E (l1 := [(0, .ref 157)]) ⟨rfl, trivial⟩ rfl (tj282_75  s31 e)

set_option maxRecDepth 100000 in
theorem tj285_54 {sL : Nat} {sx : Nat → Int32} {h b N : Nat} {T : List am_C} {R : Option Value} {F : am_H → Prop} {z : Nat × Int32 × Int32 × xA} {rc : Int32 → Int32 → xA → Option (Nat × Int32 × Int32 × xA)} (k0 : z.1 = 0 → ∀ H2 : am_H, xS h b T z.2.2.2 H2 → am_E sL sx am_cs 285 40 [(0, .ref 157), (2, .int z.2.2.1)] [] H2 R F) (k1 : z.1 = 1 → ∀ H2 : am_H, xS h b T z.2.2.2 H2 → am_E sL sx am_cs 285 79 [(0, .ref 157)] [] H2 R F) (k2 : z.1 = 2 → ∀ H2 : am_H, xS h b T z.2.2.2 H2 → am_E sL sx am_cs 285 108 [(0, .ref 157), (1, .int z.2.1)] [] H2 R F) (ih : ∀ (v1 : Int32) (v2 : Int32) (a : xA) (H : am_H), xS h b T a H → rc v1 v2 a = some z → am_E sL sx am_cs 285 4 [(0, .ref 157), (1, .int v1), (2, .int v2)] [] H R F) {q1 : Int32} {q2 : Int32} {q3 : Int32} {a : xA} {H : am_H} (hS : xS h b T a H) (e : j285_54 N h b rc q1 q2 q3 a = some z) : am_E sL sx am_cs 285 54 [(0, .ref 157), (1, .int q1), (2, .int q2), (3, .int q3)] [] H R F := by
  unfold j285_54 at e
  refine ex_s (am_nb (m := 2) (pc1 := 56) (ls1 := [(0, .ref 157), (1, .int q1), (2, .int q2), (3, .int q3)]) (st1 := [.ref 157, .ref 157]) (H1 := H) (k1 := 0) (n1 := 0) (by with_unfolding_all rfl)) ?_
  refine xe_get (v := .int (a 157 15)) hS rfl rfl (by decide) rfl ?_
  refine ex_s (am_nb (m := 2) (pc1 := 61) (ls1 := [(0, .ref 157), (1, .int q1), (2, .int q2), (3, .int q3)]) (st1 := [.int ((a 157 15) + q2), .ref 157]) (H1 := H) (k1 := 0) (n1 := 0) (by with_unfolding_all rfl)) ?_
  obtain ⟨r23, a24, e22, e⟩ := xb2_some e
  refine ex_cv1 (as := [.int ((a 157 15) + q2)]) (rest := []) rfl rfl rfl rfl (hS.obj rfl (by decide)) rfl (by with_unfolding_all rfl) (by with_unfolding_all rfl) (tf269_ends hS e22) (fun H20 s21 => ?_)
  refine ex_s (st_if rfl) ?_
  by_cases c28 : r23 = 0
  · have e := (if_pos c28).symm.trans e
    refine ex_pc (if_pos c28) ?_
    refine ex_s (am_nb (m := 2) (pc1 := 70) (ls1 := [(0, .ref 157), (1, .int q1), (2, .int q2), (3, .int q3)]) (st1 := [.int 48, .int q3]) (H1 := H20) (k1 := 0) (n1 := 0) (by with_unfolding_all rfl)) ?_
    refine ex_s (st_icmp rfl) ?_
    by_cases c31 : q3 < 48
    · have e := (if_pos c31).symm.trans e
      refine ex_pc (if_pos c31) ?_
      cases e
      exact le_E (l1 := [(0, .ref 157)]) ⟨rfl, trivial⟩ rfl (k1 rfl H20 s21)
    · have e := (if_neg c31).symm.trans e
      refine ex_pc (if_neg c31) ?_
      refine ex_s (am_nb (m := 2) (pc1 := 76) (ls1 := [(0, .ref 157), (1, .int q1), (2, .int q2), (3, .int q3)]) (st1 := [.int 55, .int q3]) (H1 := H20) (k1 := 0) (n1 := 0) (by with_unfolding_all rfl)) ?_
      refine ex_s (st_icmp rfl) ?_
      by_cases c32 : q3 ≤ 55
      · have e := (if_pos c32).symm.trans e
        refine ex_pc (if_pos c32) ?_
        refine ex_s (am_nb (m := 10) (pc1 := 4) (ls1 := [(2, .int (q2 + 1)), (1, .int (((8 * q1) + q3) - 48)), (0, .ref 157), (3, .int q3)]) (st1 := []) (H1 := H20) (k1 := 0) (n1 := 0) (by with_unfolding_all rfl)) ?_
        exact le_E (l1 := [(0, .ref 157), (1, .int (((8 * q1) + q3) - 48)), (2, .int (q2 + 1))]) ⟨rfl, rfl, rfl, trivial⟩ rfl (ih (((8 * q1) + q3) - 48) (q2 + 1) a24 H20 s21 e)
      · have e := (if_neg c32).symm.trans e
        refine ex_pc (if_neg c32) ?_
        cases e
        exact le_E (l1 := [(0, .ref 157)]) ⟨rfl, trivial⟩ rfl (k1 rfl H20 s21)
  · have e := (if_neg c28).symm.trans e
    refine ex_pc (if_neg c28) ?_
    cases e
    exact le_E (l1 := [(0, .ref 157)]) ⟨rfl, trivial⟩ rfl (k1 rfl H20 s21)

set_option maxRecDepth 100000 in
theorem tl285_4 {sL : Nat} {sx : Nat → Int32} {h b N : Nat} {T : List am_C} {R : Option Value} {F : am_H → Prop} {z : Nat × Int32 × Int32 × xA} (k0 : z.1 = 0 → ∀ H2 : am_H, xS h b T z.2.2.2 H2 → am_E sL sx am_cs 285 40 [(0, .ref 157), (2, .int z.2.2.1)] [] H2 R F) (k1 : z.1 = 1 → ∀ H2 : am_H, xS h b T z.2.2.2 H2 → am_E sL sx am_cs 285 79 [(0, .ref 157)] [] H2 R F) (k2 : z.1 = 2 → ∀ H2 : am_H, xS h b T z.2.2.2 H2 → am_E sL sx am_cs 285 108 [(0, .ref 157), (1, .int z.2.1)] [] H2 R F) : ∀ (n : Nat) (v1 : Int32) (v2 : Int32) (a : xA) (H : am_H), xS h b T a H → l285_4 N h b n v1 v2 a = some z → am_E sL sx am_cs 285 4 [(0, .ref 157), (1, .int v1), (2, .int v2)] [] H R F := by
  intro n
  induction n with
  | zero =>
    intro v1 v2 a H hS e
    cases e
  | succ n ih =>
    intro v1 v2 a H hS e
    unfold l285_4 at e
    refine ex_s (am_nb (m := 2) (pc1 := 6) (ls1 := [(0, .ref 157), (1, .int v1), (2, .int v2)]) (st1 := [.int 3, .int v2]) (H1 := H) (k1 := 0) (n1 := 0) (by with_unfolding_all rfl)) ?_
    refine ex_s (st_icmp rfl) ?_
    by_cases c1 : 3 < v2
    · have e := (if_pos c1).symm.trans e
      refine ex_pc (if_pos c1) ?_
      cases e
      exact le_E (l1 := [(0, .ref 157), (1, .int v1)]) ⟨rfl, rfl, trivial⟩ rfl (k2 rfl H hS)
    · have e := (if_neg c1).symm.trans e
      refine ex_pc (if_neg c1) ?_
      refine ex_s (am_nb (m := 2) (pc1 := 11) (ls1 := [(0, .ref 157), (1, .int v1), (2, .int v2)]) (st1 := [.ref 157, .ref 157]) (H1 := H) (k1 := 0) (n1 := 0) (by with_unfolding_all rfl)) ?_
      refine xe_get (v := .int (a 157 15)) hS rfl rfl (by decide) rfl ?_
      refine ex_s (am_nb (m := 2) (pc1 := 16) (ls1 := [(0, .ref 157), (1, .int v1), (2, .int v2)]) (st1 := [.int ((a 157 15) + v2), .ref 157]) (H1 := H) (k1 := 0) (n1 := 0) (by with_unfolding_all rfl)) ?_
      obtain ⟨r5, a6, e4, e⟩ := xb2_some e
      refine ex_cv1 (as := [.int ((a 157 15) + v2)]) (rest := []) rfl rfl rfl rfl (hS.obj rfl (by decide)) rfl (by with_unfolding_all rfl) (by with_unfolding_all rfl) (tf266_here hS e4) (fun H2 s3 => ?_)
      refine ex_s (am_nb (m := 3) (pc1 := 22) (ls1 := [(3, .int r5), (0, .ref 157), (1, .int v1), (2, .int v2)]) (st1 := [.ref 157, .ref 157]) (H1 := H2) (k1 := 0) (n1 := 0) (by with_unfolding_all rfl)) ?_
      refine xe_get (v := .int (a6 157 15)) s3 rfl rfl (by decide) rfl ?_
      refine ex_s (am_nb (m := 2) (pc1 := 27) (ls1 := [(3, .int r5), (0, .ref 157), (1, .int v1), (2, .int v2)]) (st1 := [.int ((a6 157 15) + v2), .ref 157]) (H1 := H2) (k1 := 0) (n1 := 0) (by with_unfolding_all rfl)) ?_
      obtain ⟨r10, a11, e9, e⟩ := xb2_some e
      refine ex_cv1 (as := [.int ((a6 157 15) + v2)]) (rest := []) rfl rfl rfl rfl (s3.obj rfl (by decide)) rfl (by with_unfolding_all rfl) (by with_unfolding_all rfl) (tf269_ends s3 e9) (fun H7 s8 => ?_)
      refine ex_s (st_if rfl) ?_
      by_cases c13 : r10 = 0
      · have e := (if_pos c13).symm.trans e
        refine ex_pc (if_pos c13) ?_
        refine ex_s (am_nb (m := 1) (pc1 := 34) (ls1 := [(3, .int r5), (0, .ref 157), (1, .int v1), (2, .int v2)]) (st1 := [.int r5]) (H1 := H7) (k1 := 0) (n1 := 0) (by with_unfolding_all rfl)) ?_
        obtain ⟨r17, a18, e16, e⟩ := xb2_some e
        refine ex_cs1 (as := [.int r5]) (rest := []) rfl (by decide) rfl rfl (by with_unfolding_all rfl) (by with_unfolding_all rfl) (tf276_isText s8 e16) (fun H14 s15 => ?_)
        refine ex_s (st_if rfl) ?_
        by_cases c19 : r17 = 0
        · have e := (if_pos c19).symm.trans e
          refine ex_pc (if_pos c19) ?_
          cases e
          exact le_E (l1 := [(0, .ref 157), (2, .int v2)]) ⟨rfl, rfl, trivial⟩ rfl (k0 rfl H14 s15)
        · have e := (if_neg c19).symm.trans e
          refine ex_pc (if_neg c19) ?_
          exact le_E (l1 := [(0, .ref 157), (1, .int v1), (2, .int v2), (3, .int r5)]) ⟨rfl, rfl, rfl, rfl, trivial⟩ rfl (tj285_54 k0 k1 k2 ih  s15 e)
      · have e := (if_neg c13).symm.trans e
        refine ex_pc (if_neg c13) ?_
        exact le_E (l1 := [(0, .ref 157), (1, .int v1), (2, .int v2), (3, .int r5)]) ⟨rfl, rfl, rfl, rfl, trivial⟩ rfl (tj285_54 k0 k1 k2 ih  s8 e)

set_option maxRecDepth 100000 in
theorem tj285_79 {sL : Nat} {sx : Nat → Int32} {h b N : Nat} {T : List am_C} {r : Int32} {a' : xA} {a : xA} {H : am_H} (hS : xS h b T a H) (e : j285_79 N h b a = some (r, a')) : am_E sL sx am_cs 285 79 [(0, .ref 157)] [] H (some (.int r)) (fun H1 => xS h b T a' H1) := by
  unfold j285_79 at e
  refine ex_s (am_nb (m := 3) (pc1 := 83) (ls1 := [(0, .ref 157)]) (st1 := [.ref 157, .int 10, .ref 157]) (H1 := H) (k1 := 0) (n1 := 0) (by with_unfolding_all rfl)) ?_
  refine xe_get (v := .int (a 157 15)) hS rfl rfl (by decide) rfl ?_
  obtain ⟨r43, a44, e42, e⟩ := xb2_some e
  refine ex_cv1 (as := [.int 10, .int (a 157 15)]) (rest := []) rfl rfl rfl rfl (hS.obj rfl (by decide)) rfl (by with_unfolding_all rfl) (by with_unfolding_all rfl) (tf270_fails hS e42) (fun H40 s41 => ?_)
  refine ex_s (am_nb (m := 2) (pc1 := 91) (ls1 := [(0, .ref 157)]) (st1 := [.int 0]) (H1 := H40) (k1 := 0) (n1 := 0) (by with_unfolding_all rfl)) ?_
  cases e
  exact ex_r (st_iret rfl rfl rfl) s41

set_option maxRecDepth 100000 in
theorem tj285_119 {sL : Nat} {sx : Nat → Int32} {h b N : Nat} {T : List am_C} {r : Int32} {a' : xA} {a : xA} {H : am_H} (hS : xS h b T a H) (e : j285_119 N h b a = some (r, a')) : am_E sL sx am_cs 285 119 [(0, .ref 157)] [] H (some (.int r)) (fun H1 => xS h b T a' H1) := by
  unfold j285_119 at e
  refine ex_s (am_nb (m := 3) (pc1 := 123) (ls1 := [(0, .ref 157)]) (st1 := [.ref 157, .int 10, .ref 157]) (H1 := H) (k1 := 0) (n1 := 0) (by with_unfolding_all rfl)) ?_
  refine xe_get (v := .int (a 157 15)) hS rfl rfl (by decide) rfl ?_
  obtain ⟨r51, a52, e50, e⟩ := xb2_some e
  refine ex_cv1 (as := [.int 10, .int (a 157 15)]) (rest := []) rfl rfl rfl rfl (hS.obj rfl (by decide)) rfl (by with_unfolding_all rfl) (by with_unfolding_all rfl) (tf270_fails hS e50) (fun H48 s49 => ?_)
  refine ex_s (am_nb (m := 2) (pc1 := 131) (ls1 := [(0, .ref 157)]) (st1 := [.int 0]) (H1 := H48) (k1 := 0) (n1 := 0) (by with_unfolding_all rfl)) ?_
  cases e
  exact ex_r (st_iret rfl rfl rfl) s49

set_option maxRecDepth 100000 in
theorem tf285_octal {sL : Nat} {sx : Nat → Int32} {h b N : Nat} {T : List am_C} {r : Int32} {a' : xA} {a : xA} {H : am_H} (hS : xS h b T a H) (e : f285_octal N h b a = some (r, a')) : am_E sL sx am_cs 285 0 [(0, .ref 157)] [] H (some (.int r)) (fun H1 => xS h b T a' H1) := by
  unfold f285_octal at e
  refine ex_s (am_nb (m := 4) (pc1 := 4) (ls1 := [(2, .int 1), (1, .int 0), (0, .ref 157)]) (st1 := []) (H1 := H) (k1 := 0) (n1 := 0) (by with_unfolding_all rfl)) ?_
  obtain ⟨z33, e34, e⟩ := Option.bind_eq_some_iff.mp e
  refine le_E (l1 := [(0, .ref 157), (1, .int 0), (2, .int 1)]) ⟨rfl, rfl, rfl, trivial⟩ rfl (tl285_4 (z := z33)  (fun uz33_0 Hz330 sz330 => ?_) (fun uz33_1 Hz331 sz331 => ?_) (fun uz33_2 Hz332 sz332 => ?_) N 0 1 a H hS e34)
  · have e := (if_pos uz33_0).symm.trans e
    refine ex_s (am_nb (m := 3) (pc1 := 43) (ls1 := [(0, .ref 157), (2, .int z33.2.2.1)]) (st1 := [.ref 157, .int 1, .ref 157]) (H1 := Hz330) (k1 := 0) (n1 := 0) (by with_unfolding_all rfl)) ?_
    refine xe_get (v := .int (z33.2.2.2 157 15)) sz330 rfl rfl (by decide) rfl ?_
    refine ex_s (am_nb (m := 2) (pc1 := 48) (ls1 := [(0, .ref 157), (2, .int z33.2.2.1)]) (st1 := [.int ((z33.2.2.2 157 15) + z33.2.2.1), .int 1, .ref 157]) (H1 := Hz330) (k1 := 0) (n1 := 0) (by with_unfolding_all rfl)) ?_
    obtain ⟨r38, a39, e37, e⟩ := xb2_some e
    refine ex_cv1 (as := [.int 1, .int ((z33.2.2.2 157 15) + z33.2.2.1)]) (rest := []) rfl rfl rfl rfl (sz330.obj rfl (by decide)) rfl (by with_unfolding_all rfl) (by with_unfolding_all rfl) (tf270_fails sz330 e37) (fun H35 s36 => ?_)
    refine ex_s (am_nb (m := 2) (pc1 := 53) (ls1 := [(0, .ref 157), (2, .int z33.2.2.1)]) (st1 := [.int 0]) (H1 := H35) (k1 := 0) (n1 := 0) (by with_unfolding_all rfl)) ?_
    cases e
    exact ex_r (st_iret rfl rfl rfl) s36
  · have e := (if_neg (show ¬ z33.1 = 0 by rw [uz33_1]; decide)).symm.trans e
    have e := (if_pos uz33_1).symm.trans e
    exact le_E (l1 := [(0, .ref 157)]) ⟨rfl, trivial⟩ rfl (tj285_79  sz331 e)
  · have e := (if_neg (show ¬ z33.1 = 0 by rw [uz33_2]; decide)).symm.trans e
    have e := (if_neg (show ¬ z33.1 = 1 by rw [uz33_2]; decide)).symm.trans e
    refine ex_s (am_nb (m := 1) (pc1 := 109) (ls1 := [(0, .ref 157), (1, .int z33.2.1)]) (st1 := [.int z33.2.1]) (H1 := Hz332) (k1 := 0) (n1 := 0) (by with_unfolding_all rfl)) ?_
    refine ex_s (st_if rfl) ?_
    by_cases c47 : z33.2.1 = 0
    · have e := (if_pos c47).symm.trans e
      refine ex_pc (if_pos c47) ?_
      exact le_E (l1 := [(0, .ref 157)]) ⟨rfl, trivial⟩ rfl (tj285_119  sz332 e)
    · have e := (if_neg c47).symm.trans e
      refine ex_pc (if_neg c47) ?_
      refine ex_s (am_nb (m := 2) (pc1 := 116) (ls1 := [(0, .ref 157), (1, .int z33.2.1)]) (st1 := [.int 255, .int z33.2.1]) (H1 := Hz332) (k1 := 0) (n1 := 0) (by with_unfolding_all rfl)) ?_
      refine ex_s (st_icmp rfl) ?_
      by_cases c53 : z33.2.1 ≤ 255
      · have e := (if_pos c53).symm.trans e
        refine ex_pc (if_pos c53) ?_
        refine ex_s (am_nb (m := 2) (pc1 := 134) (ls1 := [(0, .ref 157), (1, .int z33.2.1)]) (st1 := [.int z33.2.1, .ref 157]) (H1 := Hz332) (k1 := 0) (n1 := 0) (by with_unfolding_all rfl)) ?_
        obtain ⟨a54, ha54, e⟩ := xw_some e
        refine xe_put (w := z33.2.1) sz332 rfl rfl (by decide) rfl rfl rfl rfl (fun H55 s56 => ?_)
        have s56 : xS h b T a54 H55 := by rw [ha54]; exact s56
        refine ex_s (am_nb (m := 1) (pc1 := 138) (ls1 := [(0, .ref 157), (1, .int z33.2.1)]) (st1 := [.int 4]) (H1 := H55) (k1 := 0) (n1 := 0) (by with_unfolding_all rfl)) ?_
        cases e
        exact ex_r (st_iret rfl rfl rfl) s56
      · have e := (if_neg c53).symm.trans e
        refine ex_pc (if_neg c53) ?_
        exact le_E (l1 := [(0, .ref 157)]) ⟨rfl, trivial⟩ rfl (tj285_119  sz332 e)

set_option maxRecDepth 100000 in
theorem tj284_155 {sL : Nat} {sx : Nat → Int32} {h b N : Nat} {T : List am_C} {r : Int32} {a' : xA} {q3 : Int32} {a : xA} {H : am_H} (hS : xS h b T a H) (e : j284_155 N h b q3 a = some (r, a')) : am_E sL sx am_cs 284 155 [(0, .ref 157), (3, .int q3)] [] H (some (.int r)) (fun H1 => xS h b T a' H1) := by
  unfold j284_155 at e
  refine ex_s (am_nb (m := 1) (pc1 := 156) (ls1 := [(0, .ref 157), (3, .int q3)]) (st1 := [.int q3]) (H1 := H) (k1 := 0) (n1 := 0) (by with_unfolding_all rfl)) ?_
  refine ex_s (st_lsw rfl) ?_
  by_cases c46 : q3 = 44 ∨ q3 = 58 ∨ q3 = 92 ∨ q3 = 94
  · have e := (if_pos c46).symm.trans e
    refine ex_pc (pc1 := 312) (by rcases c46 with c46 | c46 | c46 | c46 <;> (rw [c46]; with_unfolding_all rfl)) ?_
    refine ex_s (am_nb (m := 2) (pc1 := 314) (ls1 := [(0, .ref 157), (3, .int q3)]) (st1 := [.int q3, .ref 157]) (H1 := H) (k1 := 0) (n1 := 0) (by with_unfolding_all rfl)) ?_
    obtain ⟨a47, ha47, e⟩ := xw_some e
    refine xe_put (w := q3) hS rfl rfl (by decide) rfl rfl rfl rfl (fun H48 s49 => ?_)
    have s49 : xS h b T a47 H48 := by rw [ha47]; exact s49
    refine ex_s (am_nb (m := 1) (pc1 := 318) (ls1 := [(0, .ref 157), (3, .int q3)]) (st1 := [.int 2]) (H1 := H48) (k1 := 0) (n1 := 0) (by with_unfolding_all rfl)) ?_
    cases e
    exact ex_r (st_iret rfl rfl rfl) s49
  · have e := (if_neg c46).symm.trans e
    by_cases c50 : q3 = 69
    · have e := (if_pos c50).symm.trans e
      refine ex_pc (pc1 := 256) (by rw [c50]; with_unfolding_all rfl) ?_
      refine ex_s (am_nb (m := 2) (pc1 := 259) (ls1 := [(0, .ref 157), (3, .int q3)]) (st1 := [.int 27, .ref 157]) (H1 := H) (k1 := 0) (n1 := 0) (by with_unfolding_all rfl)) ?_
      obtain ⟨a51, ha51, e⟩ := xw_some e
      refine xe_put (w := 27) hS rfl rfl (by decide) rfl rfl rfl rfl (fun H52 s53 => ?_)
      have s53 : xS h b T a51 H52 := by rw [ha51]; exact s53
      refine ex_s (am_nb (m := 1) (pc1 := 263) (ls1 := [(0, .ref 157), (3, .int q3)]) (st1 := [.int 2]) (H1 := H52) (k1 := 0) (n1 := 0) (by with_unfolding_all rfl)) ?_
      cases e
      exact ex_r (st_iret rfl rfl rfl) s53
    · have e := (if_neg c50).symm.trans e
      by_cases c54 : q3 = 98
      · have e := (if_pos c54).symm.trans e
        refine ex_pc (pc1 := 288) (by rw [c54]; with_unfolding_all rfl) ?_
        refine ex_s (am_nb (m := 2) (pc1 := 291) (ls1 := [(0, .ref 157), (3, .int q3)]) (st1 := [.int 8, .ref 157]) (H1 := H) (k1 := 0) (n1 := 0) (by with_unfolding_all rfl)) ?_
        obtain ⟨a55, ha55, e⟩ := xw_some e
        refine xe_put (w := 8) hS rfl rfl (by decide) rfl rfl rfl rfl (fun H56 s57 => ?_)
        have s57 : xS h b T a55 H56 := by rw [ha55]; exact s57
        refine ex_s (am_nb (m := 1) (pc1 := 295) (ls1 := [(0, .ref 157), (3, .int q3)]) (st1 := [.int 2]) (H1 := H56) (k1 := 0) (n1 := 0) (by with_unfolding_all rfl)) ?_
        cases e
        exact ex_r (st_iret rfl rfl rfl) s57
      · have e := (if_neg c54).symm.trans e
        by_cases c58 : q3 = 102
        · have e := (if_pos c58).symm.trans e
          refine ex_pc (pc1 := 296) (by rw [c58]; with_unfolding_all rfl) ?_
          refine ex_s (am_nb (m := 2) (pc1 := 299) (ls1 := [(0, .ref 157), (3, .int q3)]) (st1 := [.int 12, .ref 157]) (H1 := H) (k1 := 0) (n1 := 0) (by with_unfolding_all rfl)) ?_
          obtain ⟨a59, ha59, e⟩ := xw_some e
          refine xe_put (w := 12) hS rfl rfl (by decide) rfl rfl rfl rfl (fun H60 s61 => ?_)
          have s61 : xS h b T a59 H60 := by rw [ha59]; exact s61
          refine ex_s (am_nb (m := 1) (pc1 := 303) (ls1 := [(0, .ref 157), (3, .int q3)]) (st1 := [.int 2]) (H1 := H60) (k1 := 0) (n1 := 0) (by with_unfolding_all rfl)) ?_
          cases e
          exact ex_r (st_iret rfl rfl rfl) s61
        · have e := (if_neg c58).symm.trans e
          by_cases c62 : q3 = 110
          · have e := (if_pos c62).symm.trans e
            refine ex_pc (pc1 := 264) (by rw [c62]; with_unfolding_all rfl) ?_
            refine ex_s (am_nb (m := 2) (pc1 := 267) (ls1 := [(0, .ref 157), (3, .int q3)]) (st1 := [.int 10, .ref 157]) (H1 := H) (k1 := 0) (n1 := 0) (by with_unfolding_all rfl)) ?_
            obtain ⟨a63, ha63, e⟩ := xw_some e
            refine xe_put (w := 10) hS rfl rfl (by decide) rfl rfl rfl rfl (fun H64 s65 => ?_)
            have s65 : xS h b T a63 H64 := by rw [ha63]; exact s65
            refine ex_s (am_nb (m := 1) (pc1 := 271) (ls1 := [(0, .ref 157), (3, .int q3)]) (st1 := [.int 2]) (H1 := H64) (k1 := 0) (n1 := 0) (by with_unfolding_all rfl)) ?_
            cases e
            exact ex_r (st_iret rfl rfl rfl) s65
          · have e := (if_neg c62).symm.trans e
            by_cases c66 : q3 = 114
            · have e := (if_pos c66).symm.trans e
              refine ex_pc (pc1 := 272) (by rw [c66]; with_unfolding_all rfl) ?_
              refine ex_s (am_nb (m := 2) (pc1 := 275) (ls1 := [(0, .ref 157), (3, .int q3)]) (st1 := [.int 13, .ref 157]) (H1 := H) (k1 := 0) (n1 := 0) (by with_unfolding_all rfl)) ?_
              obtain ⟨a67, ha67, e⟩ := xw_some e
              refine xe_put (w := 13) hS rfl rfl (by decide) rfl rfl rfl rfl (fun H68 s69 => ?_)
              have s69 : xS h b T a67 H68 := by rw [ha67]; exact s69
              refine ex_s (am_nb (m := 1) (pc1 := 279) (ls1 := [(0, .ref 157), (3, .int q3)]) (st1 := [.int 2]) (H1 := H68) (k1 := 0) (n1 := 0) (by with_unfolding_all rfl)) ?_
              cases e
              exact ex_r (st_iret rfl rfl rfl) s69
            · have e := (if_neg c66).symm.trans e
              by_cases c70 : q3 = 115
              · have e := (if_pos c70).symm.trans e
                refine ex_pc (pc1 := 304) (by rw [c70]; with_unfolding_all rfl) ?_
                refine ex_s (am_nb (m := 2) (pc1 := 307) (ls1 := [(0, .ref 157), (3, .int q3)]) (st1 := [.int 32, .ref 157]) (H1 := H) (k1 := 0) (n1 := 0) (by with_unfolding_all rfl)) ?_
                obtain ⟨a71, ha71, e⟩ := xw_some e
                refine xe_put (w := 32) hS rfl rfl (by decide) rfl rfl rfl rfl (fun H72 s73 => ?_)
                have s73 : xS h b T a71 H72 := by rw [ha71]; exact s73
                refine ex_s (am_nb (m := 1) (pc1 := 311) (ls1 := [(0, .ref 157), (3, .int q3)]) (st1 := [.int 2]) (H1 := H72) (k1 := 0) (n1 := 0) (by with_unfolding_all rfl)) ?_
                cases e
                exact ex_r (st_iret rfl rfl rfl) s73
              · have e := (if_neg c70).symm.trans e
                by_cases c74 : q3 = 116
                · have e := (if_pos c74).symm.trans e
                  refine ex_pc (pc1 := 280) (by rw [c74]; with_unfolding_all rfl) ?_
                  refine ex_s (am_nb (m := 2) (pc1 := 283) (ls1 := [(0, .ref 157), (3, .int q3)]) (st1 := [.int 9, .ref 157]) (H1 := H) (k1 := 0) (n1 := 0) (by with_unfolding_all rfl)) ?_
                  obtain ⟨a75, ha75, e⟩ := xw_some e
                  refine xe_put (w := 9) hS rfl rfl (by decide) rfl rfl rfl rfl (fun H76 s77 => ?_)
                  have s77 : xS h b T a75 H76 := by rw [ha75]; exact s77
                  refine ex_s (am_nb (m := 1) (pc1 := 287) (ls1 := [(0, .ref 157), (3, .int q3)]) (st1 := [.int 2]) (H1 := H76) (k1 := 0) (n1 := 0) (by with_unfolding_all rfl)) ?_
                  cases e
                  exact ex_r (st_iret rfl rfl rfl) s77
                · have e := (if_neg c74).symm.trans e
                  refine ex_pc (pc1 := 319) (am_sw_n (sw_c (Or.inl (fun q => c46 (Or.inl q))) (sw_c (Or.inl (fun q => c46 (Or.inr (Or.inl q)))) (sw_c (Or.inl c50) (sw_c (Or.inl (fun q => c46 (Or.inr (Or.inr (Or.inl q))))) (sw_c (Or.inl (fun q => c46 (Or.inr (Or.inr (Or.inr q))))) (sw_c (Or.inl c54) (sw_c (Or.inl c58) (sw_c (Or.inl c62) (sw_c (Or.inl c66) (sw_c (Or.inl c70) (sw_c (Or.inl c74) sw_o)))))))))))) ?_
                  refine ex_s (am_nb (m := 3) (pc1 := 323) (ls1 := [(0, .ref 157), (3, .int q3)]) (st1 := [.ref 157, .int 10, .ref 157]) (H1 := H) (k1 := 0) (n1 := 0) (by with_unfolding_all rfl)) ?_
                  refine xe_get (v := .int (a 157 15)) hS rfl rfl (by decide) rfl ?_
                  obtain ⟨r81, a82, e80, e⟩ := xb2_some e
                  refine ex_cv1 (as := [.int 10, .int (a 157 15)]) (rest := []) rfl rfl rfl rfl (hS.obj rfl (by decide)) rfl (by with_unfolding_all rfl) (by with_unfolding_all rfl) (tf270_fails hS e80) (fun H78 s79 => ?_)
                  refine ex_s (am_nb (m := 2) (pc1 := 331) (ls1 := [(0, .ref 157), (3, .int q3)]) (st1 := [.int 0]) (H1 := H78) (k1 := 0) (n1 := 0) (by with_unfolding_all rfl)) ?_
                  cases e
                  exact ex_r (st_iret rfl rfl rfl) s79

set_option maxRecDepth 100000 in
theorem tj284_113 {sL : Nat} {sx : Nat → Int32} {h b N : Nat} {T : List am_C} {r : Int32} {a' : xA} {q1 : Int32} {q2 : Int32} {q3 : Int32} {a : xA} {H : am_H} (hS : xS h b T a H) (e : j284_113 N h b q1 q2 q3 a = some (r, a')) : am_E sL sx am_cs 284 113 [(0, .ref 157), (1, .int q1), (2, .int q2), (3, .int q3)] [] H (some (.int r)) (fun H1 => xS h b T a' H1) := by
  unfold j284_113 at e
  refine ex_s (am_nb (m := 1) (pc1 := 114) (ls1 := [(0, .ref 157), (1, .int q1), (2, .int q2), (3, .int q3)]) (st1 := [.int q2]) (H1 := H) (k1 := 0) (n1 := 0) (by with_unfolding_all rfl)) ?_
  refine ex_s (st_if rfl) ?_
  by_cases c41 : q2 ≤ 0
  · have e := (if_pos c41).symm.trans e
    refine ex_pc (if_pos c41) ?_
    refine ex_s (am_nb (m := 2) (pc1 := 133) (ls1 := [(0, .ref 157), (1, .int q1), (2, .int q2), (3, .int q3)]) (st1 := [.int 94, .int q1]) (H1 := H) (k1 := 0) (n1 := 0) (by with_unfolding_all rfl)) ?_
    refine ex_s (st_icmp rfl) ?_
    by_cases c42 : q1 = 94
    · have e := (if_pos c42).symm.trans e
      refine ex_pc (if_pos c42) ?_
      refine ex_s (am_nb (m := 1) (pc1 := 137) (ls1 := [(0, .ref 157), (1, .int q1), (2, .int q2), (3, .int q3)]) (st1 := [.int 2]) (H1 := H) (k1 := 0) (n1 := 0) (by with_unfolding_all rfl)) ?_
      cases e
      exact ex_r (st_iret rfl rfl rfl) hS
    · have e := (if_neg c42).symm.trans e
      refine ex_pc (if_neg c42) ?_
      refine ex_s (am_nb (m := 2) (pc1 := 141) (ls1 := [(0, .ref 157), (1, .int q1), (2, .int q2), (3, .int q3)]) (st1 := [.int 48, .int q3]) (H1 := H) (k1 := 0) (n1 := 0) (by with_unfolding_all rfl)) ?_
      refine ex_s (st_icmp rfl) ?_
      by_cases c45 : q3 < 48
      · have e := (if_pos c45).symm.trans e
        refine ex_pc (if_pos c45) ?_
        exact le_E (l1 := [(0, .ref 157), (3, .int q3)]) ⟨rfl, rfl, trivial⟩ rfl (tj284_155  hS e)
      · have e := (if_neg c45).symm.trans e
        refine ex_pc (if_neg c45) ?_
        refine ex_s (am_nb (m := 2) (pc1 := 147) (ls1 := [(0, .ref 157), (1, .int q1), (2, .int q2), (3, .int q3)]) (st1 := [.int 55, .int q3]) (H1 := H) (k1 := 0) (n1 := 0) (by with_unfolding_all rfl)) ?_
        refine ex_s (st_icmp rfl) ?_
        by_cases c83 : 55 < q3
        · have e := (if_pos c83).symm.trans e
          refine ex_pc (if_pos c83) ?_
          exact le_E (l1 := [(0, .ref 157), (3, .int q3)]) ⟨rfl, rfl, trivial⟩ rfl (tj284_155  hS e)
        · have e := (if_neg c83).symm.trans e
          refine ex_pc (if_neg c83) ?_
          refine ex_s (am_nb (m := 1) (pc1 := 151) (ls1 := [(0, .ref 157), (1, .int q1), (2, .int q2), (3, .int q3)]) (st1 := [.ref 157]) (H1 := H) (k1 := 0) (n1 := 0) (by with_unfolding_all rfl)) ?_
          obtain ⟨r87, a88, e86, e⟩ := xb2_some e
          refine ex_cv1 (as := []) (rest := []) rfl rfl rfl rfl (hS.obj rfl (by decide)) rfl (by with_unfolding_all rfl) (by with_unfolding_all rfl) (tf285_octal hS e86) (fun H84 s85 => ?_)
          cases e
          exact ex_r (st_iret rfl rfl rfl) s85
  · have e := (if_neg c41).symm.trans e
    refine ex_pc (if_neg c41) ?_
    refine ex_s (am_nb (m := 3) (pc1 := 121) (ls1 := [(0, .ref 157), (1, .int q1), (2, .int q2), (3, .int q3)]) (st1 := [.ref 157, .int 10, .ref 157]) (H1 := H) (k1 := 0) (n1 := 0) (by with_unfolding_all rfl)) ?_
    refine xe_get (v := .int (a 157 15)) hS rfl rfl (by decide) rfl ?_
    obtain ⟨r92, a93, e91, e⟩ := xb2_some e
    refine ex_cv1 (as := [.int 10, .int (a 157 15)]) (rest := []) rfl rfl rfl rfl (hS.obj rfl (by decide)) rfl (by with_unfolding_all rfl) (by with_unfolding_all rfl) (tf270_fails hS e91) (fun H89 s90 => ?_)
    refine ex_s (am_nb (m := 2) (pc1 := 129) (ls1 := [(0, .ref 157), (1, .int q1), (2, .int q2), (3, .int q3)]) (st1 := [.int 0]) (H1 := H89) (k1 := 0) (n1 := 0) (by with_unfolding_all rfl)) ?_
    cases e
    exact ex_r (st_iret rfl rfl rfl) s90

set_option maxRecDepth 100000 in
theorem tj284_110 {sL : Nat} {sx : Nat → Int32} {h b N : Nat} {T : List am_C} {r : Int32} {a' : xA} {q1 : Int32} {q3 : Int32} {a : xA} {H : am_H} (hS : xS h b T a H) (e : j284_110 N h b q1 q3 a = some (r, a')) : am_E sL sx am_cs 284 110 [(0, .ref 157), (1, .int q1), (3, .int q3)] [] H (some (.int r)) (fun H1 => xS h b T a' H1) := by
  unfold j284_110 at e
  refine ex_s (am_nb (m := 2) (pc1 := 113) (ls1 := [(2, .int 10), (0, .ref 157), (1, .int q1), (3, .int q3)]) (st1 := []) (H1 := H) (k1 := 0) (n1 := 0) (by with_unfolding_all rfl)) ?_
  exact le_E (l1 := [(0, .ref 157), (1, .int q1), (2, .int 10), (3, .int q3)]) ⟨rfl, rfl, rfl, rfl, trivial⟩ rfl (tj284_113  hS e)

set_option maxRecDepth 100000 in
theorem tj284_51 {sL : Nat} {sx : Nat → Int32} {h b N : Nat} {T : List am_C} {r : Int32} {a' : xA} {q1 : Int32} {q2 : Int32} {a : xA} {H : am_H} (hS : xS h b T a H) (e : j284_51 N h b q1 q2 a = some (r, a')) : am_E sL sx am_cs 284 51 [(0, .ref 157), (1, .int q1), (2, .int q2)] [] H (some (.int r)) (fun H1 => xS h b T a' H1) := by
  unfold j284_51 at e
  refine ex_s (am_nb (m := 2) (pc1 := 53) (ls1 := [(0, .ref 157), (1, .int q1), (2, .int q2)]) (st1 := [.ref 157, .ref 157]) (H1 := H) (k1 := 0) (n1 := 0) (by with_unfolding_all rfl)) ?_
  refine xe_get (v := .int (a 157 15)) hS rfl rfl (by decide) rfl ?_
  refine ex_s (am_nb (m := 2) (pc1 := 58) (ls1 := [(0, .ref 157), (1, .int q1), (2, .int q2)]) (st1 := [.int ((a 157 15) + 1), .ref 157]) (H1 := H) (k1 := 0) (n1 := 0) (by with_unfolding_all rfl)) ?_
  obtain ⟨r27, a28, e26, e⟩ := xb2_some e
  refine ex_cv1 (as := [.int ((a 157 15) + 1)]) (rest := []) rfl rfl rfl rfl (hS.obj rfl (by decide)) rfl (by with_unfolding_all rfl) (by with_unfolding_all rfl) (tf266_here hS e26) (fun H24 s25 => ?_)
  refine ex_s (am_nb (m := 2) (pc1 := 63) (ls1 := [(3, .int r27), (0, .ref 157), (1, .int q1), (2, .int q2)]) (st1 := [.int q2]) (H1 := H24) (k1 := 0) (n1 := 0) (by with_unfolding_all rfl)) ?_
  refine ex_s (st_if rfl) ?_
  by_cases c32 : q2 = 0
  · have e := (if_pos c32).symm.trans e
    refine ex_pc (if_pos c32) ?_
    refine ex_s (am_nb (m := 2) (pc1 := 69) (ls1 := [(3, .int r27), (0, .ref 157), (1, .int q1), (2, .int q2)]) (st1 := [.int 94, .int q1]) (H1 := H24) (k1 := 0) (n1 := 0) (by with_unfolding_all rfl)) ?_
    refine ex_s (st_icmp rfl) ?_
    by_cases c35 : q1 = 94
    · have e := (if_pos c35).symm.trans e
      refine ex_pc (if_pos c35) ?_
      refine ex_s (am_nb (m := 2) (pc1 := 75) (ls1 := [(3, .int r27), (0, .ref 157), (1, .int q1), (2, .int q2)]) (st1 := [.int 63, .int r27]) (H1 := H24) (k1 := 0) (n1 := 0) (by with_unfolding_all rfl)) ?_
      refine ex_s (st_icmp rfl) ?_
      by_cases c37 : r27 = 63
      · have e := (if_pos c37).symm.trans e
        refine ex_pc (if_pos c37) ?_
        refine ex_s (am_nb (m := 2) (pc1 := 81) (ls1 := [(3, .int r27), (0, .ref 157), (1, .int q1), (2, .int q2)]) (st1 := [.int 127, .ref 157]) (H1 := H24) (k1 := 0) (n1 := 0) (by with_unfolding_all rfl)) ?_
        obtain ⟨a38, ha38, e⟩ := xw_some e
        refine xe_put (w := 127) s25 rfl rfl (by decide) rfl rfl rfl rfl (fun H39 s40 => ?_)
        have s40 : xS h b T a38 H39 := by rw [ha38]; exact s40
        refine ex_s (am_nb (m := 1) (pc1 := 113) (ls1 := [(3, .int r27), (0, .ref 157), (1, .int q1), (2, .int q2)]) (st1 := []) (H1 := H39) (k1 := 0) (n1 := 0) (by with_unfolding_all rfl)) ?_
        exact le_E (l1 := [(0, .ref 157), (1, .int q1), (2, .int q2), (3, .int r27)]) ⟨rfl, rfl, rfl, rfl, trivial⟩ rfl (tj284_113  s40 e)
      · have e := (if_neg c37).symm.trans e
        refine ex_pc (if_neg c37) ?_
        refine ex_s (am_nb (m := 2) (pc1 := 90) (ls1 := [(3, .int r27), (0, .ref 157), (1, .int q1), (2, .int q2)]) (st1 := [.int 64, .int r27]) (H1 := H24) (k1 := 0) (n1 := 0) (by with_unfolding_all rfl)) ?_
        refine ex_s (st_icmp rfl) ?_
        by_cases c96 : r27 < 64
        · have e := (if_pos c96).symm.trans e
          refine ex_pc (if_pos c96) ?_
          exact le_E (l1 := [(0, .ref 157), (1, .int q1), (3, .int r27)]) ⟨rfl, rfl, rfl, trivial⟩ rfl (tj284_110  s25 e)
        · have e := (if_neg c96).symm.trans e
          refine ex_pc (if_neg c96) ?_
          refine ex_s (am_nb (m := 2) (pc1 := 96) (ls1 := [(3, .int r27), (0, .ref 157), (1, .int q1), (2, .int q2)]) (st1 := [.int 95, .int r27]) (H1 := H24) (k1 := 0) (n1 := 0) (by with_unfolding_all rfl)) ?_
          refine ex_s (st_icmp rfl) ?_
          by_cases c98 : 95 < r27
          · have e := (if_pos c98).symm.trans e
            refine ex_pc (if_pos c98) ?_
            exact le_E (l1 := [(0, .ref 157), (1, .int q1), (3, .int r27)]) ⟨rfl, rfl, rfl, trivial⟩ rfl (tj284_110  s25 e)
          · have e := (if_neg c98).symm.trans e
            refine ex_pc (if_neg c98) ?_
            refine ex_s (am_nb (m := 4) (pc1 := 104) (ls1 := [(3, .int r27), (0, .ref 157), (1, .int q1), (2, .int q2)]) (st1 := [.int (r27 - 64), .ref 157]) (H1 := H24) (k1 := 0) (n1 := 0) (by with_unfolding_all rfl)) ?_
            obtain ⟨a99, ha99, e⟩ := xw_some e
            refine xe_put (w := (r27 - 64)) s25 rfl rfl (by decide) rfl rfl rfl rfl (fun H100 s101 => ?_)
            have s101 : xS h b T a99 H100 := by rw [ha99]; exact s101
            refine ex_s (am_nb (m := 1) (pc1 := 113) (ls1 := [(3, .int r27), (0, .ref 157), (1, .int q1), (2, .int q2)]) (st1 := []) (H1 := H100) (k1 := 0) (n1 := 0) (by with_unfolding_all rfl)) ?_
            exact le_E (l1 := [(0, .ref 157), (1, .int q1), (2, .int q2), (3, .int r27)]) ⟨rfl, rfl, rfl, rfl, trivial⟩ rfl (tj284_113  s101 e)
    · have e := (if_neg c35).symm.trans e
      refine ex_pc (if_neg c35) ?_
      exact le_E (l1 := [(0, .ref 157), (1, .int q1), (2, .int q2), (3, .int r27)]) ⟨rfl, rfl, rfl, rfl, trivial⟩ rfl (tj284_113  s25 e)
  · have e := (if_neg c32).symm.trans e
    refine ex_pc (if_neg c32) ?_
    exact le_E (l1 := [(0, .ref 157), (1, .int q1), (2, .int q2), (3, .int r27)]) ⟨rfl, rfl, rfl, rfl, trivial⟩ rfl (tj284_113  s25 e)

set_option maxRecDepth 100000 in
theorem tf284_escape {sL : Nat} {sx : Nat → Int32} {h b N : Nat} {T : List am_C} {r : Int32} {a' : xA} {x0 : Int32} {a : xA} {H : am_H} (hS : xS h b T a H) (e : f284_escape N h b x0 a = some (r, a')) : am_E sL sx am_cs 284 0 [(0, .ref 157), (1, .int x0)] [] H (some (.int r)) (fun H1 => xS h b T a' H1) := by
  unfold f284_escape at e
  refine ex_s (am_nb (m := 4) (pc1 := 4) (ls1 := [(2, .int 0), (0, .ref 157), (1, .int x0)]) (st1 := [.ref 157, .ref 157]) (H1 := H) (k1 := 0) (n1 := 0) (by with_unfolding_all rfl)) ?_
  refine xe_get (v := .int (a 157 15)) hS rfl rfl (by decide) rfl ?_
  refine ex_s (am_nb (m := 2) (pc1 := 9) (ls1 := [(2, .int 0), (0, .ref 157), (1, .int x0)]) (st1 := [.int ((a 157 15) + 1), .ref 157]) (H1 := H) (k1 := 0) (n1 := 0) (by with_unfolding_all rfl)) ?_
  obtain ⟨r4, a5, e3, e⟩ := xb2_some e
  refine ex_cv1 (as := [.int ((a 157 15) + 1)]) (rest := []) rfl rfl rfl rfl (hS.obj rfl (by decide)) rfl (by with_unfolding_all rfl) (by with_unfolding_all rfl) (tf269_ends hS e3) (fun H1 s2 => ?_)
  refine ex_s (st_if rfl) ?_
  by_cases c7 : r4 = 0
  · have e := (if_pos c7).symm.trans e
    refine ex_pc (if_pos c7) ?_
    refine ex_s (am_nb (m := 2) (pc1 := 23) (ls1 := [(2, .int 0), (0, .ref 157), (1, .int x0)]) (st1 := [.ref 157, .ref 157]) (H1 := H1) (k1 := 0) (n1 := 0) (by with_unfolding_all rfl)) ?_
    refine xe_get (v := .int (a5 157 15)) s2 rfl rfl (by decide) rfl ?_
    refine ex_s (am_nb (m := 2) (pc1 := 28) (ls1 := [(2, .int 0), (0, .ref 157), (1, .int x0)]) (st1 := [.int ((a5 157 15) + 1), .ref 157]) (H1 := H1) (k1 := 0) (n1 := 0) (by with_unfolding_all rfl)) ?_
    obtain ⟨r11, a12, e10, e⟩ := xb2_some e
    refine ex_cv1 (as := [.int ((a5 157 15) + 1)]) (rest := []) rfl rfl rfl rfl (s2.obj rfl (by decide)) rfl (by with_unfolding_all rfl) (by with_unfolding_all rfl) (tf266_here s2 e10) (fun H8 s9 => ?_)
    obtain ⟨r16, a17, e15, e⟩ := xb2_some e
    refine ex_cs1 (as := [.int r11]) (rest := []) rfl (by decide) rfl rfl (by with_unfolding_all rfl) (by with_unfolding_all rfl) (tf276_isText s9 e15) (fun H13 s14 => ?_)
    refine ex_s (st_if rfl) ?_
    by_cases c18 : r16 = 0
    · have e := (if_pos c18).symm.trans e
      refine ex_pc (if_pos c18) ?_
      refine ex_s (am_nb (m := 3) (pc1 := 40) (ls1 := [(2, .int 0), (0, .ref 157), (1, .int x0)]) (st1 := [.ref 157, .int 1, .ref 157]) (H1 := H13) (k1 := 0) (n1 := 0) (by with_unfolding_all rfl)) ?_
      refine xe_get (v := .int (a17 157 15)) s14 rfl rfl (by decide) rfl ?_
      refine ex_s (am_nb (m := 2) (pc1 := 45) (ls1 := [(2, .int 0), (0, .ref 157), (1, .int x0)]) (st1 := [.int ((a17 157 15) + 1), .int 1, .ref 157]) (H1 := H13) (k1 := 0) (n1 := 0) (by with_unfolding_all rfl)) ?_
      obtain ⟨r22, a23, e21, e⟩ := xb2_some e
      refine ex_cv1 (as := [.int 1, .int ((a17 157 15) + 1)]) (rest := []) rfl rfl rfl rfl (s14.obj rfl (by decide)) rfl (by with_unfolding_all rfl) (by with_unfolding_all rfl) (tf270_fails s14 e21) (fun H19 s20 => ?_)
      refine ex_s (am_nb (m := 2) (pc1 := 50) (ls1 := [(2, .int 0), (0, .ref 157), (1, .int x0)]) (st1 := [.int 0]) (H1 := H19) (k1 := 0) (n1 := 0) (by with_unfolding_all rfl)) ?_
      cases e
      exact ex_r (st_iret rfl rfl rfl) s20
    · have e := (if_neg c18).symm.trans e
      refine ex_pc (if_neg c18) ?_
      exact le_E (l1 := [(0, .ref 157), (1, .int x0), (2, .int 0)]) ⟨rfl, rfl, rfl, trivial⟩ rfl (tj284_51  s14 e)
  · have e := (if_neg c7).symm.trans e
    refine ex_pc (if_neg c7) ?_
    refine ex_s (am_nb (m := 3) (pc1 := 51) (ls1 := [(2, .int 10), (0, .ref 157), (1, .int x0)]) (st1 := []) (H1 := H1) (k1 := 0) (n1 := 0) (by with_unfolding_all rfl)) ?_
    exact le_E (l1 := [(0, .ref 157), (1, .int x0), (2, .int 10)]) ⟨rfl, rfl, rfl, trivial⟩ rfl (tj284_51  s2 e)

set_option maxRecDepth 100000 in
theorem tf288_byteOf {sL : Nat} {sx : Nat → Int32} {h b N : Nat} {T : List am_C} {r : Int32} {a' : xA} {x0 : Int32} {x1 : Int32} {a : xA} {H : am_H} (hS : xS h b T a H) (e : f288_byteOf N h b x0 x1 a = some (r, a')) : am_E sL sx am_cs 288 0 [(0, .ref 157), (1, .int x0), (2, .int x1)] [] H (some (.int r)) (fun H1 => xS h b T a' H1) := by
  unfold f288_byteOf at e
  refine ex_s (am_nb (m := 1) (pc1 := 1) (ls1 := [(0, .ref 157), (1, .int x0), (2, .int x1)]) (st1 := [.int x1]) (H1 := H) (k1 := 0) (n1 := 0) (by with_unfolding_all rfl)) ?_
  refine ex_s (st_if rfl) ?_
  by_cases c2 : x1 < 0
  · have e := (if_pos c2).symm.trans e
    refine ex_pc (if_pos c2) ?_
    refine ex_s (am_nb (m := 1) (pc1 := 33) (ls1 := [(0, .ref 157), (1, .int x0), (2, .int x1)]) (st1 := [.int (-1)]) (H1 := H) (k1 := 0) (n1 := 0) (by with_unfolding_all rfl)) ?_
    cases e
    exact ex_r (st_iret rfl rfl rfl) hS
  · have e := (if_neg c2).symm.trans e
    refine ex_pc (if_neg c2) ?_
    refine ex_s (am_nb (m := 2) (pc1 := 6) (ls1 := [(0, .ref 157), (1, .int x0), (2, .int x1)]) (st1 := [.ref 157, .int x1]) (H1 := H) (k1 := 0) (n1 := 0) (by with_unfolding_all rfl)) ?_
    refine xe_get (v := .ref 166) hS rfl rfl (by decide) rfl ?_
    refine ex_s (am_nb (m := 1) (pc1 := 10) (ls1 := [(0, .ref 157), (1, .int x0), (2, .int x1)]) (st1 := [.int x0, .ref 166, .int x1]) (H1 := H) (k1 := 0) (n1 := 0) (by with_unfolding_all rfl)) ?_
    obtain ⟨g3, e⟩ := xg_some e
    refine xe_iald hS rfl rfl g3 ?_
    refine ex_s (st_icmp rfl) ?_
    by_cases c5 : (a 166 (x0.toNatClampNeg)) ≤ x1
    · have e := (if_pos c5).symm.trans e
      refine ex_pc (if_pos c5) ?_
      refine ex_s (am_nb (m := 1) (pc1 := 33) (ls1 := [(0, .ref 157), (1, .int x0), (2, .int x1)]) (st1 := [.int (-1)]) (H1 := H) (k1 := 0) (n1 := 0) (by with_unfolding_all rfl)) ?_
      cases e
      exact ex_r (st_iret rfl rfl rfl) hS
    · have e := (if_neg c5).symm.trans e
      refine ex_pc (if_neg c5) ?_
      refine ex_s (am_nb (m := 1) (pc1 := 15) (ls1 := [(0, .ref 157), (1, .int x0), (2, .int x1)]) (st1 := [.ref 157]) (H1 := H) (k1 := 0) (n1 := 0) (by with_unfolding_all rfl)) ?_
      refine xe_get (v := .ref 165) hS rfl rfl (by decide) rfl ?_
      refine ex_s (am_nb (m := 5) (pc1 := 24) (ls1 := [(0, .ref 157), (1, .int x0), (2, .int x1)]) (st1 := [.int ((40 * x0) + x1), .ref 165]) (H1 := H) (k1 := 0) (n1 := 0) (by with_unfolding_all rfl)) ?_
      obtain ⟨g6, e⟩ := xg_some e
      refine xe_bald hS rfl rfl g6 ?_
      refine ex_s (am_nb (m := 3) (pc1 := 33) (ls1 := [(0, .ref 157), (1, .int x0), (2, .int x1)]) (st1 := [.int ((a 165 (((40 * x0) + x1).toNatClampNeg)) &&& 255)]) (H1 := H) (k1 := 0) (n1 := 0) (by with_unfolding_all rfl)) ?_
      cases e
      exact ex_r (st_iret rfl rfl rfl) hS

set_option maxRecDepth 100000 in
theorem tj287_619 {sL : Nat} {sx : Nat → Int32} {h b N : Nat} {T : List am_C} {r : Int32} {a' : xA} {q1 : Int32} {q2 : Int32} {a : xA} {H : am_H} (hS : xS h b T a H) (e : j287_619 N h b q1 q2 a = some (r, a')) : am_E sL sx am_cs 287 619 [(0, .ref 157), (1, .int q1), (2, .int q2)] [] H (some (.int r)) (fun H1 => xS h b T a' H1) := by
  unfold j287_619 at e
  refine ex_s (am_nb (m := 5) (pc1 := 624) (ls1 := [(0, .ref 157), (1, .int q1), (2, .int q2)]) (st1 := [.int (q2 + 3), .int q1, .ref 157]) (H1 := H) (k1 := 0) (n1 := 0) (by with_unfolding_all rfl)) ?_
  obtain ⟨r39, a40, e38, e⟩ := xb2_some e
  refine ex_cv1 (as := [.int q1, .int (q2 + 3)]) (rest := []) rfl rfl rfl rfl (hS.obj rfl (by decide)) rfl (by with_unfolding_all rfl) (by with_unfolding_all rfl) (tf288_byteOf hS e38) (fun H36 s37 => ?_)
  refine ex_s (am_nb (m := 1) (pc1 := 629) (ls1 := [(0, .ref 157), (1, .int q1), (2, .int q2)]) (st1 := [.int 100, .int r39]) (H1 := H36) (k1 := 0) (n1 := 0) (by with_unfolding_all rfl)) ?_
  have kk : am_E sL sx am_cs 287 637 [(0, .ref 157), (1, .int q1), (2, .int q2)] [.int (if r39 = 100 then (4 : Int32) else (0 : Int32))] H36 (some (.int r)) (fun H1 => xS h b T a' H1) := by
    cases e
    exact ex_r (st_iret rfl rfl rfl) s37
  refine ex_s (st_icmp rfl) ?_
  by_cases c41 : r39 = 100
  · refine ex_pc (if_pos c41) ?_
    refine ex_s (am_nb (m := 2) (pc1 := 637) (ls1 := [(0, .ref 157), (1, .int q1), (2, .int q2)]) (st1 := [.int 4]) (H1 := H36) (k1 := 0) (n1 := 0) (by with_unfolding_all rfl)) ?_
    rw [if_pos c41] at kk
    exact kk
  · refine ex_pc (if_neg c41) ?_
    refine ex_s (am_nb (m := 1) (pc1 := 637) (ls1 := [(0, .ref 157), (1, .int q1), (2, .int q2)]) (st1 := [.int 0]) (H1 := H36) (k1 := 0) (n1 := 0) (by with_unfolding_all rfl)) ?_
    rw [if_neg c41] at kk
    exact kk

set_option maxRecDepth 100000 in
theorem tl287_479 {sL : Nat} {sx : Nat → Int32} {h b N : Nat} {T : List am_C} {R : Option Value} {F : am_H → Prop} {w1 : Int32} {w2 : Int32} {z : Nat × Int32 × Int32 × xA} (k0 : z.1 = 0 → ∀ H2 : am_H, xS h b T z.2.2.2 H2 → am_E sL sx am_cs 287 531 [(0, .ref 157), (1, .int w1), (2, .int w2), (4, .int z.2.1), (5, .int z.2.2.1)] [] H2 R F) : ∀ (n : Nat) (v4 : Int32) (v5 : Int32) (a : xA) (H : am_H), xS h b T a H → l287_479 N h b w1 w2 n v4 v5 a = some z → am_E sL sx am_cs 287 479 [(0, .ref 157), (1, .int w1), (2, .int w2), (4, .int v4), (5, .int v5)] [] H R F := by
  intro n
  induction n with
  | zero =>
    intro v4 v5 a H hS e
    cases e
  | succ n ih =>
    intro v4 v5 a H hS e
    unfold l287_479 at e
    refine ex_s (am_nb (m := 2) (pc1 := 483) (ls1 := [(0, .ref 157), (1, .int w1), (2, .int w2), (4, .int v4), (5, .int v5)]) (st1 := [.int 6, .int v4]) (H1 := H) (k1 := 0) (n1 := 0) (by with_unfolding_all rfl)) ?_
    refine ex_s (st_icmp rfl) ?_
    by_cases c63 : 6 ≤ v4
    · have e := (if_pos c63).symm.trans e
      refine ex_pc (if_pos c63) ?_
      cases e
      exact le_E (l1 := [(0, .ref 157), (1, .int w1), (2, .int w2), (4, .int v4), (5, .int v5)]) ⟨rfl, rfl, rfl, rfl, rfl, trivial⟩ rfl (k0 rfl H hS)
    · have e := (if_neg c63).symm.trans e
      refine ex_pc (if_neg c63) ?_
      refine ex_s (am_nb (m := 7) (pc1 := 494) (ls1 := [(0, .ref 157), (1, .int w1), (2, .int w2), (4, .int v4), (5, .int v5)]) (st1 := [.int ((w2 + 2) + v4), .int w1, .ref 157]) (H1 := H) (k1 := 0) (n1 := 0) (by with_unfolding_all rfl)) ?_
      obtain ⟨r67, a68, e66, e⟩ := xb2_some e
      refine ex_cv1 (as := [.int w1, .int ((w2 + 2) + v4)]) (rest := []) rfl rfl rfl rfl (hS.obj rfl (by decide)) rfl (by with_unfolding_all rfl) (by with_unfolding_all rfl) (tf288_byteOf hS e66) (fun H64 s65 => ?_)
      obtain ⟨r72, a73, e71, e⟩ := xb2_some e
      refine ex_cs1 (as := [.int r67]) (rest := []) rfl (by decide) rfl rfl (by with_unfolding_all rfl) (by with_unfolding_all rfl) (tf274_isDigit s65 e71) (fun H69 s70 => ?_)
      refine ex_s (st_if rfl) ?_
      by_cases c74 : r72 = 0
      · have e := (if_pos c74).symm.trans e
        refine ex_pc (if_pos c74) ?_
        cases e
        exact le_E (l1 := [(0, .ref 157), (1, .int w1), (2, .int w2), (4, .int v4), (5, .int v5)]) ⟨rfl, rfl, rfl, rfl, rfl, trivial⟩ rfl (k0 rfl H69 s70)
      · have e := (if_neg c74).symm.trans e
        refine ex_pc (if_neg c74) ?_
        refine ex_s (am_nb (m := 10) (pc1 := 516) (ls1 := [(0, .ref 157), (1, .int w1), (2, .int w2), (4, .int v4), (5, .int v5)]) (st1 := [.int ((w2 + 2) + v4), .int w1, .ref 157, .int (10 * v5)]) (H1 := H69) (k1 := 0) (n1 := 0) (by with_unfolding_all rfl)) ?_
        obtain ⟨r78, a79, e77, e⟩ := xb2_some e
        refine ex_cv1 (as := [.int w1, .int ((w2 + 2) + v4)]) (rest := [.int (10 * v5)]) rfl rfl rfl rfl (s70.obj rfl (by decide)) rfl (by with_unfolding_all rfl) (by with_unfolding_all rfl) (tf288_byteOf s70 e77) (fun H75 s76 => ?_)
        refine ex_s (am_nb (m := 6) (pc1 := 479) (ls1 := [(4, .int (v4 + 1)), (5, .int (((10 * v5) + r78) - 48)), (0, .ref 157), (1, .int w1), (2, .int w2)]) (st1 := []) (H1 := H75) (k1 := 0) (n1 := 0) (by with_unfolding_all rfl)) ?_
        exact le_E (l1 := [(0, .ref 157), (1, .int w1), (2, .int w2), (4, .int (v4 + 1)), (5, .int (((10 * v5) + r78) - 48))]) ⟨rfl, rfl, rfl, rfl, rfl, trivial⟩ rfl (ih (v4 + 1) (((10 * v5) + r78) - 48) a79 H75 s76 e)

set_option maxRecDepth 100000 in
theorem tj287_531 {sL : Nat} {sx : Nat → Int32} {h b N : Nat} {T : List am_C} {r : Int32} {a' : xA} {q1 : Int32} {q2 : Int32} {q4 : Int32} {q5 : Int32} {a : xA} {H : am_H} (hS : xS h b T a H) (e : j287_531 N h b q1 q2 q4 q5 a = some (r, a')) : am_E sL sx am_cs 287 531 [(0, .ref 157), (1, .int q1), (2, .int q2), (4, .int q4), (5, .int q5)] [] H (some (.int r)) (fun H1 => xS h b T a' H1) := by
  unfold j287_531 at e
  refine ex_s (am_nb (m := 1) (pc1 := 533) (ls1 := [(0, .ref 157), (1, .int q1), (2, .int q2), (4, .int q4), (5, .int q5)]) (st1 := [.int q4]) (H1 := H) (k1 := 0) (n1 := 0) (by with_unfolding_all rfl)) ?_
  refine ex_s (st_if rfl) ?_
  by_cases c85 : q4 ≤ 0
  · have e := (if_pos c85).symm.trans e
    refine ex_pc (if_pos c85) ?_
    refine ex_s (am_nb (m := 1) (pc1 := 575) (ls1 := [(0, .ref 157), (1, .int q1), (2, .int q2), (4, .int q4), (5, .int q5)]) (st1 := [.int 0]) (H1 := H) (k1 := 0) (n1 := 0) (by with_unfolding_all rfl)) ?_
    cases e
    exact ex_r (st_iret rfl rfl rfl) hS
  · have e := (if_neg c85).symm.trans e
    refine ex_pc (if_neg c85) ?_
    refine ex_s (am_nb (m := 2) (pc1 := 540) (ls1 := [(0, .ref 157), (1, .int q1), (2, .int q2), (4, .int q4), (5, .int q5)]) (st1 := [.int 6, .int q4]) (H1 := H) (k1 := 0) (n1 := 0) (by with_unfolding_all rfl)) ?_
    refine ex_s (st_icmp rfl) ?_
    by_cases c88 : 6 ≤ q4
    · have e := (if_pos c88).symm.trans e
      refine ex_pc (if_pos c88) ?_
      refine ex_s (am_nb (m := 1) (pc1 := 575) (ls1 := [(0, .ref 157), (1, .int q1), (2, .int q2), (4, .int q4), (5, .int q5)]) (st1 := [.int 0]) (H1 := H) (k1 := 0) (n1 := 0) (by with_unfolding_all rfl)) ?_
      cases e
      exact ex_r (st_iret rfl rfl rfl) hS
    · have e := (if_neg c88).symm.trans e
      refine ex_pc (if_neg c88) ?_
      refine ex_s (am_nb (m := 2) (pc1 := 548) (ls1 := [(0, .ref 157), (1, .int q1), (2, .int q2), (4, .int q4), (5, .int q5)]) (st1 := [.int 32767, .int q5]) (H1 := H) (k1 := 0) (n1 := 0) (by with_unfolding_all rfl)) ?_
      refine ex_s (st_icmp rfl) ?_
      by_cases c90 : 32767 < q5
      · have e := (if_pos c90).symm.trans e
        refine ex_pc (if_pos c90) ?_
        refine ex_s (am_nb (m := 1) (pc1 := 575) (ls1 := [(0, .ref 157), (1, .int q1), (2, .int q2), (4, .int q4), (5, .int q5)]) (st1 := [.int 0]) (H1 := H) (k1 := 0) (n1 := 0) (by with_unfolding_all rfl)) ?_
        cases e
        exact ex_r (st_iret rfl rfl rfl) hS
      · have e := (if_neg c90).symm.trans e
        refine ex_pc (if_neg c90) ?_
        refine ex_s (am_nb (m := 7) (pc1 := 559) (ls1 := [(0, .ref 157), (1, .int q1), (2, .int q2), (4, .int q4), (5, .int q5)]) (st1 := [.int ((q2 + 2) + q4), .int q1, .ref 157]) (H1 := H) (k1 := 0) (n1 := 0) (by with_unfolding_all rfl)) ?_
        obtain ⟨r94, a95, e93, e⟩ := xb2_some e
        refine ex_cv1 (as := [.int q1, .int ((q2 + 2) + q4)]) (rest := []) rfl rfl rfl rfl (hS.obj rfl (by decide)) rfl (by with_unfolding_all rfl) (by with_unfolding_all rfl) (tf288_byteOf hS e93) (fun H91 s92 => ?_)
        refine ex_s (am_nb (m := 1) (pc1 := 564) (ls1 := [(0, .ref 157), (1, .int q1), (2, .int q2), (4, .int q4), (5, .int q5)]) (st1 := [.int 125, .int r94]) (H1 := H91) (k1 := 0) (n1 := 0) (by with_unfolding_all rfl)) ?_
        have kk : am_E sL sx am_cs 287 575 [(0, .ref 157), (1, .int q1), (2, .int q2), (4, .int q4), (5, .int q5)] [.int (if r94 = 125 then (q4 + 3) else (0 : Int32))] H91 (some (.int r)) (fun H1 => xS h b T a' H1) := by
          cases e
          exact ex_r (st_iret rfl rfl rfl) s92
        refine ex_s (st_icmp rfl) ?_
        by_cases c96 : r94 = 125
        · refine ex_pc (if_pos c96) ?_
          refine ex_s (am_nb (m := 4) (pc1 := 575) (ls1 := [(0, .ref 157), (1, .int q1), (2, .int q2), (4, .int q4), (5, .int q5)]) (st1 := [.int (q4 + 3)]) (H1 := H91) (k1 := 0) (n1 := 0) (by with_unfolding_all rfl)) ?_
          rw [if_pos c96] at kk
          exact kk
        · refine ex_pc (if_neg c96) ?_
          refine ex_s (am_nb (m := 1) (pc1 := 575) (ls1 := [(0, .ref 157), (1, .int q1), (2, .int q2), (4, .int q4), (5, .int q5)]) (st1 := [.int 0]) (H1 := H91) (k1 := 0) (n1 := 0) (by with_unfolding_all rfl)) ?_
          rw [if_neg c96] at kk
          exact kk

set_option maxRecDepth 100000 in
theorem tf287_item {sL : Nat} {sx : Nat → Int32} {h b N : Nat} {T : List am_C} {r : Int32} {a' : xA} {x0 : Int32} {x1 : Int32} {a : xA} {H : am_H} (hS : xS h b T a H) (e : f287_item N h b x0 x1 a = some (r, a')) : am_E sL sx am_cs 287 0 [(0, .ref 157), (1, .int x0), (2, .int x1)] [] H (some (.int r)) (fun H1 => xS h b T a' H1) := by
  unfold f287_item at e
  refine ex_s (am_nb (m := 3) (pc1 := 3) (ls1 := [(0, .ref 157), (1, .int x0), (2, .int x1)]) (st1 := [.int x1, .int x0, .ref 157]) (H1 := H) (k1 := 0) (n1 := 0) (by with_unfolding_all rfl)) ?_
  obtain ⟨r4, a5, e3, e⟩ := xb2_some e
  refine ex_cv1 (as := [.int x0, .int x1]) (rest := []) rfl rfl rfl rfl (hS.obj rfl (by decide)) rfl (by with_unfolding_all rfl) (by with_unfolding_all rfl) (tf288_byteOf hS e3) (fun H1 s2 => ?_)
  refine ex_s (am_nb (m := 1) (pc1 := 8) (ls1 := [(0, .ref 157), (1, .int x0), (2, .int x1)]) (st1 := [.int 37, .int r4]) (H1 := H1) (k1 := 0) (n1 := 0) (by with_unfolding_all rfl)) ?_
  refine ex_s (st_icmp rfl) ?_
  by_cases c6 : r4 = 37
  · have e := (if_pos c6).symm.trans e
    refine ex_pc (if_pos c6) ?_
    refine ex_s (am_nb (m := 5) (pc1 := 18) (ls1 := [(0, .ref 157), (1, .int x0), (2, .int x1)]) (st1 := [.int (x1 + 1), .int x0, .ref 157]) (H1 := H1) (k1 := 0) (n1 := 0) (by with_unfolding_all rfl)) ?_
    obtain ⟨r10, a11, e9, e⟩ := xb2_some e
    refine ex_cv1 (as := [.int x0, .int (x1 + 1)]) (rest := []) rfl rfl rfl rfl (s2.obj rfl (by decide)) rfl (by with_unfolding_all rfl) (by with_unfolding_all rfl) (tf288_byteOf s2 e9) (fun H7 s8 => ?_)
    refine ex_s (am_nb (m := 2) (pc1 := 23) (ls1 := [(3, .int r10), (0, .ref 157), (1, .int x0), (2, .int x1)]) (st1 := [.int r10]) (H1 := H7) (k1 := 0) (n1 := 0) (by with_unfolding_all rfl)) ?_
    refine ex_s (st_tsw rfl) ?_
    by_cases c12 : r10 = 33 ∨ r10 = 37 ∨ r10 = 38 ∨ r10 = 42 ∨ r10 = 43 ∨ r10 = 45 ∨ r10 = 47 ∨ r10 = 59 ∨ r10 = 60 ∨ r10 = 61 ∨ r10 = 62 ∨ r10 = 63 ∨ r10 = 65 ∨ r10 = 79 ∨ r10 = 94 ∨ r10 = 99 ∨ r10 = 100 ∨ r10 = 101 ∨ r10 = 105 ∨ r10 = 109 ∨ r10 = 116 ∨ r10 = 124 ∨ r10 = 126
    · have e := (if_pos c12).symm.trans e
      refine ex_pc (pc1 := 638) (by rcases c12 with c12 | c12 | c12 | c12 | c12 | c12 | c12 | c12 | c12 | c12 | c12 | c12 | c12 | c12 | c12 | c12 | c12 | c12 | c12 | c12 | c12 | c12 | c12 <;> (rw [c12]; with_unfolding_all rfl)) ?_
      refine ex_s (am_nb (m := 1) (pc1 := 639) (ls1 := [(3, .int r10), (0, .ref 157), (1, .int x0), (2, .int x1)]) (st1 := [.int 2]) (H1 := H7) (k1 := 0) (n1 := 0) (by with_unfolding_all rfl)) ?_
      cases e
      exact ex_r (st_iret rfl rfl rfl) s8
    · have e := (if_neg c12).symm.trans e
      by_cases c13 : r10 = 39
      · have e := (if_pos c13).symm.trans e
        refine ex_pc (pc1 := 442) (by rw [c13]; with_unfolding_all rfl) ?_
        refine ex_s (am_nb (m := 5) (pc1 := 447) (ls1 := [(3, .int r10), (0, .ref 157), (1, .int x0), (2, .int x1)]) (st1 := [.int (x1 + 2), .int x0, .ref 157]) (H1 := H7) (k1 := 0) (n1 := 0) (by with_unfolding_all rfl)) ?_
        obtain ⟨r17, a18, e16, e⟩ := xb2_some e
        refine ex_cv1 (as := [.int x0, .int (x1 + 2)]) (rest := []) rfl rfl rfl rfl (s8.obj rfl (by decide)) rfl (by with_unfolding_all rfl) (by with_unfolding_all rfl) (tf288_byteOf s8 e16) (fun H14 s15 => ?_)
        refine ex_s (am_nb (m := 1) (pc1 := 451) (ls1 := [(3, .int r10), (0, .ref 157), (1, .int x0), (2, .int x1)]) (st1 := [.int (-1), .int r17]) (H1 := H14) (k1 := 0) (n1 := 0) (by with_unfolding_all rfl)) ?_
        refine ex_s (st_icmp rfl) ?_
        by_cases c20 : r17 = (-1)
        · have e := (if_pos c20).symm.trans e
          refine ex_pc (if_pos c20) ?_
          refine ex_s (am_nb (m := 1) (pc1 := 472) (ls1 := [(3, .int r10), (0, .ref 157), (1, .int x0), (2, .int x1)]) (st1 := [.int 0]) (H1 := H14) (k1 := 0) (n1 := 0) (by with_unfolding_all rfl)) ?_
          cases e
          exact ex_r (st_iret rfl rfl rfl) s15
        · have e := (if_neg c20).symm.trans e
          refine ex_pc (if_neg c20) ?_
          refine ex_s (am_nb (m := 5) (pc1 := 459) (ls1 := [(3, .int r10), (0, .ref 157), (1, .int x0), (2, .int x1)]) (st1 := [.int (x1 + 3), .int x0, .ref 157]) (H1 := H14) (k1 := 0) (n1 := 0) (by with_unfolding_all rfl)) ?_
          obtain ⟨r24, a25, e23, e⟩ := xb2_some e
          refine ex_cv1 (as := [.int x0, .int (x1 + 3)]) (rest := []) rfl rfl rfl rfl (s15.obj rfl (by decide)) rfl (by with_unfolding_all rfl) (by with_unfolding_all rfl) (tf288_byteOf s15 e23) (fun H21 s22 => ?_)
          refine ex_s (am_nb (m := 1) (pc1 := 464) (ls1 := [(3, .int r10), (0, .ref 157), (1, .int x0), (2, .int x1)]) (st1 := [.int 39, .int r24]) (H1 := H21) (k1 := 0) (n1 := 0) (by with_unfolding_all rfl)) ?_
          have kk : am_E sL sx am_cs 287 472 [(3, .int r10), (0, .ref 157), (1, .int x0), (2, .int x1)] [.int (if r24 = 39 then (4 : Int32) else (0 : Int32))] H21 (some (.int r)) (fun H1 => xS h b T a' H1) := by
            cases e
            exact ex_r (st_iret rfl rfl rfl) s22
          refine ex_s (st_icmp rfl) ?_
          by_cases c26 : r24 = 39
          · refine ex_pc (if_pos c26) ?_
            refine ex_s (am_nb (m := 2) (pc1 := 472) (ls1 := [(3, .int r10), (0, .ref 157), (1, .int x0), (2, .int x1)]) (st1 := [.int 4]) (H1 := H21) (k1 := 0) (n1 := 0) (by with_unfolding_all rfl)) ?_
            rw [if_pos c26] at kk
            exact kk
          · refine ex_pc (if_neg c26) ?_
            refine ex_s (am_nb (m := 1) (pc1 := 472) (ls1 := [(3, .int r10), (0, .ref 157), (1, .int x0), (2, .int x1)]) (st1 := [.int 0]) (H1 := H21) (k1 := 0) (n1 := 0) (by with_unfolding_all rfl)) ?_
            rw [if_neg c26] at kk
            exact kk
      · have e := (if_neg c13).symm.trans e
        by_cases c27 : r10 = 48
        · have e := (if_pos c27).symm.trans e
          refine ex_pc (pc1 := 595) (by rw [c27]; with_unfolding_all rfl) ?_
          refine ex_s (am_nb (m := 5) (pc1 := 600) (ls1 := [(3, .int r10), (0, .ref 157), (1, .int x0), (2, .int x1)]) (st1 := [.int (x1 + 2), .int x0, .ref 157]) (H1 := H7) (k1 := 0) (n1 := 0) (by with_unfolding_all rfl)) ?_
          obtain ⟨r31, a32, e30, e⟩ := xb2_some e
          refine ex_cv1 (as := [.int x0, .int (x1 + 2)]) (rest := []) rfl rfl rfl rfl (s8.obj rfl (by decide)) rfl (by with_unfolding_all rfl) (by with_unfolding_all rfl) (tf288_byteOf s8 e30) (fun H28 s29 => ?_)
          refine ex_s (am_nb (m := 3) (pc1 := 609) (ls1 := [(4, .int r31), (3, .int r10), (0, .ref 157), (1, .int x0), (2, .int x1)]) (st1 := [.int 50, .int r31]) (H1 := H28) (k1 := 0) (n1 := 0) (by with_unfolding_all rfl)) ?_
          refine ex_s (st_icmp rfl) ?_
          by_cases c35 : r31 = 50
          · have e := (if_pos c35).symm.trans e
            refine ex_pc (if_pos c35) ?_
            exact le_E (l1 := [(0, .ref 157), (1, .int x0), (2, .int x1)]) ⟨rfl, rfl, rfl, trivial⟩ rfl (tj287_619  s29 e)
          · have e := (if_neg c35).symm.trans e
            refine ex_pc (if_neg c35) ?_
            refine ex_s (am_nb (m := 2) (pc1 := 616) (ls1 := [(4, .int r31), (3, .int r10), (0, .ref 157), (1, .int x0), (2, .int x1)]) (st1 := [.int 51, .int r31]) (H1 := H28) (k1 := 0) (n1 := 0) (by with_unfolding_all rfl)) ?_
            refine ex_s (st_icmp rfl) ?_
            by_cases c43 : r31 = 51
            · have e := (if_pos c43).symm.trans e
              refine ex_pc (if_pos c43) ?_
              exact le_E (l1 := [(0, .ref 157), (1, .int x0), (2, .int x1)]) ⟨rfl, rfl, rfl, trivial⟩ rfl (tj287_619  s29 e)
            · have e := (if_neg c43).symm.trans e
              refine ex_pc (if_neg c43) ?_
              refine ex_s (am_nb (m := 1) (pc1 := 637) (ls1 := [(4, .int r31), (3, .int r10), (0, .ref 157), (1, .int x0), (2, .int x1)]) (st1 := [.int 0]) (H1 := H28) (k1 := 0) (n1 := 0) (by with_unfolding_all rfl)) ?_
              cases e
              exact ex_r (st_iret rfl rfl rfl) s29
        · have e := (if_neg c27).symm.trans e
          by_cases c44 : r10 = 50 ∨ r10 = 51
          · have e := (if_pos c44).symm.trans e
            refine ex_pc (pc1 := 576) (by rcases c44 with c44 | c44 <;> (rw [c44]; with_unfolding_all rfl)) ?_
            refine ex_s (am_nb (m := 5) (pc1 := 581) (ls1 := [(3, .int r10), (0, .ref 157), (1, .int x0), (2, .int x1)]) (st1 := [.int (x1 + 2), .int x0, .ref 157]) (H1 := H7) (k1 := 0) (n1 := 0) (by with_unfolding_all rfl)) ?_
            obtain ⟨r48, a49, e47, e⟩ := xb2_some e
            refine ex_cv1 (as := [.int x0, .int (x1 + 2)]) (rest := []) rfl rfl rfl rfl (s8.obj rfl (by decide)) rfl (by with_unfolding_all rfl) (by with_unfolding_all rfl) (tf288_byteOf s8 e47) (fun H45 s46 => ?_)
            refine ex_s (am_nb (m := 1) (pc1 := 586) (ls1 := [(3, .int r10), (0, .ref 157), (1, .int x0), (2, .int x1)]) (st1 := [.int 100, .int r48]) (H1 := H45) (k1 := 0) (n1 := 0) (by with_unfolding_all rfl)) ?_
            have kk : am_E sL sx am_cs 287 594 [(3, .int r10), (0, .ref 157), (1, .int x0), (2, .int x1)] [.int (if r48 = 100 then (3 : Int32) else (0 : Int32))] H45 (some (.int r)) (fun H1 => xS h b T a' H1) := by
              cases e
              exact ex_r (st_iret rfl rfl rfl) s46
            refine ex_s (st_icmp rfl) ?_
            by_cases c50 : r48 = 100
            · refine ex_pc (if_pos c50) ?_
              refine ex_s (am_nb (m := 2) (pc1 := 594) (ls1 := [(3, .int r10), (0, .ref 157), (1, .int x0), (2, .int x1)]) (st1 := [.int 3]) (H1 := H45) (k1 := 0) (n1 := 0) (by with_unfolding_all rfl)) ?_
              rw [if_pos c50] at kk
              exact kk
            · refine ex_pc (if_neg c50) ?_
              refine ex_s (am_nb (m := 1) (pc1 := 594) (ls1 := [(3, .int r10), (0, .ref 157), (1, .int x0), (2, .int x1)]) (st1 := [.int 0]) (H1 := H45) (k1 := 0) (n1 := 0) (by with_unfolding_all rfl)) ?_
              rw [if_neg c50] at kk
              exact kk
          · have e := (if_neg c44).symm.trans e
            by_cases c51 : r10 = 112
            · have e := (if_pos c51).symm.trans e
              refine ex_pc (pc1 := 412) (by rw [c51]; with_unfolding_all rfl) ?_
              refine ex_s (am_nb (m := 5) (pc1 := 417) (ls1 := [(3, .int r10), (0, .ref 157), (1, .int x0), (2, .int x1)]) (st1 := [.int (x1 + 2), .int x0, .ref 157]) (H1 := H7) (k1 := 0) (n1 := 0) (by with_unfolding_all rfl)) ?_
              obtain ⟨r55, a56, e54, e⟩ := xb2_some e
              refine ex_cv1 (as := [.int x0, .int (x1 + 2)]) (rest := []) rfl rfl rfl rfl (s8.obj rfl (by decide)) rfl (by with_unfolding_all rfl) (by with_unfolding_all rfl) (tf288_byteOf s8 e54) (fun H52 s53 => ?_)
              refine ex_s (am_nb (m := 3) (pc1 := 426) (ls1 := [(4, .int r55), (3, .int r10), (0, .ref 157), (1, .int x0), (2, .int x1)]) (st1 := [.int 49, .int r55]) (H1 := H52) (k1 := 0) (n1 := 0) (by with_unfolding_all rfl)) ?_
              refine ex_s (st_icmp rfl) ?_
              by_cases c59 : r55 < 49
              · have e := (if_pos c59).symm.trans e
                refine ex_pc (if_pos c59) ?_
                refine ex_s (am_nb (m := 1) (pc1 := 441) (ls1 := [(4, .int r55), (3, .int r10), (0, .ref 157), (1, .int x0), (2, .int x1)]) (st1 := [.int 0]) (H1 := H52) (k1 := 0) (n1 := 0) (by with_unfolding_all rfl)) ?_
                cases e
                exact ex_r (st_iret rfl rfl rfl) s53
              · have e := (if_neg c59).symm.trans e
                refine ex_pc (if_neg c59) ?_
                refine ex_s (am_nb (m := 2) (pc1 := 433) (ls1 := [(4, .int r55), (3, .int r10), (0, .ref 157), (1, .int x0), (2, .int x1)]) (st1 := [.int 52, .int r55]) (H1 := H52) (k1 := 0) (n1 := 0) (by with_unfolding_all rfl)) ?_
                have kk : am_E sL sx am_cs 287 441 [(4, .int r55), (3, .int r10), (0, .ref 157), (1, .int x0), (2, .int x1)] [.int (if 52 < r55 then (0 : Int32) else (3 : Int32))] H52 (some (.int r)) (fun H1 => xS h b T a' H1) := by
                  cases e
                  exact ex_r (st_iret rfl rfl rfl) s53
                refine ex_s (st_icmp rfl) ?_
                by_cases c60 : 52 < r55
                · refine ex_pc (if_pos c60) ?_
                  refine ex_s (am_nb (m := 1) (pc1 := 441) (ls1 := [(4, .int r55), (3, .int r10), (0, .ref 157), (1, .int x0), (2, .int x1)]) (st1 := [.int 0]) (H1 := H52) (k1 := 0) (n1 := 0) (by with_unfolding_all rfl)) ?_
                  rw [if_pos c60] at kk
                  exact kk
                · refine ex_pc (if_neg c60) ?_
                  refine ex_s (am_nb (m := 2) (pc1 := 441) (ls1 := [(4, .int r55), (3, .int r10), (0, .ref 157), (1, .int x0), (2, .int x1)]) (st1 := [.int 3]) (H1 := H52) (k1 := 0) (n1 := 0) (by with_unfolding_all rfl)) ?_
                  rw [if_neg c60] at kk
                  exact kk
            · have e := (if_neg c51).symm.trans e
              by_cases c61 : r10 = 123
              · have e := (if_pos c61).symm.trans e
                refine ex_pc (pc1 := 473) (by rw [c61]; with_unfolding_all rfl) ?_
                refine ex_s (am_nb (m := 4) (pc1 := 479) (ls1 := [(5, .int 0), (4, .int 0), (3, .int r10), (0, .ref 157), (1, .int x0), (2, .int x1)]) (st1 := []) (H1 := H7) (k1 := 0) (n1 := 0) (by with_unfolding_all rfl)) ?_
                obtain ⟨z80, e81, e⟩ := Option.bind_eq_some_iff.mp e
                refine le_E (l1 := [(0, .ref 157), (1, .int x0), (2, .int x1), (4, .int 0), (5, .int 0)]) ⟨rfl, rfl, rfl, rfl, rfl, trivial⟩ rfl (tl287_479 (z := z80)  (fun uz80_0 Hz800 sz800 => ?_) N 0 0 a11 H7 s8 e81)
                exact le_E (l1 := [(0, .ref 157), (1, .int x0), (2, .int x1), (4, .int z80.2.1), (5, .int z80.2.2.1)]) ⟨rfl, rfl, rfl, rfl, rfl, trivial⟩ rfl (tj287_531  sz800 e)
              · have e := (if_neg c61).symm.trans e
                refine ex_pc (pc1 := 640) (am_sw_n (sw_c (Or.inl (fun q => c12 (Or.inl q))) (sw_c (Or.inr rfl) (sw_c (Or.inr rfl) (sw_c (Or.inr rfl) (sw_c (Or.inl (fun q => c12 (Or.inr (Or.inl q)))) (sw_c (Or.inl (fun q => c12 (Or.inr (Or.inr (Or.inl q))))) (sw_c (Or.inl c13) (sw_c (Or.inr rfl) (sw_c (Or.inr rfl) (sw_c (Or.inl (fun q => c12 (Or.inr (Or.inr (Or.inr (Or.inl q)))))) (sw_c (Or.inl (fun q => c12 (Or.inr (Or.inr (Or.inr (Or.inr (Or.inl q))))))) (sw_c (Or.inr rfl) (sw_c (Or.inl (fun q => c12 (Or.inr (Or.inr (Or.inr (Or.inr (Or.inr (Or.inl q)))))))) (sw_c (Or.inr rfl) (sw_c (Or.inl (fun q => c12 (Or.inr (Or.inr (Or.inr (Or.inr (Or.inr (Or.inr (Or.inl q))))))))) (sw_c (Or.inl c27) (sw_c (Or.inr rfl) (sw_c (Or.inl (fun q => c44 (Or.inl q))) (sw_c (Or.inl (fun q => c44 (Or.inr q))) (sw_c (Or.inr rfl) (sw_c (Or.inr rfl) (sw_c (Or.inr rfl) (sw_c (Or.inr rfl) (sw_c (Or.inr rfl) (sw_c (Or.inr rfl) (sw_c (Or.inr rfl) (sw_c (Or.inl (fun q => c12 (Or.inr (Or.inr (Or.inr (Or.inr (Or.inr (Or.inr (Or.inr (Or.inl q)))))))))) (sw_c (Or.inl (fun q => c12 (Or.inr (Or.inr (Or.inr (Or.inr (Or.inr (Or.inr (Or.inr (Or.inr (Or.inl q))))))))))) (sw_c (Or.inl (fun q => c12 (Or.inr (Or.inr (Or.inr (Or.inr (Or.inr (Or.inr (Or.inr (Or.inr (Or.inr (Or.inl q)))))))))))) (sw_c (Or.inl (fun q => c12 (Or.inr (Or.inr (Or.inr (Or.inr (Or.inr (Or.inr (Or.inr (Or.inr (Or.inr (Or.inr (Or.inl q))))))))))))) (sw_c (Or.inl (fun q => c12 (Or.inr (Or.inr (Or.inr (Or.inr (Or.inr (Or.inr (Or.inr (Or.inr (Or.inr (Or.inr (Or.inr (Or.inl q)))))))))))))) (sw_c (Or.inr rfl) (sw_c (Or.inl (fun q => c12 (Or.inr (Or.inr (Or.inr (Or.inr (Or.inr (Or.inr (Or.inr (Or.inr (Or.inr (Or.inr (Or.inr (Or.inr (Or.inl q))))))))))))))) (sw_c (Or.inr rfl) (sw_c (Or.inr rfl) (sw_c (Or.inr rfl) (sw_c (Or.inr rfl) (sw_c (Or.inr rfl) (sw_c (Or.inr rfl) (sw_c (Or.inr rfl) (sw_c (Or.inr rfl) (sw_c (Or.inr rfl) (sw_c (Or.inr rfl) (sw_c (Or.inr rfl) (sw_c (Or.inr rfl) (sw_c (Or.inr rfl) (sw_c (Or.inl (fun q => c12 (Or.inr (Or.inr (Or.inr (Or.inr (Or.inr (Or.inr (Or.inr (Or.inr (Or.inr (Or.inr (Or.inr (Or.inr (Or.inr (Or.inl q)))))))))))))))) (sw_c (Or.inr rfl) (sw_c (Or.inr rfl) (sw_c (Or.inr rfl) (sw_c (Or.inr rfl) (sw_c (Or.inr rfl) (sw_c (Or.inr rfl) (sw_c (Or.inr rfl) (sw_c (Or.inr rfl) (sw_c (Or.inr rfl) (sw_c (Or.inr rfl) (sw_c (Or.inr rfl) (sw_c (Or.inr rfl) (sw_c (Or.inr rfl) (sw_c (Or.inr rfl) (sw_c (Or.inl (fun q => c12 (Or.inr (Or.inr (Or.inr (Or.inr (Or.inr (Or.inr (Or.inr (Or.inr (Or.inr (Or.inr (Or.inr (Or.inr (Or.inr (Or.inr (Or.inl q))))))))))))))))) (sw_c (Or.inr rfl) (sw_c (Or.inr rfl) (sw_c (Or.inr rfl) (sw_c (Or.inr rfl) (sw_c (Or.inl (fun q => c12 (Or.inr (Or.inr (Or.inr (Or.inr (Or.inr (Or.inr (Or.inr (Or.inr (Or.inr (Or.inr (Or.inr (Or.inr (Or.inr (Or.inr (Or.inr (Or.inl q)))))))))))))))))) (sw_c (Or.inl (fun q => c12 (Or.inr (Or.inr (Or.inr (Or.inr (Or.inr (Or.inr (Or.inr (Or.inr (Or.inr (Or.inr (Or.inr (Or.inr (Or.inr (Or.inr (Or.inr (Or.inr (Or.inl q))))))))))))))))))) (sw_c (Or.inl (fun q => c12 (Or.inr (Or.inr (Or.inr (Or.inr (Or.inr (Or.inr (Or.inr (Or.inr (Or.inr (Or.inr (Or.inr (Or.inr (Or.inr (Or.inr (Or.inr (Or.inr (Or.inr (Or.inl q)))))))))))))))))))) (sw_c (Or.inr rfl) (sw_c (Or.inr rfl) (sw_c (Or.inr rfl) (sw_c (Or.inl (fun q => c12 (Or.inr (Or.inr (Or.inr (Or.inr (Or.inr (Or.inr (Or.inr (Or.inr (Or.inr (Or.inr (Or.inr (Or.inr (Or.inr (Or.inr (Or.inr (Or.inr (Or.inr (Or.inr (Or.inl q))))))))))))))))))))) (sw_c (Or.inr rfl) (sw_c (Or.inr rfl) (sw_c (Or.inr rfl) (sw_c (Or.inl (fun q => c12 (Or.inr (Or.inr (Or.inr (Or.inr (Or.inr (Or.inr (Or.inr (Or.inr (Or.inr (Or.inr (Or.inr (Or.inr (Or.inr (Or.inr (Or.inr (Or.inr (Or.inr (Or.inr (Or.inr (Or.inl q)))))))))))))))))))))) (sw_c (Or.inr rfl) (sw_c (Or.inr rfl) (sw_c (Or.inl c51) (sw_c (Or.inr rfl) (sw_c (Or.inr rfl) (sw_c (Or.inr rfl) (sw_c (Or.inl (fun q => c12 (Or.inr (Or.inr (Or.inr (Or.inr (Or.inr (Or.inr (Or.inr (Or.inr (Or.inr (Or.inr (Or.inr (Or.inr (Or.inr (Or.inr (Or.inr (Or.inr (Or.inr (Or.inr (Or.inr (Or.inr (Or.inl q))))))))))))))))))))))) (sw_c (Or.inr rfl) (sw_c (Or.inr rfl) (sw_c (Or.inr rfl) (sw_c (Or.inr rfl) (sw_c (Or.inr rfl) (sw_c (Or.inr rfl) (sw_c (Or.inl c61) (sw_c (Or.inl (fun q => c12 (Or.inr (Or.inr (Or.inr (Or.inr (Or.inr (Or.inr (Or.inr (Or.inr (Or.inr (Or.inr (Or.inr (Or.inr (Or.inr (Or.inr (Or.inr (Or.inr (Or.inr (Or.inr (Or.inr (Or.inr (Or.inr (Or.inl q)))))))))))))))))))))))) (sw_c (Or.inr rfl) (sw_c (Or.inl (fun q => c12 (Or.inr (Or.inr (Or.inr (Or.inr (Or.inr (Or.inr (Or.inr (Or.inr (Or.inr (Or.inr (Or.inr (Or.inr (Or.inr (Or.inr (Or.inr (Or.inr (Or.inr (Or.inr (Or.inr (Or.inr (Or.inr (Or.inr q)))))))))))))))))))))))) sw_o))))))))))))))))))))))))))))))))))))))))))))))))))))))))))))))))))))))))))))))))))))))))))))))) ?_
                refine ex_s (am_nb (m := 1) (pc1 := 641) (ls1 := [(3, .int r10), (0, .ref 157), (1, .int x0), (2, .int x1)]) (st1 := [.int 0]) (H1 := H7) (k1 := 0) (n1 := 0) (by with_unfolding_all rfl)) ?_
                cases e
                exact ex_r (st_iret rfl rfl rfl) s8
  · have e := (if_neg c6).symm.trans e
    refine ex_pc (if_neg c6) ?_
    refine ex_s (am_nb (m := 1) (pc1 := 12) (ls1 := [(0, .ref 157), (1, .int x0), (2, .int x1)]) (st1 := [.int 1]) (H1 := H1) (k1 := 0) (n1 := 0) (by with_unfolding_all rfl)) ?_
    cases e
    exact ex_r (st_iret rfl rfl rfl) s2

set_option maxRecDepth 100000 in
theorem tj286_169 {sL : Nat} {sx : Nat → Int32} {h b N : Nat} {T : List am_C} {R : Option Value} {F : am_H → Prop} {w1 : Int32} {z : Nat × Int32 × xA} {rc : Int32 → Int32 → Int32 → xA → Option (Nat × Int32 × xA)} (k0 : z.1 = 0 → ∀ H2 : am_H, xS h b T z.2.2 H2 → am_E sL sx am_cs 286 32 [] [] H2 R F) (k1 : z.1 = 1 → ∀ H2 : am_H, xS h b T z.2.2 H2 → am_E sL sx am_cs 286 74 [] [] H2 R F) (k2 : z.1 = 2 → ∀ H2 : am_H, xS h b T z.2.2 H2 → am_E sL sx am_cs 286 105 [] [] H2 R F) (k3 : z.1 = 3 → ∀ H2 : am_H, xS h b T z.2.2 H2 → am_E sL sx am_cs 286 134 [] [] H2 R F) (k4 : z.1 = 4 → ∀ H2 : am_H, xS h b T z.2.2 H2 → am_E sL sx am_cs 286 160 [] [] H2 R F) (k5 : z.1 = 5 → ∀ H2 : am_H, xS h b T z.2.2 H2 → am_E sL sx am_cs 286 179 [(3, .int z.2.1)] [] H2 R F) (ih : ∀ (v2 : Int32) (v3 : Int32) (v4 : Int32) (a : xA) (H : am_H), xS h b T a H → rc v2 v3 v4 a = some z → am_E sL sx am_cs 286 7 [(0, .ref 157), (1, .int w1), (2, .int v2), (3, .int v3), (4, .int v4)] [] H R F) {q2 : Int32} {q3 : Int32} {q4 : Int32} {q5 : Int32} {a : xA} {H : am_H} (hS : xS h b T a H) (e : j286_169 N h b rc w1 q2 q3 q4 q5 a = some z) : am_E sL sx am_cs 286 169 [(0, .ref 157), (1, .int w1), (2, .int q2), (3, .int q3), (4, .int q4), (5, .int q5)] [] H R F := by
  unfold j286_169 at e
  refine ex_s (am_nb (m := 5) (pc1 := 7) (ls1 := [(4, .int (q4 + q5)), (0, .ref 157), (1, .int w1), (2, .int q2), (3, .int q3), (5, .int q5)]) (st1 := []) (H1 := H) (k1 := 0) (n1 := 0) (by with_unfolding_all rfl)) ?_
  exact le_E (l1 := [(0, .ref 157), (1, .int w1), (2, .int q2), (3, .int q3), (4, .int (q4 + q5))]) ⟨rfl, rfl, rfl, rfl, rfl, trivial⟩ rfl (ih q2 q3 (q4 + q5) a H hS e)

set_option maxRecDepth 100000 in
theorem tl286_7 {sL : Nat} {sx : Nat → Int32} {h b N : Nat} {T : List am_C} {R : Option Value} {F : am_H → Prop} {w1 : Int32} {z : Nat × Int32 × xA} (k0 : z.1 = 0 → ∀ H2 : am_H, xS h b T z.2.2 H2 → am_E sL sx am_cs 286 32 [] [] H2 R F) (k1 : z.1 = 1 → ∀ H2 : am_H, xS h b T z.2.2 H2 → am_E sL sx am_cs 286 74 [] [] H2 R F) (k2 : z.1 = 2 → ∀ H2 : am_H, xS h b T z.2.2 H2 → am_E sL sx am_cs 286 105 [] [] H2 R F) (k3 : z.1 = 3 → ∀ H2 : am_H, xS h b T z.2.2 H2 → am_E sL sx am_cs 286 134 [] [] H2 R F) (k4 : z.1 = 4 → ∀ H2 : am_H, xS h b T z.2.2 H2 → am_E sL sx am_cs 286 160 [] [] H2 R F) (k5 : z.1 = 5 → ∀ H2 : am_H, xS h b T z.2.2 H2 → am_E sL sx am_cs 286 179 [(3, .int z.2.1)] [] H2 R F) : ∀ (n : Nat) (v2 : Int32) (v3 : Int32) (v4 : Int32) (a : xA) (H : am_H), xS h b T a H → l286_7 N h b w1 n v2 v3 v4 a = some z → am_E sL sx am_cs 286 7 [(0, .ref 157), (1, .int w1), (2, .int v2), (3, .int v3), (4, .int v4)] [] H R F := by
  intro n
  induction n with
  | zero =>
    intro v2 v3 v4 a H hS e
    cases e
  | succ n ih =>
    intro v2 v3 v4 a H hS e
    unfold l286_7 at e
    refine ex_s (am_nb (m := 2) (pc1 := 10) (ls1 := [(0, .ref 157), (1, .int w1), (2, .int v2), (3, .int v3), (4, .int v4)]) (st1 := [.ref 157, .int v4]) (H1 := H) (k1 := 0) (n1 := 0) (by with_unfolding_all rfl)) ?_
    refine xe_get (v := .ref 166) hS rfl rfl (by decide) rfl ?_
    refine ex_s (am_nb (m := 1) (pc1 := 14) (ls1 := [(0, .ref 157), (1, .int w1), (2, .int v2), (3, .int v3), (4, .int v4)]) (st1 := [.int w1, .ref 166, .int v4]) (H1 := H) (k1 := 0) (n1 := 0) (by with_unfolding_all rfl)) ?_
    obtain ⟨g1, e⟩ := xg_some e
    refine xe_iald hS rfl rfl g1 ?_
    refine ex_s (st_icmp rfl) ?_
    by_cases c2 : (a 166 (w1.toNatClampNeg)) ≤ v4
    · have e := (if_pos c2).symm.trans e
      refine ex_pc (if_pos c2) ?_
      cases e
      exact le_E (l1 := [(3, .int v3)]) ⟨rfl, trivial⟩ rfl (k5 rfl H hS)
    · have e := (if_neg c2).symm.trans e
      refine ex_pc (if_neg c2) ?_
      refine ex_s (am_nb (m := 3) (pc1 := 22) (ls1 := [(0, .ref 157), (1, .int w1), (2, .int v2), (3, .int v3), (4, .int v4)]) (st1 := [.int v4, .int w1, .ref 157]) (H1 := H) (k1 := 0) (n1 := 0) (by with_unfolding_all rfl)) ?_
      obtain ⟨r6, a7, e5, e⟩ := xb2_some e
      refine ex_cv1 (as := [.int w1, .int v4]) (rest := []) rfl rfl rfl rfl (hS.obj rfl (by decide)) rfl (by with_unfolding_all rfl) (by with_unfolding_all rfl) (tf287_item hS e5) (fun H3 s4 => ?_)
      refine ex_s (am_nb (m := 2) (pc1 := 29) (ls1 := [(5, .int r6), (0, .ref 157), (1, .int w1), (2, .int v2), (3, .int v3), (4, .int v4)]) (st1 := [.int r6]) (H1 := H3) (k1 := 0) (n1 := 0) (by with_unfolding_all rfl)) ?_
      refine ex_s (st_if rfl) ?_
      by_cases c8 : r6 = 0
      · have e := (if_pos c8).symm.trans e
        refine ex_pc (if_pos c8) ?_
        cases e
        exact le_E (l1 := []) trivial rfl (k0 rfl H3 s4)
      · have e := (if_neg c8).symm.trans e
        refine ex_pc (if_neg c8) ?_
        refine ex_s (am_nb (m := 3) (pc1 := 38) (ls1 := [(5, .int r6), (0, .ref 157), (1, .int w1), (2, .int v2), (3, .int v3), (4, .int v4)]) (st1 := [.int v4, .int w1, .ref 157]) (H1 := H3) (k1 := 0) (n1 := 0) (by with_unfolding_all rfl)) ?_
        obtain ⟨r12, a13, e11, e⟩ := xb2_some e
        refine ex_cv1 (as := [.int w1, .int v4]) (rest := []) rfl rfl rfl rfl (s4.obj rfl (by decide)) rfl (by with_unfolding_all rfl) (by with_unfolding_all rfl) (tf288_byteOf s4 e11) (fun H9 s10 => ?_)
        refine ex_s (am_nb (m := 1) (pc1 := 43) (ls1 := [(5, .int r6), (0, .ref 157), (1, .int w1), (2, .int v2), (3, .int v3), (4, .int v4)]) (st1 := [.int 37, .int r12]) (H1 := H9) (k1 := 0) (n1 := 0) (by with_unfolding_all rfl)) ?_
        refine ex_s (st_icmp rfl) ?_
        by_cases c14 : r12 = 37
        · have e := (if_pos c14).symm.trans e
          refine ex_pc (if_pos c14) ?_
          refine ex_s (am_nb (m := 5) (pc1 := 52) (ls1 := [(5, .int r6), (0, .ref 157), (1, .int w1), (2, .int v2), (3, .int v3), (4, .int v4)]) (st1 := [.int (v4 + 1), .int w1, .ref 157]) (H1 := H9) (k1 := 0) (n1 := 0) (by with_unfolding_all rfl)) ?_
          obtain ⟨r18, a19, e17, e⟩ := xb2_some e
          refine ex_cv1 (as := [.int w1, .int (v4 + 1)]) (rest := []) rfl rfl rfl rfl (s10.obj rfl (by decide)) rfl (by with_unfolding_all rfl) (by with_unfolding_all rfl) (tf288_byteOf s10 e17) (fun H15 s16 => ?_)
          refine ex_s (am_nb (m := 7) (pc1 := 66) (ls1 := [(7, .int (v2 &&& 3)), (6, .int r18), (5, .int r6), (0, .ref 157), (1, .int w1), (2, .int v2), (3, .int v3), (4, .int v4)]) (st1 := [.int 63, .int r18]) (H1 := H15) (k1 := 0) (n1 := 0) (by with_unfolding_all rfl)) ?_
          refine ex_s (st_icmp rfl) ?_
          by_cases c20 : r18 = 63
          · have e := (if_pos c20).symm.trans e
            refine ex_pc (if_pos c20) ?_
            refine ex_s (am_nb (m := 2) (pc1 := 71) (ls1 := [(7, .int (v2 &&& 3)), (6, .int r18), (5, .int r6), (0, .ref 157), (1, .int w1), (2, .int v2), (3, .int v3), (4, .int v4)]) (st1 := [.int 4, .int v3]) (H1 := H15) (k1 := 0) (n1 := 0) (by with_unfolding_all rfl)) ?_
            refine ex_s (st_icmp rfl) ?_
            by_cases c21 : v3 = 4
            · have e := (if_pos c21).symm.trans e
              refine ex_pc (if_pos c21) ?_
              cases e
              exact le_E (l1 := []) trivial rfl (k1 rfl H15 s16)
            · have e := (if_neg c21).symm.trans e
              refine ex_pc (if_neg c21) ?_
              refine ex_s (am_nb (m := 8) (pc1 := 169) (ls1 := [(2, .int ((v2 <<< ((2 : Int32) &&& 31)) ||| 1)), (3, .int (v3 + 1)), (7, .int (v2 &&& 3)), (6, .int r18), (5, .int r6), (0, .ref 157), (1, .int w1), (4, .int v4)]) (st1 := []) (H1 := H15) (k1 := 0) (n1 := 0) (by with_unfolding_all rfl)) ?_
              exact le_E (l1 := [(0, .ref 157), (1, .int w1), (2, .int ((v2 <<< ((2 : Int32) &&& 31)) ||| 1)), (3, .int (v3 + 1)), (4, .int v4), (5, .int r6)]) ⟨rfl, rfl, rfl, rfl, rfl, rfl, trivial⟩ rfl (tj286_169 k0 k1 k2 k3 k4 k5 ih  s16 e)
          · have e := (if_neg c20).symm.trans e
            refine ex_pc (if_neg c20) ?_
            refine ex_s (am_nb (m := 2) (pc1 := 92) (ls1 := [(7, .int (v2 &&& 3)), (6, .int r18), (5, .int r6), (0, .ref 157), (1, .int w1), (2, .int v2), (3, .int v3), (4, .int v4)]) (st1 := [.int 116, .int r18]) (H1 := H15) (k1 := 0) (n1 := 0) (by with_unfolding_all rfl)) ?_
            refine ex_s (st_icmp rfl) ?_
            by_cases c22 : r18 = 116
            · have e := (if_pos c22).symm.trans e
              refine ex_pc (if_pos c22) ?_
              refine ex_s (am_nb (m := 1) (pc1 := 96) (ls1 := [(7, .int (v2 &&& 3)), (6, .int r18), (5, .int r6), (0, .ref 157), (1, .int w1), (2, .int v2), (3, .int v3), (4, .int v4)]) (st1 := [.int v3]) (H1 := H15) (k1 := 0) (n1 := 0) (by with_unfolding_all rfl)) ?_
              refine ex_s (st_if rfl) ?_
              by_cases c25 : v3 = 0
              · have e := (if_pos c25).symm.trans e
                refine ex_pc (if_pos c25) ?_
                cases e
                exact le_E (l1 := []) trivial rfl (k2 rfl H15 s16)
              · have e := (if_neg c25).symm.trans e
                refine ex_pc (if_neg c25) ?_
                refine ex_s (am_nb (m := 2) (pc1 := 102) (ls1 := [(7, .int (v2 &&& 3)), (6, .int r18), (5, .int r6), (0, .ref 157), (1, .int w1), (2, .int v2), (3, .int v3), (4, .int v4)]) (st1 := [.int 2, .int (v2 &&& 3)]) (H1 := H15) (k1 := 0) (n1 := 0) (by with_unfolding_all rfl)) ?_
                refine ex_s (st_icmp rfl) ?_
                by_cases c26 : (v2 &&& 3) = 2
                · have e := (if_pos c26).symm.trans e
                  refine ex_pc (if_pos c26) ?_
                  cases e
                  exact le_E (l1 := []) trivial rfl (k2 rfl H15 s16)
                · have e := (if_neg c26).symm.trans e
                  refine ex_pc (if_neg c26) ?_
                  refine ex_s (am_nb (m := 7) (pc1 := 169) (ls1 := [(2, .int ((v2 &&& (-4)) ||| 2)), (7, .int (v2 &&& 3)), (6, .int r18), (5, .int r6), (0, .ref 157), (1, .int w1), (3, .int v3), (4, .int v4)]) (st1 := []) (H1 := H15) (k1 := 0) (n1 := 0) (by with_unfolding_all rfl)) ?_
                  exact le_E (l1 := [(0, .ref 157), (1, .int w1), (2, .int ((v2 &&& (-4)) ||| 2)), (3, .int v3), (4, .int v4), (5, .int r6)]) ⟨rfl, rfl, rfl, rfl, rfl, rfl, trivial⟩ rfl (tj286_169 k0 k1 k2 k3 k4 k5 ih  s16 e)
            · have e := (if_neg c22).symm.trans e
              refine ex_pc (if_neg c22) ?_
              refine ex_s (am_nb (m := 2) (pc1 := 121) (ls1 := [(7, .int (v2 &&& 3)), (6, .int r18), (5, .int r6), (0, .ref 157), (1, .int w1), (2, .int v2), (3, .int v3), (4, .int v4)]) (st1 := [.int 101, .int r18]) (H1 := H15) (k1 := 0) (n1 := 0) (by with_unfolding_all rfl)) ?_
              refine ex_s (st_icmp rfl) ?_
              by_cases c29 : r18 = 101
              · have e := (if_pos c29).symm.trans e
                refine ex_pc (if_pos c29) ?_
                refine ex_s (am_nb (m := 1) (pc1 := 125) (ls1 := [(7, .int (v2 &&& 3)), (6, .int r18), (5, .int r6), (0, .ref 157), (1, .int w1), (2, .int v2), (3, .int v3), (4, .int v4)]) (st1 := [.int v3]) (H1 := H15) (k1 := 0) (n1 := 0) (by with_unfolding_all rfl)) ?_
                refine ex_s (st_if rfl) ?_
                by_cases c32 : v3 = 0
                · have e := (if_pos c32).symm.trans e
                  refine ex_pc (if_pos c32) ?_
                  cases e
                  exact le_E (l1 := []) trivial rfl (k3 rfl H15 s16)
                · have e := (if_neg c32).symm.trans e
                  refine ex_pc (if_neg c32) ?_
                  refine ex_s (am_nb (m := 2) (pc1 := 131) (ls1 := [(7, .int (v2 &&& 3)), (6, .int r18), (5, .int r6), (0, .ref 157), (1, .int w1), (2, .int v2), (3, .int v3), (4, .int v4)]) (st1 := [.int 2, .int (v2 &&& 3)]) (H1 := H15) (k1 := 0) (n1 := 0) (by with_unfolding_all rfl)) ?_
                  refine ex_s (st_icmp rfl) ?_
                  by_cases c33 : (v2 &&& 3) = 2
                  · have e := (if_pos c33).symm.trans e
                    refine ex_pc (if_pos c33) ?_
                    refine ex_s (am_nb (m := 5) (pc1 := 169) (ls1 := [(2, .int (v2 ||| 3)), (7, .int (v2 &&& 3)), (6, .int r18), (5, .int r6), (0, .ref 157), (1, .int w1), (3, .int v3), (4, .int v4)]) (st1 := []) (H1 := H15) (k1 := 0) (n1 := 0) (by with_unfolding_all rfl)) ?_
                    exact le_E (l1 := [(0, .ref 157), (1, .int w1), (2, .int (v2 ||| 3)), (3, .int v3), (4, .int v4), (5, .int r6)]) ⟨rfl, rfl, rfl, rfl, rfl, rfl, trivial⟩ rfl (tj286_169 k0 k1 k2 k3 k4 k5 ih  s16 e)
                  · have e := (if_neg c33).symm.trans e
                    refine ex_pc (if_neg c33) ?_
                    cases e
                    exact le_E (l1 := []) trivial rfl (k3 rfl H15 s16)
              · have e := (if_neg c29).symm.trans e
                refine ex_pc (if_neg c29) ?_
                refine ex_s (am_nb (m := 2) (pc1 := 147) (ls1 := [(7, .int (v2 &&& 3)), (6, .int r18), (5, .int r6), (0, .ref 157), (1, .int w1), (2, .int v2), (3, .int v3), (4, .int v4)]) (st1 := [.int 59, .int r18]) (H1 := H15) (k1 := 0) (n1 := 0) (by with_unfolding_all rfl)) ?_
                refine ex_s (st_icmp rfl) ?_
                by_cases c36 : r18 = 59
                · have e := (if_pos c36).symm.trans e
                  refine ex_pc (if_pos c36) ?_
                  refine ex_s (am_nb (m := 1) (pc1 := 151) (ls1 := [(7, .int (v2 &&& 3)), (6, .int r18), (5, .int r6), (0, .ref 157), (1, .int w1), (2, .int v2), (3, .int v3), (4, .int v4)]) (st1 := [.int v3]) (H1 := H15) (k1 := 0) (n1 := 0) (by with_unfolding_all rfl)) ?_
                  refine ex_s (st_if rfl) ?_
                  by_cases c39 : v3 = 0
                  · have e := (if_pos c39).symm.trans e
                    refine ex_pc (if_pos c39) ?_
                    cases e
                    exact le_E (l1 := []) trivial rfl (k4 rfl H15 s16)
                  · have e := (if_neg c39).symm.trans e
                    refine ex_pc (if_neg c39) ?_
                    refine ex_s (am_nb (m := 2) (pc1 := 157) (ls1 := [(7, .int (v2 &&& 3)), (6, .int r18), (5, .int r6), (0, .ref 157), (1, .int w1), (2, .int v2), (3, .int v3), (4, .int v4)]) (st1 := [.int 1, .int (v2 &&& 3)]) (H1 := H15) (k1 := 0) (n1 := 0) (by with_unfolding_all rfl)) ?_
                    refine ex_s (st_icmp rfl) ?_
                    by_cases c40 : (v2 &&& 3) = 1
                    · have e := (if_pos c40).symm.trans e
                      refine ex_pc (if_pos c40) ?_
                      cases e
                      exact le_E (l1 := []) trivial rfl (k4 rfl H15 s16)
                    · have e := (if_neg c40).symm.trans e
                      refine ex_pc (if_neg c40) ?_
                      refine ex_s (am_nb (m := 5) (pc1 := 169) (ls1 := [(2, .int (v2 >>> ((2 : Int32) &&& 31))), (3, .int (v3 + (-1))), (7, .int (v2 &&& 3)), (6, .int r18), (5, .int r6), (0, .ref 157), (1, .int w1), (4, .int v4)]) (st1 := []) (H1 := H15) (k1 := 0) (n1 := 0) (by with_unfolding_all rfl)) ?_
                      exact le_E (l1 := [(0, .ref 157), (1, .int w1), (2, .int (v2 >>> ((2 : Int32) &&& 31))), (3, .int (v3 + (-1))), (4, .int v4), (5, .int r6)]) ⟨rfl, rfl, rfl, rfl, rfl, rfl, trivial⟩ rfl (tj286_169 k0 k1 k2 k3 k4 k5 ih  s16 e)
                · have e := (if_neg c36).symm.trans e
                  refine ex_pc (if_neg c36) ?_
                  exact le_E (l1 := [(0, .ref 157), (1, .int w1), (2, .int v2), (3, .int v3), (4, .int v4), (5, .int r6)]) ⟨rfl, rfl, rfl, rfl, rfl, rfl, trivial⟩ rfl (tj286_169 k0 k1 k2 k3 k4 k5 ih  s16 e)
        · have e := (if_neg c14).symm.trans e
          refine ex_pc (if_neg c14) ?_
          exact le_E (l1 := [(0, .ref 157), (1, .int w1), (2, .int v2), (3, .int v3), (4, .int v4), (5, .int r6)]) ⟨rfl, rfl, rfl, rfl, rfl, rfl, trivial⟩ rfl (tj286_169 k0 k1 k2 k3 k4 k5 ih  s10 e)

set_option maxRecDepth 100000 in
theorem tf286_isWell {sL : Nat} {sx : Nat → Int32} {h b N : Nat} {T : List am_C} {r : Int32} {a' : xA} {x0 : Int32} {a : xA} {H : am_H} (hS : xS h b T a H) (e : f286_isWell N h b x0 a = some (r, a')) : am_E sL sx am_cs 286 0 [(0, .ref 157), (1, .int x0)] [] H (some (.int r)) (fun H1 => xS h b T a' H1) := by
  unfold f286_isWell at e
  refine ex_s (am_nb (m := 6) (pc1 := 7) (ls1 := [(4, .int 0), (3, .int 0), (2, .int 0), (0, .ref 157), (1, .int x0)]) (st1 := []) (H1 := H) (k1 := 0) (n1 := 0) (by with_unfolding_all rfl)) ?_
  obtain ⟨z41, e42, e⟩ := Option.bind_eq_some_iff.mp e
  refine le_E (l1 := [(0, .ref 157), (1, .int x0), (2, .int 0), (3, .int 0), (4, .int 0)]) ⟨rfl, rfl, rfl, rfl, rfl, trivial⟩ rfl (tl286_7 (z := z41)  (fun uz41_0 Hz410 sz410 => ?_) (fun uz41_1 Hz411 sz411 => ?_) (fun uz41_2 Hz412 sz412 => ?_) (fun uz41_3 Hz413 sz413 => ?_) (fun uz41_4 Hz414 sz414 => ?_) (fun uz41_5 Hz415 sz415 => ?_) N 0 0 0 a H hS e42)
  · have e := (if_pos uz41_0).symm.trans e
    refine ex_s (am_nb (m := 1) (pc1 := 33) (ls1 := []) (st1 := [.int 0]) (H1 := Hz410) (k1 := 0) (n1 := 0) (by with_unfolding_all rfl)) ?_
    cases e
    exact ex_r (st_iret rfl rfl rfl) sz410
  · have e := (if_neg (show ¬ z41.1 = 0 by rw [uz41_1]; decide)).symm.trans e
    have e := (if_pos uz41_1).symm.trans e
    refine ex_s (am_nb (m := 1) (pc1 := 75) (ls1 := []) (st1 := [.int 0]) (H1 := Hz411) (k1 := 0) (n1 := 0) (by with_unfolding_all rfl)) ?_
    cases e
    exact ex_r (st_iret rfl rfl rfl) sz411
  · have e := (if_neg (show ¬ z41.1 = 0 by rw [uz41_2]; decide)).symm.trans e
    have e := (if_neg (show ¬ z41.1 = 1 by rw [uz41_2]; decide)).symm.trans e
    have e := (if_pos uz41_2).symm.trans e
    refine ex_s (am_nb (m := 1) (pc1 := 106) (ls1 := []) (st1 := [.int 0]) (H1 := Hz412) (k1 := 0) (n1 := 0) (by with_unfolding_all rfl)) ?_
    cases e
    exact ex_r (st_iret rfl rfl rfl) sz412
  · have e := (if_neg (show ¬ z41.1 = 0 by rw [uz41_3]; decide)).symm.trans e
    have e := (if_neg (show ¬ z41.1 = 1 by rw [uz41_3]; decide)).symm.trans e
    have e := (if_neg (show ¬ z41.1 = 2 by rw [uz41_3]; decide)).symm.trans e
    have e := (if_pos uz41_3).symm.trans e
    refine ex_s (am_nb (m := 1) (pc1 := 135) (ls1 := []) (st1 := [.int 0]) (H1 := Hz413) (k1 := 0) (n1 := 0) (by with_unfolding_all rfl)) ?_
    cases e
    exact ex_r (st_iret rfl rfl rfl) sz413
  · have e := (if_neg (show ¬ z41.1 = 0 by rw [uz41_4]; decide)).symm.trans e
    have e := (if_neg (show ¬ z41.1 = 1 by rw [uz41_4]; decide)).symm.trans e
    have e := (if_neg (show ¬ z41.1 = 2 by rw [uz41_4]; decide)).symm.trans e
    have e := (if_neg (show ¬ z41.1 = 3 by rw [uz41_4]; decide)).symm.trans e
    have e := (if_pos uz41_4).symm.trans e
    refine ex_s (am_nb (m := 1) (pc1 := 161) (ls1 := []) (st1 := [.int 0]) (H1 := Hz414) (k1 := 0) (n1 := 0) (by with_unfolding_all rfl)) ?_
    cases e
    exact ex_r (st_iret rfl rfl rfl) sz414
  · have e := (if_neg (show ¬ z41.1 = 0 by rw [uz41_5]; decide)).symm.trans e
    have e := (if_neg (show ¬ z41.1 = 1 by rw [uz41_5]; decide)).symm.trans e
    have e := (if_neg (show ¬ z41.1 = 2 by rw [uz41_5]; decide)).symm.trans e
    have e := (if_neg (show ¬ z41.1 = 3 by rw [uz41_5]; decide)).symm.trans e
    have e := (if_neg (show ¬ z41.1 = 4 by rw [uz41_5]; decide)).symm.trans e
    refine ex_s (am_nb (m := 1) (pc1 := 180) (ls1 := [(3, .int z41.2.1)]) (st1 := [.int z41.2.1]) (H1 := Hz415) (k1 := 0) (n1 := 0) (by with_unfolding_all rfl)) ?_
    have kk : am_E sL sx am_cs 286 188 [(3, .int z41.2.1)] [.int (if z41.2.1 = 0 then (1 : Int32) else (0 : Int32))] Hz415 (some (.int r)) (fun H1 => xS h b T a' H1) := by
      obtain ⟨g44, e⟩ := xg_some e
      cases e
      exact ex_r (st_iret rfl rfl (xnar_z g44)) sz415
    refine ex_s (st_if rfl) ?_
    by_cases c43 : z41.2.1 = 0
    · refine ex_pc (if_pos c43) ?_
      refine ex_s (am_nb (m := 2) (pc1 := 188) (ls1 := [(3, .int z41.2.1)]) (st1 := [.int 1]) (H1 := Hz415) (k1 := 0) (n1 := 0) (by with_unfolding_all rfl)) ?_
      rw [if_pos c43] at kk
      exact kk
    · refine ex_pc (if_neg c43) ?_
      refine ex_s (am_nb (m := 1) (pc1 := 188) (ls1 := [(3, .int z41.2.1)]) (st1 := [.int 0]) (H1 := Hz415) (k1 := 0) (n1 := 0) (by with_unfolding_all rfl)) ?_
      rw [if_neg c43] at kk
      exact kk
