/-! The program does what the functions say. -/
set_option maxRecDepth 100000 in
theorem tf104_sayTape {sL : Nat} {sx : Nat → Int32} {h b N : Nat} {T : List am_C} {r : Int32} {a' : xA} {x0 : Nat} {a : xA} {H : am_H} (hS : xS h b T a H) (e : f104_sayTape N h b x0 a = some (r, a')) : am_E sL sx am_cs 104 0 [(0, .ref 0), (1, .ref x0)] [] H (some (.int r)) (fun H1 => xS h b T a' H1) := by
  unfold f104_sayTape at e
  obtain ⟨g1, e⟩ := xg_some e
  refine ex_s (am_nb (m := 2) (pc1 := 2) (ls1 := [(2, .int 0), (0, .ref 0), (1, .ref x0)]) (st1 := []) (H1 := H) (k1 := 0) (n1 := 0) (by with_unfolding_all rfl)) ?_
  obtain ⟨z23, e24, e⟩ := Option.bind_eq_some_iff.mp e
  refine le_E (l1 := [(0, .ref 0), (1, .ref x0), (2, .int 0)]) ⟨rfl, rfl, rfl, trivial⟩ rfl (tl104_2 (z := z23) g1 (fun uz23_0 Hz230 sz230 => ?_) (fun uz23_1 Hz231 sz231 => ?_) (fun uz23_2 Hz232 sz232 => ?_) N 0 a H hS e24)
  · have e := (if_pos uz23_0).symm.trans e
    refine ex_s (am_nb (m := 1) (pc1 := 31) (ls1 := [(2, .int z23.2.1)]) (st1 := [.int z23.2.1]) (H1 := Hz230) (k1 := 0) (n1 := 0) (by with_unfolding_all rfl)) ?_
    cases e
    exact ex_r (st_iret rfl rfl rfl) sz230
  · have e := (if_neg (show ¬ z23.1 = 0 by rw [uz23_1]; decide)).symm.trans e
    have e := (if_pos uz23_1).symm.trans e
    refine ex_s (am_nb (m := 3) (pc1 := 60) (ls1 := [(2, .int z23.2.1)]) (st1 := [.int (z23.2.1 + 1)]) (H1 := Hz231) (k1 := 0) (n1 := 0) (by with_unfolding_all rfl)) ?_
    cases e
    exact ex_r (st_iret rfl rfl rfl) sz231
  · have e := (if_neg (show ¬ z23.1 = 0 by rw [uz23_2]; decide)).symm.trans e
    have e := (if_neg (show ¬ z23.1 = 1 by rw [uz23_2]; decide)).symm.trans e
    refine ex_s (am_nb (m := 1) (pc1 := 68) (ls1 := [(0, .ref 0)]) (st1 := [.ref 0]) (H1 := Hz232) (k1 := 0) (n1 := 0) (by with_unfolding_all rfl)) ?_
    refine xe_get (v := .int (z23.2.2 0 1)) sz232 rfl rfl (by decide) rfl ?_
    cases e
    exact ex_r (st_iret rfl rfl rfl) sz232

set_option maxRecDepth 100000 in
theorem tj103_19 {sL : Nat} {sx : Nat → Int32} {h b N : Nat} {T : List am_C} {r : Int32} {a' : xA} {t0 : Int32} {a : xA} {H : am_H} (hS : xS h b T a H) (e : j103_19 N h b t0 a = some (r, a')) : am_E sL sx am_cs 103 19 [(0, .ref 0)] [.int t0] H (some (.int r)) (fun H1 => xS h b T a' H1) := by
  unfold j103_19 at e
  refine ex_s (am_nb (m := 3) (pc1 := 22) (ls1 := [(3, .int t0), (0, .ref 0)]) (st1 := [.int 0, .ref 0]) (H1 := H) (k1 := 0) (n1 := 0) (by with_unfolding_all rfl)) ?_
  obtain ⟨a7, ha7, e⟩ := xw_some e
  refine xe_put (w := 0) hS rfl rfl (by decide) rfl rfl rfl rfl (fun H8 s9 => ?_)
  have s9 : xS h b T a7 H8 := by rw [ha7]; exact s9
  refine ex_s (am_nb (m := 1) (pc1 := 26) (ls1 := [(3, .int t0), (0, .ref 0)]) (st1 := [.int t0]) (H1 := H8) (k1 := 0) (n1 := 0) (by with_unfolding_all rfl)) ?_
  cases e
  exact ex_r (st_iret rfl rfl rfl) s9

set_option maxRecDepth 100000 in
theorem tf103_say {sL : Nat} {sx : Nat → Int32} {h b N : Nat} {T : List am_C} {r : Int32} {a' : xA} {x0 : Int32} {a : xA} {H : am_H} (hS : xS h b T a H) (e : f103_say N h b x0 a = some (r, a')) : am_E sL sx am_cs 103 0 [(0, .ref 0), (1, .int x0)] [] H (some (.int r)) (fun H1 => xS h b T a' H1) := by
  unfold f103_say at e
  refine ex_s (am_nb (m := 2) (pc1 := 2) (ls1 := [(0, .ref 0), (1, .int x0)]) (st1 := [.int x0, .ref 0]) (H1 := H) (k1 := 0) (n1 := 0) (by with_unfolding_all rfl)) ?_
  obtain ⟨r4, a5, e3, e⟩ := xb2_some e
  refine ex_cv1 (as := [.int x0]) (rest := []) rfl rfl rfl rfl (hS.obj rfl (by decide)) rfl (by with_unfolding_all rfl) (by with_unfolding_all rfl) (tf98_openWindow hS e3) (fun H1 s2 => ?_)
  refine ex_s (am_nb (m := 2) (pc1 := 7) (ls1 := [(2, xN r4), (0, .ref 0), (1, .int x0)]) (st1 := [xN r4]) (H1 := H1) (k1 := 0) (n1 := 0) (by first | with_unfolding_all rfl | (unfold xN; (repeat' split) <;> with_unfolding_all rfl))) ?_
  by_cases c6 : r4 = -1
  · have e := (if_pos c6).symm.trans e
    rw [show xN r4 = .null from if_pos c6]
    refine ex_s (am_nb (m := 1) (pc1 := 10) (ls1 := [(2, .null), (0, .ref 0), (1, .int x0)]) (st1 := []) (H1 := H1) (k1 := 0) (n1 := 0) (by with_unfolding_all rfl)) ?_
    refine ex_s (am_nb (m := 2) (pc1 := 19) (ls1 := [(2, .null), (0, .ref 0), (1, .int x0)]) (st1 := [.int (-1)]) (H1 := H1) (k1 := 0) (n1 := 0) (by with_unfolding_all rfl)) ?_
    exact le_E (l1 := [(0, .ref 0)]) ⟨rfl, trivial⟩ rfl (tj103_19  s2 e)
  · have e := (if_neg c6).symm.trans e
    rw [show xN r4 = .ref r4.toNatClampNeg from if_neg c6]
    refine ex_s (am_nb (m := 1) (pc1 := 14) (ls1 := [(2, .ref r4.toNatClampNeg), (0, .ref 0), (1, .int x0)]) (st1 := []) (H1 := H1) (k1 := 0) (n1 := 0) (by with_unfolding_all rfl)) ?_
    refine ex_s (am_nb (m := 2) (pc1 := 16) (ls1 := [(2, .ref r4.toNatClampNeg), (0, .ref 0), (1, .int x0)]) (st1 := [.ref r4.toNatClampNeg, .ref 0]) (H1 := H1) (k1 := 0) (n1 := 0) (by with_unfolding_all rfl)) ?_
    obtain ⟨r13, a14, e12, e⟩ := xb2_some e
    refine ex_cv1 (as := [.ref r4.toNatClampNeg]) (rest := []) rfl rfl rfl rfl (s2.obj rfl (by decide)) rfl (by with_unfolding_all rfl) (by with_unfolding_all rfl) (tf104_sayTape s2 e12) (fun H10 s11 => ?_)
    exact le_E (l1 := [(0, .ref 0)]) ⟨rfl, trivial⟩ rfl (tj103_19  s11 e)

set_option maxRecDepth 100000 in
theorem tf113_blankOut {sL : Nat} {sx : Nat → Int32} {h b N : Nat} {T : List am_C} {r : Int32} {a' : xA} {o : Nat} {x0 : Int32} {a : xA} {H : am_H} (hS : xS h b T a H) (e : f113_blankOut N h b o x0 a = some (r, a')) : am_E sL sx am_cs 113 0 [(0, .ref o), (1, .int x0)] [] H (some (.int r)) (fun H1 => xS h b T a' H1) := by
  unfold f113_blankOut at e
  obtain ⟨g1, e⟩ := xg_some e
  refine ex_s (am_nb (m := 1) (pc1 := 1) (ls1 := [(0, .ref o), (1, .int x0)]) (st1 := [.ref o]) (H1 := H) (k1 := 0) (n1 := 0) (by with_unfolding_all rfl)) ?_
  refine xe_get (v := .int (a o 6)) hS rfl g1 (by decide) rfl ?_
  refine ex_s (am_nb (m := 1) (pc1 := 5) (ls1 := [(0, .ref o), (1, .int x0)]) (st1 := [.ref o, .int (a o 6)]) (H1 := H) (k1 := 0) (n1 := 0) (by with_unfolding_all rfl)) ?_
  refine xe_get (v := .int (a o 5)) hS rfl g1 (by decide) rfl ?_
  refine ex_s (am_nb (m := 2) (pc1 := 10) (ls1 := [(0, .ref o), (1, .int x0)]) (st1 := [.ref o, .int ((a o 6) * (a o 5))]) (H1 := H) (k1 := 0) (n1 := 0) (by with_unfolding_all rfl)) ?_
  refine xe_get (v := .int (a o 7)) hS rfl g1 (by decide) rfl ?_
  refine ex_s (am_nb (m := 3) (pc1 := 16) (ls1 := [(2, .int (((a o 6) * (a o 5)) + (a o 7))), (0, .ref o), (1, .int x0)]) (st1 := [.int x0]) (H1 := H) (k1 := 0) (n1 := 0) (by with_unfolding_all rfl)) ?_
  refine ex_s (st_tsw rfl) ?_
  by_cases c2 : x0 = 0
  · have e := (if_pos c2).symm.trans e
    refine ex_pc (pc1 := 44) (by rw [c2]; with_unfolding_all rfl) ?_
    refine ex_s (am_nb (m := 1) (pc1 := 45) (ls1 := [(2, .int (((a o 6) * (a o 5)) + (a o 7))), (0, .ref o), (1, .int x0)]) (st1 := [.ref o]) (H1 := H) (k1 := 0) (n1 := 0) (by with_unfolding_all rfl)) ?_
    refine xe_get (v := .ref (o + 1)) hS rfl g1 (by decide) rfl ?_
    refine ex_s (am_nb (m := 2) (pc1 := 50) (ls1 := [(2, .int (((a o 6) * (a o 5)) + (a o 7))), (0, .ref o), (1, .int x0)]) (st1 := [.ref o, .int 0, .ref (o + 1)]) (H1 := H) (k1 := 0) (n1 := 0) (by with_unfolding_all rfl)) ?_
    refine xe_get (v := .int (a o 4)) hS rfl g1 (by decide) rfl ?_
    refine ex_s (am_nb (m := 1) (pc1 := 54) (ls1 := [(2, .int (((a o 6) * (a o 5)) + (a o 7))), (0, .ref o), (1, .int x0)]) (st1 := [.ref o, .int (a o 4), .int 0, .ref (o + 1)]) (H1 := H) (k1 := 0) (n1 := 0) (by with_unfolding_all rfl)) ?_
    refine xe_get (v := .int (a o 5)) hS rfl g1 (by decide) rfl ?_
    refine ex_s (am_nb (m := 2) (pc1 := 60) (ls1 := [(2, .int (((a o 6) * (a o 5)) + (a o 7))), (0, .ref o), (1, .int x0)]) (st1 := [.int 32, .int ((a o 4) * (a o 5)), .int 0, .ref (o + 1)]) (H1 := H) (k1 := 0) (n1 := 0) (by with_unfolding_all rfl)) ?_
    obtain ⟨a6, e5, e⟩ := xb1_some e
    refine ex_cs0 (as := [.ref (o + 1), .int 0, .int ((a o 4) * (a o 5)), .int 32]) (rest := []) rfl (by decide) rfl rfl (by with_unfolding_all rfl) (by with_unfolding_all rfl) (tf14_fill hS e5) (fun H3 s4 => ?_)
    refine ex_s (am_nb (m := 2) (pc1 := 65) (ls1 := [(2, .int (((a o 6) * (a o 5)) + (a o 7))), (0, .ref o), (1, .int x0)]) (st1 := [.int 0, .ref o]) (H1 := H3) (k1 := 0) (n1 := 0) (by with_unfolding_all rfl)) ?_
    obtain ⟨a7, ha7, e⟩ := xw_some e
    refine xe_put (w := 0) s4 rfl g1 (by decide) rfl rfl rfl rfl (fun H8 s9 => ?_)
    have s9 : xS h b T a7 H8 := by rw [ha7]; exact s9
    refine ex_s (am_nb (m := 2) (pc1 := 70) (ls1 := [(2, .int (((a o 6) * (a o 5)) + (a o 7))), (0, .ref o), (1, .int x0)]) (st1 := [.int 0, .ref o]) (H1 := H8) (k1 := 0) (n1 := 0) (by with_unfolding_all rfl)) ?_
    obtain ⟨a10, ha10, e⟩ := xw_some e
    refine xe_put (w := 0) s9 rfl g1 (by decide) rfl rfl rfl rfl (fun H11 s12 => ?_)
    have s12 : xS h b T a10 H11 := by rw [ha10]; exact s12
    refine ex_s (am_nb (m := 1) (pc1 := 74) (ls1 := [(2, .int (((a o 6) * (a o 5)) + (a o 7))), (0, .ref o), (1, .int x0)]) (st1 := [.int 1]) (H1 := H11) (k1 := 0) (n1 := 0) (by with_unfolding_all rfl)) ?_
    cases e
    exact ex_r (st_iret rfl rfl rfl) s12
  · have e := (if_neg c2).symm.trans e
    by_cases c13 : x0 = 1
    · have e := (if_pos c13).symm.trans e
      refine ex_pc (pc1 := 75) (by rw [c13]; with_unfolding_all rfl) ?_
      refine ex_s (am_nb (m := 1) (pc1 := 76) (ls1 := [(2, .int (((a o 6) * (a o 5)) + (a o 7))), (0, .ref o), (1, .int x0)]) (st1 := [.ref o]) (H1 := H) (k1 := 0) (n1 := 0) (by with_unfolding_all rfl)) ?_
      refine xe_get (v := .ref (o + 1)) hS rfl g1 (by decide) rfl ?_
      refine ex_s (am_nb (m := 2) (pc1 := 81) (ls1 := [(2, .int (((a o 6) * (a o 5)) + (a o 7))), (0, .ref o), (1, .int x0)]) (st1 := [.ref o, .int (((a o 6) * (a o 5)) + (a o 7)), .ref (o + 1)]) (H1 := H) (k1 := 0) (n1 := 0) (by with_unfolding_all rfl)) ?_
      refine xe_get (v := .int (a o 4)) hS rfl g1 (by decide) rfl ?_
      refine ex_s (am_nb (m := 1) (pc1 := 85) (ls1 := [(2, .int (((a o 6) * (a o 5)) + (a o 7))), (0, .ref o), (1, .int x0)]) (st1 := [.ref o, .int (a o 4), .int (((a o 6) * (a o 5)) + (a o 7)), .ref (o + 1)]) (H1 := H) (k1 := 0) (n1 := 0) (by with_unfolding_all rfl)) ?_
      refine xe_get (v := .int (a o 5)) hS rfl g1 (by decide) rfl ?_
      refine ex_s (am_nb (m := 2) (pc1 := 91) (ls1 := [(2, .int (((a o 6) * (a o 5)) + (a o 7))), (0, .ref o), (1, .int x0)]) (st1 := [.int 32, .int ((a o 4) * (a o 5)), .int (((a o 6) * (a o 5)) + (a o 7)), .ref (o + 1)]) (H1 := H) (k1 := 0) (n1 := 0) (by with_unfolding_all rfl)) ?_
      obtain ⟨a17, e16, e⟩ := xb1_some e
      refine ex_cs0 (as := [.ref (o + 1), .int (((a o 6) * (a o 5)) + (a o 7)), .int ((a o 4) * (a o 5)), .int 32]) (rest := []) rfl (by decide) rfl rfl (by with_unfolding_all rfl) (by with_unfolding_all rfl) (tf14_fill hS e16) (fun H14 s15 => ?_)
      refine ex_s (am_nb (m := 1) (pc1 := 95) (ls1 := [(2, .int (((a o 6) * (a o 5)) + (a o 7))), (0, .ref o), (1, .int x0)]) (st1 := [.int 1]) (H1 := H14) (k1 := 0) (n1 := 0) (by with_unfolding_all rfl)) ?_
      cases e
      exact ex_r (st_iret rfl rfl rfl) s15
    · have e := (if_neg c13).symm.trans e
      by_cases c18 : x0 = 2
      · have e := (if_pos c18).symm.trans e
        refine ex_pc (pc1 := 96) (by rw [c18]; with_unfolding_all rfl) ?_
        refine ex_s (am_nb (m := 1) (pc1 := 97) (ls1 := [(2, .int (((a o 6) * (a o 5)) + (a o 7))), (0, .ref o), (1, .int x0)]) (st1 := [.ref o]) (H1 := H) (k1 := 0) (n1 := 0) (by with_unfolding_all rfl)) ?_
        refine xe_get (v := .ref (o + 1)) hS rfl g1 (by decide) rfl ?_
        refine ex_s (am_nb (m := 2) (pc1 := 102) (ls1 := [(2, .int (((a o 6) * (a o 5)) + (a o 7))), (0, .ref o), (1, .int x0)]) (st1 := [.ref o, .int (((a o 6) * (a o 5)) + (a o 7)), .ref (o + 1)]) (H1 := H) (k1 := 0) (n1 := 0) (by with_unfolding_all rfl)) ?_
        refine xe_get (v := .int (a o 6)) hS rfl g1 (by decide) rfl ?_
        refine ex_s (am_nb (m := 3) (pc1 := 108) (ls1 := [(2, .int (((a o 6) * (a o 5)) + (a o 7))), (0, .ref o), (1, .int x0)]) (st1 := [.ref o, .int ((a o 6) + 1), .int (((a o 6) * (a o 5)) + (a o 7)), .ref (o + 1)]) (H1 := H) (k1 := 0) (n1 := 0) (by with_unfolding_all rfl)) ?_
        refine xe_get (v := .int (a o 5)) hS rfl g1 (by decide) rfl ?_
        refine ex_s (am_nb (m := 2) (pc1 := 114) (ls1 := [(2, .int (((a o 6) * (a o 5)) + (a o 7))), (0, .ref o), (1, .int x0)]) (st1 := [.int 32, .int (((a o 6) + 1) * (a o 5)), .int (((a o 6) * (a o 5)) + (a o 7)), .ref (o + 1)]) (H1 := H) (k1 := 0) (n1 := 0) (by with_unfolding_all rfl)) ?_
        obtain ⟨a22, e21, e⟩ := xb1_some e
        refine ex_cs0 (as := [.ref (o + 1), .int (((a o 6) * (a o 5)) + (a o 7)), .int (((a o 6) + 1) * (a o 5)), .int 32]) (rest := []) rfl (by decide) rfl rfl (by with_unfolding_all rfl) (by with_unfolding_all rfl) (tf14_fill hS e21) (fun H19 s20 => ?_)
        refine ex_s (am_nb (m := 1) (pc1 := 118) (ls1 := [(2, .int (((a o 6) * (a o 5)) + (a o 7))), (0, .ref o), (1, .int x0)]) (st1 := [.int 1]) (H1 := H19) (k1 := 0) (n1 := 0) (by with_unfolding_all rfl)) ?_
        cases e
        exact ex_r (st_iret rfl rfl rfl) s20
      · have e := (if_neg c18).symm.trans e
        refine ex_pc (pc1 := 119) (am_sw_n (sw_c (Or.inl c2) (sw_c (Or.inl c13) (sw_c (Or.inl c18) sw_o)))) ?_
        refine ex_s (am_nb (m := 1) (pc1 := 120) (ls1 := [(2, .int (((a o 6) * (a o 5)) + (a o 7))), (0, .ref o), (1, .int x0)]) (st1 := [.int 0]) (H1 := H) (k1 := 0) (n1 := 0) (by with_unfolding_all rfl)) ?_
        cases e
        exact ex_r (st_iret rfl rfl rfl) hS

set_option maxRecDepth 100000 in
theorem tf112_erase {sL : Nat} {sx : Nat → Int32} {h b N : Nat} {T : List am_C} {r : Int32} {a' : xA} {x0 : Int32} {x1 : Int32} {a : xA} {H : am_H} (hS : xS h b T a H) (e : f112_erase N h b x0 x1 a = some (r, a')) : am_E sL sx am_cs 112 0 [(0, .ref 0), (1, .int x0), (2, .int x1)] [] H (some (.int r)) (fun H1 => xS h b T a' H1) := by
  unfold f112_erase at e
  refine ex_s (am_nb (m := 2) (pc1 := 2) (ls1 := [(0, .ref 0), (1, .int x0), (2, .int x1)]) (st1 := [.int x0, .ref 0]) (H1 := H) (k1 := 0) (n1 := 0) (by with_unfolding_all rfl)) ?_
  obtain ⟨r4, a5, e3, e⟩ := xb2_some e
  refine ex_cv1 (as := [.int x0]) (rest := []) rfl rfl rfl rfl (hS.obj rfl (by decide)) rfl (by with_unfolding_all rfl) (by with_unfolding_all rfl) (tf98_openWindow hS e3) (fun H1 s2 => ?_)
  refine ex_s (am_nb (m := 2) (pc1 := 7) (ls1 := [(3, xN r4), (0, .ref 0), (1, .int x0), (2, .int x1)]) (st1 := [xN r4]) (H1 := H1) (k1 := 0) (n1 := 0) (by first | with_unfolding_all rfl | (unfold xN; (repeat' split) <;> with_unfolding_all rfl))) ?_
  by_cases c6 : r4 = -1
  · have e := (if_pos c6).symm.trans e
    rw [show xN r4 = .null from if_pos c6]
    refine ex_s (am_nb (m := 1) (pc1 := 22) (ls1 := [(3, .null), (0, .ref 0), (1, .int x0), (2, .int x1)]) (st1 := []) (H1 := H1) (k1 := 0) (n1 := 0) (by with_unfolding_all rfl)) ?_
    refine ex_s (am_nb (m := 1) (pc1 := 23) (ls1 := [(3, .null), (0, .ref 0), (1, .int x0), (2, .int x1)]) (st1 := [.int 0]) (H1 := H1) (k1 := 0) (n1 := 0) (by with_unfolding_all rfl)) ?_
    cases e
    exact ex_r (st_iret rfl rfl rfl) s2
  · have e := (if_neg c6).symm.trans e
    rw [show xN r4 = .ref r4.toNatClampNeg from if_neg c6]
    refine ex_s (am_nb (m := 1) (pc1 := 10) (ls1 := [(3, .ref r4.toNatClampNeg), (0, .ref 0), (1, .int x0), (2, .int x1)]) (st1 := []) (H1 := H1) (k1 := 0) (n1 := 0) (by with_unfolding_all rfl)) ?_
    refine ex_s (am_nb (m := 2) (pc1 := 12) (ls1 := [(3, .ref r4.toNatClampNeg), (0, .ref 0), (1, .int x0), (2, .int x1)]) (st1 := [.int x1, .ref r4.toNatClampNeg]) (H1 := H1) (k1 := 0) (n1 := 0) (by with_unfolding_all rfl)) ?_
    obtain ⟨g7, e⟩ := xg_some e
    obtain ⟨r11, a12, e10, e⟩ := xb2_some e
    refine ex_cv1 (as := [.int x1]) (rest := []) rfl rfl rfl rfl (s2.obj g7 (by decide)) rfl (by with_unfolding_all rfl) (by with_unfolding_all rfl) (tf113_blankOut s2 e10) (fun H8 s9 => ?_)
    have kk : am_E sL sx am_cs 112 23 [(3, .ref r4.toNatClampNeg), (0, .ref 0), (1, .int x0), (2, .int x1)] [.int (if r11 = 0 then (0 : Int32) else (1 : Int32))] H8 (some (.int r)) (fun H1 => xS h b T a' H1) := by
      obtain ⟨g14, e⟩ := xg_some e
      cases e
      exact ex_r (st_iret rfl rfl (xnar_z g14)) s9
    refine ex_s (st_if rfl) ?_
    by_cases c13 : r11 = 0
    · refine ex_pc (if_pos c13) ?_
      refine ex_s (am_nb (m := 1) (pc1 := 23) (ls1 := [(3, .ref r4.toNatClampNeg), (0, .ref 0), (1, .int x0), (2, .int x1)]) (st1 := [.int 0]) (H1 := H8) (k1 := 0) (n1 := 0) (by with_unfolding_all rfl)) ?_
      rw [if_pos c13] at kk
      exact kk
    · refine ex_pc (if_neg c13) ?_
      refine ex_s (am_nb (m := 2) (pc1 := 23) (ls1 := [(3, .ref r4.toNatClampNeg), (0, .ref 0), (1, .int x0), (2, .int x1)]) (st1 := [.int 1]) (H1 := H8) (k1 := 0) (n1 := 0) (by with_unfolding_all rfl)) ?_
      rw [if_neg c13] at kk
      exact kk

set_option maxRecDepth 100000 in
theorem tf114_rows {sL : Nat} {sx : Nat → Int32} {h b N : Nat} {T : List am_C} {r : Int32} {a' : xA} {x0 : Int32} {x1 : Int32} {a : xA} {H : am_H} (hS : xS h b T a H) (e : f114_rows N h b x0 x1 a = some (r, a')) : am_E sL sx am_cs 114 0 [(0, .ref 0), (1, .int x0), (2, .int x1)] [] H (some (.int r)) (fun H1 => xS h b T a' H1) := by
  unfold f114_rows at e
  refine ex_s (am_nb (m := 2) (pc1 := 2) (ls1 := [(0, .ref 0), (1, .int x0), (2, .int x1)]) (st1 := [.int x0, .ref 0]) (H1 := H) (k1 := 0) (n1 := 0) (by with_unfolding_all rfl)) ?_
  obtain ⟨r4, a5, e3, e⟩ := xb2_some e
  refine ex_cv1 (as := [.int x0]) (rest := []) rfl rfl rfl rfl (hS.obj rfl (by decide)) rfl (by with_unfolding_all rfl) (by with_unfolding_all rfl) (tf98_openWindow hS e3) (fun H1 s2 => ?_)
  refine ex_s (am_nb (m := 2) (pc1 := 7) (ls1 := [(3, xN r4), (0, .ref 0), (1, .int x0), (2, .int x1)]) (st1 := [xN r4]) (H1 := H1) (k1 := 0) (n1 := 0) (by first | with_unfolding_all rfl | (unfold xN; (repeat' split) <;> with_unfolding_all rfl))) ?_
  by_cases c6 : r4 = -1
  · have e := (if_pos c6).symm.trans e
    rw [show xN r4 = .null from if_pos c6]
    refine ex_s (am_nb (m := 1) (pc1 := 10) (ls1 := [(3, .null), (0, .ref 0), (1, .int x0), (2, .int x1)]) (st1 := []) (H1 := H1) (k1 := 0) (n1 := 0) (by with_unfolding_all rfl)) ?_
    refine ex_s (am_nb (m := 1) (pc1 := 11) (ls1 := [(3, .null), (0, .ref 0), (1, .int x0), (2, .int x1)]) (st1 := [.int 0]) (H1 := H1) (k1 := 0) (n1 := 0) (by with_unfolding_all rfl)) ?_
    cases e
    exact ex_r (st_iret rfl rfl rfl) s2
  · have e := (if_neg c6).symm.trans e
    rw [show xN r4 = .ref r4.toNatClampNeg from if_neg c6]
    refine ex_s (am_nb (m := 1) (pc1 := 12) (ls1 := [(3, .ref r4.toNatClampNeg), (0, .ref 0), (1, .int x0), (2, .int x1)]) (st1 := []) (H1 := H1) (k1 := 0) (n1 := 0) (by with_unfolding_all rfl)) ?_
    refine ex_s (am_nb (m := 2) (pc1 := 14) (ls1 := [(3, .ref r4.toNatClampNeg), (0, .ref 0), (1, .int x0), (2, .int x1)]) (st1 := [.ref r4.toNatClampNeg, .ref r4.toNatClampNeg]) (H1 := H1) (k1 := 0) (n1 := 0) (by with_unfolding_all rfl)) ?_
    obtain ⟨g7, e⟩ := xg_some e
    refine xe_get (v := .int (a5 r4.toNatClampNeg 6)) s2 rfl g7 (by decide) rfl ?_
    refine ex_s (am_nb (m := 1) (pc1 := 18) (ls1 := [(3, .ref r4.toNatClampNeg), (0, .ref 0), (1, .int x0), (2, .int x1)]) (st1 := [.int x1, .int (a5 r4.toNatClampNeg 6), .ref r4.toNatClampNeg]) (H1 := H1) (k1 := 0) (n1 := 0) (by with_unfolding_all rfl)) ?_
    obtain ⟨a11, e10, e⟩ := xb1_some e
    refine ex_cv0 (as := [.int (a5 r4.toNatClampNeg 6), .int x1]) (rest := []) rfl rfl rfl rfl (s2.obj g7 (by decide)) rfl (by with_unfolding_all rfl) (by with_unfolding_all rfl) (tf107_slideRows s2 e10) (fun H8 s9 => ?_)
    refine ex_s (am_nb (m := 1) (pc1 := 22) (ls1 := [(3, .ref r4.toNatClampNeg), (0, .ref 0), (1, .int x0), (2, .int x1)]) (st1 := [.int 1]) (H1 := H8) (k1 := 0) (n1 := 0) (by with_unfolding_all rfl)) ?_
    cases e
    exact ex_r (st_iret rfl rfl rfl) s9

set_option maxRecDepth 100000 in
theorem tf115_cells {sL : Nat} {sx : Nat → Int32} {h b N : Nat} {T : List am_C} {r : Int32} {a' : xA} {x0 : Int32} {x1 : Int32} {a : xA} {H : am_H} (hS : xS h b T a H) (e : f115_cells N h b x0 x1 a = some (r, a')) : am_E sL sx am_cs 115 0 [(0, .ref 0), (1, .int x0), (2, .int x1)] [] H (some (.int r)) (fun H1 => xS h b T a' H1) := by
  unfold f115_cells at e
  refine ex_s (am_nb (m := 2) (pc1 := 2) (ls1 := [(0, .ref 0), (1, .int x0), (2, .int x1)]) (st1 := [.int x0, .ref 0]) (H1 := H) (k1 := 0) (n1 := 0) (by with_unfolding_all rfl)) ?_
  obtain ⟨r4, a5, e3, e⟩ := xb2_some e
  refine ex_cv1 (as := [.int x0]) (rest := []) rfl rfl rfl rfl (hS.obj rfl (by decide)) rfl (by with_unfolding_all rfl) (by with_unfolding_all rfl) (tf98_openWindow hS e3) (fun H1 s2 => ?_)
  refine ex_s (am_nb (m := 2) (pc1 := 7) (ls1 := [(3, xN r4), (0, .ref 0), (1, .int x0), (2, .int x1)]) (st1 := [xN r4]) (H1 := H1) (k1 := 0) (n1 := 0) (by first | with_unfolding_all rfl | (unfold xN; (repeat' split) <;> with_unfolding_all rfl))) ?_
  by_cases c6 : r4 = -1
  · have e := (if_pos c6).symm.trans e
    rw [show xN r4 = .null from if_pos c6]
    refine ex_s (am_nb (m := 1) (pc1 := 10) (ls1 := [(3, .null), (0, .ref 0), (1, .int x0), (2, .int x1)]) (st1 := []) (H1 := H1) (k1 := 0) (n1 := 0) (by with_unfolding_all rfl)) ?_
    refine ex_s (am_nb (m := 1) (pc1 := 11) (ls1 := [(3, .null), (0, .ref 0), (1, .int x0), (2, .int x1)]) (st1 := [.int 0]) (H1 := H1) (k1 := 0) (n1 := 0) (by with_unfolding_all rfl)) ?_
    cases e
    exact ex_r (st_iret rfl rfl rfl) s2
  · have e := (if_neg c6).symm.trans e
    rw [show xN r4 = .ref r4.toNatClampNeg from if_neg c6]
    refine ex_s (am_nb (m := 1) (pc1 := 12) (ls1 := [(3, .ref r4.toNatClampNeg), (0, .ref 0), (1, .int x0), (2, .int x1)]) (st1 := []) (H1 := H1) (k1 := 0) (n1 := 0) (by with_unfolding_all rfl)) ?_
    refine ex_s (am_nb (m := 1) (pc1 := 13) (ls1 := [(3, .ref r4.toNatClampNeg), (0, .ref 0), (1, .int x0), (2, .int x1)]) (st1 := [.ref r4.toNatClampNeg]) (H1 := H1) (k1 := 0) (n1 := 0) (by with_unfolding_all rfl)) ?_
    obtain ⟨g7, e⟩ := xg_some e
    refine xe_get (v := .int (a5 r4.toNatClampNeg 6)) s2 rfl g7 (by decide) rfl ?_
    refine ex_s (am_nb (m := 1) (pc1 := 17) (ls1 := [(3, .ref r4.toNatClampNeg), (0, .ref 0), (1, .int x0), (2, .int x1)]) (st1 := [.ref r4.toNatClampNeg, .int (a5 r4.toNatClampNeg 6)]) (H1 := H1) (k1 := 0) (n1 := 0) (by with_unfolding_all rfl)) ?_
    refine xe_get (v := .int (a5 r4.toNatClampNeg 5)) s2 rfl g7 (by decide) rfl ?_
    refine ex_s (am_nb (m := 2) (pc1 := 22) (ls1 := [(3, .ref r4.toNatClampNeg), (0, .ref 0), (1, .int x0), (2, .int x1)]) (st1 := [.ref r4.toNatClampNeg, .int ((a5 r4.toNatClampNeg 6) * (a5 r4.toNatClampNeg 5))]) (H1 := H1) (k1 := 0) (n1 := 0) (by with_unfolding_all rfl)) ?_
    refine xe_get (v := .int (a5 r4.toNatClampNeg 7)) s2 rfl g7 (by decide) rfl ?_
    refine ex_s (am_nb (m := 3) (pc1 := 29) (ls1 := [(4, .int (((a5 r4.toNatClampNeg 6) * (a5 r4.toNatClampNeg 5)) + (a5 r4.toNatClampNeg 7))), (3, .ref r4.toNatClampNeg), (0, .ref 0), (1, .int x0), (2, .int x1)]) (st1 := [.ref r4.toNatClampNeg]) (H1 := H1) (k1 := 0) (n1 := 0) (by with_unfolding_all rfl)) ?_
    refine xe_get (v := .ref (r4.toNatClampNeg + 1)) s2 rfl g7 (by decide) rfl ?_
    refine ex_s (am_nb (m := 2) (pc1 := 35) (ls1 := [(4, .int (((a5 r4.toNatClampNeg 6) * (a5 r4.toNatClampNeg 5)) + (a5 r4.toNatClampNeg 7))), (3, .ref r4.toNatClampNeg), (0, .ref 0), (1, .int x0), (2, .int x1)]) (st1 := [.ref r4.toNatClampNeg, .int (((a5 r4.toNatClampNeg 6) * (a5 r4.toNatClampNeg 5)) + (a5 r4.toNatClampNeg 7)), .ref (r4.toNatClampNeg + 1)]) (H1 := H1) (k1 := 0) (n1 := 0) (by with_unfolding_all rfl)) ?_
    refine xe_get (v := .int (a5 r4.toNatClampNeg 5)) s2 rfl g7 (by decide) rfl ?_
    refine ex_s (am_nb (m := 1) (pc1 := 39) (ls1 := [(4, .int (((a5 r4.toNatClampNeg 6) * (a5 r4.toNatClampNeg 5)) + (a5 r4.toNatClampNeg 7))), (3, .ref r4.toNatClampNeg), (0, .ref 0), (1, .int x0), (2, .int x1)]) (st1 := [.ref r4.toNatClampNeg, .int (a5 r4.toNatClampNeg 5), .int (((a5 r4.toNatClampNeg 6) * (a5 r4.toNatClampNeg 5)) + (a5 r4.toNatClampNeg 7)), .ref (r4.toNatClampNeg + 1)]) (H1 := H1) (k1 := 0) (n1 := 0) (by with_unfolding_all rfl)) ?_
    refine xe_get (v := .int (a5 r4.toNatClampNeg 7)) s2 rfl g7 (by decide) rfl ?_
    refine ex_s (am_nb (m := 3) (pc1 := 46) (ls1 := [(4, .int (((a5 r4.toNatClampNeg 6) * (a5 r4.toNatClampNeg 5)) + (a5 r4.toNatClampNeg 7))), (3, .ref r4.toNatClampNeg), (0, .ref 0), (1, .int x0), (2, .int x1)]) (st1 := [.int 32, .int x1, .int ((a5 r4.toNatClampNeg 5) - (a5 r4.toNatClampNeg 7)), .int (((a5 r4.toNatClampNeg 6) * (a5 r4.toNatClampNeg 5)) + (a5 r4.toNatClampNeg 7)), .ref (r4.toNatClampNeg + 1)]) (H1 := H1) (k1 := 0) (n1 := 0) (by with_unfolding_all rfl)) ?_
    obtain ⟨a11, e10, e⟩ := xb1_some e
    refine ex_cs0 (as := [.ref (r4.toNatClampNeg + 1), .int (((a5 r4.toNatClampNeg 6) * (a5 r4.toNatClampNeg 5)) + (a5 r4.toNatClampNeg 7)), .int ((a5 r4.toNatClampNeg 5) - (a5 r4.toNatClampNeg 7)), .int x1, .int 32]) (rest := []) rfl (by decide) rfl rfl (by with_unfolding_all rfl) (by with_unfolding_all rfl) (tf108_slide s2 e10) (fun H8 s9 => ?_)
    refine ex_s (am_nb (m := 1) (pc1 := 50) (ls1 := [(4, .int (((a5 r4.toNatClampNeg 6) * (a5 r4.toNatClampNeg 5)) + (a5 r4.toNatClampNeg 7))), (3, .ref r4.toNatClampNeg), (0, .ref 0), (1, .int x0), (2, .int x1)]) (st1 := [.int 1]) (H1 := H8) (k1 := 0) (n1 := 0) (by with_unfolding_all rfl)) ?_
    cases e
    exact ex_r (st_iret rfl rfl rfl) s9

set_option maxRecDepth 100000 in
theorem tj116_27 {sL : Nat} {sx : Nat → Int32} {h b N : Nat} {T : List am_C} {r : Int32} {a' : xA} {t0 : Int32} {t1 : Int32} {t2 : Nat} {a : xA} {H : am_H} (hS : xS h b T a H) (e : j116_27 N h b t0 t1 t2 a = some (r, a')) : am_E sL sx am_cs 116 27 [] [.int t0, .int t1, .ref t2] H (some (.int r)) (fun H1 => xS h b T a' H1) := by
  unfold j116_27 at e
  obtain ⟨g9, e⟩ := xg_some e
  obtain ⟨a13, e12, e⟩ := xb1_some e
  refine ex_cv0 (as := [.int t1, .int t0]) (rest := []) rfl rfl rfl rfl (hS.obj g9 (by decide)) rfl (by with_unfolding_all rfl) (by with_unfolding_all rfl) (tf107_slideRows hS e12) (fun H10 s11 => ?_)
  refine ex_s (am_nb (m := 1) (pc1 := 31) (ls1 := []) (st1 := [.int 1]) (H1 := H10) (k1 := 0) (n1 := 0) (by with_unfolding_all rfl)) ?_
  cases e
  exact ex_r (st_iret rfl rfl rfl) s11

set_option maxRecDepth 100000 in
theorem tf116_roll {sL : Nat} {sx : Nat → Int32} {h b N : Nat} {T : List am_C} {r : Int32} {a' : xA} {x0 : Int32} {x1 : Int32} {a : xA} {H : am_H} (hS : xS h b T a H) (e : f116_roll N h b x0 x1 a = some (r, a')) : am_E sL sx am_cs 116 0 [(0, .ref 0), (1, .int x0), (2, .int x1)] [] H (some (.int r)) (fun H1 => xS h b T a' H1) := by
  unfold f116_roll at e
  refine ex_s (am_nb (m := 2) (pc1 := 2) (ls1 := [(0, .ref 0), (1, .int x0), (2, .int x1)]) (st1 := [.int x0, .ref 0]) (H1 := H) (k1 := 0) (n1 := 0) (by with_unfolding_all rfl)) ?_
  obtain ⟨r4, a5, e3, e⟩ := xb2_some e
  refine ex_cv1 (as := [.int x0]) (rest := []) rfl rfl rfl rfl (hS.obj rfl (by decide)) rfl (by with_unfolding_all rfl) (by with_unfolding_all rfl) (tf98_openWindow hS e3) (fun H1 s2 => ?_)
  refine ex_s (am_nb (m := 2) (pc1 := 7) (ls1 := [(3, xN r4), (0, .ref 0), (1, .int x0), (2, .int x1)]) (st1 := [xN r4]) (H1 := H1) (k1 := 0) (n1 := 0) (by first | with_unfolding_all rfl | (unfold xN; (repeat' split) <;> with_unfolding_all rfl))) ?_
  by_cases c6 : r4 = -1
  · have e := (if_pos c6).symm.trans e
    rw [show xN r4 = .null from if_pos c6]
    refine ex_s (am_nb (m := 1) (pc1 := 10) (ls1 := [(3, .null), (0, .ref 0), (1, .int x0), (2, .int x1)]) (st1 := []) (H1 := H1) (k1 := 0) (n1 := 0) (by with_unfolding_all rfl)) ?_
    refine ex_s (am_nb (m := 1) (pc1 := 11) (ls1 := [(3, .null), (0, .ref 0), (1, .int x0), (2, .int x1)]) (st1 := [.int 0]) (H1 := H1) (k1 := 0) (n1 := 0) (by with_unfolding_all rfl)) ?_
    cases e
    exact ex_r (st_iret rfl rfl rfl) s2
  · have e := (if_neg c6).symm.trans e
    rw [show xN r4 = .ref r4.toNatClampNeg from if_neg c6]
    refine ex_s (am_nb (m := 1) (pc1 := 12) (ls1 := [(3, .ref r4.toNatClampNeg), (0, .ref 0), (1, .int x0), (2, .int x1)]) (st1 := []) (H1 := H1) (k1 := 0) (n1 := 0) (by with_unfolding_all rfl)) ?_
    refine ex_s (am_nb (m := 4) (pc1 := 17) (ls1 := [(3, .ref r4.toNatClampNeg), (0, .ref 0), (1, .int x0), (2, .int x1)]) (st1 := [.int (-2147483648), .int x1, .int 0, .ref r4.toNatClampNeg]) (H1 := H1) (k1 := 0) (n1 := 0) (by with_unfolding_all rfl)) ?_
    refine ex_s (st_icmp rfl) ?_
    by_cases c8 : x1 = (-2147483648)
    · have e := (if_pos c8).symm.trans e
      refine ex_pc (if_pos c8) ?_
      refine ex_s (am_nb (m := 2) (pc1 := 27) (ls1 := [(3, .ref r4.toNatClampNeg), (0, .ref 0), (1, .int x0), (2, .int x1)]) (st1 := [.int 2147483647, .int 0, .ref r4.toNatClampNeg]) (H1 := H1) (k1 := 0) (n1 := 0) (by with_unfolding_all rfl)) ?_
      exact le_E (l1 := []) trivial rfl (tj116_27  s2 e)
    · have e := (if_neg c8).symm.trans e
      refine ex_pc (if_neg c8) ?_
      refine ex_s (am_nb (m := 2) (pc1 := 27) (ls1 := [(3, .ref r4.toNatClampNeg), (0, .ref 0), (1, .int x0), (2, .int x1)]) (st1 := [.int (-x1), .int 0, .ref r4.toNatClampNeg]) (H1 := H1) (k1 := 0) (n1 := 0) (by with_unfolding_all rfl)) ?_
      exact le_E (l1 := []) trivial rfl (tj116_27  s2 e)

set_option maxRecDepth 100000 in
theorem tj118_117 {sL : Nat} {sx : Nat → Int32} {h b N : Nat} {T : List am_C} {R : Option Value} {F : am_H → Prop} {w0 : Nat} {w1 : Int32} {z : Nat × xA} {rc : Int32 → xA → Option (Nat × xA)} (k0 : z.1 = 0 → ∀ H2 : am_H, xS h b T z.2 H2 → am_E sL sx am_cs 118 123 [(0, .ref w0), (1, .int w1)] [] H2 R F) (ih : ∀ (v2 : Int32) (a : xA) (H : am_H), xS h b T a H → rc v2 a = some z → am_E sL sx am_cs 118 12 [(0, .ref w0), (1, .int w1), (2, .int v2)] [] H R F) {q2 : Int32} {a : xA} {H : am_H} (kw0 : xk w0 = 10) (hS : xS h b T a H) (e : j118_117 N h b rc w0 w1 q2 a = some z) : am_E sL sx am_cs 118 117 [(0, .ref w0), (1, .int w1), (2, .int q2)] [] H R F := by
  unfold j118_117 at e
  refine ex_s (am_nb (m := 2) (pc1 := 12) (ls1 := [(2, .int (q2 + 1)), (0, .ref w0), (1, .int w1)]) (st1 := []) (H1 := H) (k1 := 0) (n1 := 0) (by with_unfolding_all rfl)) ?_
  exact le_E (l1 := [(0, .ref w0), (1, .int w1), (2, .int (q2 + 1))]) ⟨rfl, rfl, rfl, trivial⟩ rfl (ih (q2 + 1) a H hS e)

set_option maxRecDepth 100000 in
theorem tj118_70 {sL : Nat} {sx : Nat → Int32} {h b N : Nat} {T : List am_C} {R : Option Value} {F : am_H → Prop} {w0 : Nat} {w1 : Int32} {z : Nat × xA} {rc : Int32 → xA → Option (Nat × xA)} (k0 : z.1 = 0 → ∀ H2 : am_H, xS h b T z.2 H2 → am_E sL sx am_cs 118 123 [(0, .ref w0), (1, .int w1)] [] H2 R F) (ih : ∀ (v2 : Int32) (a : xA) (H : am_H), xS h b T a H → rc v2 a = some z → am_E sL sx am_cs 118 12 [(0, .ref w0), (1, .int w1), (2, .int v2)] [] H R F) {q2 : Int32} {q3 : Int32} {q4 : Int32} {a : xA} {H : am_H} (kw0 : xk w0 = 10) (hS : xS h b T a H) (e : j118_70 N h b rc w0 w1 q2 q3 q4 a = some z) : am_E sL sx am_cs 118 70 [(0, .ref w0), (1, .int w1), (2, .int q2), (3, .int q3), (4, .int q4)] [] H R F := by
  unfold j118_70 at e
  refine ex_s (am_nb (m := 1) (pc1 := 72) (ls1 := [(0, .ref w0), (1, .int w1), (2, .int q2), (3, .int q3), (4, .int q4)]) (st1 := [.int q4]) (H1 := H) (k1 := 0) (n1 := 0) (by with_unfolding_all rfl)) ?_
  have kk : am_E sL sx am_cs 118 91 [(0, .ref w0), (1, .int w1), (2, .int q2), (3, .int q3), (4, .int q4)] [.int (if q4 = 0 then (45 : Int32) else (if q3 = 0 then (124 : Int32) else (43 : Int32)))] H R F := by
    refine ex_s (am_nb (m := 2) (pc1 := 94) (ls1 := [(5, .int (if q4 = 0 then (45 : Int32) else (if q3 = 0 then (124 : Int32) else (43 : Int32)))), (0, .ref w0), (1, .int w1), (2, .int q2), (3, .int q3), (4, .int q4)]) (st1 := [.ref w0]) (H1 := H) (k1 := 0) (n1 := 0) (by with_unfolding_all rfl)) ?_
    refine xe_get (v := .ref (w0 + 1)) hS rfl kw0 (by decide) rfl ?_
    refine ex_s (am_nb (m := 2) (pc1 := 99) (ls1 := [(5, .int (if q4 = 0 then (45 : Int32) else (if q3 = 0 then (124 : Int32) else (43 : Int32)))), (0, .ref w0), (1, .int w1), (2, .int q2), (3, .int q3), (4, .int q4)]) (st1 := [.ref w0, .int w1, .ref (w0 + 1)]) (H1 := H) (k1 := 0) (n1 := 0) (by with_unfolding_all rfl)) ?_
    refine xe_get (v := .int (a w0 5)) hS rfl kw0 (by decide) rfl ?_
    refine ex_s (am_nb (m := 6) (pc1 := 111) (ls1 := [(5, .int (if q4 = 0 then (45 : Int32) else (if q3 = 0 then (124 : Int32) else (43 : Int32)))), (0, .ref w0), (1, .int w1), (2, .int q2), (3, .int q3), (4, .int q4)]) (st1 := [.ref w0, .int 256, .int (if q4 = 0 then (45 : Int32) else (if q3 = 0 then (124 : Int32) else (43 : Int32))), .int ((w1 * (a w0 5)) + q2), .ref (w0 + 1)]) (H1 := H) (k1 := 0) (n1 := 0) (by with_unfolding_all rfl)) ?_
    refine xe_get (v := .int (a w0 8)) hS rfl kw0 (by decide) rfl ?_
    refine ex_s (am_nb (m := 2) (pc1 := 116) (ls1 := [(5, .int (if q4 = 0 then (45 : Int32) else (if q3 = 0 then (124 : Int32) else (43 : Int32)))), (0, .ref w0), (1, .int w1), (2, .int q2), (3, .int q3), (4, .int q4)]) (st1 := [.int ((if q4 = 0 then (45 : Int32) else (if q3 = 0 then (124 : Int32) else (43 : Int32))) + (256 * (a w0 8))), .int ((w1 * (a w0 5)) + q2), .ref (w0 + 1)]) (H1 := H) (k1 := 0) (n1 := 0) (by with_unfolding_all rfl)) ?_
    obtain ⟨g21, e⟩ := xg_some e
    obtain ⟨a18, ha18, e⟩ := xw_some e
    refine xe_iast hS rfl (xd_9_1 kw0) g21 (fun H19 s20 => ?_)
    have s20 : xS h b T a18 H19 := by rw [ha18]; exact s20
    exact le_E (l1 := [(0, .ref w0), (1, .int w1), (2, .int q2)]) ⟨rfl, rfl, rfl, trivial⟩ rfl (tj118_117 k0 ih kw0 s20 e)
  refine ex_s (st_if rfl) ?_
  by_cases c16 : q4 = 0
  · refine ex_pc (if_pos c16) ?_
    refine ex_s (am_nb (m := 2) (pc1 := 91) (ls1 := [(0, .ref w0), (1, .int w1), (2, .int q2), (3, .int q3), (4, .int q4)]) (st1 := [.int 45]) (H1 := H) (k1 := 0) (n1 := 0) (by with_unfolding_all rfl)) ?_
    rw [if_pos c16] at kk
    exact kk
  · refine ex_pc (if_neg c16) ?_
    refine ex_s (am_nb (m := 1) (pc1 := 81) (ls1 := [(0, .ref w0), (1, .int w1), (2, .int q2), (3, .int q3), (4, .int q4)]) (st1 := [.int q3]) (H1 := H) (k1 := 0) (n1 := 0) (by with_unfolding_all rfl)) ?_
    refine ex_s (st_if rfl) ?_
    by_cases c17 : q3 = 0
    · refine ex_pc (if_pos c17) ?_
      refine ex_s (am_nb (m := 1) (pc1 := 91) (ls1 := [(0, .ref w0), (1, .int w1), (2, .int q2), (3, .int q3), (4, .int q4)]) (st1 := [.int 124]) (H1 := H) (k1 := 0) (n1 := 0) (by with_unfolding_all rfl)) ?_
      rw [if_neg c16, if_pos c17] at kk
      exact kk
    · refine ex_pc (if_neg c17) ?_
      refine ex_s (am_nb (m := 2) (pc1 := 91) (ls1 := [(0, .ref w0), (1, .int w1), (2, .int q2), (3, .int q3), (4, .int q4)]) (st1 := [.int 43]) (H1 := H) (k1 := 0) (n1 := 0) (by with_unfolding_all rfl)) ?_
      rw [if_neg c16, if_neg c17] at kk
      exact kk

set_option maxRecDepth 100000 in
theorem tj118_59 {sL : Nat} {sx : Nat → Int32} {h b N : Nat} {T : List am_C} {R : Option Value} {F : am_H → Prop} {w0 : Nat} {w1 : Int32} {z : Nat × xA} {rc : Int32 → xA → Option (Nat × xA)} (k0 : z.1 = 0 → ∀ H2 : am_H, xS h b T z.2 H2 → am_E sL sx am_cs 118 123 [(0, .ref w0), (1, .int w1)] [] H2 R F) (ih : ∀ (v2 : Int32) (a : xA) (H : am_H), xS h b T a H → rc v2 a = some z → am_E sL sx am_cs 118 12 [(0, .ref w0), (1, .int w1), (2, .int v2)] [] H R F) {q2 : Int32} {q3 : Int32} {t0 : Int32} {a : xA} {H : am_H} (kw0 : xk w0 = 10) (hS : xS h b T a H) (e : j118_59 N h b rc w0 w1 q2 q3 t0 a = some z) : am_E sL sx am_cs 118 59 [(0, .ref w0), (1, .int w1), (2, .int q2), (3, .int q3)] [.int t0] H R F := by
  unfold j118_59 at e
  refine ex_s (am_nb (m := 2) (pc1 := 62) (ls1 := [(4, .int t0), (0, .ref w0), (1, .int w1), (2, .int q2), (3, .int q3)]) (st1 := [.int q3]) (H1 := H) (k1 := 0) (n1 := 0) (by with_unfolding_all rfl)) ?_
  refine ex_s (st_if rfl) ?_
  by_cases c12 : q3 = 0
  · have e := (if_pos c12).symm.trans e
    refine ex_pc (if_pos c12) ?_
    refine ex_s (am_nb (m := 1) (pc1 := 67) (ls1 := [(4, .int t0), (0, .ref w0), (1, .int w1), (2, .int q2), (3, .int q3)]) (st1 := [.int t0]) (H1 := H) (k1 := 0) (n1 := 0) (by with_unfolding_all rfl)) ?_
    refine ex_s (st_if rfl) ?_
    by_cases c15 : t0 = 0
    · have e := (if_pos c15).symm.trans e
      refine ex_pc (if_pos c15) ?_
      exact le_E (l1 := [(0, .ref w0), (1, .int w1), (2, .int q2)]) ⟨rfl, rfl, rfl, trivial⟩ rfl (tj118_117 k0 ih kw0 hS e)
    · have e := (if_neg c15).symm.trans e
      refine ex_pc (if_neg c15) ?_
      exact le_E (l1 := [(0, .ref w0), (1, .int w1), (2, .int q2), (3, .int q3), (4, .int t0)]) ⟨rfl, rfl, rfl, rfl, rfl, trivial⟩ rfl (tj118_70 k0 ih kw0 hS e)
  · have e := (if_neg c12).symm.trans e
    refine ex_pc (if_neg c12) ?_
    exact le_E (l1 := [(0, .ref w0), (1, .int w1), (2, .int q2), (3, .int q3), (4, .int t0)]) ⟨rfl, rfl, rfl, rfl, rfl, trivial⟩ rfl (tj118_70 k0 ih kw0 hS e)

set_option maxRecDepth 100000 in
theorem tj118_54 {sL : Nat} {sx : Nat → Int32} {h b N : Nat} {T : List am_C} {R : Option Value} {F : am_H → Prop} {w0 : Nat} {w1 : Int32} {z : Nat × xA} {rc : Int32 → xA → Option (Nat × xA)} (k0 : z.1 = 0 → ∀ H2 : am_H, xS h b T z.2 H2 → am_E sL sx am_cs 118 123 [(0, .ref w0), (1, .int w1)] [] H2 R F) (ih : ∀ (v2 : Int32) (a : xA) (H : am_H), xS h b T a H → rc v2 a = some z → am_E sL sx am_cs 118 12 [(0, .ref w0), (1, .int w1), (2, .int v2)] [] H R F) {q2 : Int32} {q3 : Int32} {a : xA} {H : am_H} (kw0 : xk w0 = 10) (hS : xS h b T a H) (e : j118_54 N h b rc w0 w1 q2 q3 a = some z) : am_E sL sx am_cs 118 54 [(0, .ref w0), (1, .int w1), (2, .int q2), (3, .int q3)] [] H R F := by
  unfold j118_54 at e
  refine ex_s (am_nb (m := 2) (pc1 := 59) (ls1 := [(0, .ref w0), (1, .int w1), (2, .int q2), (3, .int q3)]) (st1 := [.int 1]) (H1 := H) (k1 := 0) (n1 := 0) (by with_unfolding_all rfl)) ?_
  exact le_E (l1 := [(0, .ref w0), (1, .int w1), (2, .int q2), (3, .int q3)]) ⟨rfl, rfl, rfl, rfl, trivial⟩ rfl (tj118_59 k0 ih kw0 hS e)

set_option maxRecDepth 100000 in
theorem tj118_39 {sL : Nat} {sx : Nat → Int32} {h b N : Nat} {T : List am_C} {R : Option Value} {F : am_H → Prop} {w0 : Nat} {w1 : Int32} {z : Nat × xA} {rc : Int32 → xA → Option (Nat × xA)} (k0 : z.1 = 0 → ∀ H2 : am_H, xS h b T z.2 H2 → am_E sL sx am_cs 118 123 [(0, .ref w0), (1, .int w1)] [] H2 R F) (ih : ∀ (v2 : Int32) (a : xA) (H : am_H), xS h b T a H → rc v2 a = some z → am_E sL sx am_cs 118 12 [(0, .ref w0), (1, .int w1), (2, .int v2)] [] H R F) {q2 : Int32} {t0 : Int32} {a : xA} {H : am_H} (kw0 : xk w0 = 10) (hS : xS h b T a H) (e : j118_39 N h b rc w0 w1 q2 t0 a = some z) : am_E sL sx am_cs 118 39 [(0, .ref w0), (1, .int w1), (2, .int q2)] [.int t0] H R F := by
  unfold j118_39 at e
  refine ex_s (am_nb (m := 2) (pc1 := 41) (ls1 := [(3, .int t0), (0, .ref w0), (1, .int w1), (2, .int q2)]) (st1 := [.int q2]) (H1 := H) (k1 := 0) (n1 := 0) (by with_unfolding_all rfl)) ?_
  refine ex_s (st_if rfl) ?_
  by_cases c9 : q2 = 0
  · have e := (if_pos c9).symm.trans e
    refine ex_pc (if_pos c9) ?_
    exact le_E (l1 := [(0, .ref w0), (1, .int w1), (2, .int q2), (3, .int t0)]) ⟨rfl, rfl, rfl, rfl, trivial⟩ rfl (tj118_54 k0 ih kw0 hS e)
  · have e := (if_neg c9).symm.trans e
    refine ex_pc (if_neg c9) ?_
    refine ex_s (am_nb (m := 2) (pc1 := 46) (ls1 := [(3, .int t0), (0, .ref w0), (1, .int w1), (2, .int q2)]) (st1 := [.ref w0, .int q2]) (H1 := H) (k1 := 0) (n1 := 0) (by with_unfolding_all rfl)) ?_
    refine xe_get (v := .int (a w0 5)) hS rfl kw0 (by decide) rfl ?_
    refine ex_s (am_nb (m := 2) (pc1 := 51) (ls1 := [(3, .int t0), (0, .ref w0), (1, .int w1), (2, .int q2)]) (st1 := [.int ((a w0 5) - 1), .int q2]) (H1 := H) (k1 := 0) (n1 := 0) (by with_unfolding_all rfl)) ?_
    have kk : am_E sL sx am_cs 118 59 [(3, .int t0), (0, .ref w0), (1, .int w1), (2, .int q2)] [.int (if q2 = ((a w0 5) - 1) then (1 : Int32) else (0 : Int32))] H R F := by
      refine ex_s (am_nb (m := 2) (pc1 := 62) (ls1 := [(4, .int (if q2 = ((a w0 5) - 1) then (1 : Int32) else (0 : Int32))), (3, .int t0), (0, .ref w0), (1, .int w1), (2, .int q2)]) (st1 := [.int t0]) (H1 := H) (k1 := 0) (n1 := 0) (by with_unfolding_all rfl)) ?_
      refine ex_s (st_if rfl) ?_
      by_cases c25 : t0 = 0
      · have e := (if_pos c25).symm.trans e
        refine ex_pc (if_pos c25) ?_
        refine ex_s (am_nb (m := 1) (pc1 := 67) (ls1 := [(4, .int (if q2 = ((a w0 5) - 1) then (1 : Int32) else (0 : Int32))), (3, .int t0), (0, .ref w0), (1, .int w1), (2, .int q2)]) (st1 := [.int (if q2 = ((a w0 5) - 1) then (1 : Int32) else (0 : Int32))]) (H1 := H) (k1 := 0) (n1 := 0) (by with_unfolding_all rfl)) ?_
        refine ex_s (st_if rfl) ?_
        by_cases c28 : (if q2 = ((a w0 5) - 1) then (1 : Int32) else (0 : Int32)) = 0
        · have e := (if_pos c28).symm.trans e
          refine ex_pc (if_pos c28) ?_
          exact le_E (l1 := [(0, .ref w0), (1, .int w1), (2, .int q2)]) ⟨rfl, rfl, rfl, trivial⟩ rfl (tj118_117 k0 ih kw0 hS e)
        · have e := (if_neg c28).symm.trans e
          refine ex_pc (if_neg c28) ?_
          exact le_E (l1 := [(0, .ref w0), (1, .int w1), (2, .int q2), (3, .int t0), (4, .int (if q2 = ((a w0 5) - 1) then (1 : Int32) else (0 : Int32)))]) ⟨rfl, rfl, rfl, rfl, rfl, trivial⟩ rfl (tj118_70 k0 ih kw0 hS e)
      · have e := (if_neg c25).symm.trans e
        refine ex_pc (if_neg c25) ?_
        exact le_E (l1 := [(0, .ref w0), (1, .int w1), (2, .int q2), (3, .int t0), (4, .int (if q2 = ((a w0 5) - 1) then (1 : Int32) else (0 : Int32)))]) ⟨rfl, rfl, rfl, rfl, rfl, trivial⟩ rfl (tj118_70 k0 ih kw0 hS e)
    refine ex_s (st_icmp rfl) ?_
    by_cases c22 : q2 = ((a w0 5) - 1)
    · refine ex_pc (if_pos c22) ?_
      refine ex_s (am_nb (m := 2) (pc1 := 59) (ls1 := [(3, .int t0), (0, .ref w0), (1, .int w1), (2, .int q2)]) (st1 := [.int 1]) (H1 := H) (k1 := 0) (n1 := 0) (by with_unfolding_all rfl)) ?_
      rw [if_pos c22] at kk
      exact kk
    · refine ex_pc (if_neg c22) ?_
      refine ex_s (am_nb (m := 1) (pc1 := 59) (ls1 := [(3, .int t0), (0, .ref w0), (1, .int w1), (2, .int q2)]) (st1 := [.int 0]) (H1 := H) (k1 := 0) (n1 := 0) (by with_unfolding_all rfl)) ?_
      rw [if_neg c22] at kk
      exact kk

set_option maxRecDepth 100000 in
theorem tj118_34 {sL : Nat} {sx : Nat → Int32} {h b N : Nat} {T : List am_C} {R : Option Value} {F : am_H → Prop} {w0 : Nat} {w1 : Int32} {z : Nat × xA} {rc : Int32 → xA → Option (Nat × xA)} (k0 : z.1 = 0 → ∀ H2 : am_H, xS h b T z.2 H2 → am_E sL sx am_cs 118 123 [(0, .ref w0), (1, .int w1)] [] H2 R F) (ih : ∀ (v2 : Int32) (a : xA) (H : am_H), xS h b T a H → rc v2 a = some z → am_E sL sx am_cs 118 12 [(0, .ref w0), (1, .int w1), (2, .int v2)] [] H R F) {q2 : Int32} {a : xA} {H : am_H} (kw0 : xk w0 = 10) (hS : xS h b T a H) (e : j118_34 N h b rc w0 w1 q2 a = some z) : am_E sL sx am_cs 118 34 [(0, .ref w0), (1, .int w1), (2, .int q2)] [] H R F := by
  unfold j118_34 at e
  refine ex_s (am_nb (m := 2) (pc1 := 39) (ls1 := [(0, .ref w0), (1, .int w1), (2, .int q2)]) (st1 := [.int 1]) (H1 := H) (k1 := 0) (n1 := 0) (by with_unfolding_all rfl)) ?_
  exact le_E (l1 := [(0, .ref w0), (1, .int w1), (2, .int q2)]) ⟨rfl, rfl, rfl, trivial⟩ rfl (tj118_39 k0 ih kw0 hS e)

set_option maxRecDepth 100000 in
theorem tl118_12 {sL : Nat} {sx : Nat → Int32} {h b N : Nat} {T : List am_C} {R : Option Value} {F : am_H → Prop} {w0 : Nat} {w1 : Int32} {z : Nat × xA} (kw0 : xk w0 = 10) (k0 : z.1 = 0 → ∀ H2 : am_H, xS h b T z.2 H2 → am_E sL sx am_cs 118 123 [(0, .ref w0), (1, .int w1)] [] H2 R F) : ∀ (n : Nat) (v2 : Int32) (a : xA) (H : am_H), xS h b T a H → l118_12 N h b w0 w1 n v2 a = some z → am_E sL sx am_cs 118 12 [(0, .ref w0), (1, .int w1), (2, .int v2)] [] H R F := by
  intro n
  induction n with
  | zero =>
    intro v2 a H hS e
    cases e
  | succ n ih =>
    intro v2 a H hS e
    unfold l118_12 at e
    refine ex_s (am_nb (m := 2) (pc1 := 14) (ls1 := [(0, .ref w0), (1, .int w1), (2, .int v2)]) (st1 := [.ref w0, .int v2]) (H1 := H) (k1 := 0) (n1 := 0) (by with_unfolding_all rfl)) ?_
    refine xe_get (v := .int (a w0 5)) hS rfl kw0 (by decide) rfl ?_
    refine ex_s (st_icmp rfl) ?_
    by_cases c3 : (a w0 5) ≤ v2
    · have e := (if_pos c3).symm.trans e
      refine ex_pc (if_pos c3) ?_
      cases e
      exact le_E (l1 := [(0, .ref w0), (1, .int w1)]) ⟨rfl, rfl, trivial⟩ rfl (k0 rfl H hS)
    · have e := (if_neg c3).symm.trans e
      refine ex_pc (if_neg c3) ?_
      refine ex_s (am_nb (m := 1) (pc1 := 21) (ls1 := [(0, .ref w0), (1, .int w1), (2, .int v2)]) (st1 := [.int w1]) (H1 := H) (k1 := 0) (n1 := 0) (by with_unfolding_all rfl)) ?_
      refine ex_s (st_if rfl) ?_
      by_cases c6 : w1 = 0
      · have e := (if_pos c6).symm.trans e
        refine ex_pc (if_pos c6) ?_
        exact le_E (l1 := [(0, .ref w0), (1, .int w1), (2, .int v2)]) ⟨rfl, rfl, rfl, trivial⟩ rfl (tj118_34 k0 ih kw0 hS e)
      · have e := (if_neg c6).symm.trans e
        refine ex_pc (if_neg c6) ?_
        refine ex_s (am_nb (m := 2) (pc1 := 26) (ls1 := [(0, .ref w0), (1, .int w1), (2, .int v2)]) (st1 := [.ref w0, .int w1]) (H1 := H) (k1 := 0) (n1 := 0) (by with_unfolding_all rfl)) ?_
        refine xe_get (v := .int (a w0 4)) hS rfl kw0 (by decide) rfl ?_
        refine ex_s (am_nb (m := 2) (pc1 := 31) (ls1 := [(0, .ref w0), (1, .int w1), (2, .int v2)]) (st1 := [.int ((a w0 4) - 1), .int w1]) (H1 := H) (k1 := 0) (n1 := 0) (by with_unfolding_all rfl)) ?_
        have kk : am_E sL sx am_cs 118 39 [(0, .ref w0), (1, .int w1), (2, .int v2)] [.int (if w1 = ((a w0 4) - 1) then (1 : Int32) else (0 : Int32))] H R F := by
          refine ex_s (am_nb (m := 2) (pc1 := 41) (ls1 := [(3, .int (if w1 = ((a w0 4) - 1) then (1 : Int32) else (0 : Int32))), (0, .ref w0), (1, .int w1), (2, .int v2)]) (st1 := [.int v2]) (H1 := H) (k1 := 0) (n1 := 0) (by with_unfolding_all rfl)) ?_
          refine ex_s (st_if rfl) ?_
          by_cases c32 : v2 = 0
          · have e := (if_pos c32).symm.trans e
            refine ex_pc (if_pos c32) ?_
            exact le_E (l1 := [(0, .ref w0), (1, .int w1), (2, .int v2), (3, .int (if w1 = ((a w0 4) - 1) then (1 : Int32) else (0 : Int32)))]) ⟨rfl, rfl, rfl, rfl, trivial⟩ rfl (tj118_54 k0 ih kw0 hS e)
          · have e := (if_neg c32).symm.trans e
            refine ex_pc (if_neg c32) ?_
            refine ex_s (am_nb (m := 2) (pc1 := 46) (ls1 := [(3, .int (if w1 = ((a w0 4) - 1) then (1 : Int32) else (0 : Int32))), (0, .ref w0), (1, .int w1), (2, .int v2)]) (st1 := [.ref w0, .int v2]) (H1 := H) (k1 := 0) (n1 := 0) (by with_unfolding_all rfl)) ?_
            refine xe_get (v := .int (a w0 5)) hS rfl kw0 (by decide) rfl ?_
            refine ex_s (am_nb (m := 2) (pc1 := 51) (ls1 := [(3, .int (if w1 = ((a w0 4) - 1) then (1 : Int32) else (0 : Int32))), (0, .ref w0), (1, .int w1), (2, .int v2)]) (st1 := [.int ((a w0 5) - 1), .int v2]) (H1 := H) (k1 := 0) (n1 := 0) (by with_unfolding_all rfl)) ?_
            have kk : am_E sL sx am_cs 118 59 [(3, .int (if w1 = ((a w0 4) - 1) then (1 : Int32) else (0 : Int32))), (0, .ref w0), (1, .int w1), (2, .int v2)] [.int (if v2 = ((a w0 5) - 1) then (1 : Int32) else (0 : Int32))] H R F := by
              refine ex_s (am_nb (m := 2) (pc1 := 62) (ls1 := [(4, .int (if v2 = ((a w0 5) - 1) then (1 : Int32) else (0 : Int32))), (3, .int (if w1 = ((a w0 4) - 1) then (1 : Int32) else (0 : Int32))), (0, .ref w0), (1, .int w1), (2, .int v2)]) (st1 := [.int (if w1 = ((a w0 4) - 1) then (1 : Int32) else (0 : Int32))]) (H1 := H) (k1 := 0) (n1 := 0) (by with_unfolding_all rfl)) ?_
              refine ex_s (st_if rfl) ?_
              by_cases c36 : (if w1 = ((a w0 4) - 1) then (1 : Int32) else (0 : Int32)) = 0
              · have e := (if_pos c36).symm.trans e
                refine ex_pc (if_pos c36) ?_
                refine ex_s (am_nb (m := 1) (pc1 := 67) (ls1 := [(4, .int (if v2 = ((a w0 5) - 1) then (1 : Int32) else (0 : Int32))), (3, .int (if w1 = ((a w0 4) - 1) then (1 : Int32) else (0 : Int32))), (0, .ref w0), (1, .int w1), (2, .int v2)]) (st1 := [.int (if v2 = ((a w0 5) - 1) then (1 : Int32) else (0 : Int32))]) (H1 := H) (k1 := 0) (n1 := 0) (by with_unfolding_all rfl)) ?_
                refine ex_s (st_if rfl) ?_
                by_cases c39 : (if v2 = ((a w0 5) - 1) then (1 : Int32) else (0 : Int32)) = 0
                · have e := (if_pos c39).symm.trans e
                  refine ex_pc (if_pos c39) ?_
                  exact le_E (l1 := [(0, .ref w0), (1, .int w1), (2, .int v2)]) ⟨rfl, rfl, rfl, trivial⟩ rfl (tj118_117 k0 ih kw0 hS e)
                · have e := (if_neg c39).symm.trans e
                  refine ex_pc (if_neg c39) ?_
                  exact le_E (l1 := [(0, .ref w0), (1, .int w1), (2, .int v2), (3, .int (if w1 = ((a w0 4) - 1) then (1 : Int32) else (0 : Int32))), (4, .int (if v2 = ((a w0 5) - 1) then (1 : Int32) else (0 : Int32)))]) ⟨rfl, rfl, rfl, rfl, rfl, trivial⟩ rfl (tj118_70 k0 ih kw0 hS e)
              · have e := (if_neg c36).symm.trans e
                refine ex_pc (if_neg c36) ?_
                exact le_E (l1 := [(0, .ref w0), (1, .int w1), (2, .int v2), (3, .int (if w1 = ((a w0 4) - 1) then (1 : Int32) else (0 : Int32))), (4, .int (if v2 = ((a w0 5) - 1) then (1 : Int32) else (0 : Int32)))]) ⟨rfl, rfl, rfl, rfl, rfl, trivial⟩ rfl (tj118_70 k0 ih kw0 hS e)
            refine ex_s (st_icmp rfl) ?_
            by_cases c33 : v2 = ((a w0 5) - 1)
            · refine ex_pc (if_pos c33) ?_
              refine ex_s (am_nb (m := 2) (pc1 := 59) (ls1 := [(3, .int (if w1 = ((a w0 4) - 1) then (1 : Int32) else (0 : Int32))), (0, .ref w0), (1, .int w1), (2, .int v2)]) (st1 := [.int 1]) (H1 := H) (k1 := 0) (n1 := 0) (by with_unfolding_all rfl)) ?_
              rw [if_pos c33] at kk
              exact kk
            · refine ex_pc (if_neg c33) ?_
              refine ex_s (am_nb (m := 1) (pc1 := 59) (ls1 := [(3, .int (if w1 = ((a w0 4) - 1) then (1 : Int32) else (0 : Int32))), (0, .ref w0), (1, .int w1), (2, .int v2)]) (st1 := [.int 0]) (H1 := H) (k1 := 0) (n1 := 0) (by with_unfolding_all rfl)) ?_
              rw [if_neg c33] at kk
              exact kk
        refine ex_s (st_icmp rfl) ?_
        by_cases c29 : w1 = ((a w0 4) - 1)
        · refine ex_pc (if_pos c29) ?_
          refine ex_s (am_nb (m := 2) (pc1 := 39) (ls1 := [(0, .ref w0), (1, .int w1), (2, .int v2)]) (st1 := [.int 1]) (H1 := H) (k1 := 0) (n1 := 0) (by with_unfolding_all rfl)) ?_
          rw [if_pos c29] at kk
          exact kk
        · refine ex_pc (if_neg c29) ?_
          refine ex_s (am_nb (m := 1) (pc1 := 39) (ls1 := [(0, .ref w0), (1, .int w1), (2, .int v2)]) (st1 := [.int 0]) (H1 := H) (k1 := 0) (n1 := 0) (by with_unfolding_all rfl)) ?_
          rw [if_neg c29] at kk
          exact kk

set_option maxRecDepth 100000 in
theorem tl118_2 {sL : Nat} {sx : Nat → Int32} {h b N : Nat} {T : List am_C} {R : Option Value} {F : am_H → Prop} {w0 : Nat} {z : Nat × xA} (kw0 : xk w0 = 10) (k0 : z.1 = 0 → ∀ H2 : am_H, xS h b T z.2 H2 → am_E sL sx am_cs 118 129 [] [] H2 R F) : ∀ (n : Nat) (v1 : Int32) (a : xA) (H : am_H), xS h b T a H → l118_2 N h b w0 n v1 a = some z → am_E sL sx am_cs 118 2 [(0, .ref w0), (1, .int v1)] [] H R F := by
  intro n
  induction n with
  | zero =>
    intro v1 a H hS e
    cases e
  | succ n ih =>
    intro v1 a H hS e
    unfold l118_2 at e
    refine ex_s (am_nb (m := 2) (pc1 := 4) (ls1 := [(0, .ref w0), (1, .int v1)]) (st1 := [.ref w0, .int v1]) (H1 := H) (k1 := 0) (n1 := 0) (by with_unfolding_all rfl)) ?_
    refine xe_get (v := .int (a w0 4)) hS rfl kw0 (by decide) rfl ?_
    refine ex_s (st_icmp rfl) ?_
    by_cases c2 : (a w0 4) ≤ v1
    · have e := (if_pos c2).symm.trans e
      refine ex_pc (if_pos c2) ?_
      cases e
      exact le_E (l1 := []) trivial rfl (k0 rfl H hS)
    · have e := (if_neg c2).symm.trans e
      refine ex_pc (if_neg c2) ?_
      refine ex_s (am_nb (m := 2) (pc1 := 12) (ls1 := [(2, .int 0), (0, .ref w0), (1, .int v1)]) (st1 := []) (H1 := H) (k1 := 0) (n1 := 0) (by with_unfolding_all rfl)) ?_
      obtain ⟨z40, e41, e⟩ := Option.bind_eq_some_iff.mp e
      refine le_E (l1 := [(0, .ref w0), (1, .int v1), (2, .int 0)]) ⟨rfl, rfl, rfl, trivial⟩ rfl (tl118_12 (z := z40) kw0 (fun uz40_0 Hz400 sz400 => ?_) N 0 a H hS e41)
      refine ex_s (am_nb (m := 2) (pc1 := 2) (ls1 := [(1, .int (v1 + 1)), (0, .ref w0)]) (st1 := []) (H1 := Hz400) (k1 := 0) (n1 := 0) (by with_unfolding_all rfl)) ?_
      exact le_E (l1 := [(0, .ref w0), (1, .int (v1 + 1))]) ⟨rfl, rfl, trivial⟩ rfl (ih (v1 + 1) z40.2 Hz400 sz400 e)

set_option maxRecDepth 100000 in
theorem tf118_drawEdge {sL : Nat} {sx : Nat → Int32} {h b N : Nat} {T : List am_C} {a' : xA} {o : Nat} {a : xA} {H : am_H} (hS : xS h b T a H) (e : f118_drawEdge N h b o a = some a') : am_E sL sx am_cs 118 0 [(0, .ref o)] [] H none (fun H1 => xS h b T a' H1) := by
  unfold f118_drawEdge at e
  obtain ⟨g1, e⟩ := xg_some e
  refine ex_s (am_nb (m := 2) (pc1 := 2) (ls1 := [(1, .int 0), (0, .ref o)]) (st1 := []) (H1 := H) (k1 := 0) (n1 := 0) (by with_unfolding_all rfl)) ?_
  obtain ⟨z42, e43, e⟩ := Option.bind_eq_some_iff.mp e
  refine le_E (l1 := [(0, .ref o), (1, .int 0)]) ⟨rfl, rfl, trivial⟩ rfl (tl118_2 (z := z42) g1 (fun uz42_0 Hz420 sz420 => ?_) N 0 a H hS e43)
  cases e
  exact ex_r (st_vret rfl rfl) sz420

set_option maxRecDepth 100000 in
theorem tf117_box {sL : Nat} {sx : Nat → Int32} {h b N : Nat} {T : List am_C} {r : Int32} {a' : xA} {x0 : Int32} {a : xA} {H : am_H} (hS : xS h b T a H) (e : f117_box N h b x0 a = some (r, a')) : am_E sL sx am_cs 117 0 [(0, .ref 0), (1, .int x0)] [] H (some (.int r)) (fun H1 => xS h b T a' H1) := by
  unfold f117_box at e
  refine ex_s (am_nb (m := 2) (pc1 := 2) (ls1 := [(0, .ref 0), (1, .int x0)]) (st1 := [.int x0, .ref 0]) (H1 := H) (k1 := 0) (n1 := 0) (by with_unfolding_all rfl)) ?_
  obtain ⟨r4, a5, e3, e⟩ := xb2_some e
  refine ex_cv1 (as := [.int x0]) (rest := []) rfl rfl rfl rfl (hS.obj rfl (by decide)) rfl (by with_unfolding_all rfl) (by with_unfolding_all rfl) (tf98_openWindow hS e3) (fun H1 s2 => ?_)
  refine ex_s (am_nb (m := 2) (pc1 := 7) (ls1 := [(2, xN r4), (0, .ref 0), (1, .int x0)]) (st1 := [xN r4]) (H1 := H1) (k1 := 0) (n1 := 0) (by first | with_unfolding_all rfl | (unfold xN; (repeat' split) <;> with_unfolding_all rfl))) ?_
  by_cases c6 : r4 = -1
  · have e := (if_pos c6).symm.trans e
    rw [show xN r4 = .null from if_pos c6]
    refine ex_s (am_nb (m := 1) (pc1 := 10) (ls1 := [(2, .null), (0, .ref 0), (1, .int x0)]) (st1 := []) (H1 := H1) (k1 := 0) (n1 := 0) (by with_unfolding_all rfl)) ?_
    refine ex_s (am_nb (m := 1) (pc1 := 11) (ls1 := [(2, .null), (0, .ref 0), (1, .int x0)]) (st1 := [.int 0]) (H1 := H1) (k1 := 0) (n1 := 0) (by with_unfolding_all rfl)) ?_
    cases e
    exact ex_r (st_iret rfl rfl rfl) s2
  · have e := (if_neg c6).symm.trans e
    rw [show xN r4 = .ref r4.toNatClampNeg from if_neg c6]
    refine ex_s (am_nb (m := 1) (pc1 := 12) (ls1 := [(2, .ref r4.toNatClampNeg), (0, .ref 0), (1, .int x0)]) (st1 := []) (H1 := H1) (k1 := 0) (n1 := 0) (by with_unfolding_all rfl)) ?_
    refine ex_s (am_nb (m := 1) (pc1 := 13) (ls1 := [(2, .ref r4.toNatClampNeg), (0, .ref 0), (1, .int x0)]) (st1 := [.ref r4.toNatClampNeg]) (H1 := H1) (k1 := 0) (n1 := 0) (by with_unfolding_all rfl)) ?_
    obtain ⟨g7, e⟩ := xg_some e
    obtain ⟨a11, e10, e⟩ := xb1_some e
    refine ex_cv0 (as := []) (rest := []) rfl rfl rfl rfl (s2.obj g7 (by decide)) rfl (by with_unfolding_all rfl) (by with_unfolding_all rfl) (tf118_drawEdge s2 e10) (fun H8 s9 => ?_)
    refine ex_s (am_nb (m := 1) (pc1 := 17) (ls1 := [(2, .ref r4.toNatClampNeg), (0, .ref 0), (1, .int x0)]) (st1 := [.int 1]) (H1 := H8) (k1 := 0) (n1 := 0) (by with_unfolding_all rfl)) ?_
    cases e
    exact ex_r (st_iret rfl rfl rfl) s9

set_option maxRecDepth 100000 in
theorem tf120_cell {sL : Nat} {sx : Nat → Int32} {h b N : Nat} {T : List am_C} {r : Int32} {a' : xA} {o : Nat} {x0 : Int32} {x1 : Int32} {a : xA} {H : am_H} (hS : xS h b T a H) (e : f120_cell N h b o x0 x1 a = some (r, a')) : am_E sL sx am_cs 120 0 [(0, .ref o), (1, .int x0), (2, .int x1)] [] H (some (.int r)) (fun H1 => xS h b T a' H1) := by
  unfold f120_cell at e
  obtain ⟨g1, e⟩ := xg_some e
  refine ex_s (am_nb (m := 3) (pc1 := 3) (ls1 := [(0, .ref o), (1, .int x0), (2, .int x1)]) (st1 := [.int x1, .int x0, .ref o]) (H1 := H) (k1 := 0) (n1 := 0) (by with_unfolding_all rfl)) ?_
  obtain ⟨r5, a6, e4, e⟩ := xb2_some e
  refine ex_cv1 (as := [.int x0, .int x1]) (rest := []) rfl rfl rfl rfl (hS.obj g1 (by decide)) rfl (by with_unfolding_all rfl) (by with_unfolding_all rfl) (tf100_hasCell hS e4) (fun H2 s3 => ?_)
  refine ex_s (st_if rfl) ?_
  by_cases c8 : r5 = 0
  · have e := (if_pos c8).symm.trans e
    refine ex_pc (if_pos c8) ?_
    refine ex_s (am_nb (m := 1) (pc1 := 26) (ls1 := [(0, .ref o), (1, .int x0), (2, .int x1)]) (st1 := [.int (-1)]) (H1 := H2) (k1 := 0) (n1 := 0) (by with_unfolding_all rfl)) ?_
    cases e
    exact ex_r (st_iret rfl rfl rfl) s3
  · have e := (if_neg c8).symm.trans e
    refine ex_pc (if_neg c8) ?_
    refine ex_s (am_nb (m := 1) (pc1 := 10) (ls1 := [(0, .ref o), (1, .int x0), (2, .int x1)]) (st1 := [.ref o]) (H1 := H2) (k1 := 0) (n1 := 0) (by with_unfolding_all rfl)) ?_
    refine xe_get (v := .ref (o + 1)) s3 rfl g1 (by decide) rfl ?_
    refine ex_s (am_nb (m := 2) (pc1 := 15) (ls1 := [(0, .ref o), (1, .int x0), (2, .int x1)]) (st1 := [.ref o, .int x0, .ref (o + 1)]) (H1 := H2) (k1 := 0) (n1 := 0) (by with_unfolding_all rfl)) ?_
    refine xe_get (v := .int (a6 o 5)) s3 rfl g1 (by decide) rfl ?_
    refine ex_s (am_nb (m := 3) (pc1 := 21) (ls1 := [(0, .ref o), (1, .int x0), (2, .int x1)]) (st1 := [.int ((x0 * (a6 o 5)) + x1), .ref (o + 1)]) (H1 := H2) (k1 := 0) (n1 := 0) (by with_unfolding_all rfl)) ?_
    obtain ⟨g9, e⟩ := xg_some e
    refine xe_iald s3 rfl (xd_9_1 g1) g9 ?_
    refine ex_s (am_nb (m := 1) (pc1 := 26) (ls1 := [(0, .ref o), (1, .int x0), (2, .int x1)]) (st1 := [.int (a6 (o + 1) (((x0 * (a6 o 5)) + x1).toNatClampNeg))]) (H1 := H2) (k1 := 0) (n1 := 0) (by with_unfolding_all rfl)) ?_
    cases e
    exact ex_r (st_iret rfl rfl rfl) s3

set_option maxRecDepth 100000 in
theorem tf119_look {sL : Nat} {sx : Nat → Int32} {h b N : Nat} {T : List am_C} {r : Int32} {a' : xA} {x0 : Int32} {x1 : Int32} {x2 : Int32} {a : xA} {H : am_H} (hS : xS h b T a H) (e : f119_look N h b x0 x1 x2 a = some (r, a')) : am_E sL sx am_cs 119 0 [(0, .ref 0), (1, .int x0), (2, .int x1), (3, .int x2)] [] H (some (.int r)) (fun H1 => xS h b T a' H1) := by
  unfold f119_look at e
  refine ex_s (am_nb (m := 2) (pc1 := 2) (ls1 := [(0, .ref 0), (1, .int x0), (2, .int x1), (3, .int x2)]) (st1 := [.int x0, .ref 0]) (H1 := H) (k1 := 0) (n1 := 0) (by with_unfolding_all rfl)) ?_
  obtain ⟨r4, a5, e3, e⟩ := xb2_some e
  refine ex_cv1 (as := [.int x0]) (rest := []) rfl rfl rfl rfl (hS.obj rfl (by decide)) rfl (by with_unfolding_all rfl) (by with_unfolding_all rfl) (tf98_openWindow hS e3) (fun H1 s2 => ?_)
  refine ex_s (am_nb (m := 2) (pc1 := 9) (ls1 := [(4, xN r4), (0, .ref 0), (1, .int x0), (2, .int x1), (3, .int x2)]) (st1 := [xN r4]) (H1 := H1) (k1 := 0) (n1 := 0) (by first | with_unfolding_all rfl | (unfold xN; (repeat' split) <;> with_unfolding_all rfl))) ?_
  by_cases c6 : r4 = -1
  · have e := (if_pos c6).symm.trans e
    rw [show xN r4 = .null from if_pos c6]
    refine ex_s (am_nb (m := 1) (pc1 := 12) (ls1 := [(4, .null), (0, .ref 0), (1, .int x0), (2, .int x1), (3, .int x2)]) (st1 := []) (H1 := H1) (k1 := 0) (n1 := 0) (by with_unfolding_all rfl)) ?_
    refine ex_s (am_nb (m := 2) (pc1 := 23) (ls1 := [(4, .null), (0, .ref 0), (1, .int x0), (2, .int x1), (3, .int x2)]) (st1 := [.int (-1)]) (H1 := H1) (k1 := 0) (n1 := 0) (by with_unfolding_all rfl)) ?_
    cases e
    exact ex_r (st_iret rfl rfl rfl) s2
  · have e := (if_neg c6).symm.trans e
    rw [show xN r4 = .ref r4.toNatClampNeg from if_neg c6]
    refine ex_s (am_nb (m := 1) (pc1 := 16) (ls1 := [(4, .ref r4.toNatClampNeg), (0, .ref 0), (1, .int x0), (2, .int x1), (3, .int x2)]) (st1 := []) (H1 := H1) (k1 := 0) (n1 := 0) (by with_unfolding_all rfl)) ?_
    refine ex_s (am_nb (m := 3) (pc1 := 20) (ls1 := [(4, .ref r4.toNatClampNeg), (0, .ref 0), (1, .int x0), (2, .int x1), (3, .int x2)]) (st1 := [.int x2, .int x1, .ref r4.toNatClampNeg]) (H1 := H1) (k1 := 0) (n1 := 0) (by with_unfolding_all rfl)) ?_
    obtain ⟨g7, e⟩ := xg_some e
    obtain ⟨r11, a12, e10, e⟩ := xb2_some e
    refine ex_cv1 (as := [.int x1, .int x2]) (rest := []) rfl rfl rfl rfl (s2.obj g7 (by decide)) rfl (by with_unfolding_all rfl) (by with_unfolding_all rfl) (tf120_cell s2 e10) (fun H8 s9 => ?_)
    cases e
    exact ex_r (st_iret rfl rfl rfl) s9

set_option maxRecDepth 100000 in
theorem tf122_tell {sL : Nat} {sx : Nat → Int32} {h b N : Nat} {T : List am_C} {r : Int32} {a' : xA} {o : Nat} {x0 : Int32} {a : xA} {H : am_H} (hS : xS h b T a H) (e : f122_tell N h b o x0 a = some (r, a')) : am_E sL sx am_cs 122 0 [(0, .ref o), (1, .int x0)] [] H (some (.int r)) (fun H1 => xS h b T a' H1) := by
  unfold f122_tell at e
  obtain ⟨g1, e⟩ := xg_some e
  refine ex_s (am_nb (m := 1) (pc1 := 1) (ls1 := [(0, .ref o), (1, .int x0)]) (st1 := [.int x0]) (H1 := H) (k1 := 0) (n1 := 0) (by with_unfolding_all rfl)) ?_
  refine ex_s (st_tsw rfl) ?_
  by_cases c2 : x0 = 0
  · have e := (if_pos c2).symm.trans e
    refine ex_pc (pc1 := 48) (by rw [c2]; with_unfolding_all rfl) ?_
    refine ex_s (am_nb (m := 1) (pc1 := 49) (ls1 := [(0, .ref o), (1, .int x0)]) (st1 := [.ref o]) (H1 := H) (k1 := 0) (n1 := 0) (by with_unfolding_all rfl)) ?_
    refine xe_get (v := .int (a o 2)) hS rfl g1 (by decide) rfl ?_
    cases e
    exact ex_r (st_iret rfl rfl rfl) hS
  · have e := (if_neg c2).symm.trans e
    by_cases c3 : x0 = 1
    · have e := (if_pos c3).symm.trans e
      refine ex_pc (pc1 := 53) (by rw [c3]; with_unfolding_all rfl) ?_
      refine ex_s (am_nb (m := 1) (pc1 := 54) (ls1 := [(0, .ref o), (1, .int x0)]) (st1 := [.ref o]) (H1 := H) (k1 := 0) (n1 := 0) (by with_unfolding_all rfl)) ?_
      refine xe_get (v := .int (a o 3)) hS rfl g1 (by decide) rfl ?_
      cases e
      exact ex_r (st_iret rfl rfl rfl) hS
    · have e := (if_neg c3).symm.trans e
      by_cases c4 : x0 = 2
      · have e := (if_pos c4).symm.trans e
        refine ex_pc (pc1 := 58) (by rw [c4]; with_unfolding_all rfl) ?_
        refine ex_s (am_nb (m := 1) (pc1 := 59) (ls1 := [(0, .ref o), (1, .int x0)]) (st1 := [.ref o]) (H1 := H) (k1 := 0) (n1 := 0) (by with_unfolding_all rfl)) ?_
        refine xe_get (v := .int (a o 4)) hS rfl g1 (by decide) rfl ?_
        cases e
        exact ex_r (st_iret rfl rfl rfl) hS
      · have e := (if_neg c4).symm.trans e
        by_cases c5 : x0 = 3
        · have e := (if_pos c5).symm.trans e
          refine ex_pc (pc1 := 63) (by rw [c5]; with_unfolding_all rfl) ?_
          refine ex_s (am_nb (m := 1) (pc1 := 64) (ls1 := [(0, .ref o), (1, .int x0)]) (st1 := [.ref o]) (H1 := H) (k1 := 0) (n1 := 0) (by with_unfolding_all rfl)) ?_
          refine xe_get (v := .int (a o 5)) hS rfl g1 (by decide) rfl ?_
          cases e
          exact ex_r (st_iret rfl rfl rfl) hS
        · have e := (if_neg c5).symm.trans e
          by_cases c6 : x0 = 4
          · have e := (if_pos c6).symm.trans e
            refine ex_pc (pc1 := 68) (by rw [c6]; with_unfolding_all rfl) ?_
            refine ex_s (am_nb (m := 1) (pc1 := 69) (ls1 := [(0, .ref o), (1, .int x0)]) (st1 := [.ref o]) (H1 := H) (k1 := 0) (n1 := 0) (by with_unfolding_all rfl)) ?_
            refine xe_get (v := .int (a o 6)) hS rfl g1 (by decide) rfl ?_
            cases e
            exact ex_r (st_iret rfl rfl rfl) hS
          · have e := (if_neg c6).symm.trans e
            by_cases c7 : x0 = 5
            · have e := (if_pos c7).symm.trans e
              refine ex_pc (pc1 := 73) (by rw [c7]; with_unfolding_all rfl) ?_
              refine ex_s (am_nb (m := 1) (pc1 := 74) (ls1 := [(0, .ref o), (1, .int x0)]) (st1 := [.ref o]) (H1 := H) (k1 := 0) (n1 := 0) (by with_unfolding_all rfl)) ?_
              refine xe_get (v := .int (a o 7)) hS rfl g1 (by decide) rfl ?_
              cases e
              exact ex_r (st_iret rfl rfl rfl) hS
            · have e := (if_neg c7).symm.trans e
              by_cases c8 : x0 = 6
              · have e := (if_pos c8).symm.trans e
                refine ex_pc (pc1 := 78) (by rw [c8]; with_unfolding_all rfl) ?_
                refine ex_s (am_nb (m := 1) (pc1 := 79) (ls1 := [(0, .ref o), (1, .int x0)]) (st1 := [.ref o]) (H1 := H) (k1 := 0) (n1 := 0) (by with_unfolding_all rfl)) ?_
                refine xe_get (v := .int (a o 8)) hS rfl g1 (by decide) rfl ?_
                cases e
                exact ex_r (st_iret rfl rfl rfl) hS
              · have e := (if_neg c8).symm.trans e
                by_cases c9 : x0 = 7
                · have e := (if_pos c9).symm.trans e
                  refine ex_pc (pc1 := 83) (by rw [c9]; with_unfolding_all rfl) ?_
                  refine ex_s (am_nb (m := 1) (pc1 := 84) (ls1 := [(0, .ref o), (1, .int x0)]) (st1 := [.ref o]) (H1 := H) (k1 := 0) (n1 := 0) (by with_unfolding_all rfl)) ?_
                  refine xe_get (v := .int (a o 9)) hS rfl g1 (by decide) rfl ?_
                  have kk : am_E sL sx am_cs 122 95 [(0, .ref o), (1, .int x0)] [.int (if (a o 9) = 0 then (0 : Int32) else (1 : Int32))] H (some (.int r)) (fun H1 => xS h b T a' H1) := by
                    cases e
                    exact ex_r (st_iret rfl rfl rfl) hS
                  refine ex_s (st_if rfl) ?_
                  by_cases c10 : (a o 9) = 0
                  · refine ex_pc (if_pos c10) ?_
                    refine ex_s (am_nb (m := 1) (pc1 := 95) (ls1 := [(0, .ref o), (1, .int x0)]) (st1 := [.int 0]) (H1 := H) (k1 := 0) (n1 := 0) (by with_unfolding_all rfl)) ?_
                    rw [if_pos c10] at kk
                    exact kk
                  · refine ex_pc (if_neg c10) ?_
                    refine ex_s (am_nb (m := 2) (pc1 := 95) (ls1 := [(0, .ref o), (1, .int x0)]) (st1 := [.int 1]) (H1 := H) (k1 := 0) (n1 := 0) (by with_unfolding_all rfl)) ?_
                    rw [if_neg c10] at kk
                    exact kk
                · have e := (if_neg c9).symm.trans e
                  refine ex_pc (pc1 := 96) (am_sw_n (sw_c (Or.inl c2) (sw_c (Or.inl c3) (sw_c (Or.inl c4) (sw_c (Or.inl c5) (sw_c (Or.inl c6) (sw_c (Or.inl c7) (sw_c (Or.inl c8) (sw_c (Or.inl c9) sw_o))))))))) ?_
                  refine ex_s (am_nb (m := 1) (pc1 := 97) (ls1 := [(0, .ref o), (1, .int x0)]) (st1 := [.int (-1)]) (H1 := H) (k1 := 0) (n1 := 0) (by with_unfolding_all rfl)) ?_
                  cases e
                  exact ex_r (st_iret rfl rfl rfl) hS

set_option maxRecDepth 100000 in
theorem tf121_where {sL : Nat} {sx : Nat → Int32} {h b N : Nat} {T : List am_C} {r : Int32} {a' : xA} {x0 : Int32} {x1 : Int32} {a : xA} {H : am_H} (hS : xS h b T a H) (e : f121_where N h b x0 x1 a = some (r, a')) : am_E sL sx am_cs 121 0 [(0, .ref 0), (1, .int x0), (2, .int x1)] [] H (some (.int r)) (fun H1 => xS h b T a' H1) := by
  unfold f121_where at e
  refine ex_s (am_nb (m := 2) (pc1 := 2) (ls1 := [(0, .ref 0), (1, .int x0), (2, .int x1)]) (st1 := [.int x0, .ref 0]) (H1 := H) (k1 := 0) (n1 := 0) (by with_unfolding_all rfl)) ?_
  obtain ⟨r4, a5, e3, e⟩ := xb2_some e
  refine ex_cv1 (as := [.int x0]) (rest := []) rfl rfl rfl rfl (hS.obj rfl (by decide)) rfl (by with_unfolding_all rfl) (by with_unfolding_all rfl) (tf98_openWindow hS e3) (fun H1 s2 => ?_)
  refine ex_s (am_nb (m := 2) (pc1 := 7) (ls1 := [(3, xN r4), (0, .ref 0), (1, .int x0), (2, .int x1)]) (st1 := [xN r4]) (H1 := H1) (k1 := 0) (n1 := 0) (by first | with_unfolding_all rfl | (unfold xN; (repeat' split) <;> with_unfolding_all rfl))) ?_
  by_cases c6 : r4 = -1
  · have e := (if_pos c6).symm.trans e
    rw [show xN r4 = .null from if_pos c6]
    refine ex_s (am_nb (m := 1) (pc1 := 10) (ls1 := [(3, .null), (0, .ref 0), (1, .int x0), (2, .int x1)]) (st1 := []) (H1 := H1) (k1 := 0) (n1 := 0) (by with_unfolding_all rfl)) ?_
    refine ex_s (am_nb (m := 2) (pc1 := 19) (ls1 := [(3, .null), (0, .ref 0), (1, .int x0), (2, .int x1)]) (st1 := [.int (-1)]) (H1 := H1) (k1 := 0) (n1 := 0) (by with_unfolding_all rfl)) ?_
    cases e
    exact ex_r (st_iret rfl rfl rfl) s2
  · have e := (if_neg c6).symm.trans e
    rw [show xN r4 = .ref r4.toNatClampNeg from if_neg c6]
    refine ex_s (am_nb (m := 1) (pc1 := 14) (ls1 := [(3, .ref r4.toNatClampNeg), (0, .ref 0), (1, .int x0), (2, .int x1)]) (st1 := []) (H1 := H1) (k1 := 0) (n1 := 0) (by with_unfolding_all rfl)) ?_
    refine ex_s (am_nb (m := 2) (pc1 := 16) (ls1 := [(3, .ref r4.toNatClampNeg), (0, .ref 0), (1, .int x0), (2, .int x1)]) (st1 := [.int x1, .ref r4.toNatClampNeg]) (H1 := H1) (k1 := 0) (n1 := 0) (by with_unfolding_all rfl)) ?_
    obtain ⟨g7, e⟩ := xg_some e
    obtain ⟨r11, a12, e10, e⟩ := xb2_some e
    refine ex_cv1 (as := [.int x1]) (rest := []) rfl rfl rfl rfl (s2.obj g7 (by decide)) rfl (by with_unfolding_all rfl) (by with_unfolding_all rfl) (tf122_tell s2 e10) (fun H8 s9 => ?_)
    cases e
    exact ex_r (st_iret rfl rfl rfl) s9

set_option maxRecDepth 100000 in
theorem tj124_85 {sL : Nat} {sx : Nat → Int32} {h b N : Nat} {T : List am_C} {R : Option Value} {F : am_H → Prop} {w0 : Nat} {w1 : Nat} {w3 : Int32} {z : Nat × Int32 × xA} {rc : Int32 → Int32 → xA → Option (Nat × Int32 × xA)} (k0 : z.1 = 0 → ∀ H2 : am_H, xS h b T z.2.2 H2 → am_E sL sx am_cs 124 91 [(0, .ref w0), (1, .ref w1), (2, .int z.2.1), (3, .int w3)] [] H2 R F) (ih : ∀ (v2 : Int32) (v4 : Int32) (a : xA) (H : am_H), xS h b T a H → rc v2 v4 a = some z → am_E sL sx am_cs 124 15 [(0, .ref w0), (1, .ref w1), (2, .int v2), (3, .int w3), (4, .int v4)] [] H R F) {q2 : Int32} {q4 : Int32} {a : xA} {H : am_H} (kw0 : xk w0 = 10) (kw1 : xk w1 = 10) (hS : xS h b T a H) (e : j124_85 N h b rc w0 w1 w3 q2 q4 a = some z) : am_E sL sx am_cs 124 85 [(0, .ref w0), (1, .ref w1), (2, .int q2), (3, .int w3), (4, .int q4)] [] H R F := by
  unfold j124_85 at e
  refine ex_s (am_nb (m := 2) (pc1 := 15) (ls1 := [(4, .int (q4 + 1)), (0, .ref w0), (1, .ref w1), (2, .int q2), (3, .int w3)]) (st1 := []) (H1 := H) (k1 := 0) (n1 := 0) (by with_unfolding_all rfl)) ?_
  exact le_E (l1 := [(0, .ref w0), (1, .ref w1), (2, .int q2), (3, .int w3), (4, .int (q4 + 1))]) ⟨rfl, rfl, rfl, rfl, rfl, trivial⟩ rfl (ih q2 (q4 + 1) a H hS e)

set_option maxRecDepth 100000 in
theorem tl124_15 {sL : Nat} {sx : Nat → Int32} {h b N : Nat} {T : List am_C} {R : Option Value} {F : am_H → Prop} {w0 : Nat} {w1 : Nat} {w3 : Int32} {z : Nat × Int32 × xA} (kw0 : xk w0 = 10) (kw1 : xk w1 = 10) (k0 : z.1 = 0 → ∀ H2 : am_H, xS h b T z.2.2 H2 → am_E sL sx am_cs 124 91 [(0, .ref w0), (1, .ref w1), (2, .int z.2.1), (3, .int w3)] [] H2 R F) : ∀ (n : Nat) (v2 : Int32) (v4 : Int32) (a : xA) (H : am_H), xS h b T a H → l124_15 N h b w0 w1 w3 n v2 v4 a = some z → am_E sL sx am_cs 124 15 [(0, .ref w0), (1, .ref w1), (2, .int v2), (3, .int w3), (4, .int v4)] [] H R F := by
  intro n
  induction n with
  | zero =>
    intro v2 v4 a H hS e
    cases e
  | succ n ih =>
    intro v2 v4 a H hS e
    unfold l124_15 at e
    refine ex_s (am_nb (m := 2) (pc1 := 18) (ls1 := [(0, .ref w0), (1, .ref w1), (2, .int v2), (3, .int w3), (4, .int v4)]) (st1 := [.ref w0, .int v4]) (H1 := H) (k1 := 0) (n1 := 0) (by with_unfolding_all rfl)) ?_
    refine xe_get (v := .int (a w0 5)) hS rfl kw0 (by decide) rfl ?_
    refine ex_s (st_icmp rfl) ?_
    by_cases c4 : (a w0 5) ≤ v4
    · have e := (if_pos c4).symm.trans e
      refine ex_pc (if_pos c4) ?_
      cases e
      exact le_E (l1 := [(0, .ref w0), (1, .ref w1), (2, .int v2), (3, .int w3)]) ⟨rfl, rfl, rfl, rfl, trivial⟩ rfl (k0 rfl H hS)
    · have e := (if_neg c4).symm.trans e
      refine ex_pc (if_neg c4) ?_
      refine ex_s (am_nb (m := 1) (pc1 := 25) (ls1 := [(0, .ref w0), (1, .ref w1), (2, .int v2), (3, .int w3), (4, .int v4)]) (st1 := [.ref w0]) (H1 := H) (k1 := 0) (n1 := 0) (by with_unfolding_all rfl)) ?_
      refine xe_get (v := .int (a w0 2)) hS rfl kw0 (by decide) rfl ?_
      refine ex_s (am_nb (m := 3) (pc1 := 31) (ls1 := [(0, .ref w0), (1, .ref w1), (2, .int v2), (3, .int w3), (4, .int v4)]) (st1 := [.ref w1, .int ((a w0 2) + w3)]) (H1 := H) (k1 := 0) (n1 := 0) (by with_unfolding_all rfl)) ?_
      refine xe_get (v := .int (a w1 5)) hS rfl kw1 (by decide) rfl ?_
      refine ex_s (am_nb (m := 2) (pc1 := 36) (ls1 := [(0, .ref w0), (1, .ref w1), (2, .int v2), (3, .int w3), (4, .int v4)]) (st1 := [.ref w0, .int (((a w0 2) + w3) * (a w1 5))]) (H1 := H) (k1 := 0) (n1 := 0) (by with_unfolding_all rfl)) ?_
      refine xe_get (v := .int (a w0 3)) hS rfl kw0 (by decide) rfl ?_
      refine ex_s (am_nb (m := 5) (pc1 := 46) (ls1 := [(5, .int (((((a w0 2) + w3) * (a w1 5)) + (a w0 3)) + v4)), (0, .ref w0), (1, .ref w1), (2, .int v2), (3, .int w3), (4, .int v4)]) (st1 := [.ref w0]) (H1 := H) (k1 := 0) (n1 := 0) (by with_unfolding_all rfl)) ?_
      refine xe_get (v := .ref (w0 + 1)) hS rfl kw0 (by decide) rfl ?_
      refine ex_s (am_nb (m := 2) (pc1 := 51) (ls1 := [(5, .int (((((a w0 2) + w3) * (a w1 5)) + (a w0 3)) + v4)), (0, .ref w0), (1, .ref w1), (2, .int v2), (3, .int w3), (4, .int v4)]) (st1 := [.ref w0, .int w3, .ref (w0 + 1)]) (H1 := H) (k1 := 0) (n1 := 0) (by with_unfolding_all rfl)) ?_
      refine xe_get (v := .int (a w0 5)) hS rfl kw0 (by decide) rfl ?_
      refine ex_s (am_nb (m := 3) (pc1 := 58) (ls1 := [(5, .int (((((a w0 2) + w3) * (a w1 5)) + (a w0 3)) + v4)), (0, .ref w0), (1, .ref w1), (2, .int v2), (3, .int w3), (4, .int v4)]) (st1 := [.int ((w3 * (a w0 5)) + v4), .ref (w0 + 1)]) (H1 := H) (k1 := 0) (n1 := 0) (by with_unfolding_all rfl)) ?_
      obtain ⟨g5, e⟩ := xg_some e
      refine xe_iald hS rfl (xd_9_1 kw0) g5 ?_
      refine ex_s (am_nb (m := 2) (pc1 := 62) (ls1 := [(6, .int (a (w0 + 1) (((w3 * (a w0 5)) + v4).toNatClampNeg))), (5, .int (((((a w0 2) + w3) * (a w1 5)) + (a w0 3)) + v4)), (0, .ref w0), (1, .ref w1), (2, .int v2), (3, .int w3), (4, .int v4)]) (st1 := [.ref w1]) (H1 := H) (k1 := 0) (n1 := 0) (by with_unfolding_all rfl)) ?_
      refine xe_get (v := .ref (w1 + 1)) hS rfl kw1 (by decide) rfl ?_
      refine ex_s (am_nb (m := 1) (pc1 := 67) (ls1 := [(6, .int (a (w0 + 1) (((w3 * (a w0 5)) + v4).toNatClampNeg))), (5, .int (((((a w0 2) + w3) * (a w1 5)) + (a w0 3)) + v4)), (0, .ref w0), (1, .ref w1), (2, .int v2), (3, .int w3), (4, .int v4)]) (st1 := [.int (((((a w0 2) + w3) * (a w1 5)) + (a w0 3)) + v4), .ref (w1 + 1)]) (H1 := H) (k1 := 0) (n1 := 0) (by with_unfolding_all rfl)) ?_
      obtain ⟨g6, e⟩ := xg_some e
      refine xe_iald hS rfl (xd_9_1 kw1) g6 ?_
      refine ex_s (am_nb (m := 1) (pc1 := 70) (ls1 := [(6, .int (a (w0 + 1) (((w3 * (a w0 5)) + v4).toNatClampNeg))), (5, .int (((((a w0 2) + w3) * (a w1 5)) + (a w0 3)) + v4)), (0, .ref w0), (1, .ref w1), (2, .int v2), (3, .int w3), (4, .int v4)]) (st1 := [.int (a (w0 + 1) (((w3 * (a w0 5)) + v4).toNatClampNeg)), .int (a (w1 + 1) ((((((a w0 2) + w3) * (a w1 5)) + (a w0 3)) + v4).toNatClampNeg))]) (H1 := H) (k1 := 0) (n1 := 0) (by with_unfolding_all rfl)) ?_
      refine ex_s (st_icmp rfl) ?_
      by_cases c8 : (a (w1 + 1) ((((((a w0 2) + w3) * (a w1 5)) + (a w0 3)) + v4).toNatClampNeg)) = (a (w0 + 1) (((w3 * (a w0 5)) + v4).toNatClampNeg))
      · have e := (if_pos c8).symm.trans e
        refine ex_pc (if_pos c8) ?_
        exact le_E (l1 := [(0, .ref w0), (1, .ref w1), (2, .int v2), (3, .int w3), (4, .int v4)]) ⟨rfl, rfl, rfl, rfl, rfl, trivial⟩ rfl (tj124_85 k0 ih kw0 kw1 hS e)
      · have e := (if_neg c8).symm.trans e
        refine ex_pc (if_neg c8) ?_
        refine ex_s (am_nb (m := 1) (pc1 := 74) (ls1 := [(6, .int (a (w0 + 1) (((w3 * (a w0 5)) + v4).toNatClampNeg))), (5, .int (((((a w0 2) + w3) * (a w1 5)) + (a w0 3)) + v4)), (0, .ref w0), (1, .ref w1), (2, .int v2), (3, .int w3), (4, .int v4)]) (st1 := [.ref w1]) (H1 := H) (k1 := 0) (n1 := 0) (by with_unfolding_all rfl)) ?_
        refine xe_get (v := .ref (w1 + 1)) hS rfl kw1 (by decide) rfl ?_
        refine ex_s (am_nb (m := 2) (pc1 := 81) (ls1 := [(6, .int (a (w0 + 1) (((w3 * (a w0 5)) + v4).toNatClampNeg))), (5, .int (((((a w0 2) + w3) * (a w1 5)) + (a w0 3)) + v4)), (0, .ref w0), (1, .ref w1), (2, .int v2), (3, .int w3), (4, .int v4)]) (st1 := [.int (a (w0 + 1) (((w3 * (a w0 5)) + v4).toNatClampNeg)), .int (((((a w0 2) + w3) * (a w1 5)) + (a w0 3)) + v4), .ref (w1 + 1)]) (H1 := H) (k1 := 0) (n1 := 0) (by with_unfolding_all rfl)) ?_
        obtain ⟨a9, ha9, e⟩ := xw_some e
        refine xe_iast hS rfl (xd_9_1 kw1) g6 (fun H10 s11 => ?_)
        have s11 : xS h b T a9 H10 := by rw [ha9]; exact s11
        refine ex_s (am_nb (m := 1) (pc1 := 85) (ls1 := [(2, .int (v2 + 1)), (6, .int (a (w0 + 1) (((w3 * (a w0 5)) + v4).toNatClampNeg))), (5, .int (((((a w0 2) + w3) * (a w1 5)) + (a w0 3)) + v4)), (0, .ref w0), (1, .ref w1), (3, .int w3), (4, .int v4)]) (st1 := []) (H1 := H10) (k1 := 0) (n1 := 0) (by with_unfolding_all rfl)) ?_
        exact le_E (l1 := [(0, .ref w0), (1, .ref w1), (2, .int (v2 + 1)), (3, .int w3), (4, .int v4)]) ⟨rfl, rfl, rfl, rfl, rfl, trivial⟩ rfl (tj124_85 k0 ih kw0 kw1 s11 e)

set_option maxRecDepth 100000 in
theorem tl124_4 {sL : Nat} {sx : Nat → Int32} {h b N : Nat} {T : List am_C} {R : Option Value} {F : am_H → Prop} {w0 : Nat} {w1 : Nat} {z : Nat × Int32 × xA} (kw0 : xk w0 = 10) (kw1 : xk w1 = 10) (k0 : z.1 = 0 → ∀ H2 : am_H, xS h b T z.2.2 H2 → am_E sL sx am_cs 124 97 [(0, .ref w0), (1, .ref w1), (2, .int z.2.1)] [] H2 R F) : ∀ (n : Nat) (v2 : Int32) (v3 : Int32) (a : xA) (H : am_H), xS h b T a H → l124_4 N h b w0 w1 n v2 v3 a = some z → am_E sL sx am_cs 124 4 [(0, .ref w0), (1, .ref w1), (2, .int v2), (3, .int v3)] [] H R F := by
  intro n
  induction n with
  | zero =>
    intro v2 v3 a H hS e
    cases e
  | succ n ih =>
    intro v2 v3 a H hS e
    unfold l124_4 at e
    refine ex_s (am_nb (m := 2) (pc1 := 6) (ls1 := [(0, .ref w0), (1, .ref w1), (2, .int v2), (3, .int v3)]) (st1 := [.ref w0, .int v3]) (H1 := H) (k1 := 0) (n1 := 0) (by with_unfolding_all rfl)) ?_
    refine xe_get (v := .int (a w0 4)) hS rfl kw0 (by decide) rfl ?_
    refine ex_s (st_icmp rfl) ?_
    by_cases c3 : (a w0 4) ≤ v3
    · have e := (if_pos c3).symm.trans e
      refine ex_pc (if_pos c3) ?_
      cases e
      exact le_E (l1 := [(0, .ref w0), (1, .ref w1), (2, .int v2)]) ⟨rfl, rfl, rfl, trivial⟩ rfl (k0 rfl H hS)
    · have e := (if_neg c3).symm.trans e
      refine ex_pc (if_neg c3) ?_
      refine ex_s (am_nb (m := 2) (pc1 := 15) (ls1 := [(4, .int 0), (0, .ref w0), (1, .ref w1), (2, .int v2), (3, .int v3)]) (st1 := []) (H1 := H) (k1 := 0) (n1 := 0) (by with_unfolding_all rfl)) ?_
      obtain ⟨z12, e13, e⟩ := Option.bind_eq_some_iff.mp e
      refine le_E (l1 := [(0, .ref w0), (1, .ref w1), (2, .int v2), (3, .int v3), (4, .int 0)]) ⟨rfl, rfl, rfl, rfl, rfl, trivial⟩ rfl (tl124_15 (z := z12) kw0 kw1 (fun uz12_0 Hz120 sz120 => ?_) N v2 0 a H hS e13)
      refine ex_s (am_nb (m := 2) (pc1 := 4) (ls1 := [(3, .int (v3 + 1)), (0, .ref w0), (1, .ref w1), (2, .int z12.2.1)]) (st1 := []) (H1 := Hz120) (k1 := 0) (n1 := 0) (by with_unfolding_all rfl)) ?_
      exact le_E (l1 := [(0, .ref w0), (1, .ref w1), (2, .int z12.2.1), (3, .int (v3 + 1))]) ⟨rfl, rfl, rfl, rfl, trivial⟩ rfl (ih z12.2.1 (v3 + 1) z12.2.2 Hz120 sz120 e)

set_option maxRecDepth 100000 in
theorem tf124_copyTo {sL : Nat} {sx : Nat → Int32} {h b N : Nat} {T : List am_C} {r : Int32} {a' : xA} {o : Nat} {x0 : Nat} {a : xA} {H : am_H} (hS : xS h b T a H) (e : f124_copyTo N h b o x0 a = some (r, a')) : am_E sL sx am_cs 124 0 [(0, .ref o), (1, .ref x0)] [] H (some (.int r)) (fun H1 => xS h b T a' H1) := by
  unfold f124_copyTo at e
  obtain ⟨g1, e⟩ := xg_some e
  obtain ⟨g2, e⟩ := xg_some e
  refine ex_s (am_nb (m := 4) (pc1 := 4) (ls1 := [(3, .int 0), (2, .int 0), (0, .ref o), (1, .ref x0)]) (st1 := []) (H1 := H) (k1 := 0) (n1 := 0) (by with_unfolding_all rfl)) ?_
  obtain ⟨z14, e15, e⟩ := Option.bind_eq_some_iff.mp e
  refine le_E (l1 := [(0, .ref o), (1, .ref x0), (2, .int 0), (3, .int 0)]) ⟨rfl, rfl, rfl, rfl, trivial⟩ rfl (tl124_4 (z := z14) g1 g2 (fun uz14_0 Hz140 sz140 => ?_) N 0 0 a H hS e15)
  refine ex_s (am_nb (m := 2) (pc1 := 99) (ls1 := [(0, .ref o), (1, .ref x0), (2, .int z14.2.1)]) (st1 := [.ref o, .ref x0]) (H1 := Hz140) (k1 := 0) (n1 := 0) (by with_unfolding_all rfl)) ?_
  refine xe_get (v := .int (z14.2.2 o 2)) sz140 rfl g1 (by decide) rfl ?_
  refine ex_s (am_nb (m := 1) (pc1 := 103) (ls1 := [(0, .ref o), (1, .ref x0), (2, .int z14.2.1)]) (st1 := [.ref o, .int (z14.2.2 o 2), .ref x0]) (H1 := Hz140) (k1 := 0) (n1 := 0) (by with_unfolding_all rfl)) ?_
  refine xe_get (v := .int (z14.2.2 o 6)) sz140 rfl g1 (by decide) rfl ?_
  refine ex_s (am_nb (m := 1) (pc1 := 107) (ls1 := [(0, .ref o), (1, .ref x0), (2, .int z14.2.1)]) (st1 := [.int ((z14.2.2 o 2) + (z14.2.2 o 6)), .ref x0]) (H1 := Hz140) (k1 := 0) (n1 := 0) (by with_unfolding_all rfl)) ?_
  obtain ⟨a16, ha16, e⟩ := xw_some e
  refine xe_put (w := ((z14.2.2 o 2) + (z14.2.2 o 6))) sz140 rfl g2 (by decide) rfl rfl rfl rfl (fun H17 s18 => ?_)
  have s18 : xS h b T a16 H17 := by rw [ha16]; exact s18
  refine ex_s (am_nb (m := 2) (pc1 := 112) (ls1 := [(0, .ref o), (1, .ref x0), (2, .int z14.2.1)]) (st1 := [.ref o, .ref x0]) (H1 := H17) (k1 := 0) (n1 := 0) (by with_unfolding_all rfl)) ?_
  refine xe_get (v := .int (a16 o 3)) s18 rfl g1 (by decide) rfl ?_
  refine ex_s (am_nb (m := 1) (pc1 := 116) (ls1 := [(0, .ref o), (1, .ref x0), (2, .int z14.2.1)]) (st1 := [.ref o, .int (a16 o 3), .ref x0]) (H1 := H17) (k1 := 0) (n1 := 0) (by with_unfolding_all rfl)) ?_
  refine xe_get (v := .int (a16 o 7)) s18 rfl g1 (by decide) rfl ?_
  refine ex_s (am_nb (m := 1) (pc1 := 120) (ls1 := [(0, .ref o), (1, .ref x0), (2, .int z14.2.1)]) (st1 := [.int ((a16 o 3) + (a16 o 7)), .ref x0]) (H1 := H17) (k1 := 0) (n1 := 0) (by with_unfolding_all rfl)) ?_
  obtain ⟨a19, ha19, e⟩ := xw_some e
  refine xe_put (w := ((a16 o 3) + (a16 o 7))) s18 rfl g2 (by decide) rfl rfl rfl rfl (fun H20 s21 => ?_)
  have s21 : xS h b T a19 H20 := by rw [ha19]; exact s21
  refine ex_s (am_nb (m := 1) (pc1 := 124) (ls1 := [(0, .ref o), (1, .ref x0), (2, .int z14.2.1)]) (st1 := [.int z14.2.1]) (H1 := H20) (k1 := 0) (n1 := 0) (by with_unfolding_all rfl)) ?_
  cases e
  exact ex_r (st_iret rfl rfl rfl) s21

set_option maxRecDepth 100000 in
theorem tf123_show {sL : Nat} {sx : Nat → Int32} {h b N : Nat} {T : List am_C} {r : Int32} {a' : xA} {x0 : Int32} {a : xA} {H : am_H} (hS : xS h b T a H) (e : f123_show N h b x0 a = some (r, a')) : am_E sL sx am_cs 123 0 [(0, .ref 0), (1, .int x0)] [] H (some (.int r)) (fun H1 => xS h b T a' H1) := by
  unfold f123_show at e
  refine ex_s (am_nb (m := 2) (pc1 := 2) (ls1 := [(0, .ref 0), (1, .int x0)]) (st1 := [.int x0, .ref 0]) (H1 := H) (k1 := 0) (n1 := 0) (by with_unfolding_all rfl)) ?_
  obtain ⟨r4, a5, e3, e⟩ := xb2_some e
  refine ex_cv1 (as := [.int x0]) (rest := []) rfl rfl rfl rfl (hS.obj rfl (by decide)) rfl (by with_unfolding_all rfl) (by with_unfolding_all rfl) (tf98_openWindow hS e3) (fun H1 s2 => ?_)
  refine ex_s (am_nb (m := 2) (pc1 := 7) (ls1 := [(2, xN r4), (0, .ref 0), (1, .int x0)]) (st1 := [xN r4]) (H1 := H1) (k1 := 0) (n1 := 0) (by first | with_unfolding_all rfl | (unfold xN; (repeat' split) <;> with_unfolding_all rfl))) ?_
  by_cases c6 : r4 = -1
  · have e := (if_pos c6).symm.trans e
    rw [show xN r4 = .null from if_pos c6]
    refine ex_s (am_nb (m := 1) (pc1 := 10) (ls1 := [(2, .null), (0, .ref 0), (1, .int x0)]) (st1 := []) (H1 := H1) (k1 := 0) (n1 := 0) (by with_unfolding_all rfl)) ?_
    refine ex_s (am_nb (m := 2) (pc1 := 25) (ls1 := [(2, .null), (0, .ref 0), (1, .int x0)]) (st1 := [.int (-1)]) (H1 := H1) (k1 := 0) (n1 := 0) (by with_unfolding_all rfl)) ?_
    cases e
    exact ex_r (st_iret rfl rfl rfl) s2
  · have e := (if_neg c6).symm.trans e
    rw [show xN r4 = .ref r4.toNatClampNeg from if_neg c6]
    refine ex_s (am_nb (m := 1) (pc1 := 14) (ls1 := [(2, .ref r4.toNatClampNeg), (0, .ref 0), (1, .int x0)]) (st1 := []) (H1 := H1) (k1 := 0) (n1 := 0) (by with_unfolding_all rfl)) ?_
    refine ex_s (am_nb (m := 2) (pc1 := 16) (ls1 := [(2, .ref r4.toNatClampNeg), (0, .ref 0), (1, .int x0)]) (st1 := [.ref 0, .ref r4.toNatClampNeg]) (H1 := H1) (k1 := 0) (n1 := 0) (by with_unfolding_all rfl)) ?_
    refine xe_get (v := .ref 97) s2 rfl rfl (by decide) rfl ?_
    refine xe_get (v := .ref 98) s2 rfl rfl (by decide) rfl ?_
    obtain ⟨g7, e⟩ := xg_some e
    obtain ⟨r11, a12, e10, e⟩ := xb2_some e
    refine ex_cv1 (as := [.ref 98]) (rest := []) rfl rfl rfl rfl (s2.obj g7 (by decide)) rfl (by with_unfolding_all rfl) (by with_unfolding_all rfl) (tf124_copyTo s2 e10) (fun H8 s9 => ?_)
    cases e
    exact ex_r (st_iret rfl rfl rfl) s9

set_option maxRecDepth 100000 in
theorem tf126_room {sL : Nat} {sx : Nat → Int32} {h b N : Nat} {T : List am_C} {r : Int32} {a' : xA} {o : Nat} {a : xA} {H : am_H} (hS : xS h b T a H) (e : f126_room N h b o a = some (r, a')) : am_E sL sx am_cs 126 0 [(0, .ref o)] [] H (some (.int r)) (fun H1 => xS h b T a' H1) := by
  unfold f126_room at e
  obtain ⟨g1, e⟩ := xg_some e
  refine ex_s (am_nb (m := 1) (pc1 := 1) (ls1 := [(0, .ref o)]) (st1 := [.ref o]) (H1 := H) (k1 := 0) (n1 := 0) (by with_unfolding_all rfl)) ?_
  refine xe_get (v := .ref (o + 1)) hS rfl g1 (by decide) rfl ?_
  refine xe_alenc (v := Int32.ofNat (xl h b (o + 1))) hS rfl (xd_0_1 g1) rfl ?_
  refine ex_s (am_nb (m := 1) (pc1 := 6) (ls1 := [(0, .ref o)]) (st1 := [.ref o, .int (Int32.ofNat (xl h b (o + 1)))]) (H1 := H) (k1 := 0) (n1 := 0) (by with_unfolding_all rfl)) ?_
  refine xe_get (v := .int (a o 2)) hS rfl g1 (by decide) rfl ?_
  refine ex_s (am_nb (m := 1) (pc1 := 10) (ls1 := [(0, .ref o)]) (st1 := [.int ((Int32.ofNat (xl h b (o + 1))) - (a o 2))]) (H1 := H) (k1 := 0) (n1 := 0) (by with_unfolding_all rfl)) ?_
  cases e
  exact ex_r (st_iret rfl rfl rfl) hS

set_option maxRecDepth 100000 in
theorem tf128_become {sL : Nat} {sx : Nat → Int32} {h b N : Nat} {T : List am_C} {a' : xA} {o : Nat} {x0 : Nat} {a : xA} {H : am_H} (hS : xS h b T a H) (e : f128_become N h b o x0 a = some a') : am_E sL sx am_cs 128 0 [(0, .ref o), (1, .ref x0)] [] H none (fun H1 => xS h b T a' H1) := by
  unfold f128_become at e
  obtain ⟨g1, e⟩ := xg_some e
  obtain ⟨g2, e⟩ := xg_some e
  refine ex_s (am_nb (m := 2) (pc1 := 2) (ls1 := [(0, .ref o), (1, .ref x0)]) (st1 := [.ref x0, .ref o]) (H1 := H) (k1 := 0) (n1 := 0) (by with_unfolding_all rfl)) ?_
  refine xe_get (v := .int (a x0 2)) hS rfl g2 (by decide) rfl ?_
  refine ex_s (am_nb (m := 1) (pc1 := 6) (ls1 := [(0, .ref o), (1, .ref x0)]) (st1 := [.ref x0, .int (a x0 2), .ref o]) (H1 := H) (k1 := 0) (n1 := 0) (by with_unfolding_all rfl)) ?_
  refine xe_get (v := .int (a x0 3)) hS rfl g2 (by decide) rfl ?_
  refine ex_s (am_nb (m := 1) (pc1 := 10) (ls1 := [(0, .ref o), (1, .ref x0)]) (st1 := [.ref x0, .int (a x0 3), .int (a x0 2), .ref o]) (H1 := H) (k1 := 0) (n1 := 0) (by with_unfolding_all rfl)) ?_
  refine xe_get (v := .int (a x0 4)) hS rfl g2 (by decide) rfl ?_
  refine ex_s (am_nb (m := 1) (pc1 := 14) (ls1 := [(0, .ref o), (1, .ref x0)]) (st1 := [.ref x0, .int (a x0 4), .int (a x0 3), .int (a x0 2), .ref o]) (H1 := H) (k1 := 0) (n1 := 0) (by with_unfolding_all rfl)) ?_
  refine xe_get (v := .int (a x0 5)) hS rfl g2 (by decide) rfl ?_
  obtain ⟨a6, e5, e⟩ := xb1_some e
  refine ex_cv0 (as := [.int (a x0 2), .int (a x0 3), .int (a x0 4), .int (a x0 5)]) (rest := []) rfl rfl rfl rfl (hS.obj g1 (by decide)) rfl (by with_unfolding_all rfl) (by with_unfolding_all rfl) (tf78_begin hS e5) (fun H3 s4 => ?_)
  refine ex_s (am_nb (m := 2) (pc1 := 22) (ls1 := [(0, .ref o), (1, .ref x0)]) (st1 := [.ref x0, .ref o]) (H1 := H3) (k1 := 0) (n1 := 0) (by with_unfolding_all rfl)) ?_
  refine xe_get (v := .int (a6 x0 6)) s4 rfl g2 (by decide) rfl ?_
  obtain ⟨a7, ha7, e⟩ := xw_some e
  refine xe_put (w := (a6 x0 6)) s4 rfl g1 (by decide) rfl rfl rfl rfl (fun H8 s9 => ?_)
  have s9 : xS h b T a7 H8 := by rw [ha7]; exact s9
  refine ex_s (am_nb (m := 2) (pc1 := 30) (ls1 := [(0, .ref o), (1, .ref x0)]) (st1 := [.ref x0, .ref o]) (H1 := H8) (k1 := 0) (n1 := 0) (by with_unfolding_all rfl)) ?_
  refine xe_get (v := .int (a7 x0 7)) s9 rfl g2 (by decide) rfl ?_
  obtain ⟨a10, ha10, e⟩ := xw_some e
  refine xe_put (w := (a7 x0 7)) s9 rfl g1 (by decide) rfl rfl rfl rfl (fun H11 s12 => ?_)
  have s12 : xS h b T a10 H11 := by rw [ha10]; exact s12
  refine ex_s (am_nb (m := 2) (pc1 := 38) (ls1 := [(0, .ref o), (1, .ref x0)]) (st1 := [.ref x0, .ref o]) (H1 := H11) (k1 := 0) (n1 := 0) (by with_unfolding_all rfl)) ?_
  refine xe_get (v := .int (a10 x0 8)) s12 rfl g2 (by decide) rfl ?_
  obtain ⟨a13, ha13, e⟩ := xw_some e
  refine xe_put (w := (a10 x0 8)) s12 rfl g1 (by decide) rfl rfl rfl rfl (fun H14 s15 => ?_)
  have s15 : xS h b T a13 H14 := by rw [ha13]; exact s15
  refine ex_s (am_nb (m := 1) (pc1 := 45) (ls1 := [(0, .ref o), (1, .ref x0)]) (st1 := [.ref x0]) (H1 := H14) (k1 := 0) (n1 := 0) (by with_unfolding_all rfl)) ?_
  refine xe_get (v := .ref (x0 + 1)) s15 rfl g2 (by decide) rfl ?_
  refine ex_s (am_nb (m := 2) (pc1 := 50) (ls1 := [(0, .ref o), (1, .ref x0)]) (st1 := [.ref o, .int 0, .ref (x0 + 1)]) (H1 := H14) (k1 := 0) (n1 := 0) (by with_unfolding_all rfl)) ?_
  refine xe_get (v := .ref (o + 1)) s15 rfl g1 (by decide) rfl ?_
  refine ex_s (am_nb (m := 2) (pc1 := 55) (ls1 := [(0, .ref o), (1, .ref x0)]) (st1 := [.ref o, .int 0, .ref (o + 1), .int 0, .ref (x0 + 1)]) (H1 := H14) (k1 := 0) (n1 := 0) (by with_unfolding_all rfl)) ?_
  refine xe_get (v := .int (a13 o 4)) s15 rfl g1 (by decide) rfl ?_
  refine ex_s (am_nb (m := 1) (pc1 := 59) (ls1 := [(0, .ref o), (1, .ref x0)]) (st1 := [.ref o, .int (a13 o 4), .int 0, .ref (o + 1), .int 0, .ref (x0 + 1)]) (H1 := H14) (k1 := 0) (n1 := 0) (by with_unfolding_all rfl)) ?_
  refine xe_get (v := .int (a13 o 5)) s15 rfl g1 (by decide) rfl ?_
  refine ex_s (am_nb (m := 1) (pc1 := 63) (ls1 := [(0, .ref o), (1, .ref x0)]) (st1 := [.int ((a13 o 4) * (a13 o 5)), .int 0, .ref (o + 1), .int 0, .ref (x0 + 1)]) (H1 := H14) (k1 := 0) (n1 := 0) (by with_unfolding_all rfl)) ?_
  obtain ⟨g16, e⟩ := xg_some e
  obtain ⟨a17, ha17, e⟩ := xw_some e
  refine xe_copy s15 rfl (xd_9_1 g2) (xd_9_1 g1) g16 (by decide) (fun H18 s19 => ?_)
  have s19 : xS h b T a17 H18 := by rw [ha17]; exact s19
  cases e
  exact ex_r (st_vret rfl rfl) s19

set_option maxRecDepth 100000 in
theorem tl129_2 {sL : Nat} {sx : Nat → Int32} {h b N : Nat} {T : List am_C} {R : Option Value} {F : am_H → Prop} {z : Nat × xA} (k0 : z.1 = 0 → ∀ H2 : am_H, xS h b T z.2 H2 → am_E sL sx am_cs 129 56 [] [] H2 R F) : ∀ (n : Nat) (v1 : Int32) (a : xA) (H : am_H), xS h b T a H → l129_2 N h b n v1 a = some z → am_E sL sx am_cs 129 2 [(0, .ref 97), (1, .int v1)] [] H R F := by
  intro n
  induction n with
  | zero =>
    intro v1 a H hS e
    cases e
  | succ n ih =>
    intro v1 a H hS e
    unfold l129_2 at e
    refine ex_s (am_nb (m := 2) (pc1 := 4) (ls1 := [(0, .ref 97), (1, .int v1)]) (st1 := [.ref 97, .int v1]) (H1 := H) (k1 := 0) (n1 := 0) (by with_unfolding_all rfl)) ?_
    refine xe_get (v := .int (a 97 8)) hS rfl rfl (by decide) rfl ?_
    refine ex_s (am_nb (m := 1) (pc1 := 8) (ls1 := [(0, .ref 97), (1, .int v1)]) (st1 := [.ref 97, .int (a 97 8), .int v1]) (H1 := H) (k1 := 0) (n1 := 0) (by with_unfolding_all rfl)) ?_
    refine xe_get (v := .int (a 97 9)) hS rfl rfl (by decide) rfl ?_
    refine ex_s (am_nb (m := 1) (pc1 := 12) (ls1 := [(0, .ref 97), (1, .int v1)]) (st1 := [.int ((a 97 8) * (a 97 9)), .int v1]) (H1 := H) (k1 := 0) (n1 := 0) (by with_unfolding_all rfl)) ?_
    refine ex_s (st_icmp rfl) ?_
    by_cases c1 : ((a 97 8) * (a 97 9)) ≤ v1
    · have e := (if_pos c1).symm.trans e
      refine ex_pc (if_pos c1) ?_
      cases e
      exact le_E (l1 := []) trivial rfl (k0 rfl H hS)
    · have e := (if_neg c1).symm.trans e
      refine ex_pc (if_neg c1) ?_
      refine ex_s (am_nb (m := 1) (pc1 := 16) (ls1 := [(0, .ref 97), (1, .int v1)]) (st1 := [.ref 97]) (H1 := H) (k1 := 0) (n1 := 0) (by with_unfolding_all rfl)) ?_
      refine xe_get (v := .ref 98) hS rfl rfl (by decide) rfl ?_
      refine xe_get (v := .ref 99) hS rfl rfl (by decide) rfl ?_
      refine ex_s (am_nb (m := 1) (pc1 := 23) (ls1 := [(0, .ref 97), (1, .int v1)]) (st1 := [.int v1, .ref 99]) (H1 := H) (k1 := 0) (n1 := 0) (by with_unfolding_all rfl)) ?_
      obtain ⟨g2, e⟩ := xg_some e
      refine xe_iald hS rfl rfl g2 ?_
      refine ex_s (am_nb (m := 2) (pc1 := 26) (ls1 := [(2, .int (a 99 (v1.toNatClampNeg))), (0, .ref 97), (1, .int v1)]) (st1 := [.ref 97]) (H1 := H) (k1 := 0) (n1 := 0) (by with_unfolding_all rfl)) ?_
      refine xe_get (v := .ref 104) hS rfl rfl (by decide) rfl ?_
      refine ex_s (am_nb (m := 9) (pc1 := 43) (ls1 := [(2, .int (a 99 (v1.toNatClampNeg))), (0, .ref 97), (1, .int v1)]) (st1 := [.ref 97, .int ((a 99 (v1.toNatClampNeg)) >>> ((8 : Int32) &&& 31)), .int 256, .int ((a 99 (v1.toNatClampNeg)) &&& 255), .int v1, .ref 104]) (H1 := H) (k1 := 0) (n1 := 0) (by with_unfolding_all rfl)) ?_
      refine xe_get (v := .int (a 97 10)) hS rfl rfl (by decide) rfl ?_
      refine ex_s (am_nb (m := 3) (pc1 := 49) (ls1 := [(2, .int (a 99 (v1.toNatClampNeg))), (0, .ref 97), (1, .int v1)]) (st1 := [.int (((a 99 (v1.toNatClampNeg)) &&& 255) + (256 * (((a 99 (v1.toNatClampNeg)) >>> ((8 : Int32) &&& 31)) &&& (a 97 10)))), .int v1, .ref 104]) (H1 := H) (k1 := 0) (n1 := 0) (by with_unfolding_all rfl)) ?_
      obtain ⟨a3, ha3, e⟩ := xw_some e
      refine xe_iast hS rfl rfl g2 (fun H4 s5 => ?_)
      have s5 : xS h b T a3 H4 := by rw [ha3]; exact s5
      refine ex_s (am_nb (m := 2) (pc1 := 2) (ls1 := [(1, .int (v1 + 1)), (2, .int (a 99 (v1.toNatClampNeg))), (0, .ref 97)]) (st1 := []) (H1 := H4) (k1 := 0) (n1 := 0) (by with_unfolding_all rfl)) ?_
      exact le_E (l1 := [(0, .ref 97), (1, .int (v1 + 1))]) ⟨rfl, rfl, trivial⟩ rfl (ih (v1 + 1) a3 H4 s5 e)

set_option maxRecDepth 100000 in
theorem tf129_takeAim {sL : Nat} {sx : Nat → Int32} {h b N : Nat} {T : List am_C} {a' : xA} {a : xA} {H : am_H} (hS : xS h b T a H) (e : f129_takeAim N h b a = some a') : am_E sL sx am_cs 129 0 [(0, .ref 97)] [] H none (fun H1 => xS h b T a' H1) := by
  unfold f129_takeAim at e
  refine ex_s (am_nb (m := 2) (pc1 := 2) (ls1 := [(1, .int 0), (0, .ref 97)]) (st1 := []) (H1 := H) (k1 := 0) (n1 := 0) (by with_unfolding_all rfl)) ?_
  obtain ⟨z6, e7, e⟩ := Option.bind_eq_some_iff.mp e
  refine le_E (l1 := [(0, .ref 97), (1, .int 0)]) ⟨rfl, rfl, trivial⟩ rfl (tl129_2 (z := z6)  (fun uz6_0 Hz60 sz60 => ?_) N 0 a H hS e7)
  cases e
  exact ex_r (st_vret rfl rfl) sz60

set_option maxRecDepth 100000 in
theorem tj131_20 {sL : Nat} {sx : Nat → Int32} {h b N : Nat} {T : List am_C} {a' : xA} {a : xA} {H : am_H} (hS : xS h b T a H) (e : j131_20 N h b a = some a') : am_E sL sx am_cs 131 20 [(0, .ref 97)] [] H none (fun H1 => xS h b T a' H1) := by
  unfold j131_20 at e
  refine ex_s (am_nb (m := 2) (pc1 := 22) (ls1 := [(0, .ref 97)]) (st1 := [.ref 97, .ref 97]) (H1 := H) (k1 := 0) (n1 := 0) (by with_unfolding_all rfl)) ?_
  refine xe_get (v := .int (a 97 5)) hS rfl rfl (by decide) rfl ?_
  refine ex_s (am_nb (m := 2) (pc1 := 27) (ls1 := [(0, .ref 97)]) (st1 := [.int ((a 97 5) + 1), .ref 97]) (H1 := H) (k1 := 0) (n1 := 0) (by with_unfolding_all rfl)) ?_
  obtain ⟨a3, ha3, e⟩ := xw_some e
  refine xe_put (w := ((a 97 5) + 1)) hS rfl rfl (by decide) rfl rfl rfl rfl (fun H4 s5 => ?_)
  have s5 : xS h b T a3 H4 := by rw [ha3]; exact s5
  cases e
  exact ex_r (st_vret rfl rfl) s5

set_option maxRecDepth 100000 in
theorem tf131_addByte {sL : Nat} {sx : Nat → Int32} {h b N : Nat} {T : List am_C} {a' : xA} {x0 : Int32} {a : xA} {H : am_H} (hS : xS h b T a H) (e : f131_addByte N h b x0 a = some a') : am_E sL sx am_cs 131 0 [(0, .ref 97), (1, .int x0)] [] H none (fun H1 => xS h b T a' H1) := by
  unfold f131_addByte at e
  refine ex_s (am_nb (m := 1) (pc1 := 1) (ls1 := [(0, .ref 97), (1, .int x0)]) (st1 := [.ref 97]) (H1 := H) (k1 := 0) (n1 := 0) (by with_unfolding_all rfl)) ?_
  refine xe_get (v := .int (a 97 5)) hS rfl rfl (by decide) rfl ?_
  refine ex_s (am_nb (m := 1) (pc1 := 7) (ls1 := [(0, .ref 97), (1, .int x0)]) (st1 := [.int 6000, .int (a 97 5)]) (H1 := H) (k1 := 0) (n1 := 0) (by with_unfolding_all rfl)) ?_
  refine ex_s (st_icmp rfl) ?_
  by_cases c2 : 6000 ≤ (a 97 5)
  · have e := (if_pos c2).symm.trans e
    refine ex_pc (if_pos c2) ?_
    exact le_E (l1 := [(0, .ref 97)]) ⟨rfl, trivial⟩ rfl (tj131_20  hS e)
  · have e := (if_neg c2).symm.trans e
    refine ex_pc (if_neg c2) ?_
    refine ex_s (am_nb (m := 1) (pc1 := 11) (ls1 := [(0, .ref 97), (1, .int x0)]) (st1 := [.ref 97]) (H1 := H) (k1 := 0) (n1 := 0) (by with_unfolding_all rfl)) ?_
    refine xe_get (v := .ref 105) hS rfl rfl (by decide) rfl ?_
    refine ex_s (am_nb (m := 1) (pc1 := 15) (ls1 := [(0, .ref 97), (1, .int x0)]) (st1 := [.ref 97, .ref 105]) (H1 := H) (k1 := 0) (n1 := 0) (by with_unfolding_all rfl)) ?_
    refine xe_get (v := .int (a 97 5)) hS rfl rfl (by decide) rfl ?_
    refine ex_s (am_nb (m := 1) (pc1 := 19) (ls1 := [(0, .ref 97), (1, .int x0)]) (st1 := [.int x0, .int (a 97 5), .ref 105]) (H1 := H) (k1 := 0) (n1 := 0) (by with_unfolding_all rfl)) ?_
    obtain ⟨g9, e⟩ := xg_some e
    obtain ⟨a6, ha6, e⟩ := xw_some e
    refine xe_iast hS rfl rfl g9 (fun H7 s8 => ?_)
    have s8 : xS h b T a6 H7 := by rw [ha6]; exact s8
    exact le_E (l1 := [(0, .ref 97)]) ⟨rfl, trivial⟩ rfl (tj131_20  s8 e)

set_option maxRecDepth 100000 in
theorem tl130_50 {sL : Nat} {sx : Nat → Int32} {h b N : Nat} {T : List am_C} {R : Option Value} {F : am_H → Prop} {w2 : Int32} {w5 : Int32} {w6 : Int32} {z : Nat × xA} (k0 : z.1 = 0 → ∀ H2 : am_H, xS h b T z.2 H2 → am_E sL sx am_cs 130 77 [(0, .ref 97), (2, .int w2), (5, .int w5), (6, .int w6)] [] H2 R F) : ∀ (n : Nat) (v7 : Int32) (a : xA) (H : am_H), xS h b T a H → l130_50 N h b w2 w5 w6 n v7 a = some z → am_E sL sx am_cs 130 50 [(0, .ref 97), (2, .int w2), (5, .int w5), (6, .int w6), (7, .int v7)] [] H R F := by
  intro n
  induction n with
  | zero =>
    intro v7 a H hS e
    cases e
  | succ n ih =>
    intro v7 a H hS e
    unfold l130_50 at e
    refine ex_s (am_nb (m := 2) (pc1 := 54) (ls1 := [(0, .ref 97), (2, .int w2), (5, .int w5), (6, .int w6), (7, .int v7)]) (st1 := [.int w5, .int v7]) (H1 := H) (k1 := 0) (n1 := 0) (by with_unfolding_all rfl)) ?_
    refine ex_s (st_icmp rfl) ?_
    by_cases c22 : w5 ≤ v7
    · have e := (if_pos c22).symm.trans e
      refine ex_pc (if_pos c22) ?_
      cases e
      exact le_E (l1 := [(0, .ref 97), (2, .int w2), (5, .int w5), (6, .int w6)]) ⟨rfl, rfl, rfl, rfl, trivial⟩ rfl (k0 rfl H hS)
    · have e := (if_neg c22).symm.trans e
      refine ex_pc (if_neg c22) ?_
      refine ex_s (am_nb (m := 2) (pc1 := 59) (ls1 := [(0, .ref 97), (2, .int w2), (5, .int w5), (6, .int w6), (7, .int v7)]) (st1 := [.ref 97, .ref 97]) (H1 := H) (k1 := 0) (n1 := 0) (by with_unfolding_all rfl)) ?_
      refine xe_get (v := xN (a 97 7)) hS rfl rfl (by decide) rfl ?_
      obtain ⟨g23, e⟩ := xg_some e
      rw [show xN (a 97 7) = .ref 93 by rw [g23]; rfl]
      refine xe_get (v := .ref 96) hS rfl rfl (by decide) rfl ?_
      refine ex_s (am_nb (m := 1) (pc1 := 67) (ls1 := [(0, .ref 97), (2, .int w2), (5, .int w5), (6, .int w6), (7, .int v7)]) (st1 := [.int v7, .ref 96, .ref 97]) (H1 := H) (k1 := 0) (n1 := 0) (by first | with_unfolding_all rfl | (unfold xN; (repeat' split) <;> with_unfolding_all rfl))) ?_
      obtain ⟨g24, e⟩ := xg_some e
      refine xe_iald hS rfl rfl g24 ?_
      obtain ⟨a28, e27, e⟩ := xb1_some e
      refine ex_cv0 (as := [.int (a 96 (v7.toNatClampNeg))]) (rest := []) rfl rfl rfl rfl (hS.obj rfl (by decide)) rfl (by with_unfolding_all rfl) (by with_unfolding_all rfl) (tf131_addByte hS e27) (fun H25 s26 => ?_)
      refine ex_s (am_nb (m := 2) (pc1 := 50) (ls1 := [(7, .int (v7 + 1)), (0, .ref 97), (2, .int w2), (5, .int w5), (6, .int w6)]) (st1 := []) (H1 := H25) (k1 := 0) (n1 := 0) (by with_unfolding_all rfl)) ?_
      exact le_E (l1 := [(0, .ref 97), (2, .int w2), (5, .int w5), (6, .int w6), (7, .int (v7 + 1))]) ⟨rfl, rfl, rfl, rfl, rfl, trivial⟩ rfl (ih (v7 + 1) a28 H25 s26 e)

set_option maxRecDepth 100000 in
theorem tl130_41 {sL : Nat} {sx : Nat → Int32} {h b N : Nat} {T : List am_C} {R : Option Value} {F : am_H → Prop} {w2 : Int32} {w5 : Int32} {z : Nat × xA} (k0 : z.1 = 0 → ∀ H2 : am_H, xS h b T z.2 H2 → am_E sL sx am_cs 130 83 [] [] H2 R F) : ∀ (n : Nat) (v6 : Int32) (a : xA) (H : am_H), xS h b T a H → l130_41 N h b w2 w5 n v6 a = some z → am_E sL sx am_cs 130 41 [(0, .ref 97), (2, .int w2), (5, .int w5), (6, .int v6)] [] H R F := by
  intro n
  induction n with
  | zero =>
    intro v6 a H hS e
    cases e
  | succ n ih =>
    intro v6 a H hS e
    unfold l130_41 at e
    refine ex_s (am_nb (m := 2) (pc1 := 44) (ls1 := [(0, .ref 97), (2, .int w2), (5, .int w5), (6, .int v6)]) (st1 := [.int w2, .int v6]) (H1 := H) (k1 := 0) (n1 := 0) (by with_unfolding_all rfl)) ?_
    refine ex_s (st_icmp rfl) ?_
    by_cases c21 : w2 ≤ v6
    · have e := (if_pos c21).symm.trans e
      refine ex_pc (if_pos c21) ?_
      cases e
      exact le_E (l1 := []) trivial rfl (k0 rfl H hS)
    · have e := (if_neg c21).symm.trans e
      refine ex_pc (if_neg c21) ?_
      refine ex_s (am_nb (m := 2) (pc1 := 50) (ls1 := [(7, .int 0), (0, .ref 97), (2, .int w2), (5, .int w5), (6, .int v6)]) (st1 := []) (H1 := H) (k1 := 0) (n1 := 0) (by with_unfolding_all rfl)) ?_
      obtain ⟨z29, e30, e⟩ := Option.bind_eq_some_iff.mp e
      refine le_E (l1 := [(0, .ref 97), (2, .int w2), (5, .int w5), (6, .int v6), (7, .int 0)]) ⟨rfl, rfl, rfl, rfl, rfl, trivial⟩ rfl (tl130_50 (z := z29)  (fun uz29_0 Hz290 sz290 => ?_) N 0 a H hS e30)
      refine ex_s (am_nb (m := 2) (pc1 := 41) (ls1 := [(6, .int (v6 + 1)), (0, .ref 97), (2, .int w2), (5, .int w5)]) (st1 := []) (H1 := Hz290) (k1 := 0) (n1 := 0) (by with_unfolding_all rfl)) ?_
      exact le_E (l1 := [(0, .ref 97), (2, .int w2), (5, .int w5), (6, .int (v6 + 1))]) ⟨rfl, rfl, rfl, rfl, trivial⟩ rfl (ih (v6 + 1) z29.2 Hz290 sz290 e)

set_option maxRecDepth 100000 in
theorem tf130_send {sL : Nat} {sx : Nat → Int32} {h b N : Nat} {T : List am_C} {a' : xA} {x0 : Int32} {x1 : Int32} {x2 : Int32} {x3 : Int32} {a : xA} {H : am_H} (hS : xS h b T a H) (e : f130_send N h b x0 x1 x2 x3 a = some a') : am_E sL sx am_cs 130 0 [(0, .ref 97), (1, .int x0), (2, .int x1), (3, .int x2), (4, .int x3)] [] H none (fun H1 => xS h b T a' H1) := by
  unfold f130_send at e
  refine ex_s (am_nb (m := 1) (pc1 := 1) (ls1 := [(0, .ref 97), (1, .int x0), (2, .int x1), (3, .int x2), (4, .int x3)]) (st1 := [.ref 97]) (H1 := H) (k1 := 0) (n1 := 0) (by with_unfolding_all rfl)) ?_
  refine xe_get (v := xN (a 97 6)) hS rfl rfl (by decide) rfl ?_
  refine ex_s (am_nb (m := 1) (pc1 := 5) (ls1 := [(0, .ref 97), (1, .int x0), (2, .int x1), (3, .int x2), (4, .int x3)]) (st1 := [.int x0, xN (a 97 6)]) (H1 := H) (k1 := 0) (n1 := 0) (by first | with_unfolding_all rfl | (unfold xN; (repeat' split) <;> with_unfolding_all rfl))) ?_
  obtain ⟨g1, e⟩ := xg_some e
  rw [show xN (a 97 6) = .ref ((a 97 6).toNatClampNeg) from if_neg g1]
  obtain ⟨g2, e⟩ := xg_some e
  obtain ⟨r6, a7, e5, e⟩ := xb2_some e
  refine ex_cv1 (as := [.int x0]) (rest := []) rfl rfl rfl rfl (hS.obj g2 (by decide)) rfl (by with_unfolding_all rfl) (by with_unfolding_all rfl) (tf74_has hS e5) (fun H3 s4 => ?_)
  refine ex_s (st_if rfl) ?_
  by_cases c8 : r6 = 0
  · have e := (if_pos c8).symm.trans e
    refine ex_pc (if_pos c8) ?_
    cases e
    exact ex_r (st_vret rfl rfl) s4
  · have e := (if_neg c8).symm.trans e
    refine ex_pc (if_neg c8) ?_
    refine ex_s (am_nb (m := 1) (pc1 := 13) (ls1 := [(0, .ref 97), (1, .int x0), (2, .int x1), (3, .int x2), (4, .int x3)]) (st1 := [.ref 97]) (H1 := H3) (k1 := 0) (n1 := 0) (by with_unfolding_all rfl)) ?_
    refine xe_get (v := xN (a7 97 7)) s4 rfl rfl (by decide) rfl ?_
    refine ex_s (am_nb (m := 4) (pc1 := 21) (ls1 := [(0, .ref 97), (1, .int x0), (2, .int x1), (3, .int x2), (4, .int x3)]) (st1 := [.int 0, .int 0, .int x3, .int x2, xN (a7 97 7)]) (H1 := H3) (k1 := 0) (n1 := 0) (by first | with_unfolding_all rfl | (unfold xN; (repeat' split) <;> with_unfolding_all rfl))) ?_
    obtain ⟨g9, e⟩ := xg_some e
    rw [show xN (a7 97 7) = .ref 93 by rw [g9]; rfl]
    obtain ⟨a13, e12, e⟩ := xb1_some e
    refine ex_cv0 (as := [.int x2, .int x3, .int 0, .int 0]) (rest := []) rfl rfl rfl rfl (s4.obj rfl (by decide)) rfl (by with_unfolding_all rfl) (by with_unfolding_all rfl) (tf81_setParameters s4 e12) (fun H10 s11 => ?_)
    refine ex_s (am_nb (m := 1) (pc1 := 25) (ls1 := [(0, .ref 97), (1, .int x0), (2, .int x1), (3, .int x2), (4, .int x3)]) (st1 := [.ref 97]) (H1 := H10) (k1 := 0) (n1 := 0) (by with_unfolding_all rfl)) ?_
    refine xe_get (v := xN (a13 97 7)) s11 rfl rfl (by decide) rfl ?_
    refine ex_s (am_nb (m := 1) (pc1 := 29) (ls1 := [(0, .ref 97), (1, .int x0), (2, .int x1), (3, .int x2), (4, .int x3)]) (st1 := [.ref 97, xN (a13 97 7)]) (H1 := H10) (k1 := 0) (n1 := 0) (by first | with_unfolding_all rfl | (unfold xN; (repeat' split) <;> with_unfolding_all rfl))) ?_
    refine xe_get (v := xN (a13 97 6)) s11 rfl rfl (by decide) rfl ?_
    refine ex_s (am_nb (m := 1) (pc1 := 33) (ls1 := [(0, .ref 97), (1, .int x0), (2, .int x1), (3, .int x2), (4, .int x3)]) (st1 := [.int x0, xN (a13 97 6), xN (a13 97 7)]) (H1 := H10) (k1 := 0) (n1 := 0) (by first | with_unfolding_all rfl | (unfold xN; (repeat' split) <;> with_unfolding_all rfl))) ?_
    obtain ⟨g14, e⟩ := xg_some e
    rw [show xN (a13 97 6) = .ref ((a13 97 6).toNatClampNeg) from if_neg g14]
    obtain ⟨g15, e⟩ := xg_some e
    rw [show xN (a13 97 7) = .ref 93 by rw [g15]; rfl]
    obtain ⟨r19, a20, e18, e⟩ := xb2_some e
    refine ex_cv1 (as := [.ref ((a13 97 6).toNatClampNeg), .int x0]) (rest := []) rfl rfl rfl rfl (s11.obj rfl (by decide)) rfl (by with_unfolding_all rfl) (by with_unfolding_all rfl) (tf82_putTogether s11 e18) (fun H16 s17 => ?_)
    refine ex_s (am_nb (m := 3) (pc1 := 41) (ls1 := [(6, .int 0), (5, .int r19), (0, .ref 97), (1, .int x0), (2, .int x1), (3, .int x2), (4, .int x3)]) (st1 := []) (H1 := H16) (k1 := 0) (n1 := 0) (by with_unfolding_all rfl)) ?_
    obtain ⟨z31, e32, e⟩ := Option.bind_eq_some_iff.mp e
    refine le_E (l1 := [(0, .ref 97), (2, .int x1), (5, .int r19), (6, .int 0)]) ⟨rfl, rfl, rfl, rfl, trivial⟩ rfl (tl130_41 (z := z31)  (fun uz31_0 Hz310 sz310 => ?_) N 0 a20 H16 s17 e32)
    cases e
    exact ex_r (st_vret rfl rfl) sz310

set_option maxRecDepth 100000 in
theorem tf132_startAnew {sL : Nat} {sx : Nat → Int32} {h b N : Nat} {T : List am_C} {a' : xA} {a : xA} {H : am_H} (hS : xS h b T a H) (e : f132_startAnew N h b a = some a') : am_E sL sx am_cs 132 0 [(0, .ref 97)] [] H none (fun H1 => xS h b T a' H1) := by
  unfold f132_startAnew at e
  refine ex_s (am_nb (m := 5) (pc1 := 6) (ls1 := [(0, .ref 97)]) (st1 := [.int 0, .int 0, .int 1, .int 30, .ref 97]) (H1 := H) (k1 := 0) (n1 := 0) (by with_unfolding_all rfl)) ?_
  obtain ⟨a4, e3, e⟩ := xb1_some e
  refine ex_cv0 (as := [.int 30, .int 1, .int 0, .int 0]) (rest := []) rfl rfl rfl rfl (hS.obj rfl (by decide)) rfl (by with_unfolding_all rfl) (by with_unfolding_all rfl) (tf130_send hS e3) (fun H1 s2 => ?_)
  refine ex_s (am_nb (m := 5) (pc1 := 15) (ls1 := [(0, .ref 97)]) (st1 := [.int 0, .int 0, .int 1, .int 25, .ref 97]) (H1 := H1) (k1 := 0) (n1 := 0) (by with_unfolding_all rfl)) ?_
  obtain ⟨a8, e7, e⟩ := xb1_some e
  refine ex_cv0 (as := [.int 25, .int 1, .int 0, .int 0]) (rest := []) rfl rfl rfl rfl (s2.obj rfl (by decide)) rfl (by with_unfolding_all rfl) (by with_unfolding_all rfl) (tf130_send s2 e7) (fun H5 s6 => ?_)
  refine ex_s (am_nb (m := 5) (pc1 := 24) (ls1 := [(0, .ref 97)]) (st1 := [.ref 97, .int 0, .int 1, .int 23, .ref 97]) (H1 := H5) (k1 := 0) (n1 := 0) (by with_unfolding_all rfl)) ?_
  refine xe_get (v := .int (a8 97 8)) s6 rfl rfl (by decide) rfl ?_
  refine ex_s (am_nb (m := 2) (pc1 := 29) (ls1 := [(0, .ref 97)]) (st1 := [.int ((a8 97 8) - 1), .int 0, .int 1, .int 23, .ref 97]) (H1 := H5) (k1 := 0) (n1 := 0) (by with_unfolding_all rfl)) ?_
  obtain ⟨a12, e11, e⟩ := xb1_some e
  refine ex_cv0 (as := [.int 23, .int 1, .int 0, .int ((a8 97 8) - 1)]) (rest := []) rfl rfl rfl rfl (s6.obj rfl (by decide)) rfl (by with_unfolding_all rfl) (by with_unfolding_all rfl) (tf130_send s6 e11) (fun H9 s10 => ?_)
  refine ex_s (am_nb (m := 5) (pc1 := 38) (ls1 := [(0, .ref 97)]) (st1 := [.int 0, .int 0, .int 1, .int 7, .ref 97]) (H1 := H9) (k1 := 0) (n1 := 0) (by with_unfolding_all rfl)) ?_
  obtain ⟨a16, e15, e⟩ := xb1_some e
  refine ex_cv0 (as := [.int 7, .int 1, .int 0, .int 0]) (rest := []) rfl rfl rfl rfl (s10.obj rfl (by decide)) rfl (by with_unfolding_all rfl) (by with_unfolding_all rfl) (tf130_send s10 e15) (fun H13 s14 => ?_)
  refine ex_s (am_nb (m := 1) (pc1 := 42) (ls1 := [(0, .ref 97)]) (st1 := [.ref 97]) (H1 := H13) (k1 := 0) (n1 := 0) (by with_unfolding_all rfl)) ?_
  refine xe_get (v := .ref 100) s14 rfl rfl (by decide) rfl ?_
  refine ex_s (am_nb (m := 3) (pc1 := 48) (ls1 := [(0, .ref 97)]) (st1 := [.ref 97, .int 0, .int 0, .ref 100]) (H1 := H13) (k1 := 0) (n1 := 0) (by with_unfolding_all rfl)) ?_
  refine xe_get (v := .int (a16 97 8)) s14 rfl rfl (by decide) rfl ?_
  refine ex_s (am_nb (m := 1) (pc1 := 52) (ls1 := [(0, .ref 97)]) (st1 := [.ref 97, .int (a16 97 8), .int 0, .int 0, .ref 100]) (H1 := H13) (k1 := 0) (n1 := 0) (by with_unfolding_all rfl)) ?_
  refine xe_get (v := .int (a16 97 9)) s14 rfl rfl (by decide) rfl ?_
  obtain ⟨a20, e19, e⟩ := xb1_some e
  refine ex_cv0 (as := [.int 0, .int 0, .int (a16 97 8), .int (a16 97 9)]) (rest := []) rfl rfl rfl rfl (s14.obj rfl (by decide)) rfl (by with_unfolding_all rfl) (by with_unfolding_all rfl) (tf78_begin s14 e19) (fun H17 s18 => ?_)
  refine ex_s (am_nb (m := 2) (pc1 := 60) (ls1 := [(0, .ref 97)]) (st1 := [.int 1, .ref 97]) (H1 := H17) (k1 := 0) (n1 := 0) (by with_unfolding_all rfl)) ?_
  obtain ⟨a21, ha21, e⟩ := xw_some e
  refine xe_put (w := 1) s18 rfl rfl (by decide) rfl rfl rfl rfl (fun H22 s23 => ?_)
  have s23 : xS h b T a21 H22 := by rw [ha21]; exact s23
  refine ex_s (am_nb (m := 2) (pc1 := 65) (ls1 := [(0, .ref 97)]) (st1 := [.int 0, .ref 97]) (H1 := H22) (k1 := 0) (n1 := 0) (by with_unfolding_all rfl)) ?_
  obtain ⟨a24, ha24, e⟩ := xw_some e
  refine xe_put (w := 0) s23 rfl rfl (by decide) rfl rfl rfl rfl (fun H25 s26 => ?_)
  have s26 : xS h b T a24 H25 := by rw [ha24]; exact s26
  cases e
  exact ex_r (st_vret rfl rfl) s26

set_option maxRecDepth 100000 in
theorem tj136_37 {sL : Nat} {sx : Nat → Int32} {h b N : Nat} {T : List am_C} {r : Int32} {a' : xA} {t0 : Int32} {a : xA} {H : am_H} (hS : xS h b T a H) (e : j136_37 N h b t0 a = some (r, a')) : am_E sL sx am_cs 136 37 [(0, .ref 97)] [.int t0] H (some (.int r)) (fun H1 => xS h b T a' H1) := by
  unfold j136_37 at e
  refine ex_s (am_nb (m := 2) (pc1 := 39) (ls1 := [(2, .int t0), (0, .ref 97)]) (st1 := [.int t0]) (H1 := H) (k1 := 0) (n1 := 0) (by with_unfolding_all rfl)) ?_
  have kk : am_E sL sx am_cs 136 55 [(2, .int t0), (0, .ref 97)] [.int (if t0 = 0 then (a 97 9) else ((a 97 9) - 1))] H (some (.int r)) (fun H1 => xS h b T a' H1) := by
    cases e
    exact ex_r (st_iret rfl rfl rfl) hS
  refine ex_s (st_if rfl) ?_
  by_cases c12 : t0 = 0
  · refine ex_pc (if_pos c12) ?_
    refine ex_s (am_nb (m := 1) (pc1 := 52) (ls1 := [(2, .int t0), (0, .ref 97)]) (st1 := [.ref 97]) (H1 := H) (k1 := 0) (n1 := 0) (by with_unfolding_all rfl)) ?_
    refine xe_get (v := .int (a 97 9)) hS rfl rfl (by decide) rfl ?_
    rw [if_pos c12] at kk
    exact kk
  · refine ex_pc (if_neg c12) ?_
    refine ex_s (am_nb (m := 1) (pc1 := 43) (ls1 := [(2, .int t0), (0, .ref 97)]) (st1 := [.ref 97]) (H1 := H) (k1 := 0) (n1 := 0) (by with_unfolding_all rfl)) ?_
    refine xe_get (v := .int (a 97 9)) hS rfl rfl (by decide) rfl ?_
    refine ex_s (am_nb (m := 3) (pc1 := 55) (ls1 := [(2, .int t0), (0, .ref 97)]) (st1 := [.int ((a 97 9) - 1)]) (H1 := H) (k1 := 0) (n1 := 0) (by with_unfolding_all rfl)) ?_
    rw [if_neg c12] at kk
    exact kk

set_option maxRecDepth 100000 in
theorem tj136_36 {sL : Nat} {sx : Nat → Int32} {h b N : Nat} {T : List am_C} {r : Int32} {a' : xA} {a : xA} {H : am_H} (hS : xS h b T a H) (e : j136_36 N h b a = some (r, a')) : am_E sL sx am_cs 136 36 [(0, .ref 97)] [] H (some (.int r)) (fun H1 => xS h b T a' H1) := by
  unfold j136_36 at e
  refine ex_s (am_nb (m := 1) (pc1 := 37) (ls1 := [(0, .ref 97)]) (st1 := [.int 0]) (H1 := H) (k1 := 0) (n1 := 0) (by with_unfolding_all rfl)) ?_
  exact le_E (l1 := [(0, .ref 97)]) ⟨rfl, trivial⟩ rfl (tj136_37  hS e)

set_option maxRecDepth 100000 in
theorem tf136_paintable {sL : Nat} {sx : Nat → Int32} {h b N : Nat} {T : List am_C} {r : Int32} {a' : xA} {x0 : Int32} {a : xA} {H : am_H} (hS : xS h b T a H) (e : f136_paintable N h b x0 a = some (r, a')) : am_E sL sx am_cs 136 0 [(0, .ref 97), (1, .int x0)] [] H (some (.int r)) (fun H1 => xS h b T a' H1) := by
  unfold f136_paintable at e
  refine ex_s (am_nb (m := 2) (pc1 := 2) (ls1 := [(0, .ref 97), (1, .int x0)]) (st1 := [.ref 97, .int x0]) (H1 := H) (k1 := 0) (n1 := 0) (by with_unfolding_all rfl)) ?_
  refine xe_get (v := .int (a 97 8)) hS rfl rfl (by decide) rfl ?_
  refine ex_s (am_nb (m := 2) (pc1 := 7) (ls1 := [(0, .ref 97), (1, .int x0)]) (st1 := [.int ((a 97 8) - 1), .int x0]) (H1 := H) (k1 := 0) (n1 := 0) (by with_unfolding_all rfl)) ?_
  refine ex_s (st_icmp rfl) ?_
  by_cases c2 : x0 = ((a 97 8) - 1)
  · have e := (if_pos c2).symm.trans e
    refine ex_pc (if_pos c2) ?_
    refine ex_s (am_nb (m := 1) (pc1 := 11) (ls1 := [(0, .ref 97), (1, .int x0)]) (st1 := [.ref 97]) (H1 := H) (k1 := 0) (n1 := 0) (by with_unfolding_all rfl)) ?_
    refine xe_get (v := xN (a 97 6)) hS rfl rfl (by decide) rfl ?_
    refine ex_s (am_nb (m := 1) (pc1 := 15) (ls1 := [(0, .ref 97), (1, .int x0)]) (st1 := [.int 0, xN (a 97 6)]) (H1 := H) (k1 := 0) (n1 := 0) (by first | with_unfolding_all rfl | (unfold xN; (repeat' split) <;> with_unfolding_all rfl))) ?_
    obtain ⟨g3, e⟩ := xg_some e
    rw [show xN (a 97 6) = .ref ((a 97 6).toNatClampNeg) from if_neg g3]
    obtain ⟨g4, e⟩ := xg_some e
    obtain ⟨r8, a9, e7, e⟩ := xb2_some e
    refine ex_cv1 (as := [.int 0]) (rest := []) rfl rfl rfl rfl (hS.obj g4 (by decide)) rfl (by with_unfolding_all rfl) (by with_unfolding_all rfl) (tf74_has hS e7) (fun H5 s6 => ?_)
    refine ex_s (st_if rfl) ?_
    by_cases c11 : r8 = 0
    · have e := (if_pos c11).symm.trans e
      refine ex_pc (if_pos c11) ?_
      exact le_E (l1 := [(0, .ref 97)]) ⟨rfl, trivial⟩ rfl (tj136_36  s6 e)
    · have e := (if_neg c11).symm.trans e
      refine ex_pc (if_neg c11) ?_
      refine ex_s (am_nb (m := 1) (pc1 := 22) (ls1 := [(0, .ref 97), (1, .int x0)]) (st1 := [.ref 97]) (H1 := H5) (k1 := 0) (n1 := 0) (by with_unfolding_all rfl)) ?_
      refine xe_get (v := xN (a9 97 6)) s6 rfl rfl (by decide) rfl ?_
      refine ex_s (am_nb (m := 1) (pc1 := 26) (ls1 := [(0, .ref 97), (1, .int x0)]) (st1 := [.int 1, xN (a9 97 6)]) (H1 := H5) (k1 := 0) (n1 := 0) (by first | with_unfolding_all rfl | (unfold xN; (repeat' split) <;> with_unfolding_all rfl))) ?_
      obtain ⟨g13, e⟩ := xg_some e
      rw [show xN (a9 97 6) = .ref ((a9 97 6).toNatClampNeg) from if_neg g13]
      obtain ⟨g14, e⟩ := xg_some e
      obtain ⟨r18, a19, e17, e⟩ := xb2_some e
      refine ex_cv1 (as := [.int 1]) (rest := []) rfl rfl rfl rfl (s6.obj g14 (by decide)) rfl (by with_unfolding_all rfl) (by with_unfolding_all rfl) (tf74_has s6 e17) (fun H15 s16 => ?_)
      have kk : am_E sL sx am_cs 136 37 [(0, .ref 97), (1, .int x0)] [.int (if r18 = 0 then (1 : Int32) else (0 : Int32))] H15 (some (.int r)) (fun H1 => xS h b T a' H1) := by
        refine ex_s (am_nb (m := 2) (pc1 := 39) (ls1 := [(2, .int (if r18 = 0 then (1 : Int32) else (0 : Int32))), (0, .ref 97), (1, .int x0)]) (st1 := [.int (if r18 = 0 then (1 : Int32) else (0 : Int32))]) (H1 := H15) (k1 := 0) (n1 := 0) (by with_unfolding_all rfl)) ?_
        have kk : am_E sL sx am_cs 136 55 [(2, .int (if r18 = 0 then (1 : Int32) else (0 : Int32))), (0, .ref 97), (1, .int x0)] [.int (if (if r18 = 0 then (1 : Int32) else (0 : Int32)) = 0 then (a19 97 9) else ((a19 97 9) - 1))] H15 (some (.int r)) (fun H1 => xS h b T a' H1) := by
          cases e
          exact ex_r (st_iret rfl rfl rfl) s16
        refine ex_s (st_if rfl) ?_
        by_cases c21 : (if r18 = 0 then (1 : Int32) else (0 : Int32)) = 0
        · refine ex_pc (if_pos c21) ?_
          refine ex_s (am_nb (m := 1) (pc1 := 52) (ls1 := [(2, .int (if r18 = 0 then (1 : Int32) else (0 : Int32))), (0, .ref 97), (1, .int x0)]) (st1 := [.ref 97]) (H1 := H15) (k1 := 0) (n1 := 0) (by with_unfolding_all rfl)) ?_
          refine xe_get (v := .int (a19 97 9)) s16 rfl rfl (by decide) rfl ?_
          rw [if_pos c21] at kk
          exact kk
        · refine ex_pc (if_neg c21) ?_
          refine ex_s (am_nb (m := 1) (pc1 := 43) (ls1 := [(2, .int (if r18 = 0 then (1 : Int32) else (0 : Int32))), (0, .ref 97), (1, .int x0)]) (st1 := [.ref 97]) (H1 := H15) (k1 := 0) (n1 := 0) (by with_unfolding_all rfl)) ?_
          refine xe_get (v := .int (a19 97 9)) s16 rfl rfl (by decide) rfl ?_
          refine ex_s (am_nb (m := 3) (pc1 := 55) (ls1 := [(2, .int (if r18 = 0 then (1 : Int32) else (0 : Int32))), (0, .ref 97), (1, .int x0)]) (st1 := [.int ((a19 97 9) - 1)]) (H1 := H15) (k1 := 0) (n1 := 0) (by with_unfolding_all rfl)) ?_
          rw [if_neg c21] at kk
          exact kk
      refine ex_s (st_if rfl) ?_
      by_cases c20 : r18 = 0
      · refine ex_pc (if_pos c20) ?_
        refine ex_s (am_nb (m := 2) (pc1 := 37) (ls1 := [(0, .ref 97), (1, .int x0)]) (st1 := [.int 1]) (H1 := H15) (k1 := 0) (n1 := 0) (by with_unfolding_all rfl)) ?_
        rw [if_pos c20] at kk
        exact kk
      · refine ex_pc (if_neg c20) ?_
        refine ex_s (am_nb (m := 1) (pc1 := 37) (ls1 := [(0, .ref 97), (1, .int x0)]) (st1 := [.int 0]) (H1 := H15) (k1 := 0) (n1 := 0) (by with_unfolding_all rfl)) ?_
        rw [if_neg c20] at kk
        exact kk
  · have e := (if_neg c2).symm.trans e
    refine ex_pc (if_neg c2) ?_
    exact le_E (l1 := [(0, .ref 97)]) ⟨rfl, trivial⟩ rfl (tj136_36  hS e)

set_option maxRecDepth 100000 in
theorem tj135_45 {sL : Nat} {sx : Nat → Int32} {h b N : Nat} {T : List am_C} {R : Option Value} {F : am_H → Prop} {w1 : Int32} {w2 : Int32} {w3 : Int32} {z : Nat × xA} {rc : Int32 → xA → Option (Nat × xA)} (k0 : z.1 = 0 → ∀ H2 : am_H, xS h b T z.2 H2 → am_E sL sx am_cs 135 66 [] [] H2 R F) (k1 : z.1 = 1 → ∀ H2 : am_H, xS h b T z.2 H2 → am_E sL sx am_cs 135 74 [] [] H2 R F) (ih : ∀ (v4 : Int32) (a : xA) (H : am_H), xS h b T a H → rc v4 a = some z → am_E sL sx am_cs 135 9 [(0, .ref 97), (1, .int w1), (2, .int w2), (3, .int w3), (4, .int v4)] [] H R F) {q4 : Int32} {t0 : Int32} {a : xA} {H : am_H} (hS : xS h b T a H) (e : j135_45 N h b rc w1 w2 w3 q4 t0 a = some z) : am_E sL sx am_cs 135 45 [(0, .ref 97), (1, .int w1), (2, .int w2), (3, .int w3), (4, .int q4)] [.int t0] H R F := by
  unfold j135_45 at e
  refine ex_s (am_nb (m := 2) (pc1 := 48) (ls1 := [(5, .int t0), (0, .ref 97), (1, .int w1), (2, .int w2), (3, .int w3), (4, .int q4)]) (st1 := [.ref 97]) (H1 := H) (k1 := 0) (n1 := 0) (by with_unfolding_all rfl)) ?_
  refine xe_get (v := .ref 104) hS rfl rfl (by decide) rfl ?_
  refine ex_s (am_nb (m := 2) (pc1 := 53) (ls1 := [(5, .int t0), (0, .ref 97), (1, .int w1), (2, .int w2), (3, .int w3), (4, .int q4)]) (st1 := [.ref 97, .int w1, .ref 104]) (H1 := H) (k1 := 0) (n1 := 0) (by with_unfolding_all rfl)) ?_
  refine xe_get (v := .int (a 97 9)) hS rfl rfl (by decide) rfl ?_
  refine ex_s (am_nb (m := 3) (pc1 := 60) (ls1 := [(5, .int t0), (0, .ref 97), (1, .int w1), (2, .int w2), (3, .int w3), (4, .int q4)]) (st1 := [.int ((w1 * (a 97 9)) + q4), .ref 104]) (H1 := H) (k1 := 0) (n1 := 0) (by with_unfolding_all rfl)) ?_
  obtain ⟨g9, e⟩ := xg_some e
  refine xe_iald hS rfl rfl g9 ?_
  refine ex_s (am_nb (m := 1) (pc1 := 63) (ls1 := [(5, .int t0), (0, .ref 97), (1, .int w1), (2, .int w2), (3, .int w3), (4, .int q4)]) (st1 := [.int t0, .int (a 104 (((w1 * (a 97 9)) + q4).toNatClampNeg))]) (H1 := H) (k1 := 0) (n1 := 0) (by with_unfolding_all rfl)) ?_
  refine ex_s (st_icmp rfl) ?_
  by_cases c10 : (a 104 (((w1 * (a 97 9)) + q4).toNatClampNeg)) = t0
  · have e := (if_pos c10).symm.trans e
    refine ex_pc (if_pos c10) ?_
    refine ex_s (am_nb (m := 2) (pc1 := 9) (ls1 := [(4, .int (q4 + 1)), (5, .int t0), (0, .ref 97), (1, .int w1), (2, .int w2), (3, .int w3)]) (st1 := []) (H1 := H) (k1 := 0) (n1 := 0) (by with_unfolding_all rfl)) ?_
    exact le_E (l1 := [(0, .ref 97), (1, .int w1), (2, .int w2), (3, .int w3), (4, .int (q4 + 1))]) ⟨rfl, rfl, rfl, rfl, rfl, trivial⟩ rfl (ih (q4 + 1) a H hS e)
  · have e := (if_neg c10).symm.trans e
    refine ex_pc (if_neg c10) ?_
    cases e
    exact le_E (l1 := []) trivial rfl (k0 rfl H hS)

set_option maxRecDepth 100000 in
theorem tl135_9 {sL : Nat} {sx : Nat → Int32} {h b N : Nat} {T : List am_C} {R : Option Value} {F : am_H → Prop} {w1 : Int32} {w2 : Int32} {w3 : Int32} {z : Nat × xA} (k0 : z.1 = 0 → ∀ H2 : am_H, xS h b T z.2 H2 → am_E sL sx am_cs 135 66 [] [] H2 R F) (k1 : z.1 = 1 → ∀ H2 : am_H, xS h b T z.2 H2 → am_E sL sx am_cs 135 74 [] [] H2 R F) : ∀ (n : Nat) (v4 : Int32) (a : xA) (H : am_H), xS h b T a H → l135_9 N h b w1 w2 w3 n v4 a = some z → am_E sL sx am_cs 135 9 [(0, .ref 97), (1, .int w1), (2, .int w2), (3, .int w3), (4, .int v4)] [] H R F := by
  intro n
  induction n with
  | zero =>
    intro v4 a H hS e
    cases e
  | succ n ih =>
    intro v4 a H hS e
    unfold l135_9 at e
    refine ex_s (am_nb (m := 2) (pc1 := 12) (ls1 := [(0, .ref 97), (1, .int w1), (2, .int w2), (3, .int w3), (4, .int v4)]) (st1 := [.int w3, .int v4]) (H1 := H) (k1 := 0) (n1 := 0) (by with_unfolding_all rfl)) ?_
    refine ex_s (st_icmp rfl) ?_
    by_cases c6 : w3 ≤ v4
    · have e := (if_pos c6).symm.trans e
      refine ex_pc (if_pos c6) ?_
      cases e
      exact le_E (l1 := []) trivial rfl (k1 rfl H hS)
    · have e := (if_neg c6).symm.trans e
      refine ex_pc (if_neg c6) ?_
      refine ex_s (am_nb (m := 2) (pc1 := 17) (ls1 := [(0, .ref 97), (1, .int w1), (2, .int w2), (3, .int w3), (4, .int v4)]) (st1 := [.ref 97, .int w2]) (H1 := H) (k1 := 0) (n1 := 0) (by with_unfolding_all rfl)) ?_
      refine xe_get (v := .int (a 97 8)) hS rfl rfl (by decide) rfl ?_
      refine ex_s (st_icmp rfl) ?_
      by_cases c8 : (a 97 8) ≤ w2
      · have e := (if_pos c8).symm.trans e
        refine ex_pc (if_pos c8) ?_
        refine ex_s (am_nb (m := 1) (pc1 := 45) (ls1 := [(0, .ref 97), (1, .int w1), (2, .int w2), (3, .int w3), (4, .int v4)]) (st1 := [.int 32]) (H1 := H) (k1 := 0) (n1 := 0) (by with_unfolding_all rfl)) ?_
        exact le_E (l1 := [(0, .ref 97), (1, .int w1), (2, .int w2), (3, .int w3), (4, .int v4)]) ⟨rfl, rfl, rfl, rfl, rfl, trivial⟩ rfl (tj135_45 k0 k1 ih  hS e)
      · have e := (if_neg c8).symm.trans e
        refine ex_pc (if_neg c8) ?_
        refine ex_s (am_nb (m := 1) (pc1 := 24) (ls1 := [(0, .ref 97), (1, .int w1), (2, .int w2), (3, .int w3), (4, .int v4)]) (st1 := [.ref 97]) (H1 := H) (k1 := 0) (n1 := 0) (by with_unfolding_all rfl)) ?_
        refine xe_get (v := .ref 100) hS rfl rfl (by decide) rfl ?_
        refine xe_get (v := .ref 101) hS rfl rfl (by decide) rfl ?_
        refine ex_s (am_nb (m := 2) (pc1 := 32) (ls1 := [(0, .ref 97), (1, .int w1), (2, .int w2), (3, .int w3), (4, .int v4)]) (st1 := [.ref 97, .int w2, .ref 101]) (H1 := H) (k1 := 0) (n1 := 0) (by with_unfolding_all rfl)) ?_
        refine xe_get (v := .int (a 97 9)) hS rfl rfl (by decide) rfl ?_
        refine ex_s (am_nb (m := 3) (pc1 := 39) (ls1 := [(0, .ref 97), (1, .int w1), (2, .int w2), (3, .int w3), (4, .int v4)]) (st1 := [.int ((w2 * (a 97 9)) + v4), .ref 101]) (H1 := H) (k1 := 0) (n1 := 0) (by with_unfolding_all rfl)) ?_
        obtain ⟨g11, e⟩ := xg_some e
        refine xe_iald hS rfl rfl g11 ?_
        refine ex_s (am_nb (m := 1) (pc1 := 45) (ls1 := [(0, .ref 97), (1, .int w1), (2, .int w2), (3, .int w3), (4, .int v4)]) (st1 := [.int (a 101 (((w2 * (a 97 9)) + v4).toNatClampNeg))]) (H1 := H) (k1 := 0) (n1 := 0) (by with_unfolding_all rfl)) ?_
        exact le_E (l1 := [(0, .ref 97), (1, .int w1), (2, .int w2), (3, .int w3), (4, .int v4)]) ⟨rfl, rfl, rfl, rfl, rfl, trivial⟩ rfl (tj135_45 k0 k1 ih  hS e)

set_option maxRecDepth 100000 in
theorem tf135_isRowUnlike {sL : Nat} {sx : Nat → Int32} {h b N : Nat} {T : List am_C} {r : Int32} {a' : xA} {x0 : Int32} {x1 : Int32} {a : xA} {H : am_H} (hS : xS h b T a H) (e : f135_isRowUnlike N h b x0 x1 a = some (r, a')) : am_E sL sx am_cs 135 0 [(0, .ref 97), (1, .int x0), (2, .int x1)] [] H (some (.int r)) (fun H1 => xS h b T a' H1) := by
  unfold f135_isRowUnlike at e
  refine ex_s (am_nb (m := 2) (pc1 := 2) (ls1 := [(0, .ref 97), (1, .int x0), (2, .int x1)]) (st1 := [.int x0, .ref 97]) (H1 := H) (k1 := 0) (n1 := 0) (by with_unfolding_all rfl)) ?_
  obtain ⟨r4, a5, e3, e⟩ := xb2_some e
  refine ex_cv1 (as := [.int x0]) (rest := []) rfl rfl rfl rfl (hS.obj rfl (by decide)) rfl (by with_unfolding_all rfl) (by with_unfolding_all rfl) (tf136_paintable hS e3) (fun H1 s2 => ?_)
  refine ex_s (am_nb (m := 3) (pc1 := 9) (ls1 := [(4, .int 0), (3, .int r4), (0, .ref 97), (1, .int x0), (2, .int x1)]) (st1 := []) (H1 := H1) (k1 := 0) (n1 := 0) (by with_unfolding_all rfl)) ?_
  obtain ⟨z12, e13, e⟩ := Option.bind_eq_some_iff.mp e
  refine le_E (l1 := [(0, .ref 97), (1, .int x0), (2, .int x1), (3, .int r4), (4, .int 0)]) ⟨rfl, rfl, rfl, rfl, rfl, trivial⟩ rfl (tl135_9 (z := z12)  (fun uz12_0 Hz120 sz120 => ?_) (fun uz12_1 Hz121 sz121 => ?_) N 0 a5 H1 s2 e13)
  · have e := (if_pos uz12_0).symm.trans e
    refine ex_s (am_nb (m := 1) (pc1 := 67) (ls1 := []) (st1 := [.int 1]) (H1 := Hz120) (k1 := 0) (n1 := 0) (by with_unfolding_all rfl)) ?_
    cases e
    exact ex_r (st_iret rfl rfl rfl) sz120
  · have e := (if_neg (show ¬ z12.1 = 0 by rw [uz12_1]; decide)).symm.trans e
    refine ex_s (am_nb (m := 1) (pc1 := 75) (ls1 := []) (st1 := [.int 0]) (H1 := Hz121) (k1 := 0) (n1 := 0) (by with_unfolding_all rfl)) ?_
    cases e
    exact ex_r (st_iret rfl rfl rfl) sz121

set_option maxRecDepth 100000 in
theorem tj134_26 {sL : Nat} {sx : Nat → Int32} {h b N : Nat} {T : List am_C} {R : Option Value} {F : am_H → Prop} {w1 : Int32} {z : Nat × Int32 × xA} {rc : Int32 → Int32 → xA → Option (Nat × Int32 × xA)} (k0 : z.1 = 0 → ∀ H2 : am_H, xS h b T z.2.2 H2 → am_E sL sx am_cs 134 32 [(2, .int z.2.1)] [] H2 R F) (ih : ∀ (v2 : Int32) (v3 : Int32) (a : xA) (H : am_H), xS h b T a H → rc v2 v3 a = some z → am_E sL sx am_cs 134 4 [(0, .ref 97), (1, .int w1), (2, .int v2), (3, .int v3)] [] H R F) {q2 : Int32} {q3 : Int32} {a : xA} {H : am_H} (hS : xS h b T a H) (e : j134_26 N h b rc w1 q2 q3 a = some z) : am_E sL sx am_cs 134 26 [(0, .ref 97), (1, .int w1), (2, .int q2), (3, .int q3)] [] H R F := by
  unfold j134_26 at e
  refine ex_s (am_nb (m := 2) (pc1 := 4) (ls1 := [(3, .int (q3 + 1)), (0, .ref 97), (1, .int w1), (2, .int q2)]) (st1 := []) (H1 := H) (k1 := 0) (n1 := 0) (by with_unfolding_all rfl)) ?_
  exact le_E (l1 := [(0, .ref 97), (1, .int w1), (2, .int q2), (3, .int (q3 + 1))]) ⟨rfl, rfl, rfl, rfl, trivial⟩ rfl (ih q2 (q3 + 1) a H hS e)

set_option maxRecDepth 100000 in
theorem tl134_4 {sL : Nat} {sx : Nat → Int32} {h b N : Nat} {T : List am_C} {R : Option Value} {F : am_H → Prop} {w1 : Int32} {z : Nat × Int32 × xA} (k0 : z.1 = 0 → ∀ H2 : am_H, xS h b T z.2.2 H2 → am_E sL sx am_cs 134 32 [(2, .int z.2.1)] [] H2 R F) : ∀ (n : Nat) (v2 : Int32) (v3 : Int32) (a : xA) (H : am_H), xS h b T a H → l134_4 N h b w1 n v2 v3 a = some z → am_E sL sx am_cs 134 4 [(0, .ref 97), (1, .int w1), (2, .int v2), (3, .int v3)] [] H R F := by
  intro n
  induction n with
  | zero =>
    intro v2 v3 a H hS e
    cases e
  | succ n ih =>
    intro v2 v3 a H hS e
    unfold l134_4 at e
    refine ex_s (am_nb (m := 2) (pc1 := 6) (ls1 := [(0, .ref 97), (1, .int w1), (2, .int v2), (3, .int v3)]) (st1 := [.ref 97, .int v3]) (H1 := H) (k1 := 0) (n1 := 0) (by with_unfolding_all rfl)) ?_
    refine xe_get (v := .int (a 97 8)) hS rfl rfl (by decide) rfl ?_
    refine ex_s (st_icmp rfl) ?_
    by_cases c1 : (a 97 8) ≤ v3
    · have e := (if_pos c1).symm.trans e
      refine ex_pc (if_pos c1) ?_
      cases e
      exact le_E (l1 := [(2, .int v2)]) ⟨rfl, trivial⟩ rfl (k0 rfl H hS)
    · have e := (if_neg c1).symm.trans e
      refine ex_pc (if_neg c1) ?_
      refine ex_s (am_nb (m := 5) (pc1 := 17) (ls1 := [(0, .ref 97), (1, .int w1), (2, .int v2), (3, .int v3)]) (st1 := [.int (v3 + w1), .int v3, .ref 97]) (H1 := H) (k1 := 0) (n1 := 0) (by with_unfolding_all rfl)) ?_
      obtain ⟨r5, a6, e4, e⟩ := xb2_some e
      refine ex_cv1 (as := [.int v3, .int (v3 + w1)]) (rest := []) rfl rfl rfl rfl (hS.obj rfl (by decide)) rfl (by with_unfolding_all rfl) (by with_unfolding_all rfl) (tf135_isRowUnlike hS e4) (fun H2 s3 => ?_)
      refine ex_s (st_if rfl) ?_
      by_cases c8 : r5 = 0
      · have e := (if_pos c8).symm.trans e
        refine ex_pc (if_pos c8) ?_
        exact le_E (l1 := [(0, .ref 97), (1, .int w1), (2, .int v2), (3, .int v3)]) ⟨rfl, rfl, rfl, rfl, trivial⟩ rfl (tj134_26 k0 ih  s3 e)
      · have e := (if_neg c8).symm.trans e
        refine ex_pc (if_neg c8) ?_
        refine ex_s (am_nb (m := 1) (pc1 := 26) (ls1 := [(2, .int (v2 + 1)), (0, .ref 97), (1, .int w1), (3, .int v3)]) (st1 := []) (H1 := H2) (k1 := 0) (n1 := 0) (by with_unfolding_all rfl)) ?_
        exact le_E (l1 := [(0, .ref 97), (1, .int w1), (2, .int (v2 + 1)), (3, .int v3)]) ⟨rfl, rfl, rfl, rfl, trivial⟩ rfl (tj134_26 k0 ih  s3 e)

set_option maxRecDepth 100000 in
theorem tf134_rowsUnlike {sL : Nat} {sx : Nat → Int32} {h b N : Nat} {T : List am_C} {r : Int32} {a' : xA} {x0 : Int32} {a : xA} {H : am_H} (hS : xS h b T a H) (e : f134_rowsUnlike N h b x0 a = some (r, a')) : am_E sL sx am_cs 134 0 [(0, .ref 97), (1, .int x0)] [] H (some (.int r)) (fun H1 => xS h b T a' H1) := by
  unfold f134_rowsUnlike at e
  refine ex_s (am_nb (m := 4) (pc1 := 4) (ls1 := [(3, .int 0), (2, .int 0), (0, .ref 97), (1, .int x0)]) (st1 := []) (H1 := H) (k1 := 0) (n1 := 0) (by with_unfolding_all rfl)) ?_
  obtain ⟨z9, e10, e⟩ := Option.bind_eq_some_iff.mp e
  refine le_E (l1 := [(0, .ref 97), (1, .int x0), (2, .int 0), (3, .int 0)]) ⟨rfl, rfl, rfl, rfl, trivial⟩ rfl (tl134_4 (z := z9)  (fun uz9_0 Hz90 sz90 => ?_) N 0 0 a H hS e10)
  refine ex_s (am_nb (m := 1) (pc1 := 33) (ls1 := [(2, .int z9.2.1)]) (st1 := [.int z9.2.1]) (H1 := Hz90) (k1 := 0) (n1 := 0) (by with_unfolding_all rfl)) ?_
  cases e
  exact ex_r (st_iret rfl rfl rfl) sz90

set_option maxRecDepth 100000 in
theorem tf140_pairLength {sL : Nat} {sx : Nat → Int32} {h b N : Nat} {T : List am_C} {r : Int32} {a' : xA} {x0 : Int32} {x1 : Int32} {x2 : Int32} {a : xA} {H : am_H} (hS : xS h b T a H) (e : f140_pairLength N h b x0 x1 x2 a = some (r, a')) : am_E sL sx am_cs 140 0 [(0, .ref 97), (1, .int x0), (2, .int x1), (3, .int x2)] [] H (some (.int r)) (fun H1 => xS h b T a' H1) := by
  unfold f140_pairLength at e
  refine ex_s (am_nb (m := 1) (pc1 := 1) (ls1 := [(0, .ref 97), (1, .int x0), (2, .int x1), (3, .int x2)]) (st1 := [.int x2]) (H1 := H) (k1 := 0) (n1 := 0) (by with_unfolding_all rfl)) ?_
  refine ex_s (st_if rfl) ?_
  by_cases c1 : x2 = 0
  · have e := (if_pos c1).symm.trans e
    refine ex_pc (if_pos c1) ?_
    refine ex_s (am_nb (m := 1) (pc1 := 5) (ls1 := [(0, .ref 97), (1, .int x0), (2, .int x1), (3, .int x2)]) (st1 := [.int 0]) (H1 := H) (k1 := 0) (n1 := 0) (by with_unfolding_all rfl)) ?_
    cases e
    exact ex_r (st_iret rfl rfl rfl) hS
  · have e := (if_neg c1).symm.trans e
    refine ex_pc (if_neg c1) ?_
    refine ex_s (am_nb (m := 2) (pc1 := 8) (ls1 := [(0, .ref 97), (1, .int x0), (2, .int x1), (3, .int x2)]) (st1 := [.ref 97, .int x2]) (H1 := H) (k1 := 0) (n1 := 0) (by with_unfolding_all rfl)) ?_
    refine xe_get (v := .ref 106) hS rfl rfl (by decide) rfl ?_
    refine ex_s (am_nb (m := 1) (pc1 := 12) (ls1 := [(0, .ref 97), (1, .int x0), (2, .int x1), (3, .int x2)]) (st1 := [.int x0, .ref 106, .int x2]) (H1 := H) (k1 := 0) (n1 := 0) (by with_unfolding_all rfl)) ?_
    obtain ⟨g2, e⟩ := xg_some e
    refine xe_iald hS rfl rfl g2 ?_
    refine ex_s (am_nb (m := 3) (pc1 := 17) (ls1 := [(4, .int (x2 * (a 106 (x0.toNatClampNeg)))), (0, .ref 97), (1, .int x0), (2, .int x1), (3, .int x2)]) (st1 := [.ref 97]) (H1 := H) (k1 := 0) (n1 := 0) (by with_unfolding_all rfl)) ?_
    refine xe_get (v := .ref 107) hS rfl rfl (by decide) rfl ?_
    refine ex_s (am_nb (m := 3) (pc1 := 24) (ls1 := [(4, .int (x2 * (a 106 (x0.toNatClampNeg)))), (0, .ref 97), (1, .int x0), (2, .int x1), (3, .int x2)]) (st1 := [.int (x1 - 14), .ref 107]) (H1 := H) (k1 := 0) (n1 := 0) (by with_unfolding_all rfl)) ?_
    obtain ⟨g3, e⟩ := xg_some e
    refine xe_q107 hS rfl g3 ?_
    refine ex_s (am_nb (m := 1) (pc1 := 26) (ls1 := [(4, .int (x2 * (a 106 (x0.toNatClampNeg)))), (0, .ref 97), (1, .int x0), (2, .int x1), (3, .int x2)]) (st1 := [.int x2, .ref (108 + (x1 - 14).toNatClampNeg)]) (H1 := H) (k1 := 0) (n1 := 0) (by with_unfolding_all rfl)) ?_
    obtain ⟨g4, e⟩ := xg_some e
    refine xe_iald hS rfl (xkq107 g3) g4 ?_
    refine ex_s (am_nb (m := 3) (pc1 := 33) (ls1 := [(5, .int (a (108 + (x1 - 14).toNatClampNeg) (x2.toNatClampNeg))), (4, .int (x2 * (a 106 (x0.toNatClampNeg)))), (0, .ref 97), (1, .int x0), (2, .int x1), (3, .int x2)]) (st1 := [.int (a (108 + (x1 - 14).toNatClampNeg) (x2.toNatClampNeg)), .int (x2 * (a 106 (x0.toNatClampNeg)))]) (H1 := H) (k1 := 0) (n1 := 0) (by with_unfolding_all rfl)) ?_
    have kk : am_E sL sx am_cs 140 43 [(5, .int (a (108 + (x1 - 14).toNatClampNeg) (x2.toNatClampNeg))), (4, .int (x2 * (a 106 (x0.toNatClampNeg)))), (0, .ref 97), (1, .int x0), (2, .int x1), (3, .int x2)] [.int (if (a (108 + (x1 - 14).toNatClampNeg) (x2.toNatClampNeg)) < (x2 * (a 106 (x0.toNatClampNeg))) then (a (108 + (x1 - 14).toNatClampNeg) (x2.toNatClampNeg)) else (x2 * (a 106 (x0.toNatClampNeg))))] H (some (.int r)) (fun H1 => xS h b T a' H1) := by
      cases e
      exact ex_r (st_iret rfl rfl rfl) hS
    refine ex_s (st_icmp rfl) ?_
    by_cases c5 : (a (108 + (x1 - 14).toNatClampNeg) (x2.toNatClampNeg)) < (x2 * (a 106 (x0.toNatClampNeg)))
    · refine ex_pc (if_pos c5) ?_
      refine ex_s (am_nb (m := 1) (pc1 := 43) (ls1 := [(5, .int (a (108 + (x1 - 14).toNatClampNeg) (x2.toNatClampNeg))), (4, .int (x2 * (a 106 (x0.toNatClampNeg)))), (0, .ref 97), (1, .int x0), (2, .int x1), (3, .int x2)]) (st1 := [.int (a (108 + (x1 - 14).toNatClampNeg) (x2.toNatClampNeg))]) (H1 := H) (k1 := 0) (n1 := 0) (by with_unfolding_all rfl)) ?_
      rw [if_pos c5] at kk
      exact kk
    · refine ex_pc (if_neg c5) ?_
      refine ex_s (am_nb (m := 2) (pc1 := 43) (ls1 := [(5, .int (a (108 + (x1 - 14).toNatClampNeg) (x2.toNatClampNeg))), (4, .int (x2 * (a 106 (x0.toNatClampNeg)))), (0, .ref 97), (1, .int x0), (2, .int x1), (3, .int x2)]) (st1 := [.int (x2 * (a 106 (x0.toNatClampNeg)))]) (H1 := H) (k1 := 0) (n1 := 0) (by with_unfolding_all rfl)) ?_
      rw [if_neg c5] at kk
      exact kk

set_option maxRecDepth 100000 in
theorem tf139_downLength {sL : Nat} {sx : Nat → Int32} {h b N : Nat} {T : List am_C} {r : Int32} {a' : xA} {x0 : Int32} {x1 : Int32} {a : xA} {H : am_H} (hS : xS h b T a H) (e : f139_downLength N h b x0 x1 a = some (r, a')) : am_E sL sx am_cs 139 0 [(0, .ref 97), (1, .int x0), (2, .int x1)] [] H (some (.int r)) (fun H1 => xS h b T a' H1) := by
  unfold f139_downLength at e
  refine ex_s (am_nb (m := 2) (pc1 := 2) (ls1 := [(0, .ref 97), (1, .int x0), (2, .int x1)]) (st1 := [.int x0, .int x1]) (H1 := H) (k1 := 0) (n1 := 0) (by with_unfolding_all rfl)) ?_
  refine ex_s (st_icmp rfl) ?_
  by_cases c2 : x1 < x0
  · have e := (if_pos c2).symm.trans e
    refine ex_pc (if_pos c2) ?_
    refine ex_s (am_nb (m := 6) (pc1 := 27) (ls1 := [(0, .ref 97), (1, .int x0), (2, .int x1)]) (st1 := [.int (x0 - x1), .int 14, .int 10, .ref 97]) (H1 := H) (k1 := 0) (n1 := 0) (by with_unfolding_all rfl)) ?_
    obtain ⟨r6, a7, e5, e⟩ := xb2_some e
    refine ex_cv1 (as := [.int 10, .int 14, .int (x0 - x1)]) (rest := []) rfl rfl rfl rfl (hS.obj rfl (by decide)) rfl (by with_unfolding_all rfl) (by with_unfolding_all rfl) (tf140_pairLength hS e5) (fun H3 s4 => ?_)
    cases e
    exact ex_r (st_iret rfl rfl rfl) s4
  · have e := (if_neg c2).symm.trans e
    refine ex_pc (if_neg c2) ?_
    refine ex_s (am_nb (m := 6) (pc1 := 13) (ls1 := [(0, .ref 97), (1, .int x0), (2, .int x1)]) (st1 := [.int (x1 - x0), .int 15, .int 11, .ref 97]) (H1 := H) (k1 := 0) (n1 := 0) (by with_unfolding_all rfl)) ?_
    obtain ⟨r11, a12, e10, e⟩ := xb2_some e
    refine ex_cv1 (as := [.int 11, .int 15, .int (x1 - x0)]) (rest := []) rfl rfl rfl rfl (hS.obj rfl (by decide)) rfl (by with_unfolding_all rfl) (by with_unfolding_all rfl) (tf140_pairLength hS e10) (fun H8 s9 => ?_)
    refine ex_s (am_nb (m := 1) (pc1 := 30) (ls1 := [(0, .ref 97), (1, .int x0), (2, .int x1)]) (st1 := [.int r11]) (H1 := H8) (k1 := 0) (n1 := 0) (by with_unfolding_all rfl)) ?_
    cases e
    exact ex_r (st_iret rfl rfl rfl) s9

set_option maxRecDepth 100000 in
theorem tj143_22 {sL : Nat} {sx : Nat → Int32} {h b N : Nat} {T : List am_C} {r : Int32} {a' : xA} {q1 : Int32} {t0 : Int32} {a : xA} {H : am_H} (hS : xS h b T a H) (e : j143_22 N h b q1 t0 a = some (r, a')) : am_E sL sx am_cs 143 22 [(1, .int q1)] [.int t0] H (some (.int r)) (fun H1 => xS h b T a' H1) := by
  unfold j143_22 at e
  refine ex_s (am_nb (m := 3) (pc1 := 25) (ls1 := [(3, .int t0), (1, .int q1)]) (st1 := [.int q1, .int t0]) (H1 := H) (k1 := 0) (n1 := 0) (by with_unfolding_all rfl)) ?_
  have kk : am_E sL sx am_cs 143 33 [(3, .int t0), (1, .int q1)] [.int (if t0 ≤ q1 then (-1 : Int32) else (t0))] H (some (.int r)) (fun H1 => xS h b T a' H1) := by
    cases e
    exact ex_r (st_iret rfl rfl rfl) hS
  refine ex_s (st_icmp rfl) ?_
  by_cases c3 : t0 ≤ q1
  · refine ex_pc (if_pos c3) ?_
    refine ex_s (am_nb (m := 1) (pc1 := 33) (ls1 := [(3, .int t0), (1, .int q1)]) (st1 := [.int (-1)]) (H1 := H) (k1 := 0) (n1 := 0) (by with_unfolding_all rfl)) ?_
    rw [if_pos c3] at kk
    exact kk
  · refine ex_pc (if_neg c3) ?_
    refine ex_s (am_nb (m := 2) (pc1 := 33) (ls1 := [(3, .int t0), (1, .int q1)]) (st1 := [.int t0]) (H1 := H) (k1 := 0) (n1 := 0) (by with_unfolding_all rfl)) ?_
    rw [if_neg c3] at kk
    exact kk

set_option maxRecDepth 100000 in
theorem tf143_lastStop {sL : Nat} {sx : Nat → Int32} {h b N : Nat} {T : List am_C} {r : Int32} {a' : xA} {x0 : Int32} {x1 : Int32} {a : xA} {H : am_H} (hS : xS h b T a H) (e : f143_lastStop N h b x0 x1 a = some (r, a')) : am_E sL sx am_cs 143 0 [(0, .ref 97), (1, .int x0), (2, .int x1)] [] H (some (.int r)) (fun H1 => xS h b T a' H1) := by
  unfold f143_lastStop at e
  refine ex_s (am_nb (m := 1) (pc1 := 1) (ls1 := [(0, .ref 97), (1, .int x0), (2, .int x1)]) (st1 := [.ref 97]) (H1 := H) (k1 := 0) (n1 := 0) (by with_unfolding_all rfl)) ?_
  refine xe_get (v := .int (a 97 11)) hS rfl rfl (by decide) rfl ?_
  refine ex_s (st_if rfl) ?_
  by_cases c2 : (a 97 11) ≤ 0
  · have e := (if_pos c2).symm.trans e
    refine ex_pc (if_pos c2) ?_
    refine ex_s (am_nb (m := 1) (pc1 := 22) (ls1 := [(0, .ref 97), (1, .int x0), (2, .int x1)]) (st1 := [.int (-1)]) (H1 := H) (k1 := 0) (n1 := 0) (by with_unfolding_all rfl)) ?_
    exact le_E (l1 := [(1, .int x0)]) ⟨rfl, trivial⟩ rfl (tj143_22  hS e)
  · have e := (if_neg c2).symm.trans e
    refine ex_pc (if_neg c2) ?_
    refine ex_s (am_nb (m := 2) (pc1 := 9) (ls1 := [(0, .ref 97), (1, .int x0), (2, .int x1)]) (st1 := [.ref 97, .int x1]) (H1 := H) (k1 := 0) (n1 := 0) (by with_unfolding_all rfl)) ?_
    refine xe_get (v := .int (a 97 11)) hS rfl rfl (by decide) rfl ?_
    obtain ⟨g4, e⟩ := xg_some e
    refine ex_s (st_idiv rfl g4) ?_
    refine ex_s (am_nb (m := 1) (pc1 := 14) (ls1 := [(0, .ref 97), (1, .int x0), (2, .int x1)]) (st1 := [.ref 97, .int (x1 / (a 97 11))]) (H1 := H) (k1 := 0) (n1 := 0) (by with_unfolding_all rfl)) ?_
    refine xe_get (v := .int (a 97 11)) hS rfl rfl (by decide) rfl ?_
    refine ex_s (am_nb (m := 2) (pc1 := 22) (ls1 := [(0, .ref 97), (1, .int x0), (2, .int x1)]) (st1 := [.int ((x1 / (a 97 11)) * (a 97 11))]) (H1 := H) (k1 := 0) (n1 := 0) (by with_unfolding_all rfl)) ?_
    exact le_E (l1 := [(1, .int x0)]) ⟨rfl, trivial⟩ rfl (tj143_22  hS e)

set_option maxRecDepth 100000 in
theorem tf144_tabsBetween {sL : Nat} {sx : Nat → Int32} {h b N : Nat} {T : List am_C} {r : Int32} {a' : xA} {x0 : Int32} {x1 : Int32} {a : xA} {H : am_H} (hS : xS h b T a H) (e : f144_tabsBetween N h b x0 x1 a = some (r, a')) : am_E sL sx am_cs 144 0 [(0, .ref 97), (1, .int x0), (2, .int x1)] [] H (some (.int r)) (fun H1 => xS h b T a' H1) := by
  unfold f144_tabsBetween at e
  refine ex_s (am_nb (m := 1) (pc1 := 1) (ls1 := [(0, .ref 97), (1, .int x0), (2, .int x1)]) (st1 := [.ref 97]) (H1 := H) (k1 := 0) (n1 := 0) (by with_unfolding_all rfl)) ?_
  refine xe_get (v := .int (a 97 11)) hS rfl rfl (by decide) rfl ?_
  refine ex_s (st_if rfl) ?_
  by_cases c2 : (a 97 11) ≤ 0
  · have e := (if_pos c2).symm.trans e
    refine ex_pc (if_pos c2) ?_
    refine ex_s (am_nb (m := 1) (pc1 := 24) (ls1 := [(0, .ref 97), (1, .int x0), (2, .int x1)]) (st1 := [.int 0]) (H1 := H) (k1 := 0) (n1 := 0) (by with_unfolding_all rfl)) ?_
    cases e
    exact ex_r (st_iret rfl rfl rfl) hS
  · have e := (if_neg c2).symm.trans e
    refine ex_pc (if_neg c2) ?_
    refine ex_s (am_nb (m := 2) (pc1 := 9) (ls1 := [(0, .ref 97), (1, .int x0), (2, .int x1)]) (st1 := [.ref 97, .int x1]) (H1 := H) (k1 := 0) (n1 := 0) (by with_unfolding_all rfl)) ?_
    refine xe_get (v := .int (a 97 11)) hS rfl rfl (by decide) rfl ?_
    obtain ⟨g3, e⟩ := xg_some e
    refine ex_s (st_idiv rfl g3) ?_
    refine ex_s (am_nb (m := 2) (pc1 := 15) (ls1 := [(0, .ref 97), (1, .int x0), (2, .int x1)]) (st1 := [.ref 97, .int x0, .int (x1 / (a 97 11))]) (H1 := H) (k1 := 0) (n1 := 0) (by with_unfolding_all rfl)) ?_
    refine xe_get (v := .int (a 97 11)) hS rfl rfl (by decide) rfl ?_
    refine ex_s (st_idiv rfl g3) ?_
    refine ex_s (am_nb (m := 2) (pc1 := 24) (ls1 := [(0, .ref 97), (1, .int x0), (2, .int x1)]) (st1 := [.int ((x1 / (a 97 11)) - (x0 / (a 97 11)))]) (H1 := H) (k1 := 0) (n1 := 0) (by with_unfolding_all rfl)) ?_
    cases e
    exact ex_r (st_iret rfl rfl rfl) hS

set_option maxRecDepth 100000 in
theorem tf142_tabsLength {sL : Nat} {sx : Nat → Int32} {h b N : Nat} {T : List am_C} {r : Int32} {a' : xA} {x0 : Int32} {x1 : Int32} {a : xA} {H : am_H} (hS : xS h b T a H) (e : f142_tabsLength N h b x0 x1 a = some (r, a')) : am_E sL sx am_cs 142 0 [(0, .ref 97), (1, .int x0), (2, .int x1)] [] H (some (.int r)) (fun H1 => xS h b T a' H1) := by
  unfold f142_tabsLength at e
  refine ex_s (am_nb (m := 3) (pc1 := 3) (ls1 := [(0, .ref 97), (1, .int x0), (2, .int x1)]) (st1 := [.int x1, .int x0, .ref 97]) (H1 := H) (k1 := 0) (n1 := 0) (by with_unfolding_all rfl)) ?_
  obtain ⟨r4, a5, e3, e⟩ := xb2_some e
  refine ex_cv1 (as := [.int x0, .int x1]) (rest := []) rfl rfl rfl rfl (hS.obj rfl (by decide)) rfl (by with_unfolding_all rfl) (by with_unfolding_all rfl) (tf143_lastStop hS e3) (fun H1 s2 => ?_)
  refine ex_s (am_nb (m := 3) (pc1 := 9) (ls1 := [(3, .int r4), (0, .ref 97), (1, .int x0), (2, .int x1)]) (st1 := [.int (-1), .int r4]) (H1 := H1) (k1 := 0) (n1 := 0) (by with_unfolding_all rfl)) ?_
  refine ex_s (st_icmp rfl) ?_
  by_cases c6 : r4 = (-1)
  · have e := (if_pos c6).symm.trans e
    refine ex_pc (if_pos c6) ?_
    refine ex_s (am_nb (m := 1) (pc1 := 14) (ls1 := [(3, .int r4), (0, .ref 97), (1, .int x0), (2, .int x1)]) (st1 := [.int 1000000]) (H1 := H1) (k1 := 0) (n1 := 0) (by with_unfolding_all rfl)) ?_
    cases e
    exact ex_r (st_iret rfl rfl rfl) s2
  · have e := (if_neg c6).symm.trans e
    refine ex_pc (if_neg c6) ?_
    refine ex_s (am_nb (m := 3) (pc1 := 18) (ls1 := [(3, .int r4), (0, .ref 97), (1, .int x0), (2, .int x1)]) (st1 := [.int r4, .int x0, .ref 97]) (H1 := H1) (k1 := 0) (n1 := 0) (by with_unfolding_all rfl)) ?_
    obtain ⟨r10, a11, e9, e⟩ := xb2_some e
    refine ex_cv1 (as := [.int x0, .int r4]) (rest := []) rfl rfl rfl rfl (s2.obj rfl (by decide)) rfl (by with_unfolding_all rfl) (by with_unfolding_all rfl) (tf144_tabsBetween s2 e9) (fun H7 s8 => ?_)
    refine ex_s (am_nb (m := 1) (pc1 := 22) (ls1 := [(3, .int r4), (0, .ref 97), (1, .int x0), (2, .int x1)]) (st1 := [.ref 97, .int r10]) (H1 := H7) (k1 := 0) (n1 := 0) (by with_unfolding_all rfl)) ?_
    refine xe_get (v := .ref 106) s8 rfl rfl (by decide) rfl ?_
    refine ex_s (am_nb (m := 1) (pc1 := 27) (ls1 := [(3, .int r4), (0, .ref 97), (1, .int x0), (2, .int x1)]) (st1 := [.int 21, .ref 106, .int r10]) (H1 := H7) (k1 := 0) (n1 := 0) (by with_unfolding_all rfl)) ?_
    refine xe_ialdc (v := a11 106 21) s8 rfl rfl (show ¬ ((21 : Int32) < 0 ∨ 39 ≤ ((21 : Int32)).toNatClampNeg) by decide) rfl ?_
    refine ex_s (am_nb (m := 7) (pc1 := 37) (ls1 := [(3, .int r4), (0, .ref 97), (1, .int x0), (2, .int x1)]) (st1 := [.int (x1 - r4), .int 17, .int 13, .ref 97, .int (r10 * (a11 106 21))]) (H1 := H7) (k1 := 0) (n1 := 0) (by with_unfolding_all rfl)) ?_
    obtain ⟨r15, a16, e14, e⟩ := xb2_some e
    refine ex_cv1 (as := [.int 13, .int 17, .int (x1 - r4)]) (rest := [.int (r10 * (a11 106 21))]) rfl rfl rfl rfl (s8.obj rfl (by decide)) rfl (by with_unfolding_all rfl) (by with_unfolding_all rfl) (tf140_pairLength s8 e14) (fun H12 s13 => ?_)
    refine ex_s (am_nb (m := 1) (pc1 := 41) (ls1 := [(3, .int r4), (0, .ref 97), (1, .int x0), (2, .int x1)]) (st1 := [.int ((r10 * (a11 106 21)) + r15)]) (H1 := H12) (k1 := 0) (n1 := 0) (by with_unfolding_all rfl)) ?_
    cases e
    exact ex_r (st_iret rfl rfl rfl) s13

set_option maxRecDepth 100000 in
theorem tl145_3 {sL : Nat} {sx : Nat → Int32} {h b N : Nat} {T : List am_C} {R : Option Value} {F : am_H → Prop} {w1 : Int32} {w2 : Int32} {w3 : Int32} {z : Nat × xA} (k0 : z.1 = 0 → ∀ H2 : am_H, xS h b T z.2 H2 → am_E sL sx am_cs 145 39 [] [] H2 R F) (k1 : z.1 = 1 → ∀ H2 : am_H, xS h b T z.2 H2 → am_E sL sx am_cs 145 48 [(2, .int w2), (3, .int w3)] [] H2 R F) : ∀ (n : Nat) (v4 : Int32) (a : xA) (H : am_H), xS h b T a H → l145_3 N h b w1 w2 w3 n v4 a = some z → am_E sL sx am_cs 145 3 [(0, .ref 97), (1, .int w1), (2, .int w2), (3, .int w3), (4, .int v4)] [] H R F := by
  intro n
  induction n with
  | zero =>
    intro v4 a H hS e
    cases e
  | succ n ih =>
    intro v4 a H hS e
    unfold l145_3 at e
    refine ex_s (am_nb (m := 2) (pc1 := 6) (ls1 := [(0, .ref 97), (1, .int w1), (2, .int w2), (3, .int w3), (4, .int v4)]) (st1 := [.int w3, .int v4]) (H1 := H) (k1 := 0) (n1 := 0) (by with_unfolding_all rfl)) ?_
    refine ex_s (st_icmp rfl) ?_
    by_cases c1 : w3 ≤ v4
    · have e := (if_pos c1).symm.trans e
      refine ex_pc (if_pos c1) ?_
      cases e
      exact le_E (l1 := [(2, .int w2), (3, .int w3)]) ⟨rfl, rfl, trivial⟩ rfl (k1 rfl H hS)
    · have e := (if_neg c1).symm.trans e
      refine ex_pc (if_neg c1) ?_
      refine ex_s (am_nb (m := 1) (pc1 := 10) (ls1 := [(0, .ref 97), (1, .int w1), (2, .int w2), (3, .int w3), (4, .int v4)]) (st1 := [.ref 97]) (H1 := H) (k1 := 0) (n1 := 0) (by with_unfolding_all rfl)) ?_
      refine xe_get (v := .ref 100) hS rfl rfl (by decide) rfl ?_
      refine xe_get (v := .ref 101) hS rfl rfl (by decide) rfl ?_
      refine ex_s (am_nb (m := 2) (pc1 := 18) (ls1 := [(0, .ref 97), (1, .int w1), (2, .int w2), (3, .int w3), (4, .int v4)]) (st1 := [.ref 97, .int w1, .ref 101]) (H1 := H) (k1 := 0) (n1 := 0) (by with_unfolding_all rfl)) ?_
      refine xe_get (v := .int (a 97 9)) hS rfl rfl (by decide) rfl ?_
      refine ex_s (am_nb (m := 3) (pc1 := 25) (ls1 := [(0, .ref 97), (1, .int w1), (2, .int w2), (3, .int w3), (4, .int v4)]) (st1 := [.int ((w1 * (a 97 9)) + v4), .ref 101]) (H1 := H) (k1 := 0) (n1 := 0) (by with_unfolding_all rfl)) ?_
      obtain ⟨g2, e⟩ := xg_some e
      refine xe_iald hS rfl rfl g2 ?_
      refine ex_s (am_nb (m := 3) (pc1 := 30) (ls1 := [(0, .ref 97), (1, .int w1), (2, .int w2), (3, .int w3), (4, .int v4)]) (st1 := [.ref 97, .int ((a 101 (((w1 * (a 97 9)) + v4).toNatClampNeg)) >>> ((8 : Int32) &&& 31))]) (H1 := H) (k1 := 0) (n1 := 0) (by with_unfolding_all rfl)) ?_
      refine xe_get (v := .ref 100) hS rfl rfl (by decide) rfl ?_
      refine xe_get (v := .int (a 100 8)) hS rfl rfl (by decide) rfl ?_
      refine ex_s (st_icmp rfl) ?_
      by_cases c3 : ((a 101 (((w1 * (a 97 9)) + v4).toNatClampNeg)) >>> ((8 : Int32) &&& 31)) = (a 100 8)
      · have e := (if_pos c3).symm.trans e
        refine ex_pc (if_pos c3) ?_
        refine ex_s (am_nb (m := 2) (pc1 := 3) (ls1 := [(4, .int (v4 + 1)), (0, .ref 97), (1, .int w1), (2, .int w2), (3, .int w3)]) (st1 := []) (H1 := H) (k1 := 0) (n1 := 0) (by with_unfolding_all rfl)) ?_
        exact le_E (l1 := [(0, .ref 97), (1, .int w1), (2, .int w2), (3, .int w3), (4, .int (v4 + 1))]) ⟨rfl, rfl, rfl, rfl, rfl, trivial⟩ rfl (ih (v4 + 1) a H hS e)
      · have e := (if_neg c3).symm.trans e
        refine ex_pc (if_neg c3) ?_
        cases e
        exact le_E (l1 := []) trivial rfl (k0 rfl H hS)

set_option maxRecDepth 100000 in
theorem tf145_copyLength {sL : Nat} {sx : Nat → Int32} {h b N : Nat} {T : List am_C} {r : Int32} {a' : xA} {x0 : Int32} {x1 : Int32} {x2 : Int32} {a : xA} {H : am_H} (hS : xS h b T a H) (e : f145_copyLength N h b x0 x1 x2 a = some (r, a')) : am_E sL sx am_cs 145 0 [(0, .ref 97), (1, .int x0), (2, .int x1), (3, .int x2)] [] H (some (.int r)) (fun H1 => xS h b T a' H1) := by
  unfold f145_copyLength at e
  refine ex_s (am_nb (m := 2) (pc1 := 3) (ls1 := [(4, .int x1), (0, .ref 97), (1, .int x0), (2, .int x1), (3, .int x2)]) (st1 := []) (H1 := H) (k1 := 0) (n1 := 0) (by with_unfolding_all rfl)) ?_
  obtain ⟨z4, e5, e⟩ := Option.bind_eq_some_iff.mp e
  refine le_E (l1 := [(0, .ref 97), (1, .int x0), (2, .int x1), (3, .int x2), (4, .int x1)]) ⟨rfl, rfl, rfl, rfl, rfl, trivial⟩ rfl (tl145_3 (z := z4)  (fun uz4_0 Hz40 sz40 => ?_) (fun uz4_1 Hz41 sz41 => ?_) N x1 a H hS e5)
  · have e := (if_pos uz4_0).symm.trans e
    refine ex_s (am_nb (m := 1) (pc1 := 41) (ls1 := []) (st1 := [.int 1000000]) (H1 := Hz40) (k1 := 0) (n1 := 0) (by with_unfolding_all rfl)) ?_
    cases e
    exact ex_r (st_iret rfl rfl rfl) sz40
  · have e := (if_neg (show ¬ z4.1 = 0 by rw [uz4_1]; decide)).symm.trans e
    refine ex_s (am_nb (m := 3) (pc1 := 51) (ls1 := [(2, .int x1), (3, .int x2)]) (st1 := [.int (x2 - x1)]) (H1 := Hz41) (k1 := 0) (n1 := 0) (by with_unfolding_all rfl)) ?_
    cases e
    exact ex_r (st_iret rfl rfl rfl) sz41

set_option maxRecDepth 100000 in
theorem tf141_acrossLength {sL : Nat} {sx : Nat → Int32} {h b N : Nat} {T : List am_C} {r : Int32} {a' : xA} {x0 : Int32} {x1 : Int32} {x2 : Int32} {a : xA} {H : am_H} (hS : xS h b T a H) (e : f141_acrossLength N h b x0 x1 x2 a = some (r, a')) : am_E sL sx am_cs 141 0 [(0, .ref 97), (1, .int x0), (2, .int x1), (3, .int x2)] [] H (some (.int r)) (fun H1 => xS h b T a' H1) := by
  unfold f141_acrossLength at e
  refine ex_s (am_nb (m := 2) (pc1 := 2) (ls1 := [(0, .ref 97), (1, .int x0), (2, .int x1), (3, .int x2)]) (st1 := [.int x0, .int x1]) (H1 := H) (k1 := 0) (n1 := 0) (by with_unfolding_all rfl)) ?_
  refine ex_s (st_icmp rfl) ?_
  by_cases c1 : x0 < x1
  · have e := (if_pos c1).symm.trans e
    refine ex_pc (if_pos c1) ?_
    refine ex_s (am_nb (m := 6) (pc1 := 25) (ls1 := [(0, .ref 97), (1, .int x0), (2, .int x1), (3, .int x2)]) (st1 := [.int (x1 - x0), .int 17, .int 13, .ref 97]) (H1 := H) (k1 := 0) (n1 := 0) (by with_unfolding_all rfl)) ?_
    obtain ⟨r5, a6, e4, e⟩ := xb2_some e
    refine ex_cv1 (as := [.int 13, .int 17, .int (x1 - x0)]) (rest := []) rfl rfl rfl rfl (hS.obj rfl (by decide)) rfl (by with_unfolding_all rfl) (by with_unfolding_all rfl) (tf140_pairLength hS e4) (fun H2 s3 => ?_)
    refine ex_s (am_nb (m := 5) (pc1 := 35) (ls1 := [(4, .int r5), (0, .ref 97), (1, .int x0), (2, .int x1), (3, .int x2)]) (st1 := [.int x1, .int x0, .ref 97, .int r5]) (H1 := H2) (k1 := 0) (n1 := 0) (by with_unfolding_all rfl)) ?_
    obtain ⟨r10, a11, e9, e⟩ := xb2_some e
    refine ex_cv1 (as := [.int x0, .int x1]) (rest := [.int r5]) rfl rfl rfl rfl (s3.obj rfl (by decide)) rfl (by with_unfolding_all rfl) (by with_unfolding_all rfl) (tf142_tabsLength s3 e9) (fun H7 s8 => ?_)
    refine ex_s (am_nb (m := 4) (pc1 := 42) (ls1 := [(4, .int r5), (0, .ref 97), (1, .int x0), (2, .int x1), (3, .int x2)]) (st1 := [.int x1, .int x0, .int x2, .ref 97, .int r10, .int r5]) (H1 := H7) (k1 := 0) (n1 := 0) (by with_unfolding_all rfl)) ?_
    obtain ⟨r15, a16, e14, e⟩ := xb2_some e
    refine ex_cv1 (as := [.int x2, .int x0, .int x1]) (rest := [.int r10, .int r5]) rfl rfl rfl rfl (s8.obj rfl (by decide)) rfl (by with_unfolding_all rfl) (by with_unfolding_all rfl) (tf145_copyLength s8 e14) (fun H12 s13 => ?_)
    refine ex_s (am_nb (m := 2) (pc1 := 51) (ls1 := [(4, .int r5), (0, .ref 97), (1, .int x0), (2, .int x1), (3, .int x2)]) (st1 := [.int (xmin r5 (xmin r10 r15))]) (H1 := H12) (k1 := 0) (n1 := 0) (by with_unfolding_all rfl)) ?_
    cases e
    exact ex_r (st_iret rfl rfl rfl) s13
  · have e := (if_neg c1).symm.trans e
    refine ex_pc (if_neg c1) ?_
    refine ex_s (am_nb (m := 6) (pc1 := 13) (ls1 := [(0, .ref 97), (1, .int x0), (2, .int x1), (3, .int x2)]) (st1 := [.int (x0 - x1), .int 16, .int 12, .ref 97]) (H1 := H) (k1 := 0) (n1 := 0) (by with_unfolding_all rfl)) ?_
    obtain ⟨r20, a21, e19, e⟩ := xb2_some e
    refine ex_cv1 (as := [.int 12, .int 16, .int (x0 - x1)]) (rest := []) rfl rfl rfl rfl (hS.obj rfl (by decide)) rfl (by with_unfolding_all rfl) (by with_unfolding_all rfl) (tf140_pairLength hS e19) (fun H17 s18 => ?_)
    cases e
    exact ex_r (st_iret rfl rfl rfl) s18

set_option maxRecDepth 100000 in
theorem tj138_199 {sL : Nat} {sx : Nat → Int32} {h b N : Nat} {T : List am_C} {r : Int32} {a' : xA} {q1 : Int32} {q2 : Int32} {q3 : Int32} {q4 : Int32} {a : xA} {H : am_H} (hS : xS h b T a H) (e : j138_199 N h b q1 q2 q3 q4 a = some (r, a')) : am_E sL sx am_cs 138 199 [(0, .ref 97), (1, .int q1), (2, .int q2), (3, .int q3), (4, .int q4)] [] H (some (.int r)) (fun H1 => xS h b T a' H1) := by
  unfold j138_199 at e
  refine ex_s (am_nb (m := 1) (pc1 := 200) (ls1 := [(0, .ref 97), (1, .int q1), (2, .int q2), (3, .int q3), (4, .int q4)]) (st1 := [.ref 97]) (H1 := H) (k1 := 0) (n1 := 0) (by with_unfolding_all rfl)) ?_
  refine xe_get (v := .ref 106) hS rfl rfl (by decide) rfl ?_
  refine ex_s (am_nb (m := 1) (pc1 := 205) (ls1 := [(0, .ref 97), (1, .int q1), (2, .int q2), (3, .int q3), (4, .int q4)]) (st1 := [.int 8, .ref 106]) (H1 := H) (k1 := 0) (n1 := 0) (by with_unfolding_all rfl)) ?_
  refine xe_ialdc (v := a 106 8) hS rfl rfl (show ¬ ((8 : Int32) < 0 ∨ 39 ≤ ((8 : Int32)).toNatClampNeg) by decide) rfl ?_
  refine ex_s (am_nb (m := 3) (pc1 := 209) (ls1 := [(0, .ref 97), (1, .int q1), (2, .int q2), (3, .int q3), (4, .int q4)]) (st1 := [.int q1, .int 0, .ref 97, .int (a 106 8)]) (H1 := H) (k1 := 0) (n1 := 0) (by with_unfolding_all rfl)) ?_
  obtain ⟨r21, a22, e20, e⟩ := xb2_some e
  refine ex_cv1 (as := [.int 0, .int q1]) (rest := [.int (a 106 8)]) rfl rfl rfl rfl (hS.obj rfl (by decide)) rfl (by with_unfolding_all rfl) (by with_unfolding_all rfl) (tf139_downLength hS e20) (fun H18 s19 => ?_)
  refine ex_s (am_nb (m := 5) (pc1 := 217) (ls1 := [(0, .ref 97), (1, .int q1), (2, .int q2), (3, .int q3), (4, .int q4)]) (st1 := [.int q1, .int q2, .int 0, .ref 97, .int ((a 106 8) + r21)]) (H1 := H18) (k1 := 0) (n1 := 0) (by with_unfolding_all rfl)) ?_
  obtain ⟨r26, a27, e25, e⟩ := xb2_some e
  refine ex_cv1 (as := [.int 0, .int q2, .int q1]) (rest := [.int ((a 106 8) + r21)]) rfl rfl rfl rfl (s19.obj rfl (by decide)) rfl (by with_unfolding_all rfl) (by with_unfolding_all rfl) (tf141_acrossLength s19 e25) (fun H23 s24 => ?_)
  refine ex_s (am_nb (m := 4) (pc1 := 227) (ls1 := [(5, .int (((a 106 8) + r21) + r26)), (0, .ref 97), (1, .int q1), (2, .int q2), (3, .int q3), (4, .int q4)]) (st1 := [.int q4, .int (((a 106 8) + r21) + r26)]) (H1 := H23) (k1 := 0) (n1 := 0) (by with_unfolding_all rfl)) ?_
  have kk : am_E sL sx am_cs 138 236 [(5, .int (((a 106 8) + r21) + r26)), (0, .ref 97), (1, .int q1), (2, .int q2), (3, .int q3), (4, .int q4)] [.int (if q4 ≤ (((a 106 8) + r21) + r26) then (q3) else (6 : Int32))] H23 (some (.int r)) (fun H1 => xS h b T a' H1) := by
    cases e
    exact ex_r (st_iret rfl rfl rfl) s24
  refine ex_s (st_icmp rfl) ?_
  by_cases c28 : q4 ≤ (((a 106 8) + r21) + r26)
  · refine ex_pc (if_pos c28) ?_
    refine ex_s (am_nb (m := 1) (pc1 := 236) (ls1 := [(5, .int (((a 106 8) + r21) + r26)), (0, .ref 97), (1, .int q1), (2, .int q2), (3, .int q3), (4, .int q4)]) (st1 := [.int q3]) (H1 := H23) (k1 := 0) (n1 := 0) (by with_unfolding_all rfl)) ?_
    rw [if_pos c28] at kk
    exact kk
  · refine ex_pc (if_neg c28) ?_
    refine ex_s (am_nb (m := 2) (pc1 := 236) (ls1 := [(5, .int (((a 106 8) + r21) + r26)), (0, .ref 97), (1, .int q1), (2, .int q2), (3, .int q3), (4, .int q4)]) (st1 := [.int 6]) (H1 := H23) (k1 := 0) (n1 := 0) (by with_unfolding_all rfl)) ?_
    rw [if_neg c28] at kk
    exact kk

set_option maxRecDepth 100000 in
theorem tj138_166 {sL : Nat} {sx : Nat → Int32} {h b N : Nat} {T : List am_C} {r : Int32} {a' : xA} {q1 : Int32} {q2 : Int32} {q3 : Int32} {q4 : Int32} {q5 : Int32} {a : xA} {H : am_H} (hS : xS h b T a H) (e : j138_166 N h b q1 q2 q3 q4 q5 a = some (r, a')) : am_E sL sx am_cs 138 166 [(0, .ref 97), (1, .int q1), (2, .int q2), (3, .int q3), (4, .int q4), (5, .int q5)] [] H (some (.int r)) (fun H1 => xS h b T a' H1) := by
  unfold j138_166 at e
  refine ex_s (am_nb (m := 1) (pc1 := 167) (ls1 := [(0, .ref 97), (1, .int q1), (2, .int q2), (3, .int q3), (4, .int q4), (5, .int q5)]) (st1 := [.ref 97]) (H1 := H) (k1 := 0) (n1 := 0) (by with_unfolding_all rfl)) ?_
  refine xe_get (v := .ref 106) hS rfl rfl (by decide) rfl ?_
  refine ex_s (am_nb (m := 1) (pc1 := 172) (ls1 := [(0, .ref 97), (1, .int q1), (2, .int q2), (3, .int q3), (4, .int q4), (5, .int q5)]) (st1 := [.int 20, .ref 106]) (H1 := H) (k1 := 0) (n1 := 0) (by with_unfolding_all rfl)) ?_
  refine xe_ialdc (v := a 106 20) hS rfl rfl (show ¬ ((20 : Int32) < 0 ∨ 39 ≤ ((20 : Int32)).toNatClampNeg) by decide) rfl ?_
  refine ex_s (am_nb (m := 6) (pc1 := 180) (ls1 := [(0, .ref 97), (1, .int q1), (2, .int q2), (3, .int q3), (4, .int q4), (5, .int q5)]) (st1 := [.int q1, .int q2, .int 0, .ref 97, .int ((a 106 20) + q5)]) (H1 := H) (k1 := 0) (n1 := 0) (by with_unfolding_all rfl)) ?_
  obtain ⟨r44, a45, e43, e⟩ := xb2_some e
  refine ex_cv1 (as := [.int 0, .int q2, .int q1]) (rest := [.int ((a 106 20) + q5)]) rfl rfl rfl rfl (hS.obj rfl (by decide)) rfl (by with_unfolding_all rfl) (by with_unfolding_all rfl) (tf141_acrossLength hS e43) (fun H41 s42 => ?_)
  refine ex_s (am_nb (m := 4) (pc1 := 190) (ls1 := [(7, .int (((a 106 20) + q5) + r44)), (0, .ref 97), (1, .int q1), (2, .int q2), (3, .int q3), (4, .int q4), (5, .int q5)]) (st1 := [.int q4, .int (((a 106 20) + q5) + r44)]) (H1 := H41) (k1 := 0) (n1 := 0) (by with_unfolding_all rfl)) ?_
  refine ex_s (st_icmp rfl) ?_
  by_cases c47 : q4 ≤ (((a 106 20) + q5) + r44)
  · have e := (if_pos c47).symm.trans e
    refine ex_pc (if_pos c47) ?_
    exact le_E (l1 := [(0, .ref 97), (1, .int q1), (2, .int q2), (3, .int q3), (4, .int q4)]) ⟨rfl, rfl, rfl, rfl, rfl, trivial⟩ rfl (tj138_199  s42 e)
  · have e := (if_neg c47).symm.trans e
    refine ex_pc (if_neg c47) ?_
    refine ex_s (am_nb (m := 4) (pc1 := 199) (ls1 := [(4, .int (((a 106 20) + q5) + r44)), (3, .int 5), (7, .int (((a 106 20) + q5) + r44)), (0, .ref 97), (1, .int q1), (2, .int q2), (5, .int q5)]) (st1 := []) (H1 := H41) (k1 := 0) (n1 := 0) (by with_unfolding_all rfl)) ?_
    exact le_E (l1 := [(0, .ref 97), (1, .int q1), (2, .int q2), (3, .int 5), (4, .int (((a 106 20) + q5) + r44))]) ⟨rfl, rfl, rfl, rfl, rfl, trivial⟩ rfl (tj138_199  s42 e)

set_option maxRecDepth 100000 in
theorem tj138_114 {sL : Nat} {sx : Nat → Int32} {h b N : Nat} {T : List am_C} {r : Int32} {a' : xA} {q1 : Int32} {q2 : Int32} {q3 : Int32} {q4 : Int32} {a : xA} {H : am_H} (hS : xS h b T a H) (e : j138_114 N h b q1 q2 q3 q4 a = some (r, a')) : am_E sL sx am_cs 138 114 [(0, .ref 97), (1, .int q1), (2, .int q2), (3, .int q3), (4, .int q4)] [] H (some (.int r)) (fun H1 => xS h b T a' H1) := by
  unfold j138_114 at e
  refine ex_s (am_nb (m := 1) (pc1 := 115) (ls1 := [(0, .ref 97), (1, .int q1), (2, .int q2), (3, .int q3), (4, .int q4)]) (st1 := [.ref 97]) (H1 := H) (k1 := 0) (n1 := 0) (by with_unfolding_all rfl)) ?_
  refine xe_get (v := .int (a 97 14)) hS rfl rfl (by decide) rfl ?_
  refine ex_s (st_if rfl) ?_
  by_cases c17 : (a 97 14) = 0
  · have e := (if_pos c17).symm.trans e
    refine ex_pc (if_pos c17) ?_
    exact le_E (l1 := [(0, .ref 97), (1, .int q1), (2, .int q2), (3, .int q3), (4, .int q4)]) ⟨rfl, rfl, rfl, rfl, rfl, trivial⟩ rfl (tj138_199  hS e)
  · have e := (if_neg c17).symm.trans e
    refine ex_pc (if_neg c17) ?_
    refine ex_s (am_nb (m := 2) (pc1 := 123) (ls1 := [(0, .ref 97), (1, .int q1), (2, .int q2), (3, .int q3), (4, .int q4)]) (st1 := [.ref 97, .ref 97]) (H1 := H) (k1 := 0) (n1 := 0) (by with_unfolding_all rfl)) ?_
    refine xe_get (v := .ref 100) hS rfl rfl (by decide) rfl ?_
    refine xe_get (v := .int (a 100 6)) hS rfl rfl (by decide) rfl ?_
    refine ex_s (am_nb (m := 1) (pc1 := 130) (ls1 := [(0, .ref 97), (1, .int q1), (2, .int q2), (3, .int q3), (4, .int q4)]) (st1 := [.int q1, .int (a 100 6), .ref 97]) (H1 := H) (k1 := 0) (n1 := 0) (by with_unfolding_all rfl)) ?_
    obtain ⟨r32, a33, e31, e⟩ := xb2_some e
    refine ex_cv1 (as := [.int (a 100 6), .int q1]) (rest := []) rfl rfl rfl rfl (hS.obj rfl (by decide)) rfl (by with_unfolding_all rfl) (by with_unfolding_all rfl) (tf139_downLength hS e31) (fun H29 s30 => ?_)
    refine ex_s (am_nb (m := 4) (pc1 := 139) (ls1 := [(5, .int r32), (0, .ref 97), (1, .int q1), (2, .int q2), (3, .int q3), (4, .int q4)]) (st1 := [.ref 97, .ref 97, .int r32]) (H1 := H29) (k1 := 0) (n1 := 0) (by with_unfolding_all rfl)) ?_
    refine xe_get (v := .ref 100) s30 rfl rfl (by decide) rfl ?_
    refine xe_get (v := .int (a33 100 7)) s30 rfl rfl (by decide) rfl ?_
    refine ex_s (am_nb (m := 2) (pc1 := 147) (ls1 := [(5, .int r32), (0, .ref 97), (1, .int q1), (2, .int q2), (3, .int q3), (4, .int q4)]) (st1 := [.int q1, .int q2, .int (a33 100 7), .ref 97, .int r32]) (H1 := H29) (k1 := 0) (n1 := 0) (by with_unfolding_all rfl)) ?_
    obtain ⟨r37, a38, e36, e⟩ := xb2_some e
    refine ex_cv1 (as := [.int (a33 100 7), .int q2, .int q1]) (rest := [.int r32]) rfl rfl rfl rfl (s30.obj rfl (by decide)) rfl (by with_unfolding_all rfl) (by with_unfolding_all rfl) (tf141_acrossLength s30 e36) (fun H34 s35 => ?_)
    refine ex_s (am_nb (m := 4) (pc1 := 157) (ls1 := [(6, .int (r32 + r37)), (5, .int r32), (0, .ref 97), (1, .int q1), (2, .int q2), (3, .int q3), (4, .int q4)]) (st1 := [.int q4, .int (r32 + r37)]) (H1 := H34) (k1 := 0) (n1 := 0) (by with_unfolding_all rfl)) ?_
    refine ex_s (st_icmp rfl) ?_
    by_cases c40 : q4 ≤ (r32 + r37)
    · have e := (if_pos c40).symm.trans e
      refine ex_pc (if_pos c40) ?_
      exact le_E (l1 := [(0, .ref 97), (1, .int q1), (2, .int q2), (3, .int q3), (4, .int q4), (5, .int r32)]) ⟨rfl, rfl, rfl, rfl, rfl, rfl, trivial⟩ rfl (tj138_166  s35 e)
    · have e := (if_neg c40).symm.trans e
      refine ex_pc (if_neg c40) ?_
      refine ex_s (am_nb (m := 4) (pc1 := 166) (ls1 := [(4, .int (r32 + r37)), (3, .int 4), (6, .int (r32 + r37)), (5, .int r32), (0, .ref 97), (1, .int q1), (2, .int q2)]) (st1 := []) (H1 := H34) (k1 := 0) (n1 := 0) (by with_unfolding_all rfl)) ?_
      exact le_E (l1 := [(0, .ref 97), (1, .int q1), (2, .int q2), (3, .int 4), (4, .int (r32 + r37)), (5, .int r32)]) ⟨rfl, rfl, rfl, rfl, rfl, rfl, trivial⟩ rfl (tj138_166  s35 e)
