/-! The program does what the functions say. -/
set_option maxRecDepth 100000 in
theorem tf226_moveOrErase {sL : Nat} {sx : Nat → Int32} {h b N : Nat} {T : List am_C} {a' : xA} {x0 : Int32} {a : xA} {H : am_H} (hS : xS h b T a H) (e : f226_moveOrErase N h b x0 a = some a') : am_E sL sx am_cs 226 0 [(0, .ref 129), (1, .int x0)] [] H none (fun H1 => xS h b T a' H1) := by
  unfold f226_moveOrErase at e
  refine ex_s (am_nb (m := 1) (pc1 := 1) (ls1 := [(0, .ref 129), (1, .int x0)]) (st1 := [.ref 129]) (H1 := H) (k1 := 0) (n1 := 0) (by with_unfolding_all rfl)) ?_
  refine xe_get (v := .ref 135) hS rfl rfl (by decide) rfl ?_
  refine ex_s (am_nb (m := 1) (pc1 := 5) (ls1 := [(0, .ref 129), (1, .int x0)]) (st1 := [.int 0, .ref 135]) (H1 := H) (k1 := 0) (n1 := 0) (by with_unfolding_all rfl)) ?_
  refine xe_ialdc (v := a 135 0) hS rfl rfl (show ¬ ((0 : Int32) < 0 ∨ 8 ≤ ((0 : Int32)).toNatClampNeg) by decide) rfl ?_
  refine ex_s (am_nb (m := 2) (pc1 := 8) (ls1 := [(2, .int (a 135 0)), (0, .ref 129), (1, .int x0)]) (st1 := [.ref 129]) (H1 := H) (k1 := 0) (n1 := 0) (by with_unfolding_all rfl)) ?_
  refine xe_get (v := .int (a 129 12)) hS rfl rfl (by decide) rfl ?_
  refine ex_s (am_nb (m := 1) (pc1 := 12) (ls1 := [(2, .int (a 135 0)), (0, .ref 129), (1, .int x0)]) (st1 := [.int 1, .int (a 129 12)]) (H1 := H) (k1 := 0) (n1 := 0) (by with_unfolding_all rfl)) ?_
  refine ex_s (st_icmp rfl) ?_
  by_cases c2 : (a 129 12) ≤ 1
  · have e := (if_pos c2).symm.trans e
    refine ex_pc (if_pos c2) ?_
    refine ex_s (am_nb (m := 1) (pc1 := 25) (ls1 := [(2, .int (a 135 0)), (0, .ref 129), (1, .int x0)]) (st1 := [.int 0]) (H1 := H) (k1 := 0) (n1 := 0) (by with_unfolding_all rfl)) ?_
    exact le_E (l1 := [(0, .ref 129), (1, .int x0), (2, .int (a 135 0))]) ⟨rfl, rfl, rfl, trivial⟩ rfl (tj226_25  hS e)
  · have e := (if_neg c2).symm.trans e
    refine ex_pc (if_neg c2) ?_
    refine ex_s (am_nb (m := 1) (pc1 := 16) (ls1 := [(2, .int (a 135 0)), (0, .ref 129), (1, .int x0)]) (st1 := [.ref 129]) (H1 := H) (k1 := 0) (n1 := 0) (by with_unfolding_all rfl)) ?_
    refine xe_get (v := .ref 135) hS rfl rfl (by decide) rfl ?_
    refine ex_s (am_nb (m := 1) (pc1 := 20) (ls1 := [(2, .int (a 135 0)), (0, .ref 129), (1, .int x0)]) (st1 := [.int 1, .ref 135]) (H1 := H) (k1 := 0) (n1 := 0) (by with_unfolding_all rfl)) ?_
    refine xe_ialdc (v := a 135 1) hS rfl rfl (show ¬ ((1 : Int32) < 0 ∨ 8 ≤ ((1 : Int32)).toNatClampNeg) by decide) rfl ?_
    refine ex_s (am_nb (m := 1) (pc1 := 25) (ls1 := [(2, .int (a 135 0)), (0, .ref 129), (1, .int x0)]) (st1 := [.int (a 135 1)]) (H1 := H) (k1 := 0) (n1 := 0) (by with_unfolding_all rfl)) ?_
    exact le_E (l1 := [(0, .ref 129), (1, .int x0), (2, .int (a 135 0))]) ⟨rfl, rfl, rfl, trivial⟩ rfl (tj226_25  hS e)

set_option maxRecDepth 100000 in
theorem tj223_149 {sL : Nat} {sx : Nat → Int32} {h b N : Nat} {T : List am_C} {a' : xA} {a : xA} {H : am_H} (hS : xS h b T a H) (e : j223_149 N h b a = some a') : am_E sL sx am_cs 223 149 [(0, .ref 129)] [] H none (fun H1 => xS h b T a' H1) := by
  unfold j223_149 at e
  refine ex_s (am_nb (m := 2) (pc1 := 151) (ls1 := [(0, .ref 129)]) (st1 := [.int 4, .ref 129]) (H1 := H) (k1 := 0) (n1 := 0) (by with_unfolding_all rfl)) ?_
  obtain ⟨a23, ha23, e⟩ := xw_some e
  refine xe_put (w := 4) hS rfl rfl (by decide) rfl rfl rfl rfl (fun H24 s25 => ?_)
  have s25 : xS h b T a23 H24 := by rw [ha23]; exact s25
  cases e
  exact ex_r (st_vret rfl rfl) s25

set_option maxRecDepth 100000 in
theorem tj223_131 {sL : Nat} {sx : Nat → Int32} {h b N : Nat} {T : List am_C} {a' : xA} {q1 : Int32} {q2 : Int32} {a : xA} {H : am_H} (hS : xS h b T a H) (e : j223_131 N h b q1 q2 a = some a') : am_E sL sx am_cs 223 131 [(0, .ref 129), (1, .int q1), (2, .int q2)] [] H none (fun H1 => xS h b T a' H1) := by
  unfold j223_131 at e
  refine ex_s (am_nb (m := 2) (pc1 := 134) (ls1 := [(0, .ref 129), (1, .int q1), (2, .int q2)]) (st1 := [.int 63, .int q1]) (H1 := H) (k1 := 0) (n1 := 0) (by with_unfolding_all rfl)) ?_
  refine ex_s (st_icmp rfl) ?_
  by_cases c20 : q1 = 63
  · have e := (if_pos c20).symm.trans e
    refine ex_pc (if_pos c20) ?_
    refine ex_s (am_nb (m := 1) (pc1 := 138) (ls1 := [(0, .ref 129), (1, .int q1), (2, .int q2)]) (st1 := [.int q2]) (H1 := H) (k1 := 0) (n1 := 0) (by with_unfolding_all rfl)) ?_
    refine ex_s (st_if rfl) ?_
    by_cases c22 : q2 = 0
    · have e := (if_pos c22).symm.trans e
      refine ex_pc (if_pos c22) ?_
      exact le_E (l1 := [(0, .ref 129)]) ⟨rfl, trivial⟩ rfl (tj223_149  hS e)
    · have e := (if_neg c22).symm.trans e
      refine ex_pc (if_neg c22) ?_
      refine ex_s (am_nb (m := 2) (pc1 := 143) (ls1 := [(0, .ref 129), (1, .int q1), (2, .int q2)]) (st1 := [.int 1, .ref 129]) (H1 := H) (k1 := 0) (n1 := 0) (by with_unfolding_all rfl)) ?_
      obtain ⟨a26, ha26, e⟩ := xw_some e
      refine xe_put (w := 1) hS rfl rfl (by decide) rfl rfl rfl rfl (fun H27 s28 => ?_)
      have s28 : xS h b T a26 H27 := by rw [ha26]; exact s28
      refine ex_s (am_nb (m := 1) (pc1 := 154) (ls1 := [(0, .ref 129), (1, .int q1), (2, .int q2)]) (st1 := []) (H1 := H27) (k1 := 0) (n1 := 0) (by with_unfolding_all rfl)) ?_
      cases e
      exact ex_r (st_vret rfl rfl) s28
  · have e := (if_neg c20).symm.trans e
    refine ex_pc (if_neg c20) ?_
    exact le_E (l1 := [(0, .ref 129)]) ⟨rfl, trivial⟩ rfl (tj223_149  hS e)

set_option maxRecDepth 100000 in
theorem tf223_readSequence {sL : Nat} {sx : Nat → Int32} {h b N : Nat} {T : List am_C} {a' : xA} {x0 : Int32} {a : xA} {H : am_H} (hS : xS h b T a H) (e : f223_readSequence N h b x0 a = some a') : am_E sL sx am_cs 223 0 [(0, .ref 129), (1, .int x0)] [] H none (fun H1 => xS h b T a' H1) := by
  unfold f223_readSequence at e
  refine ex_s (am_nb (m := 1) (pc1 := 1) (ls1 := [(0, .ref 129), (1, .int x0)]) (st1 := [.ref 129]) (H1 := H) (k1 := 0) (n1 := 0) (by with_unfolding_all rfl)) ?_
  refine xe_get (v := .int (a 129 14)) hS rfl rfl (by decide) rfl ?_
  refine ex_s (am_nb (m := 3) (pc1 := 7) (ls1 := [(2, .int (a 129 14)), (0, .ref 129), (1, .int x0)]) (st1 := [.int 0, .ref 129]) (H1 := H) (k1 := 0) (n1 := 0) (by with_unfolding_all rfl)) ?_
  obtain ⟨a1, ha1, e⟩ := xw_some e
  refine xe_put (w := 0) hS rfl rfl (by decide) rfl rfl rfl rfl (fun H2 s3 => ?_)
  have s3 : xS h b T a1 H2 := by rw [ha1]; exact s3
  refine ex_s (am_nb (m := 2) (pc1 := 13) (ls1 := [(2, .int (a 129 14)), (0, .ref 129), (1, .int x0)]) (st1 := [.int 64, .int x0]) (H1 := H2) (k1 := 0) (n1 := 0) (by with_unfolding_all rfl)) ?_
  refine ex_s (st_icmp rfl) ?_
  by_cases c4 : x0 < 64
  · have e := (if_pos c4).symm.trans e
    refine ex_pc (if_pos c4) ?_
    refine ex_s (am_nb (m := 1) (pc1 := 45) (ls1 := [(2, .int (a 129 14)), (0, .ref 129), (1, .int x0)]) (st1 := [.int x0]) (H1 := H2) (k1 := 0) (n1 := 0) (by with_unfolding_all rfl)) ?_
    obtain ⟨r8, a9, e7, e⟩ := xb2_some e
    refine ex_cs1 (as := [.int x0]) (rest := []) rfl (by decide) rfl rfl (by with_unfolding_all rfl) (by with_unfolding_all rfl) (tf35_isDigit s3 e7) (fun H5 s6 => ?_)
    refine ex_s (st_if rfl) ?_
    by_cases c10 : r8 = 0
    · have e := (if_pos c10).symm.trans e
      refine ex_pc (if_pos c10) ?_
      refine ex_s (am_nb (m := 2) (pc1 := 96) (ls1 := [(2, .int (a 129 14)), (0, .ref 129), (1, .int x0)]) (st1 := [.int 59, .int x0]) (H1 := H5) (k1 := 0) (n1 := 0) (by with_unfolding_all rfl)) ?_
      refine ex_s (st_icmp rfl) ?_
      by_cases c13 : x0 = 59
      · have e := (if_pos c13).symm.trans e
        refine ex_pc (if_pos c13) ?_
        refine ex_s (am_nb (m := 1) (pc1 := 100) (ls1 := [(2, .int (a 129 14)), (0, .ref 129), (1, .int x0)]) (st1 := [.ref 129]) (H1 := H5) (k1 := 0) (n1 := 0) (by with_unfolding_all rfl)) ?_
        refine xe_get (v := .int (a9 129 12)) s6 rfl rfl (by decide) rfl ?_
        refine ex_s (am_nb (m := 1) (pc1 := 105) (ls1 := [(2, .int (a 129 14)), (0, .ref 129), (1, .int x0)]) (st1 := [.int 8, .int (a9 129 12)]) (H1 := H5) (k1 := 0) (n1 := 0) (by with_unfolding_all rfl)) ?_
        refine ex_s (st_icmp rfl) ?_
        by_cases c17 : 8 ≤ (a9 129 12)
        · have e := (if_pos c17).symm.trans e
          refine ex_pc (if_pos c17) ?_
          exact le_E (l1 := [(0, .ref 129), (1, .int x0), (2, .int (a 129 14))]) ⟨rfl, rfl, rfl, trivial⟩ rfl (tj223_131  s6 e)
        · have e := (if_neg c17).symm.trans e
          refine ex_pc (if_neg c17) ?_
          refine ex_s (am_nb (m := 1) (pc1 := 109) (ls1 := [(2, .int (a 129 14)), (0, .ref 129), (1, .int x0)]) (st1 := [.ref 129]) (H1 := H5) (k1 := 0) (n1 := 0) (by with_unfolding_all rfl)) ?_
          refine xe_get (v := .ref 135) s6 rfl rfl (by decide) rfl ?_
          refine ex_s (am_nb (m := 1) (pc1 := 113) (ls1 := [(2, .int (a 129 14)), (0, .ref 129), (1, .int x0)]) (st1 := [.ref 129, .ref 135]) (H1 := H5) (k1 := 0) (n1 := 0) (by with_unfolding_all rfl)) ?_
          refine xe_get (v := .int (a9 129 12)) s6 rfl rfl (by decide) rfl ?_
          refine ex_s (am_nb (m := 1) (pc1 := 117) (ls1 := [(2, .int (a 129 14)), (0, .ref 129), (1, .int x0)]) (st1 := [.int 0, .int (a9 129 12), .ref 135]) (H1 := H5) (k1 := 0) (n1 := 0) (by with_unfolding_all rfl)) ?_
          obtain ⟨g32, e⟩ := xg_some e
          obtain ⟨a29, ha29, e⟩ := xw_some e
          refine xe_iast s6 rfl rfl g32 (fun H30 s31 => ?_)
          have s31 : xS h b T a29 H30 := by rw [ha29]; exact s31
          refine ex_s (am_nb (m := 2) (pc1 := 120) (ls1 := [(2, .int (a 129 14)), (0, .ref 129), (1, .int x0)]) (st1 := [.ref 129, .ref 129]) (H1 := H30) (k1 := 0) (n1 := 0) (by with_unfolding_all rfl)) ?_
          refine xe_get (v := .int (a29 129 12)) s31 rfl rfl (by decide) rfl ?_
          refine ex_s (am_nb (m := 2) (pc1 := 125) (ls1 := [(2, .int (a 129 14)), (0, .ref 129), (1, .int x0)]) (st1 := [.int ((a29 129 12) + 1), .ref 129]) (H1 := H30) (k1 := 0) (n1 := 0) (by with_unfolding_all rfl)) ?_
          obtain ⟨a33, ha33, e⟩ := xw_some e
          refine xe_put (w := ((a29 129 12) + 1)) s31 rfl rfl (by decide) rfl rfl rfl rfl (fun H34 s35 => ?_)
          have s35 : xS h b T a33 H34 := by rw [ha33]; exact s35
          refine ex_s (am_nb (m := 1) (pc1 := 154) (ls1 := [(2, .int (a 129 14)), (0, .ref 129), (1, .int x0)]) (st1 := []) (H1 := H34) (k1 := 0) (n1 := 0) (by with_unfolding_all rfl)) ?_
          cases e
          exact ex_r (st_vret rfl rfl) s35
      · have e := (if_neg c13).symm.trans e
        refine ex_pc (if_neg c13) ?_
        exact le_E (l1 := [(0, .ref 129), (1, .int x0), (2, .int (a 129 14))]) ⟨rfl, rfl, rfl, trivial⟩ rfl (tj223_131  s6 e)
    · have e := (if_neg c10).symm.trans e
      refine ex_pc (if_neg c10) ?_
      refine ex_s (am_nb (m := 1) (pc1 := 52) (ls1 := [(2, .int (a 129 14)), (0, .ref 129), (1, .int x0)]) (st1 := [.ref 129]) (H1 := H5) (k1 := 0) (n1 := 0) (by with_unfolding_all rfl)) ?_
      refine xe_get (v := .int (a9 129 12)) s6 rfl rfl (by decide) rfl ?_
      refine ex_s (am_nb (m := 4) (pc1 := 60) (ls1 := [(2, .int (a 129 14)), (0, .ref 129), (1, .int x0)]) (st1 := [.int 7, .int 0, .int ((a9 129 12) - 1)]) (H1 := H5) (k1 := 0) (n1 := 0) (by with_unfolding_all rfl)) ?_
      obtain ⟨r39, a40, e38, e⟩ := xb2_some e
      refine ex_cs1 (as := [.int ((a9 129 12) - 1), .int 0, .int 7]) (rest := []) rfl (by decide) rfl rfl (by with_unfolding_all rfl) (by with_unfolding_all rfl) (tf10_nearest s6 e38) (fun H36 s37 => ?_)
      refine ex_s (am_nb (m := 2) (pc1 := 65) (ls1 := [(3, .int r39), (2, .int (a 129 14)), (0, .ref 129), (1, .int x0)]) (st1 := [.ref 129]) (H1 := H36) (k1 := 0) (n1 := 0) (by with_unfolding_all rfl)) ?_
      refine xe_get (v := .ref 135) s37 rfl rfl (by decide) rfl ?_
      refine ex_s (am_nb (m := 3) (pc1 := 73) (ls1 := [(3, .int r39), (2, .int (a 129 14)), (0, .ref 129), (1, .int x0)]) (st1 := [.ref 129, .int 9999, .int r39, .ref 135]) (H1 := H36) (k1 := 0) (n1 := 0) (by with_unfolding_all rfl)) ?_
      refine xe_get (v := .ref 135) s37 rfl rfl (by decide) rfl ?_
      refine ex_s (am_nb (m := 1) (pc1 := 77) (ls1 := [(3, .int r39), (2, .int (a 129 14)), (0, .ref 129), (1, .int x0)]) (st1 := [.int r39, .ref 135, .int 9999, .int r39, .ref 135]) (H1 := H36) (k1 := 0) (n1 := 0) (by with_unfolding_all rfl)) ?_
      obtain ⟨g41, e⟩ := xg_some e
      refine xe_iald s37 rfl rfl g41 ?_
      refine ex_s (am_nb (m := 7) (pc1 := 89) (ls1 := [(3, .int r39), (2, .int (a 129 14)), (0, .ref 129), (1, .int x0)]) (st1 := [.int (xmin 9999 ((((a40 135 (r39.toNatClampNeg)) * 10) + x0) - 48)), .int r39, .ref 135]) (H1 := H36) (k1 := 0) (n1 := 0) (by with_unfolding_all rfl)) ?_
      obtain ⟨a42, ha42, e⟩ := xw_some e
      refine xe_iast s37 rfl rfl g41 (fun H43 s44 => ?_)
      have s44 : xS h b T a42 H43 := by rw [ha42]; exact s44
      refine ex_s (am_nb (m := 1) (pc1 := 154) (ls1 := [(3, .int r39), (2, .int (a 129 14)), (0, .ref 129), (1, .int x0)]) (st1 := []) (H1 := H43) (k1 := 0) (n1 := 0) (by with_unfolding_all rfl)) ?_
      cases e
      exact ex_r (st_vret rfl rfl) s44
  · have e := (if_neg c4).symm.trans e
    refine ex_pc (if_neg c4) ?_
    refine ex_s (am_nb (m := 2) (pc1 := 18) (ls1 := [(2, .int (a 129 14)), (0, .ref 129), (1, .int x0)]) (st1 := [.int 0, .ref 129]) (H1 := H2) (k1 := 0) (n1 := 0) (by with_unfolding_all rfl)) ?_
    obtain ⟨a45, ha45, e⟩ := xw_some e
    refine xe_put (w := 0) s3 rfl rfl (by decide) rfl rfl rfl rfl (fun H46 s47 => ?_)
    have s47 : xS h b T a45 H46 := by rw [ha45]; exact s47
    refine ex_s (am_nb (m := 1) (pc1 := 22) (ls1 := [(2, .int (a 129 14)), (0, .ref 129), (1, .int x0)]) (st1 := [.ref 129]) (H1 := H46) (k1 := 0) (n1 := 0) (by with_unfolding_all rfl)) ?_
    refine xe_get (v := .int (a45 129 13)) s47 rfl rfl (by decide) rfl ?_
    refine ex_s (st_if rfl) ?_
    by_cases c48 : (a45 129 13) = 0
    · have e := (if_pos c48).symm.trans e
      refine ex_pc (if_pos c48) ?_
      refine ex_s (am_nb (m := 2) (pc1 := 38) (ls1 := [(2, .int (a 129 14)), (0, .ref 129), (1, .int x0)]) (st1 := [.int x0, .ref 129]) (H1 := H46) (k1 := 0) (n1 := 0) (by with_unfolding_all rfl)) ?_
      obtain ⟨a52, e51, e⟩ := xb1_some e
      refine ex_cv0 (as := [.int x0]) (rest := []) rfl rfl rfl rfl (s47.obj rfl (by decide)) rfl (by with_unfolding_all rfl) (by with_unfolding_all rfl) (tf226_moveOrErase s47 e51) (fun H49 s50 => ?_)
      refine ex_s (am_nb (m := 1) (pc1 := 154) (ls1 := [(2, .int (a 129 14)), (0, .ref 129), (1, .int x0)]) (st1 := []) (H1 := H49) (k1 := 0) (n1 := 0) (by with_unfolding_all rfl)) ?_
      cases e
      exact ex_r (st_vret rfl rfl) s50
    · have e := (if_neg c48).symm.trans e
      refine ex_pc (if_neg c48) ?_
      refine ex_s (am_nb (m := 2) (pc1 := 30) (ls1 := [(2, .int (a 129 14)), (0, .ref 129), (1, .int x0)]) (st1 := [.int x0, .ref 129]) (H1 := H46) (k1 := 0) (n1 := 0) (by with_unfolding_all rfl)) ?_
      obtain ⟨a56, e55, e⟩ := xb1_some e
      refine ex_cv0 (as := [.int x0]) (rest := []) rfl rfl rfl rfl (s47.obj rfl (by decide)) rfl (by with_unfolding_all rfl) (by with_unfolding_all rfl) (tf224_turnPrivateModes s47 e55) (fun H53 s54 => ?_)
      refine ex_s (am_nb (m := 1) (pc1 := 154) (ls1 := [(2, .int (a 129 14)), (0, .ref 129), (1, .int x0)]) (st1 := []) (H1 := H53) (k1 := 0) (n1 := 0) (by with_unfolding_all rfl)) ?_
      cases e
      exact ex_r (st_vret rfl rfl) s54

set_option maxRecDepth 100000 in
theorem tj204_13 {sL : Nat} {sx : Nat → Int32} {h b N : Nat} {T : List am_C} {a' : xA} {a : xA} {H : am_H} (hS : xS h b T a H) (e : j204_13 N h b a = some a') : am_E sL sx am_cs 204 13 [(0, .ref 129)] [] H none (fun H1 => xS h b T a' H1) := by
  unfold j204_13 at e
  refine ex_s (am_nb (m := 2) (pc1 := 15) (ls1 := [(0, .ref 129)]) (st1 := [.int 0, .ref 129]) (H1 := H) (k1 := 0) (n1 := 0) (by with_unfolding_all rfl)) ?_
  obtain ⟨a5, ha5, e⟩ := xw_some e
  refine xe_put (w := 0) hS rfl rfl (by decide) rfl rfl rfl rfl (fun H6 s7 => ?_)
  have s7 : xS h b T a5 H6 := by rw [ha5]; exact s7
  refine ex_s (am_nb (m := 1) (pc1 := 19) (ls1 := [(0, .ref 129)]) (st1 := [.ref 129]) (H1 := H6) (k1 := 0) (n1 := 0) (by with_unfolding_all rfl)) ?_
  refine xe_get (v := .ref 136) s7 rfl rfl (by decide) rfl ?_
  refine ex_s (am_nb (m := 1) (pc1 := 25) (ls1 := [(0, .ref 129)]) (st1 := [.int 225, .ref 136]) (H1 := H6) (k1 := 0) (n1 := 0) (by with_unfolding_all rfl)) ?_
  obtain ⟨a11, e10, e⟩ := xb1_some e
  refine ex_cv0 (as := [.int 225]) (rest := []) rfl rfl rfl rfl (s7.obj rfl (by decide)) rfl (by with_unfolding_all rfl) (by with_unfolding_all rfl) (tf205_printSign s7 e10) (fun H8 s9 => ?_)
  refine ex_s (am_nb (m := 1) (pc1 := 189) (ls1 := [(0, .ref 129)]) (st1 := []) (H1 := H8) (k1 := 0) (n1 := 0) (by with_unfolding_all rfl)) ?_
  cases e
  exact ex_r (st_vret rfl rfl) s9

set_option maxRecDepth 100000 in
theorem tf204_readByte {sL : Nat} {sx : Nat → Int32} {h b N : Nat} {T : List am_C} {a' : xA} {x0 : Int32} {a : xA} {H : am_H} (hS : xS h b T a H) (e : f204_readByte N h b x0 a = some a') : am_E sL sx am_cs 204 0 [(0, .ref 129), (1, .int x0)] [] H none (fun H1 => xS h b T a' H1) := by
  unfold f204_readByte at e
  refine ex_s (am_nb (m := 2) (pc1 := 4) (ls1 := [(0, .ref 129), (1, .int x0)]) (st1 := [.int 256, .int x0]) (H1 := H) (k1 := 0) (n1 := 0) (by with_unfolding_all rfl)) ?_
  refine ex_s (st_icmp rfl) ?_
  by_cases c4 : x0 = 256
  · have e := (if_pos c4).symm.trans e
    refine ex_pc (if_pos c4) ?_
    exact le_E (l1 := [(0, .ref 129)]) ⟨rfl, trivial⟩ rfl (tj204_13  hS e)
  · have e := (if_neg c4).symm.trans e
    refine ex_pc (if_neg c4) ?_
    refine ex_s (am_nb (m := 2) (pc1 := 10) (ls1 := [(0, .ref 129), (1, .int x0)]) (st1 := [.int 26, .int x0]) (H1 := H) (k1 := 0) (n1 := 0) (by with_unfolding_all rfl)) ?_
    refine ex_s (st_icmp rfl) ?_
    by_cases c12 : x0 = 26
    · have e := (if_pos c12).symm.trans e
      refine ex_pc (if_pos c12) ?_
      exact le_E (l1 := [(0, .ref 129)]) ⟨rfl, trivial⟩ rfl (tj204_13  hS e)
    · have e := (if_neg c12).symm.trans e
      refine ex_pc (if_neg c12) ?_
      refine ex_s (am_nb (m := 2) (pc1 := 34) (ls1 := [(0, .ref 129), (1, .int x0)]) (st1 := [.int 24, .int x0]) (H1 := H) (k1 := 0) (n1 := 0) (by with_unfolding_all rfl)) ?_
      refine ex_s (st_icmp rfl) ?_
      by_cases c13 : x0 = 24
      · have e := (if_pos c13).symm.trans e
        refine ex_pc (if_pos c13) ?_
        refine ex_s (am_nb (m := 2) (pc1 := 39) (ls1 := [(0, .ref 129), (1, .int x0)]) (st1 := [.int 0, .ref 129]) (H1 := H) (k1 := 0) (n1 := 0) (by with_unfolding_all rfl)) ?_
        obtain ⟨a14, ha14, e⟩ := xw_some e
        refine xe_put (w := 0) hS rfl rfl (by decide) rfl rfl rfl rfl (fun H15 s16 => ?_)
        have s16 : xS h b T a14 H15 := by rw [ha14]; exact s16
        refine ex_s (am_nb (m := 1) (pc1 := 189) (ls1 := [(0, .ref 129), (1, .int x0)]) (st1 := []) (H1 := H15) (k1 := 0) (n1 := 0) (by with_unfolding_all rfl)) ?_
        cases e
        exact ex_r (st_vret rfl rfl) s16
      · have e := (if_neg c13).symm.trans e
        refine ex_pc (if_neg c13) ?_
        refine ex_s (am_nb (m := 2) (pc1 := 48) (ls1 := [(0, .ref 129), (1, .int x0)]) (st1 := [.int 27, .int x0]) (H1 := H) (k1 := 0) (n1 := 0) (by with_unfolding_all rfl)) ?_
        refine ex_s (st_icmp rfl) ?_
        by_cases c17 : x0 = 27
        · have e := (if_pos c17).symm.trans e
          refine ex_pc (if_pos c17) ?_
          refine ex_s (am_nb (m := 2) (pc1 := 53) (ls1 := [(0, .ref 129), (1, .int x0)]) (st1 := [.int 1, .ref 129]) (H1 := H) (k1 := 0) (n1 := 0) (by with_unfolding_all rfl)) ?_
          obtain ⟨a18, ha18, e⟩ := xw_some e
          refine xe_put (w := 1) hS rfl rfl (by decide) rfl rfl rfl rfl (fun H19 s20 => ?_)
          have s20 : xS h b T a18 H19 := by rw [ha18]; exact s20
          refine ex_s (am_nb (m := 2) (pc1 := 58) (ls1 := [(0, .ref 129), (1, .int x0)]) (st1 := [.int 0, .ref 129]) (H1 := H19) (k1 := 0) (n1 := 0) (by with_unfolding_all rfl)) ?_
          obtain ⟨a21, ha21, e⟩ := xw_some e
          refine xe_put (w := 0) s20 rfl rfl (by decide) rfl rfl rfl rfl (fun H22 s23 => ?_)
          have s23 : xS h b T a21 H22 := by rw [ha21]; exact s23
          refine ex_s (am_nb (m := 1) (pc1 := 189) (ls1 := [(0, .ref 129), (1, .int x0)]) (st1 := []) (H1 := H22) (k1 := 0) (n1 := 0) (by with_unfolding_all rfl)) ?_
          cases e
          exact ex_r (st_vret rfl rfl) s23
        · have e := (if_neg c17).symm.trans e
          refine ex_pc (if_neg c17) ?_
          refine ex_s (am_nb (m := 1) (pc1 := 65) (ls1 := [(0, .ref 129), (1, .int x0)]) (st1 := [.int x0]) (H1 := H) (k1 := 0) (n1 := 0) (by with_unfolding_all rfl)) ?_
          refine ex_s (st_if rfl) ?_
          by_cases c28 : x0 = 0
          · have e := (if_pos c28).symm.trans e
            refine ex_pc (if_pos c28) ?_
            cases e
            exact ex_r (st_vret rfl rfl) hS
          · have e := (if_neg c28).symm.trans e
            refine ex_pc (if_neg c28) ?_
            refine ex_s (am_nb (m := 2) (pc1 := 71) (ls1 := [(0, .ref 129), (1, .int x0)]) (st1 := [.int 127, .int x0]) (H1 := H) (k1 := 0) (n1 := 0) (by with_unfolding_all rfl)) ?_
            refine ex_s (st_icmp rfl) ?_
            by_cases c29 : x0 < 127
            · have e := (if_pos c29).symm.trans e
              refine ex_pc (if_pos c29) ?_
              refine ex_s (am_nb (m := 1) (pc1 := 76) (ls1 := [(0, .ref 129), (1, .int x0)]) (st1 := [.ref 129]) (H1 := H) (k1 := 0) (n1 := 0) (by with_unfolding_all rfl)) ?_
              refine xe_get (v := .int (a 129 9)) hS rfl rfl (by decide) rfl ?_
              refine ex_s (am_nb (m := 1) (pc1 := 80) (ls1 := [(0, .ref 129), (1, .int x0)]) (st1 := [.int 5, .int (a 129 9)]) (H1 := H) (k1 := 0) (n1 := 0) (by with_unfolding_all rfl)) ?_
              refine ex_s (st_icmp rfl) ?_
              by_cases c30 : (a 129 9) = 5
              · have e := (if_pos c30).symm.trans e
                refine ex_pc (if_pos c30) ?_
                refine ex_s (am_nb (m := 3) (pc1 := 87) (ls1 := [(0, .ref 129), (1, .int x0)]) (st1 := [.int 7, .int x0, .ref 129]) (H1 := H) (k1 := 0) (n1 := 0) (by with_unfolding_all rfl)) ?_
                have kk : am_E sL sx am_cs 204 95 [(0, .ref 129), (1, .int x0)] [.int (if x0 = 7 then (0 : Int32) else (5 : Int32)), .ref 129] H none (fun H1 => xS h b T a' H1) := by
                  obtain ⟨a32, ha32, e⟩ := xw_some e
                  refine xe_put (w := (if x0 = 7 then (0 : Int32) else (5 : Int32))) hS rfl rfl (by decide) rfl rfl rfl rfl (fun H33 s34 => ?_)
                  have s34 : xS h b T a32 H33 := by rw [ha32]; exact s34
                  refine ex_s (am_nb (m := 1) (pc1 := 189) (ls1 := [(0, .ref 129), (1, .int x0)]) (st1 := []) (H1 := H33) (k1 := 0) (n1 := 0) (by with_unfolding_all rfl)) ?_
                  cases e
                  exact ex_r (st_vret rfl rfl) s34
                refine ex_s (st_icmp rfl) ?_
                by_cases c31 : x0 = 7
                · refine ex_pc (if_pos c31) ?_
                  refine ex_s (am_nb (m := 2) (pc1 := 95) (ls1 := [(0, .ref 129), (1, .int x0)]) (st1 := [.int 0, .ref 129]) (H1 := H) (k1 := 0) (n1 := 0) (by with_unfolding_all rfl)) ?_
                  rw [if_pos c31] at kk
                  exact kk
                · refine ex_pc (if_neg c31) ?_
                  refine ex_s (am_nb (m := 1) (pc1 := 95) (ls1 := [(0, .ref 129), (1, .int x0)]) (st1 := [.int 5, .ref 129]) (H1 := H) (k1 := 0) (n1 := 0) (by with_unfolding_all rfl)) ?_
                  rw [if_neg c31] at kk
                  exact kk
              · have e := (if_neg c30).symm.trans e
                refine ex_pc (if_neg c30) ?_
                refine ex_s (am_nb (m := 2) (pc1 := 104) (ls1 := [(0, .ref 129), (1, .int x0)]) (st1 := [.int 32, .int x0]) (H1 := H) (k1 := 0) (n1 := 0) (by with_unfolding_all rfl)) ?_
                refine ex_s (st_icmp rfl) ?_
                by_cases c35 : 32 ≤ x0
                · have e := (if_pos c35).symm.trans e
                  refine ex_pc (if_pos c35) ?_
                  refine ex_s (am_nb (m := 1) (pc1 := 116) (ls1 := [(0, .ref 129), (1, .int x0)]) (st1 := [.ref 129]) (H1 := H) (k1 := 0) (n1 := 0) (by with_unfolding_all rfl)) ?_
                  refine xe_get (v := .int (a 129 9)) hS rfl rfl (by decide) rfl ?_
                  refine ex_s (st_if rfl) ?_
                  by_cases c36 : (a 129 9) = 0
                  · have e := (if_pos c36).symm.trans e
                    refine ex_pc (if_pos c36) ?_
                    refine ex_s (am_nb (m := 1) (pc1 := 123) (ls1 := [(0, .ref 129), (1, .int x0)]) (st1 := [.ref 129]) (H1 := H) (k1 := 0) (n1 := 0) (by with_unfolding_all rfl)) ?_
                    refine xe_get (v := .ref 136) hS rfl rfl (by decide) rfl ?_
                    refine ex_s (am_nb (m := 1) (pc1 := 127) (ls1 := [(0, .ref 129), (1, .int x0)]) (st1 := [.int x0, .ref 136]) (H1 := H) (k1 := 0) (n1 := 0) (by with_unfolding_all rfl)) ?_
                    obtain ⟨a40, e39, e⟩ := xb1_some e
                    refine ex_cv0 (as := [.int x0]) (rest := []) rfl rfl rfl rfl (hS.obj rfl (by decide)) rfl (by with_unfolding_all rfl) (by with_unfolding_all rfl) (tf211_print hS e39) (fun H37 s38 => ?_)
                    refine ex_s (am_nb (m := 1) (pc1 := 189) (ls1 := [(0, .ref 129), (1, .int x0)]) (st1 := []) (H1 := H37) (k1 := 0) (n1 := 0) (by with_unfolding_all rfl)) ?_
                    cases e
                    exact ex_r (st_vret rfl rfl) s38
                  · have e := (if_neg c36).symm.trans e
                    refine ex_pc (if_neg c36) ?_
                    refine ex_s (am_nb (m := 1) (pc1 := 134) (ls1 := [(0, .ref 129), (1, .int x0)]) (st1 := [.ref 129]) (H1 := H) (k1 := 0) (n1 := 0) (by with_unfolding_all rfl)) ?_
                    refine xe_get (v := .int (a 129 9)) hS rfl rfl (by decide) rfl ?_
                    refine ex_s (am_nb (m := 1) (pc1 := 138) (ls1 := [(0, .ref 129), (1, .int x0)]) (st1 := [.int 1, .int (a 129 9)]) (H1 := H) (k1 := 0) (n1 := 0) (by with_unfolding_all rfl)) ?_
                    refine ex_s (st_icmp rfl) ?_
                    by_cases c42 : (a 129 9) = 1
                    · have e := (if_pos c42).symm.trans e
                      refine ex_pc (if_pos c42) ?_
                      refine ex_s (am_nb (m := 2) (pc1 := 143) (ls1 := [(0, .ref 129), (1, .int x0)]) (st1 := [.int x0, .ref 129]) (H1 := H) (k1 := 0) (n1 := 0) (by with_unfolding_all rfl)) ?_
                      obtain ⟨a46, e45, e⟩ := xb1_some e
                      refine ex_cv0 (as := [.int x0]) (rest := []) rfl rfl rfl rfl (hS.obj rfl (by decide)) rfl (by with_unfolding_all rfl) (by with_unfolding_all rfl) (tf212_readEscape hS e45) (fun H43 s44 => ?_)
                      refine ex_s (am_nb (m := 1) (pc1 := 189) (ls1 := [(0, .ref 129), (1, .int x0)]) (st1 := []) (H1 := H43) (k1 := 0) (n1 := 0) (by with_unfolding_all rfl)) ?_
                      cases e
                      exact ex_r (st_vret rfl rfl) s44
                    · have e := (if_neg c42).symm.trans e
                      refine ex_pc (if_neg c42) ?_
                      refine ex_s (am_nb (m := 1) (pc1 := 150) (ls1 := [(0, .ref 129), (1, .int x0)]) (st1 := [.ref 129]) (H1 := H) (k1 := 0) (n1 := 0) (by with_unfolding_all rfl)) ?_
                      refine xe_get (v := .int (a 129 9)) hS rfl rfl (by decide) rfl ?_
                      refine ex_s (am_nb (m := 1) (pc1 := 154) (ls1 := [(0, .ref 129), (1, .int x0)]) (st1 := [.int 3, .int (a 129 9)]) (H1 := H) (k1 := 0) (n1 := 0) (by with_unfolding_all rfl)) ?_
                      refine ex_s (st_icmp rfl) ?_
                      by_cases c48 : (a 129 9) = 3
                      · have e := (if_pos c48).symm.trans e
                        refine ex_pc (if_pos c48) ?_
                        refine ex_s (am_nb (m := 2) (pc1 := 159) (ls1 := [(0, .ref 129), (1, .int x0)]) (st1 := [.int x0, .ref 129]) (H1 := H) (k1 := 0) (n1 := 0) (by with_unfolding_all rfl)) ?_
                        obtain ⟨a52, e51, e⟩ := xb1_some e
                        refine ex_cv0 (as := [.int x0]) (rest := []) rfl rfl rfl rfl (hS.obj rfl (by decide)) rfl (by with_unfolding_all rfl) (by with_unfolding_all rfl) (tf223_readSequence hS e51) (fun H49 s50 => ?_)
                        refine ex_s (am_nb (m := 1) (pc1 := 189) (ls1 := [(0, .ref 129), (1, .int x0)]) (st1 := []) (H1 := H49) (k1 := 0) (n1 := 0) (by with_unfolding_all rfl)) ?_
                        cases e
                        exact ex_r (st_vret rfl rfl) s50
                      · have e := (if_neg c48).symm.trans e
                        refine ex_pc (if_neg c48) ?_
                        refine ex_s (am_nb (m := 2) (pc1 := 167) (ls1 := [(0, .ref 129), (1, .int x0)]) (st1 := [.ref 129, .int x0]) (H1 := H) (k1 := 0) (n1 := 0) (by with_unfolding_all rfl)) ?_
                        refine xe_get (v := .int (a 129 9)) hS rfl rfl (by decide) rfl ?_
                        refine ex_s (am_nb (m := 1) (pc1 := 171) (ls1 := [(0, .ref 129), (1, .int x0)]) (st1 := [.int 2, .int (a 129 9), .int x0]) (H1 := H) (k1 := 0) (n1 := 0) (by with_unfolding_all rfl)) ?_
                        have kk : am_E sL sx am_cs 204 181 [(0, .ref 129), (1, .int x0)] [.int (if (a 129 9) = 2 then (48 : Int32) else (64 : Int32)), .int x0] H none (fun H1 => xS h b T a' H1) := by
                          refine ex_s (st_icmp rfl) ?_
                          by_cases c55 : x0 < (if (a 129 9) = 2 then (48 : Int32) else (64 : Int32))
                          · have e := (if_pos c55).symm.trans e
                            refine ex_pc (if_pos c55) ?_
                            cases e
                            exact ex_r (st_vret rfl rfl) hS
                          · have e := (if_neg c55).symm.trans e
                            refine ex_pc (if_neg c55) ?_
                            refine ex_s (am_nb (m := 2) (pc1 := 186) (ls1 := [(0, .ref 129), (1, .int x0)]) (st1 := [.int 0, .ref 129]) (H1 := H) (k1 := 0) (n1 := 0) (by with_unfolding_all rfl)) ?_
                            obtain ⟨a56, ha56, e⟩ := xw_some e
                            refine xe_put (w := 0) hS rfl rfl (by decide) rfl rfl rfl rfl (fun H57 s58 => ?_)
                            have s58 : xS h b T a56 H57 := by rw [ha56]; exact s58
                            cases e
                            exact ex_r (st_vret rfl rfl) s58
                        refine ex_s (st_icmp rfl) ?_
                        by_cases c53 : (a 129 9) = 2
                        · refine ex_pc (if_pos c53) ?_
                          refine ex_s (am_nb (m := 2) (pc1 := 181) (ls1 := [(0, .ref 129), (1, .int x0)]) (st1 := [.int 48, .int x0]) (H1 := H) (k1 := 0) (n1 := 0) (by with_unfolding_all rfl)) ?_
                          rw [if_pos c53] at kk
                          exact kk
                        · refine ex_pc (if_neg c53) ?_
                          refine ex_s (am_nb (m := 1) (pc1 := 181) (ls1 := [(0, .ref 129), (1, .int x0)]) (st1 := [.int 64, .int x0]) (H1 := H) (k1 := 0) (n1 := 0) (by with_unfolding_all rfl)) ?_
                          rw [if_neg c53] at kk
                          exact kk
                · have e := (if_neg c35).symm.trans e
                  refine ex_pc (if_neg c35) ?_
                  refine ex_s (am_nb (m := 2) (pc1 := 109) (ls1 := [(0, .ref 129), (1, .int x0)]) (st1 := [.int x0, .ref 129]) (H1 := H) (k1 := 0) (n1 := 0) (by with_unfolding_all rfl)) ?_
                  obtain ⟨a62, e61, e⟩ := xb1_some e
                  refine ex_cv0 (as := [.int x0]) (rest := []) rfl rfl rfl rfl (hS.obj rfl (by decide)) rfl (by with_unfolding_all rfl) (by with_unfolding_all rfl) (tf209_control hS e61) (fun H59 s60 => ?_)
                  refine ex_s (am_nb (m := 1) (pc1 := 189) (ls1 := [(0, .ref 129), (1, .int x0)]) (st1 := []) (H1 := H59) (k1 := 0) (n1 := 0) (by with_unfolding_all rfl)) ?_
                  cases e
                  exact ex_r (st_vret rfl rfl) s60
            · have e := (if_neg c29).symm.trans e
              refine ex_pc (if_neg c29) ?_
              cases e
              exact ex_r (st_vret rfl rfl) hS

set_option maxRecDepth 100000 in
theorem tj203_68 {sL : Nat} {sx : Nat → Int32} {h b N : Nat} {T : List am_C} {a' : xA} {q1 : Int32} {a : xA} {H : am_H} (hS : xS h b T a H) (e : j203_68 N h b q1 a = some a') : am_E sL sx am_cs 203 68 [(0, .ref 129), (1, .int q1)] [] H none (fun H1 => xS h b T a' H1) := by
  unfold j203_68 at e
  refine ex_s (am_nb (m := 2) (pc1 := 70) (ls1 := [(0, .ref 129), (1, .int q1)]) (st1 := [.int q1, .ref 129]) (H1 := H) (k1 := 0) (n1 := 0) (by with_unfolding_all rfl)) ?_
  obtain ⟨a26, e25, e⟩ := xb1_some e
  refine ex_cv0 (as := [.int q1]) (rest := []) rfl rfl rfl rfl (hS.obj rfl (by decide)) rfl (by with_unfolding_all rfl) (by with_unfolding_all rfl) (tf204_readByte hS e25) (fun H23 s24 => ?_)
  cases e
  exact ex_r (st_vret rfl rfl) s24

set_option maxRecDepth 100000 in
theorem tf203_act {sL : Nat} {sx : Nat → Int32} {h b N : Nat} {T : List am_C} {a' : xA} {a : xA} {H : am_H} (hS : xS h b T a H) (e : f203_act N h b a = some a') : am_E sL sx am_cs 203 0 [(0, .ref 129)] [] H none (fun H1 => xS h b T a' H1) := by
  unfold f203_act at e
  refine ex_s (am_nb (m := 1) (pc1 := 1) (ls1 := [(0, .ref 129)]) (st1 := [.ref 129]) (H1 := H) (k1 := 0) (n1 := 0) (by with_unfolding_all rfl)) ?_
  refine xe_get (v := .ref 136) hS rfl rfl (by decide) rfl ?_
  refine xe_get (v := .int (a 136 16)) hS rfl rfl (by decide) rfl ?_
  refine ex_s (st_if rfl) ?_
  by_cases c1 : (a 136 16) ≤ 0
  · have e := (if_pos c1).symm.trans e
    refine ex_pc (if_pos c1) ?_
    refine ex_s (am_nb (m := 1) (pc1 := 27) (ls1 := [(0, .ref 129)]) (st1 := [.ref 129]) (H1 := H) (k1 := 0) (n1 := 0) (by with_unfolding_all rfl)) ?_
    refine xe_get (v := .int (a 129 5)) hS rfl rfl (by decide) rfl ?_
    refine ex_s (st_if rfl) ?_
    by_cases c3 : (a 129 5) = 0
    · have e := (if_pos c3).symm.trans e
      refine ex_pc (if_pos c3) ?_
      refine ex_s (am_nb (m := 1) (pc1 := 34) (ls1 := [(0, .ref 129)]) (st1 := [.ref 129]) (H1 := H) (k1 := 0) (n1 := 0) (by with_unfolding_all rfl)) ?_
      refine xe_get (v := .ref 130) hS rfl rfl (by decide) rfl ?_
      obtain ⟨r7, a8, e6, e⟩ := xb2_some e
      refine ex_cv1 (as := []) (rest := []) rfl rfl rfl rfl (hS.obj rfl (by decide)) rfl (by with_unfolding_all rfl) (by with_unfolding_all rfl) (tf163_size hS e6) (fun H4 s5 => ?_)
      refine ex_s (st_if rfl) ?_
      by_cases c10 : r7 ≤ 0
      · have e := (if_pos c10).symm.trans e
        refine ex_pc (if_pos c10) ?_
        cases e
        exact ex_r (st_vret rfl rfl) s5
      · have e := (if_neg c10).symm.trans e
        refine ex_pc (if_neg c10) ?_
        refine ex_s (am_nb (m := 1) (pc1 := 44) (ls1 := [(0, .ref 129)]) (st1 := [.ref 129]) (H1 := H4) (k1 := 0) (n1 := 0) (by with_unfolding_all rfl)) ?_
        refine xe_get (v := .ref 130) s5 rfl rfl (by decide) rfl ?_
        obtain ⟨r14, a15, e13, e⟩ := xb2_some e
        refine ex_cv1 (as := []) (rest := []) rfl rfl rfl rfl (s5.obj rfl (by decide)) rfl (by with_unfolding_all rfl) (by with_unfolding_all rfl) (tf172_takeFirst s5 e13) (fun H11 s12 => ?_)
        refine ex_s (am_nb (m := 2) (pc1 := 52) (ls1 := [(1, .int r14), (0, .ref 129)]) (st1 := [.ref 129]) (H1 := H11) (k1 := 0) (n1 := 0) (by with_unfolding_all rfl)) ?_
        refine xe_get (v := .ref 130) s12 rfl rfl (by decide) rfl ?_
        obtain ⟨r19, a20, e18, e⟩ := xb2_some e
        refine ex_cv1 (as := []) (rest := []) rfl rfl rfl rfl (s12.obj rfl (by decide)) rfl (by with_unfolding_all rfl) (by with_unfolding_all rfl) (tf163_size s12 e18) (fun H16 s17 => ?_)
        refine ex_s (am_nb (m := 1) (pc1 := 60) (ls1 := [(1, .int r14), (0, .ref 129)]) (st1 := [.int 16, .int r19]) (H1 := H16) (k1 := 0) (n1 := 0) (by with_unfolding_all rfl)) ?_
        refine ex_s (st_icmp rfl) ?_
        by_cases c22 : 16 < r19
        · have e := (if_pos c22).symm.trans e
          refine ex_pc (if_pos c22) ?_
          exact le_E (l1 := [(0, .ref 129), (1, .int r14)]) ⟨rfl, rfl, trivial⟩ rfl (tj203_68  s17 e)
        · have e := (if_neg c22).symm.trans e
          refine ex_pc (if_neg c22) ?_
          refine ex_s (am_nb (m := 2) (pc1 := 65) (ls1 := [(1, .int r14), (0, .ref 129)]) (st1 := [.int 0, .ref 129]) (H1 := H16) (k1 := 0) (n1 := 0) (by with_unfolding_all rfl)) ?_
          obtain ⟨a27, ha27, e⟩ := xw_some e
          refine xe_put (w := 0) s17 rfl rfl (by decide) rfl rfl rfl rfl (fun H28 s29 => ?_)
          have s29 : xS h b T a27 H28 := by rw [ha27]; exact s29
          exact le_E (l1 := [(0, .ref 129), (1, .int r14)]) ⟨rfl, rfl, trivial⟩ rfl (tj203_68  s29 e)
    · have e := (if_neg c3).symm.trans e
      refine ex_pc (if_neg c3) ?_
      cases e
      exact ex_r (st_vret rfl rfl) hS
  · have e := (if_neg c1).symm.trans e
    refine ex_pc (if_neg c1) ?_
    refine ex_s (am_nb (m := 1) (pc1 := 11) (ls1 := [(0, .ref 129)]) (st1 := [.ref 129]) (H1 := H) (k1 := 0) (n1 := 0) (by with_unfolding_all rfl)) ?_
    refine xe_get (v := .ref 136) hS rfl rfl (by decide) rfl ?_
    refine ex_s (am_nb (m := 1) (pc1 := 15) (ls1 := [(0, .ref 129)]) (st1 := [.ref 136, .ref 136]) (H1 := H) (k1 := 0) (n1 := 0) (by with_unfolding_all rfl)) ?_
    refine xe_get (v := .int (a 136 16)) hS rfl rfl (by decide) rfl ?_
    refine ex_s (am_nb (m := 2) (pc1 := 20) (ls1 := [(0, .ref 129)]) (st1 := [.int ((a 136 16) - 1), .ref 136]) (H1 := H) (k1 := 0) (n1 := 0) (by with_unfolding_all rfl)) ?_
    obtain ⟨a30, ha30, e⟩ := xw_some e
    refine xe_put (w := ((a 136 16) - 1)) hS rfl rfl (by decide) rfl rfl rfl rfl (fun H31 s32 => ?_)
    have s32 : xS h b T a30 H31 := by rw [ha30]; exact s32
    refine ex_s (am_nb (m := 1) (pc1 := 73) (ls1 := [(0, .ref 129)]) (st1 := []) (H1 := H31) (k1 := 0) (n1 := 0) (by with_unfolding_all rfl)) ?_
    cases e
    exact ex_r (st_vret rfl rfl) s32

set_option maxRecDepth 100000 in
theorem tf244_isFree {sL : Nat} {sx : Nat → Int32} {h b N : Nat} {T : List am_C} {r : Int32} {a' : xA} {o : Nat} {a : xA} {H : am_H} (hS : xS h b T a H) (e : f244_isFree N h b o a = some (r, a')) : am_E sL sx am_cs 244 0 [(0, .ref o)] [] H (some (.int r)) (fun H1 => xS h b T a' H1) := by
  unfold f244_isFree at e
  obtain ⟨g1, e⟩ := xg_some e
  refine ex_s (am_nb (m := 1) (pc1 := 1) (ls1 := [(0, .ref o)]) (st1 := [.ref o]) (H1 := H) (k1 := 0) (n1 := 0) (by with_unfolding_all rfl)) ?_
  refine xe_get (v := .int (a o 0)) hS rfl g1 (by decide) rfl ?_
  refine ex_s (am_nb (m := 1) (pc1 := 5) (ls1 := [(0, .ref o)]) (st1 := [.int (-1), .int (a o 0)]) (H1 := H) (k1 := 0) (n1 := 0) (by with_unfolding_all rfl)) ?_
  have kk : am_E sL sx am_cs 244 13 [(0, .ref o)] [.int (if (a o 0) = (-1) then (1 : Int32) else (0 : Int32))] H (some (.int r)) (fun H1 => xS h b T a' H1) := by
    obtain ⟨g3, e⟩ := xg_some e
    cases e
    exact ex_r (st_iret rfl rfl (xnar_z g3)) hS
  refine ex_s (st_icmp rfl) ?_
  by_cases c2 : (a o 0) = (-1)
  · refine ex_pc (if_pos c2) ?_
    refine ex_s (am_nb (m := 2) (pc1 := 13) (ls1 := [(0, .ref o)]) (st1 := [.int 1]) (H1 := H) (k1 := 0) (n1 := 0) (by with_unfolding_all rfl)) ?_
    rw [if_pos c2] at kk
    exact kk
  · refine ex_pc (if_neg c2) ?_
    refine ex_s (am_nb (m := 1) (pc1 := 13) (ls1 := [(0, .ref o)]) (st1 := [.int 0]) (H1 := H) (k1 := 0) (n1 := 0) (by with_unfolding_all rfl)) ?_
    rw [if_neg c2] at kk
    exact kk

set_option maxRecDepth 100000 in
theorem tj245_19 {sL : Nat} {sx : Nat → Int32} {h b N : Nat} {T : List am_C} {r : Int32} {a' : xA} {t0 : Int32} {a : xA} {H : am_H} (hS : xS h b T a H) (e : j245_19 N h b t0 a = some (r, a')) : am_E sL sx am_cs 245 19 [(0, .ref 129)] [.int t0] H (some (.int r)) (fun H1 => xS h b T a' H1) := by
  unfold j245_19 at e
  refine ex_s (am_nb (m := 3) (pc1 := 22) (ls1 := [(1, .int t0), (0, .ref 129)]) (st1 := [.ref 129, .int t0]) (H1 := H) (k1 := 0) (n1 := 0) (by with_unfolding_all rfl)) ?_
  refine xe_get (v := .int (a 129 7)) hS rfl rfl (by decide) rfl ?_
  refine ex_s (st_icmp rfl) ?_
  by_cases c18 : t0 = (a 129 7)
  · have e := (if_pos c18).symm.trans e
    refine ex_pc (if_pos c18) ?_
    refine ex_s (am_nb (m := 1) (pc1 := 46) (ls1 := [(1, .int t0), (0, .ref 129)]) (st1 := [.ref 129]) (H1 := H) (k1 := 0) (n1 := 0) (by with_unfolding_all rfl)) ?_
    refine xe_get (v := .int (a 129 6)) hS rfl rfl (by decide) rfl ?_
    refine ex_s (st_if rfl) ?_
    by_cases c20 : (a 129 6) = 0
    · have e := (if_pos c20).symm.trans e
      refine ex_pc (if_pos c20) ?_
      refine ex_s (am_nb (m := 1) (pc1 := 57) (ls1 := [(1, .int t0), (0, .ref 129)]) (st1 := [.ref 129]) (H1 := H) (k1 := 0) (n1 := 0) (by with_unfolding_all rfl)) ?_
      refine xe_get (v := .ref 132) hS rfl rfl (by decide) rfl ?_
      obtain ⟨r24, a25, e23, e⟩ := xb2_some e
      refine ex_cv1 (as := []) (rest := []) rfl rfl rfl rfl (hS.obj rfl (by decide)) rfl (by with_unfolding_all rfl) (by with_unfolding_all rfl) (tf172_takeFirst hS e23) (fun H21 s22 => ?_)
      cases e
      exact ex_r (st_iret rfl rfl rfl) s22
    · have e := (if_neg c20).symm.trans e
      refine ex_pc (if_neg c20) ?_
      refine ex_s (am_nb (m := 2) (pc1 := 63) (ls1 := [(1, .int t0), (0, .ref 129)]) (st1 := [.int (-1)]) (H1 := H) (k1 := 0) (n1 := 0) (by with_unfolding_all rfl)) ?_
      cases e
      exact ex_r (st_iret rfl rfl rfl) hS
  · have e := (if_neg c18).symm.trans e
    refine ex_pc (if_neg c18) ?_
    refine ex_s (am_nb (m := 2) (pc1 := 30) (ls1 := [(1, .int t0), (0, .ref 129)]) (st1 := [.int t0, .ref 129]) (H1 := H) (k1 := 0) (n1 := 0) (by with_unfolding_all rfl)) ?_
    obtain ⟨g29, e⟩ := xg_some e
    obtain ⟨a26, ha26, e⟩ := xw_some e
    refine xe_put (w := t0) hS rfl rfl (by decide) rfl rfl (xfit_z g29) rfl (fun H27 s28 => ?_)
    have s28 : xS h b T a26 H27 := by rw [ha26]; exact s28
    refine ex_s (am_nb (m := 1) (pc1 := 34) (ls1 := [(1, .int t0), (0, .ref 129)]) (st1 := [.int t0]) (H1 := H27) (k1 := 0) (n1 := 0) (by with_unfolding_all rfl)) ?_
    have kk : am_E sL sx am_cs 245 44 [(1, .int t0), (0, .ref 129)] [.int (if t0 = 0 then (17 : Int32) else (19 : Int32))] H27 (some (.int r)) (fun H1 => xS h b T a' H1) := by
      cases e
      exact ex_r (st_iret rfl rfl rfl) s28
    refine ex_s (st_if rfl) ?_
    by_cases c30 : t0 = 0
    · refine ex_pc (if_pos c30) ?_
      refine ex_s (am_nb (m := 1) (pc1 := 44) (ls1 := [(1, .int t0), (0, .ref 129)]) (st1 := [.int 17]) (H1 := H27) (k1 := 0) (n1 := 0) (by with_unfolding_all rfl)) ?_
      rw [if_pos c30] at kk
      exact kk
    · refine ex_pc (if_neg c30) ?_
      refine ex_s (am_nb (m := 2) (pc1 := 44) (ls1 := [(1, .int t0), (0, .ref 129)]) (st1 := [.int 19]) (H1 := H27) (k1 := 0) (n1 := 0) (by with_unfolding_all rfl)) ?_
      rw [if_neg c30] at kk
      exact kk

set_option maxRecDepth 100000 in
theorem tj245_14 {sL : Nat} {sx : Nat → Int32} {h b N : Nat} {T : List am_C} {r : Int32} {a' : xA} {a : xA} {H : am_H} (hS : xS h b T a H) (e : j245_14 N h b a = some (r, a')) : am_E sL sx am_cs 245 14 [(0, .ref 129)] [] H (some (.int r)) (fun H1 => xS h b T a' H1) := by
  unfold j245_14 at e
  refine ex_s (am_nb (m := 2) (pc1 := 19) (ls1 := [(0, .ref 129)]) (st1 := [.int 1]) (H1 := H) (k1 := 0) (n1 := 0) (by with_unfolding_all rfl)) ?_
  exact le_E (l1 := [(0, .ref 129)]) ⟨rfl, trivial⟩ rfl (tj245_19  hS e)

set_option maxRecDepth 100000 in
theorem tf245_nextToSend {sL : Nat} {sx : Nat → Int32} {h b N : Nat} {T : List am_C} {r : Int32} {a' : xA} {a : xA} {H : am_H} (hS : xS h b T a H) (e : f245_nextToSend N h b a = some (r, a')) : am_E sL sx am_cs 245 0 [(0, .ref 129)] [] H (some (.int r)) (fun H1 => xS h b T a' H1) := by
  unfold f245_nextToSend at e
  refine ex_s (am_nb (m := 1) (pc1 := 1) (ls1 := [(0, .ref 129)]) (st1 := [.ref 129]) (H1 := H) (k1 := 0) (n1 := 0) (by with_unfolding_all rfl)) ?_
  refine xe_get (v := .int (a 129 4)) hS rfl rfl (by decide) rfl ?_
  refine ex_s (st_if rfl) ?_
  by_cases c3 : (a 129 4) = 0
  · have e := (if_pos c3).symm.trans e
    refine ex_pc (if_pos c3) ?_
    refine ex_s (am_nb (m := 1) (pc1 := 8) (ls1 := [(0, .ref 129)]) (st1 := [.ref 129]) (H1 := H) (k1 := 0) (n1 := 0) (by with_unfolding_all rfl)) ?_
    refine xe_get (v := .int (a 129 5)) hS rfl rfl (by decide) rfl ?_
    have kk : am_E sL sx am_cs 245 19 [(0, .ref 129)] [.int (if (a 129 5) = 0 then (0 : Int32) else (1 : Int32))] H (some (.int r)) (fun H1 => xS h b T a' H1) := by
      refine ex_s (am_nb (m := 3) (pc1 := 22) (ls1 := [(1, .int (if (a 129 5) = 0 then (0 : Int32) else (1 : Int32))), (0, .ref 129)]) (st1 := [.ref 129, .int (if (a 129 5) = 0 then (0 : Int32) else (1 : Int32))]) (H1 := H) (k1 := 0) (n1 := 0) (by with_unfolding_all rfl)) ?_
      refine xe_get (v := .int (a 129 7)) hS rfl rfl (by decide) rfl ?_
      refine ex_s (st_icmp rfl) ?_
      by_cases c5 : (if (a 129 5) = 0 then (0 : Int32) else (1 : Int32)) = (a 129 7)
      · have e := (if_pos c5).symm.trans e
        refine ex_pc (if_pos c5) ?_
        refine ex_s (am_nb (m := 1) (pc1 := 46) (ls1 := [(1, .int (if (a 129 5) = 0 then (0 : Int32) else (1 : Int32))), (0, .ref 129)]) (st1 := [.ref 129]) (H1 := H) (k1 := 0) (n1 := 0) (by with_unfolding_all rfl)) ?_
        refine xe_get (v := .int (a 129 6)) hS rfl rfl (by decide) rfl ?_
        refine ex_s (st_if rfl) ?_
        by_cases c7 : (a 129 6) = 0
        · have e := (if_pos c7).symm.trans e
          refine ex_pc (if_pos c7) ?_
          refine ex_s (am_nb (m := 1) (pc1 := 57) (ls1 := [(1, .int (if (a 129 5) = 0 then (0 : Int32) else (1 : Int32))), (0, .ref 129)]) (st1 := [.ref 129]) (H1 := H) (k1 := 0) (n1 := 0) (by with_unfolding_all rfl)) ?_
          refine xe_get (v := .ref 132) hS rfl rfl (by decide) rfl ?_
          obtain ⟨r11, a12, e10, e⟩ := xb2_some e
          refine ex_cv1 (as := []) (rest := []) rfl rfl rfl rfl (hS.obj rfl (by decide)) rfl (by with_unfolding_all rfl) (by with_unfolding_all rfl) (tf172_takeFirst hS e10) (fun H8 s9 => ?_)
          cases e
          exact ex_r (st_iret rfl rfl rfl) s9
        · have e := (if_neg c7).symm.trans e
          refine ex_pc (if_neg c7) ?_
          refine ex_s (am_nb (m := 2) (pc1 := 63) (ls1 := [(1, .int (if (a 129 5) = 0 then (0 : Int32) else (1 : Int32))), (0, .ref 129)]) (st1 := [.int (-1)]) (H1 := H) (k1 := 0) (n1 := 0) (by with_unfolding_all rfl)) ?_
          cases e
          exact ex_r (st_iret rfl rfl rfl) hS
      · have e := (if_neg c5).symm.trans e
        refine ex_pc (if_neg c5) ?_
        refine ex_s (am_nb (m := 2) (pc1 := 30) (ls1 := [(1, .int (if (a 129 5) = 0 then (0 : Int32) else (1 : Int32))), (0, .ref 129)]) (st1 := [.int (if (a 129 5) = 0 then (0 : Int32) else (1 : Int32)), .ref 129]) (H1 := H) (k1 := 0) (n1 := 0) (by with_unfolding_all rfl)) ?_
        obtain ⟨g16, e⟩ := xg_some e
        obtain ⟨a13, ha13, e⟩ := xw_some e
        refine xe_put (w := (if (a 129 5) = 0 then (0 : Int32) else (1 : Int32))) hS rfl rfl (by decide) rfl rfl (xfit_z g16) rfl (fun H14 s15 => ?_)
        have s15 : xS h b T a13 H14 := by rw [ha13]; exact s15
        refine ex_s (am_nb (m := 1) (pc1 := 34) (ls1 := [(1, .int (if (a 129 5) = 0 then (0 : Int32) else (1 : Int32))), (0, .ref 129)]) (st1 := [.int (if (a 129 5) = 0 then (0 : Int32) else (1 : Int32))]) (H1 := H14) (k1 := 0) (n1 := 0) (by with_unfolding_all rfl)) ?_
        have kk : am_E sL sx am_cs 245 44 [(1, .int (if (a 129 5) = 0 then (0 : Int32) else (1 : Int32))), (0, .ref 129)] [.int (if (if (a 129 5) = 0 then (0 : Int32) else (1 : Int32)) = 0 then (17 : Int32) else (19 : Int32))] H14 (some (.int r)) (fun H1 => xS h b T a' H1) := by
          cases e
          exact ex_r (st_iret rfl rfl rfl) s15
        refine ex_s (st_if rfl) ?_
        by_cases c17 : (if (a 129 5) = 0 then (0 : Int32) else (1 : Int32)) = 0
        · refine ex_pc (if_pos c17) ?_
          refine ex_s (am_nb (m := 1) (pc1 := 44) (ls1 := [(1, .int (if (a 129 5) = 0 then (0 : Int32) else (1 : Int32))), (0, .ref 129)]) (st1 := [.int 17]) (H1 := H14) (k1 := 0) (n1 := 0) (by with_unfolding_all rfl)) ?_
          rw [if_pos c17] at kk
          exact kk
        · refine ex_pc (if_neg c17) ?_
          refine ex_s (am_nb (m := 2) (pc1 := 44) (ls1 := [(1, .int (if (a 129 5) = 0 then (0 : Int32) else (1 : Int32))), (0, .ref 129)]) (st1 := [.int 19]) (H1 := H14) (k1 := 0) (n1 := 0) (by with_unfolding_all rfl)) ?_
          rw [if_neg c17] at kk
          exact kk
    refine ex_s (st_if rfl) ?_
    by_cases c4 : (a 129 5) = 0
    · refine ex_pc (if_pos c4) ?_
      refine ex_s (am_nb (m := 1) (pc1 := 19) (ls1 := [(0, .ref 129)]) (st1 := [.int 0]) (H1 := H) (k1 := 0) (n1 := 0) (by with_unfolding_all rfl)) ?_
      rw [if_pos c4] at kk
      exact kk
    · refine ex_pc (if_neg c4) ?_
      refine ex_s (am_nb (m := 2) (pc1 := 19) (ls1 := [(0, .ref 129)]) (st1 := [.int 1]) (H1 := H) (k1 := 0) (n1 := 0) (by with_unfolding_all rfl)) ?_
      rw [if_neg c4] at kk
      exact kk
  · have e := (if_neg c3).symm.trans e
    refine ex_pc (if_neg c3) ?_
    exact le_E (l1 := [(0, .ref 129)]) ⟨rfl, trivial⟩ rfl (tj245_14  hS e)

set_option maxRecDepth 100000 in
theorem tf246_carry {sL : Nat} {sx : Nat → Int32} {h b N : Nat} {T : List am_C} {a' : xA} {o : Nat} {x0 : Int32} {x1 : Int32} {a : xA} {H : am_H} (hS : xS h b T a H) (e : f246_carry N h b o x0 x1 a = some a') : am_E sL sx am_cs 246 0 [(0, .ref o), (1, .int x0), (2, .int x1)] [] H none (fun H1 => xS h b T a' H1) := by
  unfold f246_carry at e
  obtain ⟨g1, e⟩ := xg_some e
  refine ex_s (am_nb (m := 2) (pc1 := 2) (ls1 := [(0, .ref o), (1, .int x0), (2, .int x1)]) (st1 := [.int (-1), .int x0]) (H1 := H) (k1 := 0) (n1 := 0) (by with_unfolding_all rfl)) ?_
  refine ex_s (st_icmp rfl) ?_
  by_cases c2 : x0 = (-1)
  · have e := (if_pos c2).symm.trans e
    refine ex_pc (if_pos c2) ?_
    cases e
    exact ex_r (st_vret rfl rfl) hS
  · have e := (if_neg c2).symm.trans e
    refine ex_pc (if_neg c2) ?_
    refine ex_s (am_nb (m := 2) (pc1 := 8) (ls1 := [(0, .ref o), (1, .int x0), (2, .int x1)]) (st1 := [.int x0, .ref o]) (H1 := H) (k1 := 0) (n1 := 0) (by with_unfolding_all rfl)) ?_
    obtain ⟨a3, ha3, e⟩ := xw_some e
    refine xe_put (w := x0) hS rfl g1 (by decide) rfl rfl rfl rfl (fun H4 s5 => ?_)
    have s5 : xS h b T a3 H4 := by rw [ha3]; exact s5
    refine ex_s (am_nb (m := 2) (pc1 := 13) (ls1 := [(0, .ref o), (1, .int x0), (2, .int x1)]) (st1 := [.int x1, .ref o]) (H1 := H4) (k1 := 0) (n1 := 0) (by with_unfolding_all rfl)) ?_
    obtain ⟨a6, ha6, e⟩ := xw_some e
    refine xe_put (w := x1) s5 rfl g1 (by decide) rfl rfl rfl rfl (fun H7 s8 => ?_)
    have s8 : xS h b T a6 H7 := by rw [ha6]; exact s8
    refine ex_s (am_nb (m := 2) (pc1 := 18) (ls1 := [(0, .ref o), (1, .int x0), (2, .int x1)]) (st1 := [.int 0, .ref o]) (H1 := H7) (k1 := 0) (n1 := 0) (by with_unfolding_all rfl)) ?_
    obtain ⟨a9, ha9, e⟩ := xw_some e
    refine xe_put (w := 0) s8 rfl g1 (by decide) rfl rfl rfl rfl (fun H10 s11 => ?_)
    have s11 : xS h b T a9 H10 := by rw [ha9]; exact s11
    refine ex_s (am_nb (m := 2) (pc1 := 23) (ls1 := [(0, .ref o), (1, .int x0), (2, .int x1)]) (st1 := [.ref o, .ref o]) (H1 := H10) (k1 := 0) (n1 := 0) (by with_unfolding_all rfl)) ?_
    refine xe_get (v := .int (a9 o 3)) s11 rfl g1 (by decide) rfl ?_
    refine ex_s (am_nb (m := 2) (pc1 := 28) (ls1 := [(0, .ref o), (1, .int x0), (2, .int x1)]) (st1 := [.int ((a9 o 3) + 1), .ref o]) (H1 := H10) (k1 := 0) (n1 := 0) (by with_unfolding_all rfl)) ?_
    obtain ⟨a12, ha12, e⟩ := xw_some e
    refine xe_put (w := ((a9 o 3) + 1)) s11 rfl g1 (by decide) rfl rfl rfl rfl (fun H13 s14 => ?_)
    have s14 : xS h b T a12 H13 := by rw [ha12]; exact s14
    cases e
    exact ex_r (st_vret rfl rfl) s14

set_option maxRecDepth 100000 in
theorem tf247_nextToSend {sL : Nat} {sx : Nat → Int32} {h b N : Nat} {T : List am_C} {r : Int32} {a' : xA} {a : xA} {H : am_H} (hS : xS h b T a H) (e : f247_nextToSend N h b a = some (r, a')) : am_E sL sx am_cs 247 0 [(0, .ref 116)] [] H (some (.int r)) (fun H1 => xS h b T a' H1) := by
  unfold f247_nextToSend at e
  refine ex_s (am_nb (m := 1) (pc1 := 1) (ls1 := [(0, .ref 116)]) (st1 := [.ref 116]) (H1 := H) (k1 := 0) (n1 := 0) (by with_unfolding_all rfl)) ?_
  refine xe_get (v := .int (a 116 4)) hS rfl rfl (by decide) rfl ?_
  refine ex_s (st_if rfl) ?_
  by_cases c2 : (a 116 4) = 0
  · have e := (if_pos c2).symm.trans e
    refine ex_pc (if_pos c2) ?_
    refine ex_s (am_nb (m := 1) (pc1 := 12) (ls1 := [(0, .ref 116)]) (st1 := [.ref 116]) (H1 := H) (k1 := 0) (n1 := 0) (by with_unfolding_all rfl)) ?_
    refine xe_get (v := .ref 117) hS rfl rfl (by decide) rfl ?_
    obtain ⟨r6, a7, e5, e⟩ := xb2_some e
    refine ex_cv1 (as := []) (rest := []) rfl rfl rfl rfl (hS.obj rfl (by decide)) rfl (by with_unfolding_all rfl) (by with_unfolding_all rfl) (tf172_takeFirst hS e5) (fun H3 s4 => ?_)
    cases e
    exact ex_r (st_iret rfl rfl rfl) s4
  · have e := (if_neg c2).symm.trans e
    refine ex_pc (if_neg c2) ?_
    refine ex_s (am_nb (m := 2) (pc1 := 18) (ls1 := [(0, .ref 116)]) (st1 := [.int (-1)]) (H1 := H) (k1 := 0) (n1 := 0) (by with_unfolding_all rfl)) ?_
    cases e
    exact ex_r (st_iret rfl rfl rfl) hS

set_option maxRecDepth 100000 in
theorem tj177_198 {sL : Nat} {sx : Nat → Int32} {h b N : Nat} {T : List am_C} {R : Option Value} {F : am_H → Prop} {w1 : Int32} {z : Nat × Int32 × xA} {rc : Int32 → xA → Option (Nat × Int32 × xA)} (k0 : z.1 = 0 → ∀ H2 : am_H, xS h b T z.2.2 H2 → am_E sL sx am_cs 177 201 [(2, .int z.2.1)] [] H2 R F) (ih : ∀ (v2 : Int32) (a : xA) (H : am_H), xS h b T a H → rc v2 a = some z → am_E sL sx am_cs 177 16 [(0, .ref 0), (1, .int w1), (2, .int v2)] [] H R F) {q2 : Int32} {a : xA} {H : am_H} (hS : xS h b T a H) (e : j177_198 N h b rc w1 q2 a = some z) : am_E sL sx am_cs 177 198 [(0, .ref 0), (1, .int w1), (2, .int q2)] [] H R F := by
  unfold j177_198 at e
  refine ex_s (am_nb (m := 1) (pc1 := 16) (ls1 := [(0, .ref 0), (1, .int w1), (2, .int q2)]) (st1 := []) (H1 := H) (k1 := 0) (n1 := 0) (by with_unfolding_all rfl)) ?_
  exact le_E (l1 := [(0, .ref 0), (1, .int w1), (2, .int q2)]) ⟨rfl, rfl, rfl, trivial⟩ rfl (ih q2 a H hS e)

set_option maxRecDepth 100000 in
theorem tj177_165 {sL : Nat} {sx : Nat → Int32} {h b N : Nat} {T : List am_C} {R : Option Value} {F : am_H → Prop} {w1 : Int32} {z : Nat × Int32 × xA} {rc : Int32 → xA → Option (Nat × Int32 × xA)} (k0 : z.1 = 0 → ∀ H2 : am_H, xS h b T z.2.2 H2 → am_E sL sx am_cs 177 201 [(2, .int z.2.1)] [] H2 R F) (ih : ∀ (v2 : Int32) (a : xA) (H : am_H), xS h b T a H → rc v2 a = some z → am_E sL sx am_cs 177 16 [(0, .ref 0), (1, .int w1), (2, .int v2)] [] H R F) {q2 : Int32} {a : xA} {H : am_H} (hS : xS h b T a H) (e : j177_165 N h b rc w1 q2 a = some z) : am_E sL sx am_cs 177 165 [(0, .ref 0), (1, .int w1), (2, .int q2)] [] H R F := by
  unfold j177_165 at e
  refine ex_s (am_nb (m := 1) (pc1 := 166) (ls1 := [(0, .ref 0), (1, .int w1), (2, .int q2)]) (st1 := [.ref 0]) (H1 := H) (k1 := 0) (n1 := 0) (by with_unfolding_all rfl)) ?_
  refine xe_get (v := .ref 127) hS rfl rfl (by decide) rfl ?_
  obtain ⟨r45, a46, e44, e⟩ := xb2_some e
  refine ex_cv1 (as := []) (rest := []) rfl rfl rfl rfl (hS.obj rfl (by decide)) rfl (by with_unfolding_all rfl) (by with_unfolding_all rfl) (tf244_isFree hS e44) (fun H42 s43 => ?_)
  refine ex_s (st_if rfl) ?_
  by_cases c48 : r45 = 0
  · have e := (if_pos c48).symm.trans e
    refine ex_pc (if_pos c48) ?_
    exact le_E (l1 := [(0, .ref 0), (1, .int w1), (2, .int q2)]) ⟨rfl, rfl, rfl, trivial⟩ rfl (tj177_198 k0 ih  s43 e)
  · have e := (if_neg c48).symm.trans e
    refine ex_pc (if_neg c48) ?_
    refine ex_s (am_nb (m := 1) (pc1 := 176) (ls1 := [(0, .ref 0), (1, .int w1), (2, .int q2)]) (st1 := [.ref 0]) (H1 := H42) (k1 := 0) (n1 := 0) (by with_unfolding_all rfl)) ?_
    refine xe_get (v := .ref 127) s43 rfl rfl (by decide) rfl ?_
    refine ex_s (am_nb (m := 1) (pc1 := 180) (ls1 := [(0, .ref 0), (1, .int w1), (2, .int q2)]) (st1 := [.ref 0, .ref 127]) (H1 := H42) (k1 := 0) (n1 := 0) (by with_unfolding_all rfl)) ?_
    refine xe_get (v := .ref 116) s43 rfl rfl (by decide) rfl ?_
    obtain ⟨r52, a53, e51, e⟩ := xb2_some e
    refine ex_cv1 (as := []) (rest := [.ref 127]) rfl rfl rfl rfl (s43.obj rfl (by decide)) rfl (by with_unfolding_all rfl) (by with_unfolding_all rfl) (tf247_nextToSend s43 e51) (fun H49 s50 => ?_)
    refine ex_s (am_nb (m := 1) (pc1 := 187) (ls1 := [(0, .ref 0), (1, .int w1), (2, .int q2)]) (st1 := [.ref 0, .int r52, .ref 127]) (H1 := H49) (k1 := 0) (n1 := 0) (by with_unfolding_all rfl)) ?_
    refine xe_get (v := .int (a53 0 15)) s50 rfl rfl (by decide) rfl ?_
    refine ex_s (am_nb (m := 1) (pc1 := 191) (ls1 := [(0, .ref 0), (1, .int w1), (2, .int q2)]) (st1 := [.ref 0, .int (a53 0 15), .int r52, .ref 127]) (H1 := H49) (k1 := 0) (n1 := 0) (by with_unfolding_all rfl)) ?_
    refine xe_get (v := .int (a53 0 13)) s50 rfl rfl (by decide) rfl ?_
    refine ex_s (am_nb (m := 1) (pc1 := 195) (ls1 := [(0, .ref 0), (1, .int w1), (2, .int q2)]) (st1 := [.int ((a53 0 15) + (a53 0 13)), .int r52, .ref 127]) (H1 := H49) (k1 := 0) (n1 := 0) (by with_unfolding_all rfl)) ?_
    obtain ⟨a57, e56, e⟩ := xb1_some e
    refine ex_cv0 (as := [.int r52, .int ((a53 0 15) + (a53 0 13))]) (rest := []) rfl rfl rfl rfl (s50.obj rfl (by decide)) rfl (by with_unfolding_all rfl) (by with_unfolding_all rfl) (tf246_carry s50 e56) (fun H54 s55 => ?_)
    exact le_E (l1 := [(0, .ref 0), (1, .int w1), (2, .int q2)]) ⟨rfl, rfl, rfl, trivial⟩ rfl (tj177_198 k0 ih  s55 e)

set_option maxRecDepth 100000 in
theorem tj177_125 {sL : Nat} {sx : Nat → Int32} {h b N : Nat} {T : List am_C} {R : Option Value} {F : am_H → Prop} {w1 : Int32} {z : Nat × Int32 × xA} {rc : Int32 → xA → Option (Nat × Int32 × xA)} (k0 : z.1 = 0 → ∀ H2 : am_H, xS h b T z.2.2 H2 → am_E sL sx am_cs 177 201 [(2, .int z.2.1)] [] H2 R F) (ih : ∀ (v2 : Int32) (a : xA) (H : am_H), xS h b T a H → rc v2 a = some z → am_E sL sx am_cs 177 16 [(0, .ref 0), (1, .int w1), (2, .int v2)] [] H R F) {q2 : Int32} {a : xA} {H : am_H} (hS : xS h b T a H) (e : j177_125 N h b rc w1 q2 a = some z) : am_E sL sx am_cs 177 125 [(0, .ref 0), (1, .int w1), (2, .int q2)] [] H R F := by
  unfold j177_125 at e
  refine ex_s (am_nb (m := 1) (pc1 := 126) (ls1 := [(0, .ref 0), (1, .int w1), (2, .int q2)]) (st1 := [.ref 0]) (H1 := H) (k1 := 0) (n1 := 0) (by with_unfolding_all rfl)) ?_
  refine xe_get (v := .ref 129) hS rfl rfl (by decide) rfl ?_
  obtain ⟨a34, e33, e⟩ := xb1_some e
  refine ex_cv0 (as := []) (rest := []) rfl rfl rfl rfl (hS.obj rfl (by decide)) rfl (by with_unfolding_all rfl) (by with_unfolding_all rfl) (tf203_act hS e33) (fun H31 s32 => ?_)
  refine ex_s (am_nb (m := 1) (pc1 := 133) (ls1 := [(0, .ref 0), (1, .int w1), (2, .int q2)]) (st1 := [.ref 0]) (H1 := H31) (k1 := 0) (n1 := 0) (by with_unfolding_all rfl)) ?_
  refine xe_get (v := .ref 128) s32 rfl rfl (by decide) rfl ?_
  obtain ⟨r38, a39, e37, e⟩ := xb2_some e
  refine ex_cv1 (as := []) (rest := []) rfl rfl rfl rfl (s32.obj rfl (by decide)) rfl (by with_unfolding_all rfl) (by with_unfolding_all rfl) (tf244_isFree s32 e37) (fun H35 s36 => ?_)
  refine ex_s (st_if rfl) ?_
  by_cases c41 : r38 = 0
  · have e := (if_pos c41).symm.trans e
    refine ex_pc (if_pos c41) ?_
    exact le_E (l1 := [(0, .ref 0), (1, .int w1), (2, .int q2)]) ⟨rfl, rfl, rfl, trivial⟩ rfl (tj177_165 k0 ih  s36 e)
  · have e := (if_neg c41).symm.trans e
    refine ex_pc (if_neg c41) ?_
    refine ex_s (am_nb (m := 1) (pc1 := 143) (ls1 := [(0, .ref 0), (1, .int w1), (2, .int q2)]) (st1 := [.ref 0]) (H1 := H35) (k1 := 0) (n1 := 0) (by with_unfolding_all rfl)) ?_
    refine xe_get (v := .ref 128) s36 rfl rfl (by decide) rfl ?_
    refine ex_s (am_nb (m := 1) (pc1 := 147) (ls1 := [(0, .ref 0), (1, .int w1), (2, .int q2)]) (st1 := [.ref 0, .ref 128]) (H1 := H35) (k1 := 0) (n1 := 0) (by with_unfolding_all rfl)) ?_
    refine xe_get (v := .ref 129) s36 rfl rfl (by decide) rfl ?_
    obtain ⟨r61, a62, e60, e⟩ := xb2_some e
    refine ex_cv1 (as := []) (rest := [.ref 128]) rfl rfl rfl rfl (s36.obj rfl (by decide)) rfl (by with_unfolding_all rfl) (by with_unfolding_all rfl) (tf245_nextToSend s36 e60) (fun H58 s59 => ?_)
    refine ex_s (am_nb (m := 1) (pc1 := 154) (ls1 := [(0, .ref 0), (1, .int w1), (2, .int q2)]) (st1 := [.ref 0, .int r61, .ref 128]) (H1 := H58) (k1 := 0) (n1 := 0) (by with_unfolding_all rfl)) ?_
    refine xe_get (v := .int (a62 0 15)) s59 rfl rfl (by decide) rfl ?_
    refine ex_s (am_nb (m := 1) (pc1 := 158) (ls1 := [(0, .ref 0), (1, .int w1), (2, .int q2)]) (st1 := [.ref 0, .int (a62 0 15), .int r61, .ref 128]) (H1 := H58) (k1 := 0) (n1 := 0) (by with_unfolding_all rfl)) ?_
    refine xe_get (v := .int (a62 0 13)) s59 rfl rfl (by decide) rfl ?_
    refine ex_s (am_nb (m := 1) (pc1 := 162) (ls1 := [(0, .ref 0), (1, .int w1), (2, .int q2)]) (st1 := [.int ((a62 0 15) + (a62 0 13)), .int r61, .ref 128]) (H1 := H58) (k1 := 0) (n1 := 0) (by with_unfolding_all rfl)) ?_
    obtain ⟨a66, e65, e⟩ := xb1_some e
    refine ex_cv0 (as := [.int r61, .int ((a62 0 15) + (a62 0 13))]) (rest := []) rfl rfl rfl rfl (s59.obj rfl (by decide)) rfl (by with_unfolding_all rfl) (by with_unfolding_all rfl) (tf246_carry s59 e65) (fun H63 s64 => ?_)
    exact le_E (l1 := [(0, .ref 0), (1, .int w1), (2, .int q2)]) ⟨rfl, rfl, rfl, trivial⟩ rfl (tj177_165 k0 ih  s64 e)

set_option maxRecDepth 100000 in
theorem tj177_101 {sL : Nat} {sx : Nat → Int32} {h b N : Nat} {T : List am_C} {R : Option Value} {F : am_H → Prop} {w1 : Int32} {z : Nat × Int32 × xA} {rc : Int32 → xA → Option (Nat × Int32 × xA)} (k0 : z.1 = 0 → ∀ H2 : am_H, xS h b T z.2.2 H2 → am_E sL sx am_cs 177 201 [(2, .int z.2.1)] [] H2 R F) (ih : ∀ (v2 : Int32) (a : xA) (H : am_H), xS h b T a H → rc v2 a = some z → am_E sL sx am_cs 177 16 [(0, .ref 0), (1, .int w1), (2, .int v2)] [] H R F) {q2 : Int32} {a : xA} {H : am_H} (hS : xS h b T a H) (e : j177_101 N h b rc w1 q2 a = some z) : am_E sL sx am_cs 177 101 [(0, .ref 0), (1, .int w1), (2, .int q2)] [] H R F := by
  unfold j177_101 at e
  refine ex_s (am_nb (m := 1) (pc1 := 102) (ls1 := [(0, .ref 0), (1, .int w1), (2, .int q2)]) (st1 := [.ref 0]) (H1 := H) (k1 := 0) (n1 := 0) (by with_unfolding_all rfl)) ?_
  refine xe_get (v := .int (a 0 15)) hS rfl rfl (by decide) rfl ?_
  refine ex_s (am_nb (m := 2) (pc1 := 107) (ls1 := [(0, .ref 0), (1, .int w1), (2, .int q2)]) (st1 := [.int ((a 0 15) - (a 0 15) / 4 * 4)]) (H1 := H) (k1 := 0) (n1 := 0) (by with_unfolding_all rfl)) ?_
  refine ex_s (st_if rfl) ?_
  by_cases c26 : ((a 0 15) - (a 0 15) / 4 * 4) = 0
  · have e := (if_pos c26).symm.trans e
    refine ex_pc (if_pos c26) ?_
    refine ex_s (am_nb (m := 1) (pc1 := 111) (ls1 := [(0, .ref 0), (1, .int w1), (2, .int q2)]) (st1 := [.ref 0]) (H1 := H) (k1 := 0) (n1 := 0) (by with_unfolding_all rfl)) ?_
    refine xe_get (v := .ref 123) hS rfl rfl (by decide) rfl ?_
    refine ex_s (am_nb (m := 1) (pc1 := 115) (ls1 := [(0, .ref 0), (1, .int w1), (2, .int q2)]) (st1 := [.ref 0, .ref 123]) (H1 := H) (k1 := 0) (n1 := 0) (by with_unfolding_all rfl)) ?_
    refine xe_get (v := .int (a 0 15)) hS rfl rfl (by decide) rfl ?_
    refine ex_s (am_nb (m := 1) (pc1 := 119) (ls1 := [(0, .ref 0), (1, .int w1), (2, .int q2)]) (st1 := [.ref 0, .int (a 0 15), .ref 123]) (H1 := H) (k1 := 0) (n1 := 0) (by with_unfolding_all rfl)) ?_
    refine xe_get (v := .ref 129) hS rfl rfl (by decide) rfl ?_
    obtain ⟨a30, e29, e⟩ := xb1_some e
    refine ex_cv0 (as := [.int (a 0 15), .ref 129]) (rest := []) rfl rfl rfl rfl (hS.obj rfl (by decide)) rfl (by with_unfolding_all rfl) (by with_unfolding_all rfl) (tf193_scan hS e29) (fun H27 s28 => ?_)
    exact le_E (l1 := [(0, .ref 0), (1, .int w1), (2, .int q2)]) ⟨rfl, rfl, rfl, trivial⟩ rfl (tj177_125 k0 ih  s28 e)
  · have e := (if_neg c26).symm.trans e
    refine ex_pc (if_neg c26) ?_
    exact le_E (l1 := [(0, .ref 0), (1, .int w1), (2, .int q2)]) ⟨rfl, rfl, rfl, trivial⟩ rfl (tj177_125 k0 ih  hS e)

set_option maxRecDepth 100000 in
theorem tj177_69 {sL : Nat} {sx : Nat → Int32} {h b N : Nat} {T : List am_C} {R : Option Value} {F : am_H → Prop} {w1 : Int32} {z : Nat × Int32 × xA} {rc : Int32 → xA → Option (Nat × Int32 × xA)} (k0 : z.1 = 0 → ∀ H2 : am_H, xS h b T z.2.2 H2 → am_E sL sx am_cs 177 201 [(2, .int z.2.1)] [] H2 R F) (ih : ∀ (v2 : Int32) (a : xA) (H : am_H), xS h b T a H → rc v2 a = some z → am_E sL sx am_cs 177 16 [(0, .ref 0), (1, .int w1), (2, .int v2)] [] H R F) {q2 : Int32} {a : xA} {H : am_H} (hS : xS h b T a H) (e : j177_69 N h b rc w1 q2 a = some z) : am_E sL sx am_cs 177 69 [(0, .ref 0), (1, .int w1), (2, .int q2)] [] H R F := by
  unfold j177_69 at e
  refine ex_s (am_nb (m := 1) (pc1 := 70) (ls1 := [(0, .ref 0), (1, .int w1), (2, .int q2)]) (st1 := [.ref 0]) (H1 := H) (k1 := 0) (n1 := 0) (by with_unfolding_all rfl)) ?_
  refine xe_get (v := .ref 128) hS rfl rfl (by decide) rfl ?_
  refine ex_s (am_nb (m := 1) (pc1 := 74) (ls1 := [(0, .ref 0), (1, .int w1), (2, .int q2)]) (st1 := [.ref 0, .ref 128]) (H1 := H) (k1 := 0) (n1 := 0) (by with_unfolding_all rfl)) ?_
  refine xe_get (v := .int (a 0 15)) hS rfl rfl (by decide) rfl ?_
  obtain ⟨r20, a21, e19, e⟩ := xb2_some e
  refine ex_cv1 (as := [.int (a 0 15)]) (rest := []) rfl rfl rfl rfl (hS.obj rfl (by decide)) rfl (by with_unfolding_all rfl) (by with_unfolding_all rfl) (tf178_arriving hS e19) (fun H17 s18 => ?_)
  refine ex_s (am_nb (m := 3) (pc1 := 83) (ls1 := [(3, .int r20), (0, .ref 0), (1, .int w1), (2, .int q2)]) (st1 := [.int (-1), .int r20]) (H1 := H17) (k1 := 0) (n1 := 0) (by with_unfolding_all rfl)) ?_
  refine ex_s (st_icmp rfl) ?_
  by_cases c24 : r20 = (-1)
  · have e := (if_pos c24).symm.trans e
    refine ex_pc (if_pos c24) ?_
    exact le_E (l1 := [(0, .ref 0), (1, .int w1), (2, .int q2)]) ⟨rfl, rfl, rfl, trivial⟩ rfl (tj177_101 k0 ih  s18 e)
  · have e := (if_neg c24).symm.trans e
    refine ex_pc (if_neg c24) ?_
    refine ex_s (am_nb (m := 2) (pc1 := 90) (ls1 := [(3, .int r20), (0, .ref 0), (1, .int w1), (2, .int q2)]) (st1 := [.int 256, .int r20]) (H1 := H17) (k1 := 0) (n1 := 0) (by with_unfolding_all rfl)) ?_
    refine ex_s (st_icmp rfl) ?_
    by_cases c68 : r20 = 256
    · have e := (if_pos c68).symm.trans e
      refine ex_pc (if_pos c68) ?_
      exact le_E (l1 := [(0, .ref 0), (1, .int w1), (2, .int q2)]) ⟨rfl, rfl, rfl, trivial⟩ rfl (tj177_101 k0 ih  s18 e)
    · have e := (if_neg c68).symm.trans e
      refine ex_pc (if_neg c68) ?_
      refine ex_s (am_nb (m := 1) (pc1 := 94) (ls1 := [(3, .int r20), (0, .ref 0), (1, .int w1), (2, .int q2)]) (st1 := [.ref 0]) (H1 := H17) (k1 := 0) (n1 := 0) (by with_unfolding_all rfl)) ?_
      refine xe_get (v := .ref 116) s18 rfl rfl (by decide) rfl ?_
      refine ex_s (am_nb (m := 1) (pc1 := 98) (ls1 := [(3, .int r20), (0, .ref 0), (1, .int w1), (2, .int q2)]) (st1 := [.int r20, .ref 116]) (H1 := H17) (k1 := 0) (n1 := 0) (by with_unfolding_all rfl)) ?_
      obtain ⟨a72, e71, e⟩ := xb1_some e
      refine ex_cv0 (as := [.int r20]) (rest := []) rfl rfl rfl rfl (s18.obj rfl (by decide)) rfl (by with_unfolding_all rfl) (by with_unfolding_all rfl) (tf180_receive s18 e71) (fun H69 s70 => ?_)
      exact le_E (l1 := [(0, .ref 0), (1, .int w1), (2, .int q2)]) ⟨rfl, rfl, rfl, trivial⟩ rfl (tj177_101 k0 ih  s70 e)

set_option maxRecDepth 100000 in
theorem tl177_16 {sL : Nat} {sx : Nat → Int32} {h b N : Nat} {T : List am_C} {R : Option Value} {F : am_H → Prop} {w1 : Int32} {z : Nat × Int32 × xA} (k0 : z.1 = 0 → ∀ H2 : am_H, xS h b T z.2.2 H2 → am_E sL sx am_cs 177 201 [(2, .int z.2.1)] [] H2 R F) : ∀ (n : Nat) (v2 : Int32) (a : xA) (H : am_H), xS h b T a H → l177_16 N h b w1 n v2 a = some z → am_E sL sx am_cs 177 16 [(0, .ref 0), (1, .int w1), (2, .int v2)] [] H R F := by
  intro n
  induction n with
  | zero =>
    intro v2 a H hS e
    cases e
  | succ n ih =>
    intro v2 a H hS e
    unfold l177_16 at e
    refine ex_s (am_nb (m := 2) (pc1 := 18) (ls1 := [(0, .ref 0), (1, .int w1), (2, .int v2)]) (st1 := [.int w1, .int v2]) (H1 := H) (k1 := 0) (n1 := 0) (by with_unfolding_all rfl)) ?_
    refine ex_s (st_icmp rfl) ?_
    by_cases c5 : w1 ≤ v2
    · have e := (if_pos c5).symm.trans e
      refine ex_pc (if_pos c5) ?_
      cases e
      exact le_E (l1 := [(2, .int v2)]) ⟨rfl, trivial⟩ rfl (k0 rfl H hS)
    · have e := (if_neg c5).symm.trans e
      refine ex_pc (if_neg c5) ?_
      refine ex_s (am_nb (m := 1) (pc1 := 22) (ls1 := [(0, .ref 0), (1, .int w1), (2, .int v2)]) (st1 := [.ref 0]) (H1 := H) (k1 := 0) (n1 := 0) (by with_unfolding_all rfl)) ?_
      refine xe_get (v := .int (a 0 15)) hS rfl rfl (by decide) rfl ?_
      refine ex_s (am_nb (m := 1) (pc1 := 28) (ls1 := [(0, .ref 0), (1, .int w1), (2, .int v2)]) (st1 := [.int 1000000000, .int (a 0 15)]) (H1 := H) (k1 := 0) (n1 := 0) (by with_unfolding_all rfl)) ?_
      refine ex_s (st_icmp rfl) ?_
      by_cases c6 : 1000000000 ≤ (a 0 15)
      · have e := (if_pos c6).symm.trans e
        refine ex_pc (if_pos c6) ?_
        cases e
        exact le_E (l1 := [(2, .int v2)]) ⟨rfl, trivial⟩ rfl (k0 rfl H hS)
      · have e := (if_neg c6).symm.trans e
        refine ex_pc (if_neg c6) ?_
        refine ex_s (am_nb (m := 3) (pc1 := 36) (ls1 := [(2, .int (v2 + 1)), (0, .ref 0), (1, .int w1)]) (st1 := [.ref 0, .ref 0]) (H1 := H) (k1 := 0) (n1 := 0) (by with_unfolding_all rfl)) ?_
        refine xe_get (v := .int (a 0 15)) hS rfl rfl (by decide) rfl ?_
        refine ex_s (am_nb (m := 2) (pc1 := 41) (ls1 := [(2, .int (v2 + 1)), (0, .ref 0), (1, .int w1)]) (st1 := [.int ((a 0 15) + 1), .ref 0]) (H1 := H) (k1 := 0) (n1 := 0) (by with_unfolding_all rfl)) ?_
        obtain ⟨a7, ha7, e⟩ := xw_some e
        refine xe_put (w := ((a 0 15) + 1)) hS rfl rfl (by decide) rfl rfl rfl rfl (fun H8 s9 => ?_)
        have s9 : xS h b T a7 H8 := by rw [ha7]; exact s9
        refine ex_s (am_nb (m := 1) (pc1 := 45) (ls1 := [(2, .int (v2 + 1)), (0, .ref 0), (1, .int w1)]) (st1 := [.ref 0]) (H1 := H8) (k1 := 0) (n1 := 0) (by with_unfolding_all rfl)) ?_
        refine xe_get (v := .ref 127) s9 rfl rfl (by decide) rfl ?_
        refine ex_s (am_nb (m := 1) (pc1 := 49) (ls1 := [(2, .int (v2 + 1)), (0, .ref 0), (1, .int w1)]) (st1 := [.ref 0, .ref 127]) (H1 := H8) (k1 := 0) (n1 := 0) (by with_unfolding_all rfl)) ?_
        refine xe_get (v := .int (a7 0 15)) s9 rfl rfl (by decide) rfl ?_
        obtain ⟨r13, a14, e12, e⟩ := xb2_some e
        refine ex_cv1 (as := [.int (a7 0 15)]) (rest := []) rfl rfl rfl rfl (s9.obj rfl (by decide)) rfl (by with_unfolding_all rfl) (by with_unfolding_all rfl) (tf178_arriving s9 e12) (fun H10 s11 => ?_)
        refine ex_s (am_nb (m := 3) (pc1 := 58) (ls1 := [(3, .int r13), (2, .int (v2 + 1)), (0, .ref 0), (1, .int w1)]) (st1 := [.int (-1), .int r13]) (H1 := H10) (k1 := 0) (n1 := 0) (by with_unfolding_all rfl)) ?_
        refine ex_s (st_icmp rfl) ?_
        by_cases c16 : r13 = (-1)
        · have e := (if_pos c16).symm.trans e
          refine ex_pc (if_pos c16) ?_
          exact le_E (l1 := [(0, .ref 0), (1, .int w1), (2, .int (v2 + 1))]) ⟨rfl, rfl, rfl, trivial⟩ rfl (tj177_69 k0 ih  s11 e)
        · have e := (if_neg c16).symm.trans e
          refine ex_pc (if_neg c16) ?_
          refine ex_s (am_nb (m := 1) (pc1 := 62) (ls1 := [(3, .int r13), (2, .int (v2 + 1)), (0, .ref 0), (1, .int w1)]) (st1 := [.ref 0]) (H1 := H10) (k1 := 0) (n1 := 0) (by with_unfolding_all rfl)) ?_
          refine xe_get (v := .ref 129) s11 rfl rfl (by decide) rfl ?_
          refine ex_s (am_nb (m := 1) (pc1 := 66) (ls1 := [(3, .int r13), (2, .int (v2 + 1)), (0, .ref 0), (1, .int w1)]) (st1 := [.int r13, .ref 129]) (H1 := H10) (k1 := 0) (n1 := 0) (by with_unfolding_all rfl)) ?_
          obtain ⟨a76, e75, e⟩ := xb1_some e
          refine ex_cv0 (as := [.int r13]) (rest := []) rfl rfl rfl rfl (s11.obj rfl (by decide)) rfl (by with_unfolding_all rfl) (by with_unfolding_all rfl) (tf179_receive s11 e75) (fun H73 s74 => ?_)
          exact le_E (l1 := [(0, .ref 0), (1, .int w1), (2, .int (v2 + 1))]) ⟨rfl, rfl, rfl, trivial⟩ rfl (tj177_69 k0 ih  s74 e)

set_option maxRecDepth 100000 in
theorem tf177_ticks {sL : Nat} {sx : Nat → Int32} {h b N : Nat} {T : List am_C} {r : Int32} {a' : xA} {x0 : Int32} {a : xA} {H : am_H} (hS : xS h b T a H) (e : f177_ticks N h b x0 a = some (r, a')) : am_E sL sx am_cs 177 0 [(0, .ref 0), (1, .int x0)] [] H (some (.int r)) (fun H1 => xS h b T a' H1) := by
  unfold f177_ticks at e
  refine ex_s (am_nb (m := 2) (pc1 := 2) (ls1 := [(0, .ref 0), (1, .int x0)]) (st1 := [.int 1, .int x0]) (H1 := H) (k1 := 0) (n1 := 0) (by with_unfolding_all rfl)) ?_
  refine ex_s (st_icmp rfl) ?_
  by_cases c3 : x0 < 1
  · have e := (if_pos c3).symm.trans e
    refine ex_pc (if_pos c3) ?_
    refine ex_s (am_nb (m := 1) (pc1 := 13) (ls1 := [(0, .ref 0), (1, .int x0)]) (st1 := [.int (-1)]) (H1 := H) (k1 := 0) (n1 := 0) (by with_unfolding_all rfl)) ?_
    cases e
    exact ex_r (st_iret rfl rfl rfl) hS
  · have e := (if_neg c3).symm.trans e
    refine ex_pc (if_neg c3) ?_
    refine ex_s (am_nb (m := 2) (pc1 := 9) (ls1 := [(0, .ref 0), (1, .int x0)]) (st1 := [.int 2000, .int x0]) (H1 := H) (k1 := 0) (n1 := 0) (by with_unfolding_all rfl)) ?_
    refine ex_s (st_icmp rfl) ?_
    by_cases c4 : x0 ≤ 2000
    · have e := (if_pos c4).symm.trans e
      refine ex_pc (if_pos c4) ?_
      refine ex_s (am_nb (m := 2) (pc1 := 16) (ls1 := [(2, .int 0), (0, .ref 0), (1, .int x0)]) (st1 := []) (H1 := H) (k1 := 0) (n1 := 0) (by with_unfolding_all rfl)) ?_
      obtain ⟨z77, e78, e⟩ := Option.bind_eq_some_iff.mp e
      refine le_E (l1 := [(0, .ref 0), (1, .int x0), (2, .int 0)]) ⟨rfl, rfl, rfl, trivial⟩ rfl (tl177_16 (z := z77)  (fun uz77_0 Hz770 sz770 => ?_) N 0 a H hS e78)
      refine ex_s (am_nb (m := 1) (pc1 := 202) (ls1 := [(2, .int z77.2.1)]) (st1 := [.int z77.2.1]) (H1 := Hz770) (k1 := 0) (n1 := 0) (by with_unfolding_all rfl)) ?_
      cases e
      exact ex_r (st_iret rfl rfl rfl) sz770
    · have e := (if_neg c4).symm.trans e
      refine ex_pc (if_neg c4) ?_
      refine ex_s (am_nb (m := 1) (pc1 := 13) (ls1 := [(0, .ref 0), (1, .int x0)]) (st1 := [.int (-1)]) (H1 := H) (k1 := 0) (n1 := 0) (by with_unfolding_all rfl)) ?_
      cases e
      exact ex_r (st_iret rfl rfl rfl) hS

set_option maxRecDepth 100000 in
theorem tf249_hasCell {sL : Nat} {sx : Nat → Int32} {h b N : Nat} {T : List am_C} {r : Int32} {a' : xA} {x0 : Int32} {x1 : Int32} {a : xA} {H : am_H} (hS : xS h b T a H) (e : f249_hasCell N h b x0 x1 a = some (r, a')) : am_E sL sx am_cs 249 0 [(0, .ref 136), (1, .int x0), (2, .int x1)] [] H (some (.int r)) (fun H1 => xS h b T a' H1) := by
  unfold f249_hasCell at e
  refine ex_s (am_nb (m := 1) (pc1 := 1) (ls1 := [(0, .ref 136), (1, .int x0), (2, .int x1)]) (st1 := [.int x0]) (H1 := H) (k1 := 0) (n1 := 0) (by with_unfolding_all rfl)) ?_
  refine ex_s (st_if rfl) ?_
  by_cases c5 : x0 < 0
  · have e := (if_pos c5).symm.trans e
    refine ex_pc (if_pos c5) ?_
    refine ex_s (am_nb (m := 1) (pc1 := 29) (ls1 := [(0, .ref 136), (1, .int x0), (2, .int x1)]) (st1 := [.int 0]) (H1 := H) (k1 := 0) (n1 := 0) (by with_unfolding_all rfl)) ?_
    cases e
    exact ex_r (st_iret rfl rfl rfl) hS
  · have e := (if_neg c5).symm.trans e
    refine ex_pc (if_neg c5) ?_
    refine ex_s (am_nb (m := 2) (pc1 := 6) (ls1 := [(0, .ref 136), (1, .int x0), (2, .int x1)]) (st1 := [.ref 136, .int x0]) (H1 := H) (k1 := 0) (n1 := 0) (by with_unfolding_all rfl)) ?_
    refine xe_get (v := .int (a 136 0)) hS rfl rfl (by decide) rfl ?_
    refine ex_s (st_icmp rfl) ?_
    by_cases c9 : (a 136 0) ≤ x0
    · have e := (if_pos c9).symm.trans e
      refine ex_pc (if_pos c9) ?_
      refine ex_s (am_nb (m := 1) (pc1 := 29) (ls1 := [(0, .ref 136), (1, .int x0), (2, .int x1)]) (st1 := [.int 0]) (H1 := H) (k1 := 0) (n1 := 0) (by with_unfolding_all rfl)) ?_
      cases e
      exact ex_r (st_iret rfl rfl rfl) hS
    · have e := (if_neg c9).symm.trans e
      refine ex_pc (if_neg c9) ?_
      refine ex_s (am_nb (m := 1) (pc1 := 13) (ls1 := [(0, .ref 136), (1, .int x0), (2, .int x1)]) (st1 := [.int x1]) (H1 := H) (k1 := 0) (n1 := 0) (by with_unfolding_all rfl)) ?_
      refine ex_s (st_if rfl) ?_
      by_cases c12 : x1 < 0
      · have e := (if_pos c12).symm.trans e
        refine ex_pc (if_pos c12) ?_
        refine ex_s (am_nb (m := 1) (pc1 := 29) (ls1 := [(0, .ref 136), (1, .int x0), (2, .int x1)]) (st1 := [.int 0]) (H1 := H) (k1 := 0) (n1 := 0) (by with_unfolding_all rfl)) ?_
        cases e
        exact ex_r (st_iret rfl rfl rfl) hS
      · have e := (if_neg c12).symm.trans e
        refine ex_pc (if_neg c12) ?_
        refine ex_s (am_nb (m := 2) (pc1 := 18) (ls1 := [(0, .ref 136), (1, .int x0), (2, .int x1)]) (st1 := [.ref 136, .int x1]) (H1 := H) (k1 := 0) (n1 := 0) (by with_unfolding_all rfl)) ?_
        refine xe_get (v := .int (a 136 1)) hS rfl rfl (by decide) rfl ?_
        have kk : am_E sL sx am_cs 249 29 [(0, .ref 136), (1, .int x0), (2, .int x1)] [.int (if (a 136 1) ≤ x1 then (0 : Int32) else (1 : Int32))] H (some (.int r)) (fun H1 => xS h b T a' H1) := by
          obtain ⟨g14, e⟩ := xg_some e
          cases e
          exact ex_r (st_iret rfl rfl (xnar_z g14)) hS
        refine ex_s (st_icmp rfl) ?_
        by_cases c13 : (a 136 1) ≤ x1
        · refine ex_pc (if_pos c13) ?_
          refine ex_s (am_nb (m := 1) (pc1 := 29) (ls1 := [(0, .ref 136), (1, .int x0), (2, .int x1)]) (st1 := [.int 0]) (H1 := H) (k1 := 0) (n1 := 0) (by with_unfolding_all rfl)) ?_
          rw [if_pos c13] at kk
          exact kk
        · refine ex_pc (if_neg c13) ?_
          refine ex_s (am_nb (m := 2) (pc1 := 29) (ls1 := [(0, .ref 136), (1, .int x0), (2, .int x1)]) (st1 := [.int 1]) (H1 := H) (k1 := 0) (n1 := 0) (by with_unfolding_all rfl)) ?_
          rw [if_neg c13] at kk
          exact kk

set_option maxRecDepth 100000 in
theorem tf248_screen {sL : Nat} {sx : Nat → Int32} {h b N : Nat} {T : List am_C} {r : Int32} {a' : xA} {x0 : Int32} {x1 : Int32} {a : xA} {H : am_H} (hS : xS h b T a H) (e : f248_screen N h b x0 x1 a = some (r, a')) : am_E sL sx am_cs 248 0 [(0, .ref 0), (1, .int x0), (2, .int x1)] [] H (some (.int r)) (fun H1 => xS h b T a' H1) := by
  unfold f248_screen at e
  refine ex_s (am_nb (m := 1) (pc1 := 1) (ls1 := [(0, .ref 0), (1, .int x0), (2, .int x1)]) (st1 := [.ref 0]) (H1 := H) (k1 := 0) (n1 := 0) (by with_unfolding_all rfl)) ?_
  refine xe_get (v := .ref 129) hS rfl rfl (by decide) rfl ?_
  refine xe_get (v := .ref 136) hS rfl rfl (by decide) rfl ?_
  refine ex_s (am_nb (m := 4) (pc1 := 11) (ls1 := [(3, .ref 136), (0, .ref 0), (1, .int x0), (2, .int x1)]) (st1 := [.int x1, .int x0, .ref 136]) (H1 := H) (k1 := 0) (n1 := 0) (by with_unfolding_all rfl)) ?_
  obtain ⟨r4, a5, e3, e⟩ := xb2_some e
  refine ex_cv1 (as := [.int x0, .int x1]) (rest := []) rfl rfl rfl rfl (hS.obj rfl (by decide)) rfl (by with_unfolding_all rfl) (by with_unfolding_all rfl) (tf249_hasCell hS e3) (fun H1 s2 => ?_)
  refine ex_s (st_if rfl) ?_
  by_cases c7 : r4 = 0
  · have e := (if_pos c7).symm.trans e
    refine ex_pc (if_pos c7) ?_
    refine ex_s (am_nb (m := 1) (pc1 := 34) (ls1 := [(3, .ref 136), (0, .ref 0), (1, .int x0), (2, .int x1)]) (st1 := [.int (-1)]) (H1 := H1) (k1 := 0) (n1 := 0) (by with_unfolding_all rfl)) ?_
    cases e
    exact ex_r (st_iret rfl rfl rfl) s2
  · have e := (if_neg c7).symm.trans e
    refine ex_pc (if_neg c7) ?_
    refine ex_s (am_nb (m := 1) (pc1 := 18) (ls1 := [(3, .ref 136), (0, .ref 0), (1, .int x0), (2, .int x1)]) (st1 := [.ref 136]) (H1 := H1) (k1 := 0) (n1 := 0) (by with_unfolding_all rfl)) ?_
    refine xe_get (v := .ref 138) s2 rfl rfl (by decide) rfl ?_
    refine ex_s (am_nb (m := 2) (pc1 := 23) (ls1 := [(3, .ref 136), (0, .ref 0), (1, .int x0), (2, .int x1)]) (st1 := [.ref 136, .int x0, .ref 138]) (H1 := H1) (k1 := 0) (n1 := 0) (by with_unfolding_all rfl)) ?_
    refine xe_get (v := .int (a5 136 1)) s2 rfl rfl (by decide) rfl ?_
    refine ex_s (am_nb (m := 3) (pc1 := 29) (ls1 := [(3, .ref 136), (0, .ref 0), (1, .int x0), (2, .int x1)]) (st1 := [.int ((x0 * (a5 136 1)) + x1), .ref 138]) (H1 := H1) (k1 := 0) (n1 := 0) (by with_unfolding_all rfl)) ?_
    obtain ⟨g8, e⟩ := xg_some e
    refine xe_iald s2 rfl rfl g8 ?_
    refine ex_s (am_nb (m := 1) (pc1 := 34) (ls1 := [(3, .ref 136), (0, .ref 0), (1, .int x0), (2, .int x1)]) (st1 := [.int (a5 138 (((x0 * (a5 136 1)) + x1).toNatClampNeg))]) (H1 := H1) (k1 := 0) (n1 := 0) (by with_unfolding_all rfl)) ?_
    cases e
    exact ex_r (st_iret rfl rfl rfl) s2

set_option maxRecDepth 100000 in
theorem tf250_width {sL : Nat} {sx : Nat → Int32} {h b N : Nat} {T : List am_C} {r : Int32} {a' : xA} {x0 : Int32} {a : xA} {H : am_H} (hS : xS h b T a H) (e : f250_width N h b x0 a = some (r, a')) : am_E sL sx am_cs 250 0 [(0, .ref 0), (1, .int x0)] [] H (some (.int r)) (fun H1 => xS h b T a' H1) := by
  unfold f250_width at e
  refine ex_s (am_nb (m := 1) (pc1 := 1) (ls1 := [(0, .ref 0), (1, .int x0)]) (st1 := [.ref 0]) (H1 := H) (k1 := 0) (n1 := 0) (by with_unfolding_all rfl)) ?_
  refine xe_get (v := .ref 129) hS rfl rfl (by decide) rfl ?_
  refine xe_get (v := .ref 136) hS rfl rfl (by decide) rfl ?_
  refine ex_s (am_nb (m := 4) (pc1 := 11) (ls1 := [(2, .ref 136), (0, .ref 0), (1, .int x0)]) (st1 := [.int 0, .int x0, .ref 136]) (H1 := H) (k1 := 0) (n1 := 0) (by with_unfolding_all rfl)) ?_
  obtain ⟨r4, a5, e3, e⟩ := xb2_some e
  refine ex_cv1 (as := [.int x0, .int 0]) (rest := []) rfl rfl rfl rfl (hS.obj rfl (by decide)) rfl (by with_unfolding_all rfl) (by with_unfolding_all rfl) (tf249_hasCell hS e3) (fun H1 s2 => ?_)
  refine ex_s (st_if rfl) ?_
  by_cases c7 : r4 = 0
  · have e := (if_pos c7).symm.trans e
    refine ex_pc (if_pos c7) ?_
    refine ex_s (am_nb (m := 1) (pc1 := 27) (ls1 := [(2, .ref 136), (0, .ref 0), (1, .int x0)]) (st1 := [.int (-1)]) (H1 := H1) (k1 := 0) (n1 := 0) (by with_unfolding_all rfl)) ?_
    cases e
    exact ex_r (st_iret rfl rfl rfl) s2
  · have e := (if_neg c7).symm.trans e
    refine ex_pc (if_neg c7) ?_
    refine ex_s (am_nb (m := 1) (pc1 := 18) (ls1 := [(2, .ref 136), (0, .ref 0), (1, .int x0)]) (st1 := [.ref 136]) (H1 := H1) (k1 := 0) (n1 := 0) (by with_unfolding_all rfl)) ?_
    refine xe_get (v := .ref 139) s2 rfl rfl (by decide) rfl ?_
    refine ex_s (am_nb (m := 1) (pc1 := 22) (ls1 := [(2, .ref 136), (0, .ref 0), (1, .int x0)]) (st1 := [.int x0, .ref 139]) (H1 := H1) (k1 := 0) (n1 := 0) (by with_unfolding_all rfl)) ?_
    obtain ⟨g8, e⟩ := xg_some e
    refine xe_iald s2 rfl rfl g8 ?_
    refine ex_s (am_nb (m := 1) (pc1 := 27) (ls1 := [(2, .ref 136), (0, .ref 0), (1, .int x0)]) (st1 := [.int (a5 139 (x0.toNatClampNeg))]) (H1 := H1) (k1 := 0) (n1 := 0) (by with_unfolding_all rfl)) ?_
    cases e
    exact ex_r (st_iret rfl rfl rfl) s2

set_option maxRecDepth 100000 in
theorem tf252_tell {sL : Nat} {sx : Nat → Int32} {h b N : Nat} {T : List am_C} {r : Int32} {a' : xA} {x0 : Int32} {a : xA} {H : am_H} (hS : xS h b T a H) (e : f252_tell N h b x0 a = some (r, a')) : am_E sL sx am_cs 252 0 [(0, .ref 129), (1, .int x0)] [] H (some (.int r)) (fun H1 => xS h b T a' H1) := by
  unfold f252_tell at e
  refine ex_s (am_nb (m := 1) (pc1 := 1) (ls1 := [(0, .ref 129), (1, .int x0)]) (st1 := [.int x0]) (H1 := H) (k1 := 0) (n1 := 0) (by with_unfolding_all rfl)) ?_
  refine ex_s (st_tsw rfl) ?_
  by_cases c1 : x0 = 9
  · have e := (if_pos c1).symm.trans e
    refine ex_pc (pc1 := 48) (by rw [c1]; with_unfolding_all rfl) ?_
    refine ex_s (am_nb (m := 1) (pc1 := 49) (ls1 := [(0, .ref 129), (1, .int x0)]) (st1 := [.ref 129]) (H1 := H) (k1 := 0) (n1 := 0) (by with_unfolding_all rfl)) ?_
    refine xe_get (v := .ref 130) hS rfl rfl (by decide) rfl ?_
    obtain ⟨r5, a6, e4, e⟩ := xb2_some e
    refine ex_cv1 (as := []) (rest := []) rfl rfl rfl rfl (hS.obj rfl (by decide)) rfl (by with_unfolding_all rfl) (by with_unfolding_all rfl) (tf163_size hS e4) (fun H2 s3 => ?_)
    cases e
    exact ex_r (st_iret rfl rfl rfl) s3
  · have e := (if_neg c1).symm.trans e
    by_cases c7 : x0 = 11
    · have e := (if_pos c7).symm.trans e
      refine ex_pc (pc1 := 56) (by rw [c7]; with_unfolding_all rfl) ?_
      refine ex_s (am_nb (m := 1) (pc1 := 57) (ls1 := [(0, .ref 129), (1, .int x0)]) (st1 := [.ref 129]) (H1 := H) (k1 := 0) (n1 := 0) (by with_unfolding_all rfl)) ?_
      refine xe_get (v := .int (a 129 5)) hS rfl rfl (by decide) rfl ?_
      have kk : am_E sL sx am_cs 252 68 [(0, .ref 129), (1, .int x0)] [.int (if (a 129 5) = 0 then (0 : Int32) else (1 : Int32))] H (some (.int r)) (fun H1 => xS h b T a' H1) := by
        cases e
        exact ex_r (st_iret rfl rfl rfl) hS
      refine ex_s (st_if rfl) ?_
      by_cases c8 : (a 129 5) = 0
      · refine ex_pc (if_pos c8) ?_
        refine ex_s (am_nb (m := 1) (pc1 := 68) (ls1 := [(0, .ref 129), (1, .int x0)]) (st1 := [.int 0]) (H1 := H) (k1 := 0) (n1 := 0) (by with_unfolding_all rfl)) ?_
        rw [if_pos c8] at kk
        exact kk
      · refine ex_pc (if_neg c8) ?_
        refine ex_s (am_nb (m := 2) (pc1 := 68) (ls1 := [(0, .ref 129), (1, .int x0)]) (st1 := [.int 1]) (H1 := H) (k1 := 0) (n1 := 0) (by with_unfolding_all rfl)) ?_
        rw [if_neg c8] at kk
        exact kk
    · have e := (if_neg c7).symm.trans e
      by_cases c9 : x0 = 12
      · have e := (if_pos c9).symm.trans e
        refine ex_pc (pc1 := 69) (by rw [c9]; with_unfolding_all rfl) ?_
        refine ex_s (am_nb (m := 1) (pc1 := 70) (ls1 := [(0, .ref 129), (1, .int x0)]) (st1 := [.ref 129]) (H1 := H) (k1 := 0) (n1 := 0) (by with_unfolding_all rfl)) ?_
        refine xe_get (v := .int (a 129 6)) hS rfl rfl (by decide) rfl ?_
        have kk : am_E sL sx am_cs 252 81 [(0, .ref 129), (1, .int x0)] [.int (if (a 129 6) = 0 then (0 : Int32) else (1 : Int32))] H (some (.int r)) (fun H1 => xS h b T a' H1) := by
          cases e
          exact ex_r (st_iret rfl rfl rfl) hS
        refine ex_s (st_if rfl) ?_
        by_cases c10 : (a 129 6) = 0
        · refine ex_pc (if_pos c10) ?_
          refine ex_s (am_nb (m := 1) (pc1 := 81) (ls1 := [(0, .ref 129), (1, .int x0)]) (st1 := [.int 0]) (H1 := H) (k1 := 0) (n1 := 0) (by with_unfolding_all rfl)) ?_
          rw [if_pos c10] at kk
          exact kk
        · refine ex_pc (if_neg c10) ?_
          refine ex_s (am_nb (m := 2) (pc1 := 81) (ls1 := [(0, .ref 129), (1, .int x0)]) (st1 := [.int 1]) (H1 := H) (k1 := 0) (n1 := 0) (by with_unfolding_all rfl)) ?_
          rw [if_neg c10] at kk
          exact kk
      · have e := (if_neg c9).symm.trans e
        by_cases c11 : x0 = 13
        · have e := (if_pos c11).symm.trans e
          refine ex_pc (pc1 := 82) (by rw [c11]; with_unfolding_all rfl) ?_
          refine ex_s (am_nb (m := 1) (pc1 := 83) (ls1 := [(0, .ref 129), (1, .int x0)]) (st1 := [.ref 129]) (H1 := H) (k1 := 0) (n1 := 0) (by with_unfolding_all rfl)) ?_
          refine xe_get (v := .int (a 129 4)) hS rfl rfl (by decide) rfl ?_
          have kk : am_E sL sx am_cs 252 94 [(0, .ref 129), (1, .int x0)] [.int (if (a 129 4) = 0 then (0 : Int32) else (1 : Int32))] H (some (.int r)) (fun H1 => xS h b T a' H1) := by
            refine ex_s (am_nb (m := 1) (pc1 := 95) (ls1 := [(0, .ref 129), (1, .int x0)]) (st1 := [.ref 129, .int (if (a 129 4) = 0 then (0 : Int32) else (1 : Int32))]) (H1 := H) (k1 := 0) (n1 := 0) (by with_unfolding_all rfl)) ?_
            refine xe_get (v := .int (a 129 5)) hS rfl rfl (by decide) rfl ?_
            have kk : am_E sL sx am_cs 252 106 [(0, .ref 129), (1, .int x0)] [.int (if (a 129 5) = 0 then (0 : Int32) else (2 : Int32)), .int (if (a 129 4) = 0 then (0 : Int32) else (1 : Int32))] H (some (.int r)) (fun H1 => xS h b T a' H1) := by
              refine ex_s (am_nb (m := 1) (pc1 := 107) (ls1 := [(0, .ref 129), (1, .int x0)]) (st1 := [.int ((if (a 129 4) = 0 then (0 : Int32) else (1 : Int32)) + (if (a 129 5) = 0 then (0 : Int32) else (2 : Int32)))]) (H1 := H) (k1 := 0) (n1 := 0) (by with_unfolding_all rfl)) ?_
              cases e
              exact ex_r (st_iret rfl rfl rfl) hS
            refine ex_s (st_if rfl) ?_
            by_cases c13 : (a 129 5) = 0
            · refine ex_pc (if_pos c13) ?_
              refine ex_s (am_nb (m := 1) (pc1 := 106) (ls1 := [(0, .ref 129), (1, .int x0)]) (st1 := [.int 0, .int (if (a 129 4) = 0 then (0 : Int32) else (1 : Int32))]) (H1 := H) (k1 := 0) (n1 := 0) (by with_unfolding_all rfl)) ?_
              rw [if_pos c13] at kk
              exact kk
            · refine ex_pc (if_neg c13) ?_
              refine ex_s (am_nb (m := 2) (pc1 := 106) (ls1 := [(0, .ref 129), (1, .int x0)]) (st1 := [.int 2, .int (if (a 129 4) = 0 then (0 : Int32) else (1 : Int32))]) (H1 := H) (k1 := 0) (n1 := 0) (by with_unfolding_all rfl)) ?_
              rw [if_neg c13] at kk
              exact kk
          refine ex_s (st_if rfl) ?_
          by_cases c12 : (a 129 4) = 0
          · refine ex_pc (if_pos c12) ?_
            refine ex_s (am_nb (m := 1) (pc1 := 94) (ls1 := [(0, .ref 129), (1, .int x0)]) (st1 := [.int 0]) (H1 := H) (k1 := 0) (n1 := 0) (by with_unfolding_all rfl)) ?_
            rw [if_pos c12] at kk
            exact kk
          · refine ex_pc (if_neg c12) ?_
            refine ex_s (am_nb (m := 2) (pc1 := 94) (ls1 := [(0, .ref 129), (1, .int x0)]) (st1 := [.int 1]) (H1 := H) (k1 := 0) (n1 := 0) (by with_unfolding_all rfl)) ?_
            rw [if_neg c12] at kk
            exact kk
        · have e := (if_neg c11).symm.trans e
          by_cases c14 : x0 = 14
          · have e := (if_pos c14).symm.trans e
            refine ex_pc (pc1 := 108) (by rw [c14]; with_unfolding_all rfl) ?_
            refine ex_s (am_nb (m := 1) (pc1 := 109) (ls1 := [(0, .ref 129), (1, .int x0)]) (st1 := [.ref 129]) (H1 := H) (k1 := 0) (n1 := 0) (by with_unfolding_all rfl)) ?_
            refine xe_get (v := .ref 132) hS rfl rfl (by decide) rfl ?_
            obtain ⟨r18, a19, e17, e⟩ := xb2_some e
            refine ex_cv1 (as := []) (rest := []) rfl rfl rfl rfl (hS.obj rfl (by decide)) rfl (by with_unfolding_all rfl) (by with_unfolding_all rfl) (tf163_size hS e17) (fun H15 s16 => ?_)
            cases e
            exact ex_r (st_iret rfl rfl rfl) s16
          · have e := (if_neg c14).symm.trans e
            by_cases c20 : x0 = 15
            · have e := (if_pos c20).symm.trans e
              refine ex_pc (pc1 := 116) (by rw [c20]; with_unfolding_all rfl) ?_
              refine ex_s (am_nb (m := 1) (pc1 := 117) (ls1 := [(0, .ref 129), (1, .int x0)]) (st1 := [.ref 129]) (H1 := H) (k1 := 0) (n1 := 0) (by with_unfolding_all rfl)) ?_
              refine xe_get (v := .int (a 129 9)) hS rfl rfl (by decide) rfl ?_
              cases e
              exact ex_r (st_iret rfl rfl rfl) hS
            · have e := (if_neg c20).symm.trans e
              by_cases c21 : x0 = 16
              · have e := (if_pos c21).symm.trans e
                refine ex_pc (pc1 := 121) (by rw [c21]; with_unfolding_all rfl) ?_
                refine ex_s (am_nb (m := 1) (pc1 := 122) (ls1 := [(0, .ref 129), (1, .int x0)]) (st1 := [.ref 129]) (H1 := H) (k1 := 0) (n1 := 0) (by with_unfolding_all rfl)) ?_
                refine xe_get (v := .int (a 129 8)) hS rfl rfl (by decide) rfl ?_
                cases e
                exact ex_r (st_iret rfl rfl rfl) hS
              · have e := (if_neg c21).symm.trans e
                refine ex_pc (pc1 := 126) (am_sw_n (sw_c (Or.inl c1) (sw_c (Or.inr rfl) (sw_c (Or.inl c7) (sw_c (Or.inl c9) (sw_c (Or.inl c11) (sw_c (Or.inl c14) (sw_c (Or.inl c20) (sw_c (Or.inl c21) sw_o))))))))) ?_
                refine ex_s (am_nb (m := 1) (pc1 := 127) (ls1 := [(0, .ref 129), (1, .int x0)]) (st1 := [.int (-1)]) (H1 := H) (k1 := 0) (n1 := 0) (by with_unfolding_all rfl)) ?_
                cases e
                exact ex_r (st_iret rfl rfl rfl) hS

set_option maxRecDepth 100000 in
theorem tf253_tell {sL : Nat} {sx : Nat → Int32} {h b N : Nat} {T : List am_C} {r : Int32} {a' : xA} {x0 : Int32} {a : xA} {H : am_H} (hS : xS h b T a H) (e : f253_tell N h b x0 a = some (r, a')) : am_E sL sx am_cs 253 0 [(0, .ref 136), (1, .int x0)] [] H (some (.int r)) (fun H1 => xS h b T a' H1) := by
  unfold f253_tell at e
  refine ex_s (am_nb (m := 1) (pc1 := 1) (ls1 := [(0, .ref 136), (1, .int x0)]) (st1 := [.int x0]) (H1 := H) (k1 := 0) (n1 := 0) (by with_unfolding_all rfl)) ?_
  refine ex_s (st_tsw rfl) ?_
  by_cases c1 : x0 = 0
  · have e := (if_pos c1).symm.trans e
    refine ex_pc (pc1 := 88) (by rw [c1]; with_unfolding_all rfl) ?_
    refine ex_s (am_nb (m := 1) (pc1 := 89) (ls1 := [(0, .ref 136), (1, .int x0)]) (st1 := [.ref 136]) (H1 := H) (k1 := 0) (n1 := 0) (by with_unfolding_all rfl)) ?_
    refine xe_get (v := .int (a 136 5)) hS rfl rfl (by decide) rfl ?_
    cases e
    exact ex_r (st_iret rfl rfl rfl) hS
  · have e := (if_neg c1).symm.trans e
    by_cases c2 : x0 = 1
    · have e := (if_pos c2).symm.trans e
      refine ex_pc (pc1 := 93) (by rw [c2]; with_unfolding_all rfl) ?_
      refine ex_s (am_nb (m := 1) (pc1 := 94) (ls1 := [(0, .ref 136), (1, .int x0)]) (st1 := [.ref 136]) (H1 := H) (k1 := 0) (n1 := 0) (by with_unfolding_all rfl)) ?_
      refine xe_get (v := .int (a 136 6)) hS rfl rfl (by decide) rfl ?_
      cases e
      exact ex_r (st_iret rfl rfl rfl) hS
    · have e := (if_neg c2).symm.trans e
      by_cases c3 : x0 = 2
      · have e := (if_pos c3).symm.trans e
        refine ex_pc (pc1 := 98) (by rw [c3]; with_unfolding_all rfl) ?_
        refine ex_s (am_nb (m := 1) (pc1 := 99) (ls1 := [(0, .ref 136), (1, .int x0)]) (st1 := [.ref 136]) (H1 := H) (k1 := 0) (n1 := 0) (by with_unfolding_all rfl)) ?_
        refine xe_get (v := .int (a 136 7)) hS rfl rfl (by decide) rfl ?_
        have kk : am_E sL sx am_cs 253 110 [(0, .ref 136), (1, .int x0)] [.int (if (a 136 7) = 0 then (0 : Int32) else (1 : Int32))] H (some (.int r)) (fun H1 => xS h b T a' H1) := by
          cases e
          exact ex_r (st_iret rfl rfl rfl) hS
        refine ex_s (st_if rfl) ?_
        by_cases c4 : (a 136 7) = 0
        · refine ex_pc (if_pos c4) ?_
          refine ex_s (am_nb (m := 1) (pc1 := 110) (ls1 := [(0, .ref 136), (1, .int x0)]) (st1 := [.int 0]) (H1 := H) (k1 := 0) (n1 := 0) (by with_unfolding_all rfl)) ?_
          rw [if_pos c4] at kk
          exact kk
        · refine ex_pc (if_neg c4) ?_
          refine ex_s (am_nb (m := 2) (pc1 := 110) (ls1 := [(0, .ref 136), (1, .int x0)]) (st1 := [.int 1]) (H1 := H) (k1 := 0) (n1 := 0) (by with_unfolding_all rfl)) ?_
          rw [if_neg c4] at kk
          exact kk
      · have e := (if_neg c3).symm.trans e
        by_cases c5 : x0 = 3
        · have e := (if_pos c5).symm.trans e
          refine ex_pc (pc1 := 111) (by rw [c5]; with_unfolding_all rfl) ?_
          refine ex_s (am_nb (m := 1) (pc1 := 112) (ls1 := [(0, .ref 136), (1, .int x0)]) (st1 := [.ref 136]) (H1 := H) (k1 := 0) (n1 := 0) (by with_unfolding_all rfl)) ?_
          refine xe_get (v := .int (a 136 8)) hS rfl rfl (by decide) rfl ?_
          cases e
          exact ex_r (st_iret rfl rfl rfl) hS
        · have e := (if_neg c5).symm.trans e
          by_cases c6 : x0 = 4
          · have e := (if_pos c6).symm.trans e
            refine ex_pc (pc1 := 116) (by rw [c6]; with_unfolding_all rfl) ?_
            refine ex_s (am_nb (m := 1) (pc1 := 117) (ls1 := [(0, .ref 136), (1, .int x0)]) (st1 := [.ref 136]) (H1 := H) (k1 := 0) (n1 := 0) (by with_unfolding_all rfl)) ?_
            refine xe_get (v := .int (a 136 9)) hS rfl rfl (by decide) rfl ?_
            cases e
            exact ex_r (st_iret rfl rfl rfl) hS
          · have e := (if_neg c6).symm.trans e
            by_cases c7 : x0 = 5
            · have e := (if_pos c7).symm.trans e
              refine ex_pc (pc1 := 121) (by rw [c7]; with_unfolding_all rfl) ?_
              refine ex_s (am_nb (m := 1) (pc1 := 122) (ls1 := [(0, .ref 136), (1, .int x0)]) (st1 := [.ref 136]) (H1 := H) (k1 := 0) (n1 := 0) (by with_unfolding_all rfl)) ?_
              refine xe_get (v := .int (a 136 11)) hS rfl rfl (by decide) rfl ?_
              cases e
              exact ex_r (st_iret rfl rfl rfl) hS
            · have e := (if_neg c7).symm.trans e
              by_cases c8 : x0 = 6
              · have e := (if_pos c8).symm.trans e
                refine ex_pc (pc1 := 126) (by rw [c8]; with_unfolding_all rfl) ?_
                refine ex_s (am_nb (m := 1) (pc1 := 127) (ls1 := [(0, .ref 136), (1, .int x0)]) (st1 := [.ref 136]) (H1 := H) (k1 := 0) (n1 := 0) (by with_unfolding_all rfl)) ?_
                refine xe_get (v := .int (a 136 10)) hS rfl rfl (by decide) rfl ?_
                cases e
                exact ex_r (st_iret rfl rfl rfl) hS
              · have e := (if_neg c8).symm.trans e
                by_cases c9 : x0 = 7
                · have e := (if_pos c9).symm.trans e
                  refine ex_pc (pc1 := 131) (by rw [c9]; with_unfolding_all rfl) ?_
                  refine ex_s (am_nb (m := 1) (pc1 := 132) (ls1 := [(0, .ref 136), (1, .int x0)]) (st1 := [.ref 136]) (H1 := H) (k1 := 0) (n1 := 0) (by with_unfolding_all rfl)) ?_
                  refine xe_get (v := .int (a 136 14)) hS rfl rfl (by decide) rfl ?_
                  cases e
                  exact ex_r (st_iret rfl rfl rfl) hS
                · have e := (if_neg c9).symm.trans e
                  by_cases c10 : x0 = 8
                  · have e := (if_pos c10).symm.trans e
                    refine ex_pc (pc1 := 136) (by rw [c10]; with_unfolding_all rfl) ?_
                    refine ex_s (am_nb (m := 1) (pc1 := 137) (ls1 := [(0, .ref 136), (1, .int x0)]) (st1 := [.ref 136]) (H1 := H) (k1 := 0) (n1 := 0) (by with_unfolding_all rfl)) ?_
                    refine xe_get (v := .int (a 136 15)) hS rfl rfl (by decide) rfl ?_
                    cases e
                    exact ex_r (st_iret rfl rfl rfl) hS
                  · have e := (if_neg c10).symm.trans e
                    by_cases c11 : x0 = 10
                    · have e := (if_pos c11).symm.trans e
                      refine ex_pc (pc1 := 141) (by rw [c11]; with_unfolding_all rfl) ?_
                      refine ex_s (am_nb (m := 1) (pc1 := 142) (ls1 := [(0, .ref 136), (1, .int x0)]) (st1 := [.ref 136]) (H1 := H) (k1 := 0) (n1 := 0) (by with_unfolding_all rfl)) ?_
                      refine xe_get (v := .int (a 136 16)) hS rfl rfl (by decide) rfl ?_
                      cases e
                      exact ex_r (st_iret rfl rfl rfl) hS
                    · have e := (if_neg c11).symm.trans e
                      by_cases c12 : x0 = 17
                      · have e := (if_pos c12).symm.trans e
                        refine ex_pc (pc1 := 146) (by rw [c12]; with_unfolding_all rfl) ?_
                        refine ex_s (am_nb (m := 1) (pc1 := 147) (ls1 := [(0, .ref 136), (1, .int x0)]) (st1 := [.ref 136]) (H1 := H) (k1 := 0) (n1 := 0) (by with_unfolding_all rfl)) ?_
                        refine xe_get (v := .int (a 136 13)) hS rfl rfl (by decide) rfl ?_
                        cases e
                        exact ex_r (st_iret rfl rfl rfl) hS
                      · have e := (if_neg c12).symm.trans e
                        refine ex_pc (pc1 := 151) (am_sw_n (sw_c (Or.inl c1) (sw_c (Or.inl c2) (sw_c (Or.inl c3) (sw_c (Or.inl c5) (sw_c (Or.inl c6) (sw_c (Or.inl c7) (sw_c (Or.inl c8) (sw_c (Or.inl c9) (sw_c (Or.inl c10) (sw_c (Or.inr rfl) (sw_c (Or.inl c11) (sw_c (Or.inr rfl) (sw_c (Or.inr rfl) (sw_c (Or.inr rfl) (sw_c (Or.inr rfl) (sw_c (Or.inr rfl) (sw_c (Or.inr rfl) (sw_c (Or.inl c12) sw_o))))))))))))))))))) ?_
                        refine ex_s (am_nb (m := 1) (pc1 := 152) (ls1 := [(0, .ref 136), (1, .int x0)]) (st1 := [.int (-1)]) (H1 := H) (k1 := 0) (n1 := 0) (by with_unfolding_all rfl)) ?_
                        cases e
                        exact ex_r (st_iret rfl rfl rfl) hS

set_option maxRecDepth 100000 in
theorem tj251_41 {sL : Nat} {sx : Nat → Int32} {h b N : Nat} {T : List am_C} {r : Int32} {a' : xA} {q1 : Int32} {a : xA} {H : am_H} (hS : xS h b T a H) (e : j251_41 N h b q1 a = some (r, a')) : am_E sL sx am_cs 251 41 [(0, .ref 0), (1, .int q1)] [] H (some (.int r)) (fun H1 => xS h b T a' H1) := by
  unfold j251_41 at e
  refine ex_s (am_nb (m := 1) (pc1 := 42) (ls1 := [(0, .ref 0), (1, .int q1)]) (st1 := [.ref 0]) (H1 := H) (k1 := 0) (n1 := 0) (by with_unfolding_all rfl)) ?_
  refine xe_get (v := .ref 129) hS rfl rfl (by decide) rfl ?_
  refine xe_get (v := .ref 136) hS rfl rfl (by decide) rfl ?_
  refine ex_s (am_nb (m := 1) (pc1 := 49) (ls1 := [(0, .ref 0), (1, .int q1)]) (st1 := [.int q1, .ref 136]) (H1 := H) (k1 := 0) (n1 := 0) (by with_unfolding_all rfl)) ?_
  obtain ⟨r9, a10, e8, e⟩ := xb2_some e
  refine ex_cv1 (as := [.int q1]) (rest := []) rfl rfl rfl rfl (hS.obj rfl (by decide)) rfl (by with_unfolding_all rfl) (by with_unfolding_all rfl) (tf253_tell hS e8) (fun H6 s7 => ?_)
  cases e
  exact ex_r (st_iret rfl rfl rfl) s7

set_option maxRecDepth 100000 in
theorem tf251_state {sL : Nat} {sx : Nat → Int32} {h b N : Nat} {T : List am_C} {r : Int32} {a' : xA} {x0 : Int32} {a : xA} {H : am_H} (hS : xS h b T a H) (e : f251_state N h b x0 a = some (r, a')) : am_E sL sx am_cs 251 0 [(0, .ref 0), (1, .int x0)] [] H (some (.int r)) (fun H1 => xS h b T a' H1) := by
  unfold f251_state at e
  refine ex_s (am_nb (m := 2) (pc1 := 3) (ls1 := [(0, .ref 0), (1, .int x0)]) (st1 := [.int 18, .int x0]) (H1 := H) (k1 := 0) (n1 := 0) (by with_unfolding_all rfl)) ?_
  refine ex_s (st_icmp rfl) ?_
  by_cases c1 : x0 = 18
  · have e := (if_pos c1).symm.trans e
    refine ex_pc (if_pos c1) ?_
    refine ex_s (am_nb (m := 1) (pc1 := 7) (ls1 := [(0, .ref 0), (1, .int x0)]) (st1 := [.ref 0]) (H1 := H) (k1 := 0) (n1 := 0) (by with_unfolding_all rfl)) ?_
    refine xe_get (v := .ref 123) hS rfl rfl (by decide) rfl ?_
    refine xe_get (v := .int (a 123 3)) hS rfl rfl (by decide) rfl ?_
    cases e
    exact ex_r (st_iret rfl rfl rfl) hS
  · have e := (if_neg c1).symm.trans e
    refine ex_pc (if_neg c1) ?_
    refine ex_s (am_nb (m := 2) (pc1 := 17) (ls1 := [(0, .ref 0), (1, .int x0)]) (st1 := [.int 9, .int x0]) (H1 := H) (k1 := 0) (n1 := 0) (by with_unfolding_all rfl)) ?_
    refine ex_s (st_icmp rfl) ?_
    by_cases c5 : x0 < 9
    · have e := (if_pos c5).symm.trans e
      refine ex_pc (if_pos c5) ?_
      exact le_E (l1 := [(0, .ref 0), (1, .int x0)]) ⟨rfl, rfl, trivial⟩ rfl (tj251_41  hS e)
    · have e := (if_neg c5).symm.trans e
      refine ex_pc (if_neg c5) ?_
      refine ex_s (am_nb (m := 2) (pc1 := 23) (ls1 := [(0, .ref 0), (1, .int x0)]) (st1 := [.int 16, .int x0]) (H1 := H) (k1 := 0) (n1 := 0) (by with_unfolding_all rfl)) ?_
      refine ex_s (st_icmp rfl) ?_
      by_cases c13 : 16 < x0
      · have e := (if_pos c13).symm.trans e
        refine ex_pc (if_pos c13) ?_
        exact le_E (l1 := [(0, .ref 0), (1, .int x0)]) ⟨rfl, rfl, trivial⟩ rfl (tj251_41  hS e)
      · have e := (if_neg c13).symm.trans e
        refine ex_pc (if_neg c13) ?_
        refine ex_s (am_nb (m := 2) (pc1 := 29) (ls1 := [(0, .ref 0), (1, .int x0)]) (st1 := [.int 10, .int x0]) (H1 := H) (k1 := 0) (n1 := 0) (by with_unfolding_all rfl)) ?_
        refine ex_s (st_icmp rfl) ?_
        by_cases c14 : x0 = 10
        · have e := (if_pos c14).symm.trans e
          refine ex_pc (if_pos c14) ?_
          exact le_E (l1 := [(0, .ref 0), (1, .int x0)]) ⟨rfl, rfl, trivial⟩ rfl (tj251_41  hS e)
        · have e := (if_neg c14).symm.trans e
          refine ex_pc (if_neg c14) ?_
          refine ex_s (am_nb (m := 1) (pc1 := 33) (ls1 := [(0, .ref 0), (1, .int x0)]) (st1 := [.ref 0]) (H1 := H) (k1 := 0) (n1 := 0) (by with_unfolding_all rfl)) ?_
          refine xe_get (v := .ref 129) hS rfl rfl (by decide) rfl ?_
          refine ex_s (am_nb (m := 1) (pc1 := 37) (ls1 := [(0, .ref 0), (1, .int x0)]) (st1 := [.int x0, .ref 129]) (H1 := H) (k1 := 0) (n1 := 0) (by with_unfolding_all rfl)) ?_
          obtain ⟨r18, a19, e17, e⟩ := xb2_some e
          refine ex_cv1 (as := [.int x0]) (rest := []) rfl rfl rfl rfl (hS.obj rfl (by decide)) rfl (by with_unfolding_all rfl) (by with_unfolding_all rfl) (tf252_tell hS e17) (fun H15 s16 => ?_)
          cases e
          exact ex_r (st_iret rfl rfl rfl) s16

set_option maxRecDepth 100000 in
theorem tj255_25 {sL : Nat} {sx : Nat → Int32} {h b N : Nat} {T : List am_C} {R : Option Value} {F : am_H → Prop} {z : Nat × Int32 × xA} {rc : Int32 → Int32 → xA → Option (Nat × Int32 × xA)} (k0 : z.1 = 0 → ∀ H2 : am_H, xS h b T z.2.2 H2 → am_E sL sx am_cs 255 31 [(1, .int z.2.1)] [] H2 R F) (ih : ∀ (v1 : Int32) (v2 : Int32) (a : xA) (H : am_H), xS h b T a H → rc v1 v2 a = some z → am_E sL sx am_cs 255 4 [(0, .ref 0), (1, .int v1), (2, .int v2)] [] H R F) {q1 : Int32} {q2 : Int32} {a : xA} {H : am_H} (hS : xS h b T a H) (e : j255_25 N h b rc q1 q2 a = some z) : am_E sL sx am_cs 255 25 [(0, .ref 0), (1, .int q1), (2, .int q2)] [] H R F := by
  unfold j255_25 at e
  refine ex_s (am_nb (m := 2) (pc1 := 4) (ls1 := [(2, .int (q2 + 1)), (0, .ref 0), (1, .int q1)]) (st1 := []) (H1 := H) (k1 := 0) (n1 := 0) (by with_unfolding_all rfl)) ?_
  exact le_E (l1 := [(0, .ref 0), (1, .int q1), (2, .int (q2 + 1))]) ⟨rfl, rfl, rfl, trivial⟩ rfl (ih q1 (q2 + 1) a H hS e)

set_option maxRecDepth 100000 in
theorem tl255_4 {sL : Nat} {sx : Nat → Int32} {h b N : Nat} {T : List am_C} {R : Option Value} {F : am_H → Prop} {z : Nat × Int32 × xA} (k0 : z.1 = 0 → ∀ H2 : am_H, xS h b T z.2.2 H2 → am_E sL sx am_cs 255 31 [(1, .int z.2.1)] [] H2 R F) : ∀ (n : Nat) (v1 : Int32) (v2 : Int32) (a : xA) (H : am_H), xS h b T a H → l255_4 N h b n v1 v2 a = some z → am_E sL sx am_cs 255 4 [(0, .ref 0), (1, .int v1), (2, .int v2)] [] H R F := by
  intro n
  induction n with
  | zero =>
    intro v1 v2 a H hS e
    cases e
  | succ n ih =>
    intro v1 v2 a H hS e
    unfold l255_4 at e
    refine ex_s (am_nb (m := 2) (pc1 := 7) (ls1 := [(0, .ref 0), (1, .int v1), (2, .int v2)]) (st1 := [.int 8, .int v2]) (H1 := H) (k1 := 0) (n1 := 0) (by with_unfolding_all rfl)) ?_
    refine ex_s (st_icmp rfl) ?_
    by_cases c1 : 8 ≤ v2
    · have e := (if_pos c1).symm.trans e
      refine ex_pc (if_pos c1) ?_
      cases e
      exact le_E (l1 := [(1, .int v1)]) ⟨rfl, trivial⟩ rfl (k0 rfl H hS)
    · have e := (if_neg c1).symm.trans e
      refine ex_pc (if_neg c1) ?_
      refine ex_s (am_nb (m := 1) (pc1 := 11) (ls1 := [(0, .ref 0), (1, .int v1), (2, .int v2)]) (st1 := [.ref 0]) (H1 := H) (k1 := 0) (n1 := 0) (by with_unfolding_all rfl)) ?_
      refine xe_get (v := .ref 115) hS rfl rfl (by decide) rfl ?_
      refine ex_s (am_nb (m := 1) (pc1 := 15) (ls1 := [(0, .ref 0), (1, .int v1), (2, .int v2)]) (st1 := [.int v2, .ref 115]) (H1 := H) (k1 := 0) (n1 := 0) (by with_unfolding_all rfl)) ?_
      obtain ⟨g2, e⟩ := xg_some e
      refine xe_q115 hS rfl g2 ?_
      refine xe_get (v := .int (a (141 + 2 * v2.toNatClampNeg) 1)) hS rfl (xkq115 g2) (by decide) rfl ?_
      refine ex_s (st_if rfl) ?_
      by_cases c4 : (a (141 + 2 * v2.toNatClampNeg) 1) = 0
      · have e := (if_pos c4).symm.trans e
        refine ex_pc (if_pos c4) ?_
        exact le_E (l1 := [(0, .ref 0), (1, .int v1), (2, .int v2)]) ⟨rfl, rfl, rfl, trivial⟩ rfl (tj255_25 k0 ih  hS e)
      · have e := (if_neg c4).symm.trans e
        refine ex_pc (if_neg c4) ?_
        refine ex_s (am_nb (m := 1) (pc1 := 25) (ls1 := [(1, .int (v1 + 1)), (0, .ref 0), (2, .int v2)]) (st1 := []) (H1 := H) (k1 := 0) (n1 := 0) (by with_unfolding_all rfl)) ?_
        exact le_E (l1 := [(0, .ref 0), (1, .int (v1 + 1)), (2, .int v2)]) ⟨rfl, rfl, rfl, trivial⟩ rfl (tj255_25 k0 ih  hS e)

set_option maxRecDepth 100000 in
theorem tf255_openWindows {sL : Nat} {sx : Nat → Int32} {h b N : Nat} {T : List am_C} {r : Int32} {a' : xA} {a : xA} {H : am_H} (hS : xS h b T a H) (e : f255_openWindows N h b a = some (r, a')) : am_E sL sx am_cs 255 0 [(0, .ref 0)] [] H (some (.int r)) (fun H1 => xS h b T a' H1) := by
  unfold f255_openWindows at e
  refine ex_s (am_nb (m := 4) (pc1 := 4) (ls1 := [(2, .int 0), (1, .int 0), (0, .ref 0)]) (st1 := []) (H1 := H) (k1 := 0) (n1 := 0) (by with_unfolding_all rfl)) ?_
  obtain ⟨z5, e6, e⟩ := Option.bind_eq_some_iff.mp e
  refine le_E (l1 := [(0, .ref 0), (1, .int 0), (2, .int 0)]) ⟨rfl, rfl, rfl, trivial⟩ rfl (tl255_4 (z := z5)  (fun uz5_0 Hz50 sz50 => ?_) N 0 0 a H hS e6)
  refine ex_s (am_nb (m := 1) (pc1 := 32) (ls1 := [(1, .int z5.2.1)]) (st1 := [.int z5.2.1]) (H1 := Hz50) (k1 := 0) (n1 := 0) (by with_unfolding_all rfl)) ?_
  cases e
  exact ex_r (st_iret rfl rfl rfl) sz50

set_option maxRecDepth 100000 in
theorem tf256_tell {sL : Nat} {sx : Nat → Int32} {h b N : Nat} {T : List am_C} {r : Int32} {a' : xA} {x0 : Int32} {a : xA} {H : am_H} (hS : xS h b T a H) (e : f256_tell N h b x0 a = some (r, a')) : am_E sL sx am_cs 256 0 [(0, .ref 116), (1, .int x0)] [] H (some (.int r)) (fun H1 => xS h b T a' H1) := by
  unfold f256_tell at e
  refine ex_s (am_nb (m := 1) (pc1 := 1) (ls1 := [(0, .ref 116), (1, .int x0)]) (st1 := [.int x0]) (H1 := H) (k1 := 0) (n1 := 0) (by with_unfolding_all rfl)) ?_
  refine ex_s (st_tsw rfl) ?_
  by_cases c1 : x0 = 5
  · have e := (if_pos c1).symm.trans e
    refine ex_pc (pc1 := 72) (by rw [c1]; with_unfolding_all rfl) ?_
    refine ex_s (am_nb (m := 1) (pc1 := 73) (ls1 := [(0, .ref 116), (1, .int x0)]) (st1 := [.ref 116]) (H1 := H) (k1 := 0) (n1 := 0) (by with_unfolding_all rfl)) ?_
    refine xe_get (v := .ref 117) hS rfl rfl (by decide) rfl ?_
    obtain ⟨r5, a6, e4, e⟩ := xb2_some e
    refine ex_cv1 (as := []) (rest := []) rfl rfl rfl rfl (hS.obj rfl (by decide)) rfl (by with_unfolding_all rfl) (by with_unfolding_all rfl) (tf163_size hS e4) (fun H2 s3 => ?_)
    cases e
    exact ex_r (st_iret rfl rfl rfl) s3
  · have e := (if_neg c1).symm.trans e
    by_cases c7 : x0 = 6
    · have e := (if_pos c7).symm.trans e
      refine ex_pc (pc1 := 80) (by rw [c7]; with_unfolding_all rfl) ?_
      refine ex_s (am_nb (m := 1) (pc1 := 81) (ls1 := [(0, .ref 116), (1, .int x0)]) (st1 := [.ref 116]) (H1 := H) (k1 := 0) (n1 := 0) (by with_unfolding_all rfl)) ?_
      refine xe_get (v := .int (a 116 4)) hS rfl rfl (by decide) rfl ?_
      have kk : am_E sL sx am_cs 256 92 [(0, .ref 116), (1, .int x0)] [.int (if (a 116 4) = 0 then (0 : Int32) else (1 : Int32))] H (some (.int r)) (fun H1 => xS h b T a' H1) := by
        cases e
        exact ex_r (st_iret rfl rfl rfl) hS
      refine ex_s (st_if rfl) ?_
      by_cases c8 : (a 116 4) = 0
      · refine ex_pc (if_pos c8) ?_
        refine ex_s (am_nb (m := 1) (pc1 := 92) (ls1 := [(0, .ref 116), (1, .int x0)]) (st1 := [.int 0]) (H1 := H) (k1 := 0) (n1 := 0) (by with_unfolding_all rfl)) ?_
        rw [if_pos c8] at kk
        exact kk
      · refine ex_pc (if_neg c8) ?_
        refine ex_s (am_nb (m := 2) (pc1 := 92) (ls1 := [(0, .ref 116), (1, .int x0)]) (st1 := [.int 1]) (H1 := H) (k1 := 0) (n1 := 0) (by with_unfolding_all rfl)) ?_
        rw [if_neg c8] at kk
        exact kk
    · have e := (if_neg c7).symm.trans e
      by_cases c9 : x0 = 7
      · have e := (if_pos c9).symm.trans e
        refine ex_pc (pc1 := 93) (by rw [c9]; with_unfolding_all rfl) ?_
        refine ex_s (am_nb (m := 1) (pc1 := 94) (ls1 := [(0, .ref 116), (1, .int x0)]) (st1 := [.ref 116]) (H1 := H) (k1 := 0) (n1 := 0) (by with_unfolding_all rfl)) ?_
        refine xe_get (v := .ref 119) hS rfl rfl (by decide) rfl ?_
        obtain ⟨r13, a14, e12, e⟩ := xb2_some e
        refine ex_cv1 (as := []) (rest := []) rfl rfl rfl rfl (hS.obj rfl (by decide)) rfl (by with_unfolding_all rfl) (by with_unfolding_all rfl) (tf163_size hS e12) (fun H10 s11 => ?_)
        cases e
        exact ex_r (st_iret rfl rfl rfl) s11
      · have e := (if_neg c9).symm.trans e
        by_cases c15 : x0 = 8
        · have e := (if_pos c15).symm.trans e
          refine ex_pc (pc1 := 101) (by rw [c15]; with_unfolding_all rfl) ?_
          refine ex_s (am_nb (m := 1) (pc1 := 102) (ls1 := [(0, .ref 116), (1, .int x0)]) (st1 := [.ref 116]) (H1 := H) (k1 := 0) (n1 := 0) (by with_unfolding_all rfl)) ?_
          refine xe_get (v := .ref 121) hS rfl rfl (by decide) rfl ?_
          obtain ⟨r19, a20, e18, e⟩ := xb2_some e
          refine ex_cv1 (as := []) (rest := []) rfl rfl rfl rfl (hS.obj rfl (by decide)) rfl (by with_unfolding_all rfl) (by with_unfolding_all rfl) (tf163_size hS e18) (fun H16 s17 => ?_)
          cases e
          exact ex_r (st_iret rfl rfl rfl) s17
        · have e := (if_neg c15).symm.trans e
          by_cases c21 : x0 = 9
          · have e := (if_pos c21).symm.trans e
            refine ex_pc (pc1 := 109) (by rw [c21]; with_unfolding_all rfl) ?_
            refine ex_s (am_nb (m := 1) (pc1 := 110) (ls1 := [(0, .ref 116), (1, .int x0)]) (st1 := [.ref 116]) (H1 := H) (k1 := 0) (n1 := 0) (by with_unfolding_all rfl)) ?_
            refine xe_get (v := .int (a 116 6)) hS rfl rfl (by decide) rfl ?_
            cases e
            exact ex_r (st_iret rfl rfl rfl) hS
          · have e := (if_neg c21).symm.trans e
            by_cases c22 : x0 = 10
            · have e := (if_pos c22).symm.trans e
              refine ex_pc (pc1 := 114) (by rw [c22]; with_unfolding_all rfl) ?_
              refine ex_s (am_nb (m := 1) (pc1 := 115) (ls1 := [(0, .ref 116), (1, .int x0)]) (st1 := [.ref 116]) (H1 := H) (k1 := 0) (n1 := 0) (by with_unfolding_all rfl)) ?_
              refine xe_get (v := .int (a 116 7)) hS rfl rfl (by decide) rfl ?_
              cases e
              exact ex_r (st_iret rfl rfl rfl) hS
            · have e := (if_neg c22).symm.trans e
              by_cases c23 : x0 = 17
              · have e := (if_pos c23).symm.trans e
                refine ex_pc (pc1 := 119) (by rw [c23]; with_unfolding_all rfl) ?_
                refine ex_s (am_nb (m := 1) (pc1 := 120) (ls1 := [(0, .ref 116), (1, .int x0)]) (st1 := [.ref 116]) (H1 := H) (k1 := 0) (n1 := 0) (by with_unfolding_all rfl)) ?_
                refine xe_get (v := .int (a 116 3)) hS rfl rfl (by decide) rfl ?_
                cases e
                exact ex_r (st_iret rfl rfl rfl) hS
              · have e := (if_neg c23).symm.trans e
                by_cases c24 : x0 = 18
                · have e := (if_pos c24).symm.trans e
                  refine ex_pc (pc1 := 124) (by rw [c24]; with_unfolding_all rfl) ?_
                  refine ex_s (am_nb (m := 1) (pc1 := 125) (ls1 := [(0, .ref 116), (1, .int x0)]) (st1 := [.ref 116]) (H1 := H) (k1 := 0) (n1 := 0) (by with_unfolding_all rfl)) ?_
                  refine xe_get (v := .int (a 116 9)) hS rfl rfl (by decide) rfl ?_
                  cases e
                  exact ex_r (st_iret rfl rfl rfl) hS
                · have e := (if_neg c24).symm.trans e
                  refine ex_pc (pc1 := 129) (am_sw_n (sw_c (Or.inl c1) (sw_c (Or.inl c7) (sw_c (Or.inl c9) (sw_c (Or.inl c15) (sw_c (Or.inl c21) (sw_c (Or.inl c22) (sw_c (Or.inr rfl) (sw_c (Or.inr rfl) (sw_c (Or.inr rfl) (sw_c (Or.inr rfl) (sw_c (Or.inr rfl) (sw_c (Or.inr rfl) (sw_c (Or.inl c23) (sw_c (Or.inl c24) sw_o))))))))))))))) ?_
                  refine ex_s (am_nb (m := 1) (pc1 := 130) (ls1 := [(0, .ref 116), (1, .int x0)]) (st1 := [.int (-1)]) (H1 := H) (k1 := 0) (n1 := 0) (by with_unfolding_all rfl)) ?_
                  cases e
                  exact ex_r (st_iret rfl rfl rfl) hS

set_option maxRecDepth 100000 in
theorem tj254_206 {sL : Nat} {sx : Nat → Int32} {h b N : Nat} {T : List am_C} {r : Int32} {a' : xA} {a : xA} {H : am_H} (hS : xS h b T a H) (e : j254_206 N h b a = some (r, a')) : am_E sL sx am_cs 254 206 [] [] H (some (.int r)) (fun H1 => xS h b T a' H1) := by
  unfold j254_206 at e
  refine ex_s (am_nb (m := 2) (pc1 := 220) (ls1 := []) (st1 := [.int (-1)]) (H1 := H) (k1 := 0) (n1 := 0) (by with_unfolding_all rfl)) ?_
  cases e
  exact ex_r (st_iret rfl rfl rfl) hS

set_option maxRecDepth 100000 in
theorem tj254_238 {sL : Nat} {sx : Nat → Int32} {h b N : Nat} {T : List am_C} {r : Int32} {a' : xA} {a : xA} {H : am_H} (hS : xS h b T a H) (e : j254_238 N h b a = some (r, a')) : am_E sL sx am_cs 254 238 [] [] H (some (.int r)) (fun H1 => xS h b T a' H1) := by
  unfold j254_238 at e
  refine ex_s (am_nb (m := 2) (pc1 := 252) (ls1 := []) (st1 := [.int (-1)]) (H1 := H) (k1 := 0) (n1 := 0) (by with_unfolding_all rfl)) ?_
  cases e
  exact ex_r (st_iret rfl rfl rfl) hS

set_option maxRecDepth 100000 in
theorem tf254_count {sL : Nat} {sx : Nat → Int32} {h b N : Nat} {T : List am_C} {r : Int32} {a' : xA} {x0 : Int32} {a : xA} {H : am_H} (hS : xS h b T a H) (e : f254_count N h b x0 a = some (r, a')) : am_E sL sx am_cs 254 0 [(0, .ref 0), (1, .int x0)] [] H (some (.int r)) (fun H1 => xS h b T a' H1) := by
  unfold f254_count at e
  refine ex_s (am_nb (m := 1) (pc1 := 1) (ls1 := [(0, .ref 0), (1, .int x0)]) (st1 := [.int x0]) (H1 := H) (k1 := 0) (n1 := 0) (by with_unfolding_all rfl)) ?_
  refine ex_s (st_tsw rfl) ?_
  by_cases c1 : x0 = 0
  · have e := (if_pos c1).symm.trans e
    refine ex_pc (pc1 := 84) (by rw [c1]; with_unfolding_all rfl) ?_
    refine ex_s (am_nb (m := 1) (pc1 := 85) (ls1 := [(0, .ref 0), (1, .int x0)]) (st1 := [.ref 0]) (H1 := H) (k1 := 0) (n1 := 0) (by with_unfolding_all rfl)) ?_
    refine xe_get (v := .int (a 0 15)) hS rfl rfl (by decide) rfl ?_
    cases e
    exact ex_r (st_iret rfl rfl rfl) hS
  · have e := (if_neg c1).symm.trans e
    by_cases c2 : x0 = 1
    · have e := (if_pos c2).symm.trans e
      refine ex_pc (pc1 := 89) (by rw [c2]; with_unfolding_all rfl) ?_
      refine ex_s (am_nb (m := 1) (pc1 := 90) (ls1 := [(0, .ref 0), (1, .int x0)]) (st1 := [.ref 0]) (H1 := H) (k1 := 0) (n1 := 0) (by with_unfolding_all rfl)) ?_
      refine xe_get (v := .ref 3) hS rfl rfl (by decide) rfl ?_
      refine xe_get (v := .int (a 3 1)) hS rfl rfl (by decide) rfl ?_
      cases e
      exact ex_r (st_iret rfl rfl rfl) hS
    · have e := (if_neg c2).symm.trans e
      by_cases c3 : x0 = 2
      · have e := (if_pos c3).symm.trans e
        refine ex_pc (pc1 := 97) (by rw [c3]; with_unfolding_all rfl) ?_
        refine ex_s (am_nb (m := 1) (pc1 := 98) (ls1 := [(0, .ref 0), (1, .int x0)]) (st1 := [.ref 0]) (H1 := H) (k1 := 0) (n1 := 0) (by with_unfolding_all rfl)) ?_
        refine xe_get (v := xN (a 0 14)) hS rfl rfl (by decide) rfl ?_
        by_cases c4 : (a 0 14) = -1
        · have e := (if_pos c4).symm.trans e
          rw [show xN (a 0 14) = .null from if_pos c4]
          refine ex_s (am_nb (m := 1) (pc1 := 104) (ls1 := [(0, .ref 0), (1, .int x0)]) (st1 := []) (H1 := H) (k1 := 0) (n1 := 0) (by with_unfolding_all rfl)) ?_
          refine ex_s (am_nb (m := 2) (pc1 := 118) (ls1 := [(0, .ref 0), (1, .int x0)]) (st1 := [.int 0]) (H1 := H) (k1 := 0) (n1 := 0) (by with_unfolding_all rfl)) ?_
          cases e
          exact ex_r (st_iret rfl rfl rfl) hS
        · have e := (if_neg c4).symm.trans e
          rw [show xN (a 0 14) = .ref ((a 0 14).toNatClampNeg) from if_neg c4]
          refine ex_s (am_nb (m := 1) (pc1 := 108) (ls1 := [(0, .ref 0), (1, .int x0)]) (st1 := []) (H1 := H) (k1 := 0) (n1 := 0) (by with_unfolding_all rfl)) ?_
          refine ex_s (am_nb (m := 1) (pc1 := 109) (ls1 := [(0, .ref 0), (1, .int x0)]) (st1 := [.ref 0]) (H1 := H) (k1 := 0) (n1 := 0) (by with_unfolding_all rfl)) ?_
          refine xe_get (v := .ref 97) hS rfl rfl (by decide) rfl ?_
          refine xe_get (v := .ref 98) hS rfl rfl (by decide) rfl ?_
          refine xe_get (v := .int (a 98 4)) hS rfl rfl (by decide) rfl ?_
          cases e
          exact ex_r (st_iret rfl rfl rfl) hS
      · have e := (if_neg c3).symm.trans e
        by_cases c5 : x0 = 3
        · have e := (if_pos c5).symm.trans e
          refine ex_pc (pc1 := 119) (by rw [c5]; with_unfolding_all rfl) ?_
          refine ex_s (am_nb (m := 1) (pc1 := 120) (ls1 := [(0, .ref 0), (1, .int x0)]) (st1 := [.ref 0]) (H1 := H) (k1 := 0) (n1 := 0) (by with_unfolding_all rfl)) ?_
          refine xe_get (v := xN (a 0 14)) hS rfl rfl (by decide) rfl ?_
          by_cases c6 : (a 0 14) = -1
          · have e := (if_pos c6).symm.trans e
            rw [show xN (a 0 14) = .null from if_pos c6]
            refine ex_s (am_nb (m := 1) (pc1 := 126) (ls1 := [(0, .ref 0), (1, .int x0)]) (st1 := []) (H1 := H) (k1 := 0) (n1 := 0) (by with_unfolding_all rfl)) ?_
            refine ex_s (am_nb (m := 2) (pc1 := 140) (ls1 := [(0, .ref 0), (1, .int x0)]) (st1 := [.int 0]) (H1 := H) (k1 := 0) (n1 := 0) (by with_unfolding_all rfl)) ?_
            cases e
            exact ex_r (st_iret rfl rfl rfl) hS
          · have e := (if_neg c6).symm.trans e
            rw [show xN (a 0 14) = .ref ((a 0 14).toNatClampNeg) from if_neg c6]
            refine ex_s (am_nb (m := 1) (pc1 := 130) (ls1 := [(0, .ref 0), (1, .int x0)]) (st1 := []) (H1 := H) (k1 := 0) (n1 := 0) (by with_unfolding_all rfl)) ?_
            refine ex_s (am_nb (m := 1) (pc1 := 131) (ls1 := [(0, .ref 0), (1, .int x0)]) (st1 := [.ref 0]) (H1 := H) (k1 := 0) (n1 := 0) (by with_unfolding_all rfl)) ?_
            refine xe_get (v := .ref 97) hS rfl rfl (by decide) rfl ?_
            refine xe_get (v := .ref 98) hS rfl rfl (by decide) rfl ?_
            refine xe_get (v := .int (a 98 5)) hS rfl rfl (by decide) rfl ?_
            cases e
            exact ex_r (st_iret rfl rfl rfl) hS
        · have e := (if_neg c5).symm.trans e
          by_cases c7 : x0 = 4
          · have e := (if_pos c7).symm.trans e
            refine ex_pc (pc1 := 141) (by rw [c7]; with_unfolding_all rfl) ?_
            refine ex_s (am_nb (m := 1) (pc1 := 142) (ls1 := [(0, .ref 0), (1, .int x0)]) (st1 := [.ref 0]) (H1 := H) (k1 := 0) (n1 := 0) (by with_unfolding_all rfl)) ?_
            obtain ⟨r11, a12, e10, e⟩ := xb2_some e
            refine ex_cv1 (as := []) (rest := []) rfl rfl rfl rfl (hS.obj rfl (by decide)) rfl (by with_unfolding_all rfl) (by with_unfolding_all rfl) (tf255_openWindows hS e10) (fun H8 s9 => ?_)
            cases e
            exact ex_r (st_iret rfl rfl rfl) s9
          · have e := (if_neg c7).symm.trans e
            by_cases c13 : x0 = 11
            · have e := (if_pos c13).symm.trans e
              refine ex_pc (pc1 := 146) (by rw [c13]; with_unfolding_all rfl) ?_
              refine ex_s (am_nb (m := 1) (pc1 := 147) (ls1 := [(0, .ref 0), (1, .int x0)]) (st1 := [.ref 0]) (H1 := H) (k1 := 0) (n1 := 0) (by with_unfolding_all rfl)) ?_
              refine xe_get (v := .ref 127) hS rfl rfl (by decide) rfl ?_
              refine xe_get (v := .int (a 127 3)) hS rfl rfl (by decide) rfl ?_
              cases e
              exact ex_r (st_iret rfl rfl rfl) hS
            · have e := (if_neg c13).symm.trans e
              by_cases c14 : x0 = 12
              · have e := (if_pos c14).symm.trans e
                refine ex_pc (pc1 := 154) (by rw [c14]; with_unfolding_all rfl) ?_
                refine ex_s (am_nb (m := 1) (pc1 := 155) (ls1 := [(0, .ref 0), (1, .int x0)]) (st1 := [.ref 0]) (H1 := H) (k1 := 0) (n1 := 0) (by with_unfolding_all rfl)) ?_
                refine xe_get (v := .ref 128) hS rfl rfl (by decide) rfl ?_
                refine xe_get (v := .int (a 128 3)) hS rfl rfl (by decide) rfl ?_
                cases e
                exact ex_r (st_iret rfl rfl rfl) hS
              · have e := (if_neg c14).symm.trans e
                by_cases c15 : x0 = 13
                · have e := (if_pos c15).symm.trans e
                  refine ex_pc (pc1 := 162) (by rw [c15]; with_unfolding_all rfl) ?_
                  refine ex_s (am_nb (m := 1) (pc1 := 163) (ls1 := [(0, .ref 0), (1, .int x0)]) (st1 := [.ref 0]) (H1 := H) (k1 := 0) (n1 := 0) (by with_unfolding_all rfl)) ?_
                  refine xe_get (v := .int (a 0 1)) hS rfl rfl (by decide) rfl ?_
                  cases e
                  exact ex_r (st_iret rfl rfl rfl) hS
                · have e := (if_neg c15).symm.trans e
                  by_cases c16 : x0 = 14
                  · have e := (if_pos c16).symm.trans e
                    refine ex_pc (pc1 := 167) (by rw [c16]; with_unfolding_all rfl) ?_
                    refine ex_s (am_nb (m := 1) (pc1 := 168) (ls1 := [(0, .ref 0), (1, .int x0)]) (st1 := [.ref 0]) (H1 := H) (k1 := 0) (n1 := 0) (by with_unfolding_all rfl)) ?_
                    refine xe_get (v := xN (a 0 14)) hS rfl rfl (by decide) rfl ?_
                    by_cases c17 : (a 0 14) = -1
                    · have e := (if_pos c17).symm.trans e
                      rw [show xN (a 0 14) = .null from if_pos c17]
                      refine ex_s (am_nb (m := 1) (pc1 := 174) (ls1 := [(0, .ref 0), (1, .int x0)]) (st1 := []) (H1 := H) (k1 := 0) (n1 := 0) (by with_unfolding_all rfl)) ?_
                      refine ex_s (am_nb (m := 2) (pc1 := 188) (ls1 := [(0, .ref 0), (1, .int x0)]) (st1 := [.int 0]) (H1 := H) (k1 := 0) (n1 := 0) (by with_unfolding_all rfl)) ?_
                      cases e
                      exact ex_r (st_iret rfl rfl rfl) hS
                    · have e := (if_neg c17).symm.trans e
                      rw [show xN (a 0 14) = .ref ((a 0 14).toNatClampNeg) from if_neg c17]
                      refine ex_s (am_nb (m := 1) (pc1 := 178) (ls1 := [(0, .ref 0), (1, .int x0)]) (st1 := []) (H1 := H) (k1 := 0) (n1 := 0) (by with_unfolding_all rfl)) ?_
                      refine ex_s (am_nb (m := 1) (pc1 := 179) (ls1 := [(0, .ref 0), (1, .int x0)]) (st1 := [.ref 0]) (H1 := H) (k1 := 0) (n1 := 0) (by with_unfolding_all rfl)) ?_
                      refine xe_get (v := .ref 97) hS rfl rfl (by decide) rfl ?_
                      refine xe_get (v := .ref 100) hS rfl rfl (by decide) rfl ?_
                      refine xe_get (v := .int (a 100 8)) hS rfl rfl (by decide) rfl ?_
                      cases e
                      exact ex_r (st_iret rfl rfl rfl) hS
                  · have e := (if_neg c16).symm.trans e
                    by_cases c18 : x0 = 15
                    · have e := (if_pos c18).symm.trans e
                      refine ex_pc (pc1 := 189) (by rw [c18]; with_unfolding_all rfl) ?_
                      refine ex_s (am_nb (m := 1) (pc1 := 190) (ls1 := [(0, .ref 0), (1, .int x0)]) (st1 := [.ref 0]) (H1 := H) (k1 := 0) (n1 := 0) (by with_unfolding_all rfl)) ?_
                      refine xe_get (v := xN (a 0 14)) hS rfl rfl (by decide) rfl ?_
                      by_cases c19 : (a 0 14) = -1
                      · have e := (if_pos c19).symm.trans e
                        rw [show xN (a 0 14) = .null from if_pos c19]
                        refine ex_s (am_nb (m := 1) (pc1 := 206) (ls1 := [(0, .ref 0), (1, .int x0)]) (st1 := []) (H1 := H) (k1 := 0) (n1 := 0) (by with_unfolding_all rfl)) ?_
                        exact le_E (l1 := []) trivial rfl (tj254_206  hS e)
                      · have e := (if_neg c19).symm.trans e
                        rw [show xN (a 0 14) = .ref ((a 0 14).toNatClampNeg) from if_neg c19]
                        refine ex_s (am_nb (m := 1) (pc1 := 196) (ls1 := [(0, .ref 0), (1, .int x0)]) (st1 := []) (H1 := H) (k1 := 0) (n1 := 0) (by with_unfolding_all rfl)) ?_
                        refine ex_s (am_nb (m := 1) (pc1 := 197) (ls1 := [(0, .ref 0), (1, .int x0)]) (st1 := [.ref 0]) (H1 := H) (k1 := 0) (n1 := 0) (by with_unfolding_all rfl)) ?_
                        refine xe_get (v := .ref 97) hS rfl rfl (by decide) rfl ?_
                        refine xe_get (v := .int (a 97 14)) hS rfl rfl (by decide) rfl ?_
                        refine ex_s (st_if rfl) ?_
                        by_cases c21 : (a 97 14) = 0
                        · have e := (if_pos c21).symm.trans e
                          refine ex_pc (if_pos c21) ?_
                          exact le_E (l1 := []) trivial rfl (tj254_206  hS e)
                        · have e := (if_neg c21).symm.trans e
                          refine ex_pc (if_neg c21) ?_
                          refine ex_s (am_nb (m := 1) (pc1 := 211) (ls1 := [(0, .ref 0), (1, .int x0)]) (st1 := [.ref 0]) (H1 := H) (k1 := 0) (n1 := 0) (by with_unfolding_all rfl)) ?_
                          refine xe_get (v := .ref 97) hS rfl rfl (by decide) rfl ?_
                          refine xe_get (v := .ref 100) hS rfl rfl (by decide) rfl ?_
                          refine xe_get (v := .int (a 100 6)) hS rfl rfl (by decide) rfl ?_
                          cases e
                          exact ex_r (st_iret rfl rfl rfl) hS
                    · have e := (if_neg c18).symm.trans e
                      by_cases c22 : x0 = 16
                      · have e := (if_pos c22).symm.trans e
                        refine ex_pc (pc1 := 221) (by rw [c22]; with_unfolding_all rfl) ?_
                        refine ex_s (am_nb (m := 1) (pc1 := 222) (ls1 := [(0, .ref 0), (1, .int x0)]) (st1 := [.ref 0]) (H1 := H) (k1 := 0) (n1 := 0) (by with_unfolding_all rfl)) ?_
                        refine xe_get (v := xN (a 0 14)) hS rfl rfl (by decide) rfl ?_
                        by_cases c23 : (a 0 14) = -1
                        · have e := (if_pos c23).symm.trans e
                          rw [show xN (a 0 14) = .null from if_pos c23]
                          refine ex_s (am_nb (m := 1) (pc1 := 238) (ls1 := [(0, .ref 0), (1, .int x0)]) (st1 := []) (H1 := H) (k1 := 0) (n1 := 0) (by with_unfolding_all rfl)) ?_
                          exact le_E (l1 := []) trivial rfl (tj254_238  hS e)
                        · have e := (if_neg c23).symm.trans e
                          rw [show xN (a 0 14) = .ref ((a 0 14).toNatClampNeg) from if_neg c23]
                          refine ex_s (am_nb (m := 1) (pc1 := 228) (ls1 := [(0, .ref 0), (1, .int x0)]) (st1 := []) (H1 := H) (k1 := 0) (n1 := 0) (by with_unfolding_all rfl)) ?_
                          refine ex_s (am_nb (m := 1) (pc1 := 229) (ls1 := [(0, .ref 0), (1, .int x0)]) (st1 := [.ref 0]) (H1 := H) (k1 := 0) (n1 := 0) (by with_unfolding_all rfl)) ?_
                          refine xe_get (v := .ref 97) hS rfl rfl (by decide) rfl ?_
                          refine xe_get (v := .int (a 97 14)) hS rfl rfl (by decide) rfl ?_
                          refine ex_s (st_if rfl) ?_
                          by_cases c25 : (a 97 14) = 0
                          · have e := (if_pos c25).symm.trans e
                            refine ex_pc (if_pos c25) ?_
                            exact le_E (l1 := []) trivial rfl (tj254_238  hS e)
                          · have e := (if_neg c25).symm.trans e
                            refine ex_pc (if_neg c25) ?_
                            refine ex_s (am_nb (m := 1) (pc1 := 243) (ls1 := [(0, .ref 0), (1, .int x0)]) (st1 := [.ref 0]) (H1 := H) (k1 := 0) (n1 := 0) (by with_unfolding_all rfl)) ?_
                            refine xe_get (v := .ref 97) hS rfl rfl (by decide) rfl ?_
                            refine xe_get (v := .ref 100) hS rfl rfl (by decide) rfl ?_
                            refine xe_get (v := .int (a 100 7)) hS rfl rfl (by decide) rfl ?_
                            cases e
                            exact ex_r (st_iret rfl rfl rfl) hS
                      · have e := (if_neg c22).symm.trans e
                        refine ex_pc (pc1 := 253) (am_sw_n (sw_c (Or.inl c1) (sw_c (Or.inl c2) (sw_c (Or.inl c3) (sw_c (Or.inl c5) (sw_c (Or.inl c7) (sw_c (Or.inr rfl) (sw_c (Or.inr rfl) (sw_c (Or.inr rfl) (sw_c (Or.inr rfl) (sw_c (Or.inr rfl) (sw_c (Or.inr rfl) (sw_c (Or.inl c13) (sw_c (Or.inl c14) (sw_c (Or.inl c15) (sw_c (Or.inl c16) (sw_c (Or.inl c18) (sw_c (Or.inl c22) sw_o)))))))))))))))))) ?_
                        refine ex_s (am_nb (m := 1) (pc1 := 254) (ls1 := [(0, .ref 0), (1, .int x0)]) (st1 := [.ref 0]) (H1 := H) (k1 := 0) (n1 := 0) (by with_unfolding_all rfl)) ?_
                        refine xe_get (v := .ref 116) hS rfl rfl (by decide) rfl ?_
                        refine ex_s (am_nb (m := 1) (pc1 := 258) (ls1 := [(0, .ref 0), (1, .int x0)]) (st1 := [.int x0, .ref 116]) (H1 := H) (k1 := 0) (n1 := 0) (by with_unfolding_all rfl)) ?_
                        obtain ⟨r29, a30, e28, e⟩ := xb2_some e
                        refine ex_cv1 (as := [.int x0]) (rest := []) rfl rfl rfl rfl (hS.obj rfl (by decide)) rfl (by with_unfolding_all rfl) (by with_unfolding_all rfl) (tf256_tell hS e28) (fun H26 s27 => ?_)
                        cases e
                        exact ex_r (st_iret rfl rfl rfl) s27

set_option maxRecDepth 100000 in
theorem tf257_stop {sL : Nat} {sx : Nat → Int32} {h b N : Nat} {T : List am_C} {r : Int32} {a' : xA} {x0 : Int32} {x1 : Int32} {a : xA} {H : am_H} (hS : xS h b T a H) (e : f257_stop N h b x0 x1 a = some (r, a')) : am_E sL sx am_cs 257 0 [(0, .ref 0), (1, .int x0), (2, .int x1)] [] H (some (.int r)) (fun H1 => xS h b T a' H1) := by
  unfold f257_stop at e
  refine ex_s (am_nb (m := 1) (pc1 := 1) (ls1 := [(0, .ref 0), (1, .int x0), (2, .int x1)]) (st1 := [.ref 0]) (H1 := H) (k1 := 0) (n1 := 0) (by with_unfolding_all rfl)) ?_
  refine xe_get (v := .ref 129) hS rfl rfl (by decide) rfl ?_
  refine xe_get (v := .ref 136) hS rfl rfl (by decide) rfl ?_
  refine ex_s (am_nb (m := 4) (pc1 := 11) (ls1 := [(3, .ref 136), (0, .ref 0), (1, .int x0), (2, .int x1)]) (st1 := [.int x1, .int x0, .ref 136]) (H1 := H) (k1 := 0) (n1 := 0) (by with_unfolding_all rfl)) ?_
  obtain ⟨r4, a5, e3, e⟩ := xb2_some e
  refine ex_cv1 (as := [.int x0, .int x1]) (rest := []) rfl rfl rfl rfl (hS.obj rfl (by decide)) rfl (by with_unfolding_all rfl) (by with_unfolding_all rfl) (tf249_hasCell hS e3) (fun H1 s2 => ?_)
  refine ex_s (st_if rfl) ?_
  by_cases c6 : r4 = 0
  · have e := (if_pos c6).symm.trans e
    refine ex_pc (if_pos c6) ?_
    refine ex_s (am_nb (m := 1) (pc1 := 18) (ls1 := [(3, .ref 136), (0, .ref 0), (1, .int x0), (2, .int x1)]) (st1 := [.int (-1)]) (H1 := H1) (k1 := 0) (n1 := 0) (by with_unfolding_all rfl)) ?_
    cases e
    exact ex_r (st_iret rfl rfl rfl) s2
  · have e := (if_neg c6).symm.trans e
    refine ex_pc (if_neg c6) ?_
    refine ex_s (am_nb (m := 1) (pc1 := 20) (ls1 := [(3, .ref 136), (0, .ref 0), (1, .int x0), (2, .int x1)]) (st1 := [.ref 136]) (H1 := H1) (k1 := 0) (n1 := 0) (by with_unfolding_all rfl)) ?_
    refine xe_get (v := .ref 140) s2 rfl rfl (by decide) rfl ?_
    refine ex_s (am_nb (m := 1) (pc1 := 24) (ls1 := [(3, .ref 136), (0, .ref 0), (1, .int x0), (2, .int x1)]) (st1 := [.int x1, .ref 140]) (H1 := H1) (k1 := 0) (n1 := 0) (by with_unfolding_all rfl)) ?_
    obtain ⟨g7, e⟩ := xg_some e
    refine xe_zald s2 rfl rfl g7 ?_
    have kk : am_E sL sx am_cs 257 33 [(3, .ref 136), (0, .ref 0), (1, .int x0), (2, .int x1)] [.int (if (a5 140 (x1.toNatClampNeg)) = 0 then (0 : Int32) else (1 : Int32))] H1 (some (.int r)) (fun H1 => xS h b T a' H1) := by
      cases e
      exact ex_r (st_iret rfl rfl rfl) s2
    refine ex_s (st_if rfl) ?_
    by_cases c8 : (a5 140 (x1.toNatClampNeg)) = 0
    · refine ex_pc (if_pos c8) ?_
      refine ex_s (am_nb (m := 1) (pc1 := 33) (ls1 := [(3, .ref 136), (0, .ref 0), (1, .int x0), (2, .int x1)]) (st1 := [.int 0]) (H1 := H1) (k1 := 0) (n1 := 0) (by with_unfolding_all rfl)) ?_
      rw [if_pos c8] at kk
      exact kk
    · refine ex_pc (if_neg c8) ?_
      refine ex_s (am_nb (m := 2) (pc1 := 33) (ls1 := [(3, .ref 136), (0, .ref 0), (1, .int x0), (2, .int x1)]) (st1 := [.int 1]) (H1 := H1) (k1 := 0) (n1 := 0) (by with_unfolding_all rfl)) ?_
      rw [if_neg c8] at kk
      exact kk

set_option maxRecDepth 100000 in
theorem tf260_thrown {sL : Nat} {sx : Nat → Int32} {h b N : Nat} {T : List am_C} {r : Int32} {a' : xA} {a : xA} {H : am_H} (hS : xS h b T a H) (e : f260_thrown N h b a = some (r, a')) : am_E sL sx am_cs 260 0 [(0, .ref 157)] [] H (some (.int r)) (fun H1 => xS h b T a' H1) := by
  unfold f260_thrown at e
  refine ex_s (am_nb (m := 1) (pc1 := 1) (ls1 := [(0, .ref 157)]) (st1 := [.ref 157]) (H1 := H) (k1 := 0) (n1 := 0) (by with_unfolding_all rfl)) ?_
  refine xe_get (v := .int (a 157 0)) hS rfl rfl (by decide) rfl ?_
  cases e
  exact ex_r (st_iret rfl rfl rfl) hS

set_option maxRecDepth 100000 in
theorem tl261_23 {sL : Nat} {sx : Nat → Int32} {h b N : Nat} {T : List am_C} {R : Option Value} {F : am_H → Prop} {w1 : Int32} {w2 : Int32} {w3 : Int32} {w4 : Int32} {w5 : Int32} {z : Nat × xA} (k0 : z.1 = 0 → ∀ H2 : am_H, xS h b T z.2 H2 → am_E sL sx am_cs 261 109 [(0, .ref 157)] [] H2 R F) : ∀ (n : Nat) (v6 : Int32) (a : xA) (H : am_H), xS h b T a H → l261_23 N h b w1 w2 w3 w4 w5 n v6 a = some z → am_E sL sx am_cs 261 23 [(0, .ref 157), (1, .int w1), (2, .int w2), (3, .int w3), (4, .int w4), (5, .int w5), (6, .int v6)] [] H R F := by
  intro n
  induction n with
  | zero =>
    intro v6 a H hS e
    cases e
  | succ n ih =>
    intro v6 a H hS e
    unfold l261_23 at e
    refine ex_s (am_nb (m := 2) (pc1 := 27) (ls1 := [(0, .ref 157), (1, .int w1), (2, .int w2), (3, .int w3), (4, .int w4), (5, .int w5), (6, .int v6)]) (st1 := [.int 20, .int v6]) (H1 := H) (k1 := 0) (n1 := 0) (by with_unfolding_all rfl)) ?_
    refine ex_s (st_icmp rfl) ?_
    by_cases c5 : 20 ≤ v6
    · have e := (if_pos c5).symm.trans e
      refine ex_pc (if_pos c5) ?_
      cases e
      exact le_E (l1 := [(0, .ref 157)]) ⟨rfl, trivial⟩ rfl (k0 rfl H hS)
    · have e := (if_neg c5).symm.trans e
      refine ex_pc (if_neg c5) ?_
      refine ex_s (am_nb (m := 2) (pc1 := 33) (ls1 := [(0, .ref 157), (1, .int w1), (2, .int w2), (3, .int w3), (4, .int w4), (5, .int w5), (6, .int v6)]) (st1 := [.int 4, .int v6]) (H1 := H) (k1 := 0) (n1 := 0) (by with_unfolding_all rfl)) ?_
      have kk : am_E sL sx am_cs 261 76 [(0, .ref 157), (1, .int w1), (2, .int w2), (3, .int w3), (4, .int w4), (5, .int w5), (6, .int v6)] [.int (if 4 ≤ v6 then (if 8 ≤ v6 then (if 12 ≤ v6 then (if 16 ≤ v6 then (w5) else (w4)) else (w3)) else (w2)) else (w1))] H R F := by
        refine ex_s (am_nb (m := 2) (pc1 := 79) (ls1 := [(7, .int (if 4 ≤ v6 then (if 8 ≤ v6 then (if 12 ≤ v6 then (if 16 ≤ v6 then (w5) else (w4)) else (w3)) else (w2)) else (w1))), (0, .ref 157), (1, .int w1), (2, .int w2), (3, .int w3), (4, .int w4), (5, .int w5), (6, .int v6)]) (st1 := [.ref 157]) (H1 := H) (k1 := 0) (n1 := 0) (by with_unfolding_all rfl)) ?_
        refine xe_get (v := .ref 158) hS rfl rfl (by decide) rfl ?_
        refine ex_s (am_nb (m := 1) (pc1 := 83) (ls1 := [(7, .int (if 4 ≤ v6 then (if 8 ≤ v6 then (if 12 ≤ v6 then (if 16 ≤ v6 then (w5) else (w4)) else (w3)) else (w2)) else (w1))), (0, .ref 157), (1, .int w1), (2, .int w2), (3, .int w3), (4, .int w4), (5, .int w5), (6, .int v6)]) (st1 := [.ref 157, .ref 158]) (H1 := H) (k1 := 0) (n1 := 0) (by with_unfolding_all rfl)) ?_
        refine xe_get (v := .int (a 157 2)) hS rfl rfl (by decide) rfl ?_
        refine ex_s (am_nb (m := 12) (pc1 := 102) (ls1 := [(7, .int (if 4 ≤ v6 then (if 8 ≤ v6 then (if 12 ≤ v6 then (if 16 ≤ v6 then (w5) else (w4)) else (w3)) else (w2)) else (w1))), (0, .ref 157), (1, .int w1), (2, .int w2), (3, .int w3), (4, .int w4), (5, .int w5), (6, .int v6)]) (st1 := [.int (((if 4 ≤ v6 then (if 8 ≤ v6 then (if 12 ≤ v6 then (if 16 ≤ v6 then (w5) else (w4)) else (w3)) else (w2)) else (w1)) >>> ((8 * (3 - (v6 - v6 / 4 * 4))) &&& 31)).toInt8.toInt32), .int ((a 157 2) + v6), .ref 158]) (H1 := H) (k1 := 0) (n1 := 0) (by with_unfolding_all rfl)) ?_
        obtain ⟨g13, e⟩ := xg_some e
        obtain ⟨a10, ha10, e⟩ := xw_some e
        refine xe_bast hS rfl rfl g13 (fun H11 s12 => ?_)
        have s12 : xS h b T a10 H11 := by rw [ha10]; exact s12
        refine ex_s (am_nb (m := 2) (pc1 := 23) (ls1 := [(6, .int (v6 + 1)), (7, .int (if 4 ≤ v6 then (if 8 ≤ v6 then (if 12 ≤ v6 then (if 16 ≤ v6 then (w5) else (w4)) else (w3)) else (w2)) else (w1))), (0, .ref 157), (1, .int w1), (2, .int w2), (3, .int w3), (4, .int w4), (5, .int w5)]) (st1 := []) (H1 := H11) (k1 := 0) (n1 := 0) (by with_unfolding_all rfl)) ?_
        exact le_E (l1 := [(0, .ref 157), (1, .int w1), (2, .int w2), (3, .int w3), (4, .int w4), (5, .int w5), (6, .int (v6 + 1))]) ⟨rfl, rfl, rfl, rfl, rfl, rfl, rfl, trivial⟩ rfl (ih (v6 + 1) a10 H11 s12 e)
      refine ex_s (st_icmp rfl) ?_
      by_cases c6 : 4 ≤ v6
      · refine ex_pc (if_pos c6) ?_
        refine ex_s (am_nb (m := 2) (pc1 := 44) (ls1 := [(0, .ref 157), (1, .int w1), (2, .int w2), (3, .int w3), (4, .int w4), (5, .int w5), (6, .int v6)]) (st1 := [.int 8, .int v6]) (H1 := H) (k1 := 0) (n1 := 0) (by with_unfolding_all rfl)) ?_
        refine ex_s (st_icmp rfl) ?_
        by_cases c7 : 8 ≤ v6
        · refine ex_pc (if_pos c7) ?_
          refine ex_s (am_nb (m := 2) (pc1 := 55) (ls1 := [(0, .ref 157), (1, .int w1), (2, .int w2), (3, .int w3), (4, .int w4), (5, .int w5), (6, .int v6)]) (st1 := [.int 12, .int v6]) (H1 := H) (k1 := 0) (n1 := 0) (by with_unfolding_all rfl)) ?_
          refine ex_s (st_icmp rfl) ?_
          by_cases c8 : 12 ≤ v6
          · refine ex_pc (if_pos c8) ?_
            refine ex_s (am_nb (m := 2) (pc1 := 66) (ls1 := [(0, .ref 157), (1, .int w1), (2, .int w2), (3, .int w3), (4, .int w4), (5, .int w5), (6, .int v6)]) (st1 := [.int 16, .int v6]) (H1 := H) (k1 := 0) (n1 := 0) (by with_unfolding_all rfl)) ?_
            refine ex_s (st_icmp rfl) ?_
            by_cases c9 : 16 ≤ v6
            · refine ex_pc (if_pos c9) ?_
              refine ex_s (am_nb (m := 1) (pc1 := 76) (ls1 := [(0, .ref 157), (1, .int w1), (2, .int w2), (3, .int w3), (4, .int w4), (5, .int w5), (6, .int v6)]) (st1 := [.int w5]) (H1 := H) (k1 := 0) (n1 := 0) (by with_unfolding_all rfl)) ?_
              rw [if_pos c6, if_pos c7, if_pos c8, if_pos c9] at kk
              exact kk
            · refine ex_pc (if_neg c9) ?_
              refine ex_s (am_nb (m := 2) (pc1 := 76) (ls1 := [(0, .ref 157), (1, .int w1), (2, .int w2), (3, .int w3), (4, .int w4), (5, .int w5), (6, .int v6)]) (st1 := [.int w4]) (H1 := H) (k1 := 0) (n1 := 0) (by with_unfolding_all rfl)) ?_
              rw [if_pos c6, if_pos c7, if_pos c8, if_neg c9] at kk
              exact kk
          · refine ex_pc (if_neg c8) ?_
            refine ex_s (am_nb (m := 2) (pc1 := 76) (ls1 := [(0, .ref 157), (1, .int w1), (2, .int w2), (3, .int w3), (4, .int w4), (5, .int w5), (6, .int v6)]) (st1 := [.int w3]) (H1 := H) (k1 := 0) (n1 := 0) (by with_unfolding_all rfl)) ?_
            rw [if_pos c6, if_pos c7, if_neg c8] at kk
            exact kk
        · refine ex_pc (if_neg c7) ?_
          refine ex_s (am_nb (m := 2) (pc1 := 76) (ls1 := [(0, .ref 157), (1, .int w1), (2, .int w2), (3, .int w3), (4, .int w4), (5, .int w5), (6, .int v6)]) (st1 := [.int w2]) (H1 := H) (k1 := 0) (n1 := 0) (by with_unfolding_all rfl)) ?_
          rw [if_pos c6, if_neg c7] at kk
          exact kk
      · refine ex_pc (if_neg c6) ?_
        refine ex_s (am_nb (m := 2) (pc1 := 76) (ls1 := [(0, .ref 157), (1, .int w1), (2, .int w2), (3, .int w3), (4, .int w4), (5, .int w5), (6, .int v6)]) (st1 := [.int w1]) (H1 := H) (k1 := 0) (n1 := 0) (by with_unfolding_all rfl)) ?_
        rw [if_neg c6] at kk
        exact kk

set_option maxRecDepth 100000 in
theorem tf261_feed {sL : Nat} {sx : Nat → Int32} {h b N : Nat} {T : List am_C} {r : Int32} {a' : xA} {x0 : Int32} {x1 : Int32} {x2 : Int32} {x3 : Int32} {x4 : Int32} {a : xA} {H : am_H} (hS : xS h b T a H) (e : f261_feed N h b x0 x1 x2 x3 x4 a = some (r, a')) : am_E sL sx am_cs 261 0 [(0, .ref 157), (1, .int x0), (2, .int x1), (3, .int x2), (4, .int x3), (5, .int x4)] [] H (some (.int r)) (fun H1 => xS h b T a' H1) := by
  unfold f261_feed at e
  refine ex_s (am_nb (m := 2) (pc1 := 2) (ls1 := [(0, .ref 157), (1, .int x0), (2, .int x1), (3, .int x2), (4, .int x3), (5, .int x4)]) (st1 := [.int 0, .ref 157]) (H1 := H) (k1 := 0) (n1 := 0) (by with_unfolding_all rfl)) ?_
  obtain ⟨a1, ha1, e⟩ := xw_some e
  refine xe_put (w := 0) hS rfl rfl (by decide) rfl rfl rfl rfl (fun H2 s3 => ?_)
  have s3 : xS h b T a1 H2 := by rw [ha1]; exact s3
  refine ex_s (am_nb (m := 1) (pc1 := 6) (ls1 := [(0, .ref 157), (1, .int x0), (2, .int x1), (3, .int x2), (4, .int x3), (5, .int x4)]) (st1 := [.ref 157]) (H1 := H2) (k1 := 0) (n1 := 0) (by with_unfolding_all rfl)) ?_
  refine xe_get (v := .int (a1 157 2)) s3 rfl rfl (by decide) rfl ?_
  refine ex_s (am_nb (m := 3) (pc1 := 15) (ls1 := [(0, .ref 157), (1, .int x0), (2, .int x1), (3, .int x2), (4, .int x3), (5, .int x4)]) (st1 := [.int 3000, .int ((a1 157 2) + 20)]) (H1 := H2) (k1 := 0) (n1 := 0) (by with_unfolding_all rfl)) ?_
  refine ex_s (st_icmp rfl) ?_
  by_cases c4 : ((a1 157 2) + 20) ≤ 3000
  · have e := (if_pos c4).symm.trans e
    refine ex_pc (if_pos c4) ?_
    refine ex_s (am_nb (m := 2) (pc1 := 23) (ls1 := [(6, .int 0), (0, .ref 157), (1, .int x0), (2, .int x1), (3, .int x2), (4, .int x3), (5, .int x4)]) (st1 := []) (H1 := H2) (k1 := 0) (n1 := 0) (by with_unfolding_all rfl)) ?_
    obtain ⟨z14, e15, e⟩ := Option.bind_eq_some_iff.mp e
    refine le_E (l1 := [(0, .ref 157), (1, .int x0), (2, .int x1), (3, .int x2), (4, .int x3), (5, .int x4), (6, .int 0)]) ⟨rfl, rfl, rfl, rfl, rfl, rfl, rfl, trivial⟩ rfl (tl261_23 (z := z14)  (fun uz14_0 Hz140 sz140 => ?_) N 0 a1 H2 s3 e15)
    refine ex_s (am_nb (m := 2) (pc1 := 111) (ls1 := [(0, .ref 157)]) (st1 := [.ref 157, .ref 157]) (H1 := Hz140) (k1 := 0) (n1 := 0) (by with_unfolding_all rfl)) ?_
    refine xe_get (v := .int (z14.2 157 2)) sz140 rfl rfl (by decide) rfl ?_
    refine ex_s (am_nb (m := 2) (pc1 := 117) (ls1 := [(0, .ref 157)]) (st1 := [.int ((z14.2 157 2) + 20), .ref 157]) (H1 := Hz140) (k1 := 0) (n1 := 0) (by with_unfolding_all rfl)) ?_
    obtain ⟨a16, ha16, e⟩ := xw_some e
    refine xe_put (w := ((z14.2 157 2) + 20)) sz140 rfl rfl (by decide) rfl rfl rfl rfl (fun H17 s18 => ?_)
    have s18 : xS h b T a16 H17 := by rw [ha16]; exact s18
    refine ex_s (am_nb (m := 1) (pc1 := 121) (ls1 := [(0, .ref 157)]) (st1 := [.int 1]) (H1 := H17) (k1 := 0) (n1 := 0) (by with_unfolding_all rfl)) ?_
    cases e
    exact ex_r (st_iret rfl rfl rfl) s18
  · have e := (if_neg c4).symm.trans e
    refine ex_pc (if_neg c4) ?_
    refine ex_s (am_nb (m := 1) (pc1 := 19) (ls1 := [(0, .ref 157), (1, .int x0), (2, .int x1), (3, .int x2), (4, .int x3), (5, .int x4)]) (st1 := [.int 0]) (H1 := H2) (k1 := 0) (n1 := 0) (by with_unfolding_all rfl)) ?_
    cases e
    exact ex_r (st_iret rfl rfl rfl) s3

set_option maxRecDepth 100000 in
theorem tf262_end {sL : Nat} {sx : Nat → Int32} {h b N : Nat} {T : List am_C} {r : Int32} {a' : xA} {x0 : Int32} {a : xA} {H : am_H} (hS : xS h b T a H) (e : f262_end N h b x0 a = some (r, a')) : am_E sL sx am_cs 262 0 [(0, .ref 157), (1, .int x0)] [] H (some (.int r)) (fun H1 => xS h b T a' H1) := by
  unfold f262_end at e
  refine ex_s (am_nb (m := 2) (pc1 := 2) (ls1 := [(0, .ref 157), (1, .int x0)]) (st1 := [.int 0, .ref 157]) (H1 := H) (k1 := 0) (n1 := 0) (by with_unfolding_all rfl)) ?_
  obtain ⟨a1, ha1, e⟩ := xw_some e
  refine xe_put (w := 0) hS rfl rfl (by decide) rfl rfl rfl rfl (fun H2 s3 => ?_)
  have s3 : xS h b T a1 H2 := by rw [ha1]; exact s3
  refine ex_s (am_nb (m := 1) (pc1 := 6) (ls1 := [(0, .ref 157), (1, .int x0)]) (st1 := [.int x0]) (H1 := H2) (k1 := 0) (n1 := 0) (by with_unfolding_all rfl)) ?_
  refine ex_s (st_if rfl) ?_
  by_cases c6 : x0 < 0
  · have e := (if_pos c6).symm.trans e
    refine ex_pc (if_pos c6) ?_
    refine ex_s (am_nb (m := 1) (pc1 := 18) (ls1 := [(0, .ref 157), (1, .int x0)]) (st1 := [.int 0]) (H1 := H2) (k1 := 0) (n1 := 0) (by with_unfolding_all rfl)) ?_
    cases e
    exact ex_r (st_iret rfl rfl rfl) s3
  · have e := (if_neg c6).symm.trans e
    refine ex_pc (if_neg c6) ?_
    refine ex_s (am_nb (m := 2) (pc1 := 11) (ls1 := [(0, .ref 157), (1, .int x0)]) (st1 := [.ref 157, .int x0]) (H1 := H2) (k1 := 0) (n1 := 0) (by with_unfolding_all rfl)) ?_
    refine xe_get (v := .int (a1 157 2)) s3 rfl rfl (by decide) rfl ?_
    refine ex_s (st_icmp rfl) ?_
    by_cases c7 : x0 ≤ (a1 157 2)
    · have e := (if_pos c7).symm.trans e
      refine ex_pc (if_pos c7) ?_
      refine ex_s (am_nb (m := 2) (pc1 := 21) (ls1 := [(0, .ref 157), (1, .int x0)]) (st1 := [.int x0, .ref 157]) (H1 := H2) (k1 := 0) (n1 := 0) (by with_unfolding_all rfl)) ?_
      obtain ⟨a8, ha8, e⟩ := xw_some e
      refine xe_put (w := x0) s3 rfl rfl (by decide) rfl rfl rfl rfl (fun H9 s10 => ?_)
      have s10 : xS h b T a8 H9 := by rw [ha8]; exact s10
      refine ex_s (am_nb (m := 1) (pc1 := 25) (ls1 := [(0, .ref 157), (1, .int x0)]) (st1 := [.int 1]) (H1 := H9) (k1 := 0) (n1 := 0) (by with_unfolding_all rfl)) ?_
      cases e
      exact ex_r (st_iret rfl rfl rfl) s10
    · have e := (if_neg c7).symm.trans e
      refine ex_pc (if_neg c7) ?_
      refine ex_s (am_nb (m := 1) (pc1 := 18) (ls1 := [(0, .ref 157), (1, .int x0)]) (st1 := [.int 0]) (H1 := H2) (k1 := 0) (n1 := 0) (by with_unfolding_all rfl)) ?_
      cases e
      exact ex_r (st_iret rfl rfl rfl) s3

set_option maxRecDepth 100000 in
theorem tj263_18 {sL : Nat} {sx : Nat → Int32} {h b N : Nat} {T : List am_C} {r : Int32} {a' : xA} {q1 : Int32} {t0 : Int32} {a : xA} {H : am_H} (hS : xS h b T a H) (e : j263_18 N h b q1 t0 a = some (r, a')) : am_E sL sx am_cs 263 18 [(0, .ref 157), (1, .int q1)] [.int t0, .ref 157] H (some (.int r)) (fun H1 => xS h b T a' H1) := by
  unfold j263_18 at e
  obtain ⟨a4, ha4, e⟩ := xw_some e
  refine xe_put (w := t0) hS rfl rfl (by decide) rfl rfl rfl rfl (fun H5 s6 => ?_)
  have s6 : xS h b T a4 H5 := by rw [ha4]; exact s6
  refine ex_s (am_nb (m := 1) (pc1 := 22) (ls1 := [(0, .ref 157), (1, .int q1)]) (st1 := [.ref 157]) (H1 := H5) (k1 := 0) (n1 := 0) (by with_unfolding_all rfl)) ?_
  refine xe_get (v := .int (a4 157 0)) s6 rfl rfl (by decide) rfl ?_
  refine ex_s (st_if rfl) ?_
  by_cases c8 : (a4 157 0) ≤ 0
  · have e := (if_pos c8).symm.trans e
    refine ex_pc (if_pos c8) ?_
    refine ex_s (am_nb (m := 1) (pc1 := 33) (ls1 := [(0, .ref 157), (1, .int q1)]) (st1 := [.ref 157]) (H1 := H5) (k1 := 0) (n1 := 0) (by with_unfolding_all rfl)) ?_
    refine xe_get (v := .ref 159) s6 rfl rfl (by decide) rfl ?_
    refine ex_s (am_nb (m := 1) (pc1 := 37) (ls1 := [(0, .ref 157), (1, .int q1)]) (st1 := [.int q1, .ref 159]) (H1 := H5) (k1 := 0) (n1 := 0) (by with_unfolding_all rfl)) ?_
    obtain ⟨g9, e⟩ := xg_some e
    refine xe_bald s6 rfl rfl g9 ?_
    refine ex_s (am_nb (m := 2) (pc1 := 42) (ls1 := [(0, .ref 157), (1, .int q1)]) (st1 := [.int ((a4 159 (q1.toNatClampNeg)) &&& 255)]) (H1 := H5) (k1 := 0) (n1 := 0) (by with_unfolding_all rfl)) ?_
    cases e
    exact ex_r (st_iret rfl rfl rfl) s6
  · have e := (if_neg c8).symm.trans e
    refine ex_pc (if_neg c8) ?_
    refine ex_s (am_nb (m := 2) (pc1 := 42) (ls1 := [(0, .ref 157), (1, .int q1)]) (st1 := [.int 0]) (H1 := H5) (k1 := 0) (n1 := 0) (by with_unfolding_all rfl)) ?_
    cases e
    exact ex_r (st_iret rfl rfl rfl) s6

set_option maxRecDepth 100000 in
theorem tj263_13 {sL : Nat} {sx : Nat → Int32} {h b N : Nat} {T : List am_C} {r : Int32} {a' : xA} {q1 : Int32} {a : xA} {H : am_H} (hS : xS h b T a H) (e : j263_13 N h b q1 a = some (r, a')) : am_E sL sx am_cs 263 13 [(0, .ref 157), (1, .int q1)] [.ref 157] H (some (.int r)) (fun H1 => xS h b T a' H1) := by
  unfold j263_13 at e
  refine ex_s (am_nb (m := 2) (pc1 := 18) (ls1 := [(0, .ref 157), (1, .int q1)]) (st1 := [.int 1, .ref 157]) (H1 := H) (k1 := 0) (n1 := 0) (by with_unfolding_all rfl)) ?_
  exact le_E (l1 := [(0, .ref 157), (1, .int q1)]) ⟨rfl, rfl, trivial⟩ rfl (tj263_18  hS e)

set_option maxRecDepth 100000 in
theorem tf263_octet {sL : Nat} {sx : Nat → Int32} {h b N : Nat} {T : List am_C} {r : Int32} {a' : xA} {x0 : Int32} {a : xA} {H : am_H} (hS : xS h b T a H) (e : f263_octet N h b x0 a = some (r, a')) : am_E sL sx am_cs 263 0 [(0, .ref 157), (1, .int x0)] [] H (some (.int r)) (fun H1 => xS h b T a' H1) := by
  unfold f263_octet at e
  refine ex_s (am_nb (m := 2) (pc1 := 2) (ls1 := [(0, .ref 157), (1, .int x0)]) (st1 := [.int x0, .ref 157]) (H1 := H) (k1 := 0) (n1 := 0) (by with_unfolding_all rfl)) ?_
  refine ex_s (st_if rfl) ?_
  by_cases c3 : x0 < 0
  · have e := (if_pos c3).symm.trans e
    refine ex_pc (if_pos c3) ?_
    exact le_E (l1 := [(0, .ref 157), (1, .int x0)]) ⟨rfl, rfl, trivial⟩ rfl (tj263_13  hS e)
  · have e := (if_neg c3).symm.trans e
    refine ex_pc (if_neg c3) ?_
    refine ex_s (am_nb (m := 2) (pc1 := 7) (ls1 := [(0, .ref 157), (1, .int x0)]) (st1 := [.ref 157, .int x0, .ref 157]) (H1 := H) (k1 := 0) (n1 := 0) (by with_unfolding_all rfl)) ?_
    refine xe_get (v := .int (a 157 4)) hS rfl rfl (by decide) rfl ?_
    have kk : am_E sL sx am_cs 263 18 [(0, .ref 157), (1, .int x0)] [.int (if x0 < (a 157 4) then (0 : Int32) else (1 : Int32)), .ref 157] H (some (.int r)) (fun H1 => xS h b T a' H1) := by
      obtain ⟨a11, ha11, e⟩ := xw_some e
      refine xe_put (w := (if x0 < (a 157 4) then (0 : Int32) else (1 : Int32))) hS rfl rfl (by decide) rfl rfl rfl rfl (fun H12 s13 => ?_)
      have s13 : xS h b T a11 H12 := by rw [ha11]; exact s13
      refine ex_s (am_nb (m := 1) (pc1 := 22) (ls1 := [(0, .ref 157), (1, .int x0)]) (st1 := [.ref 157]) (H1 := H12) (k1 := 0) (n1 := 0) (by with_unfolding_all rfl)) ?_
      refine xe_get (v := .int (a11 157 0)) s13 rfl rfl (by decide) rfl ?_
      refine ex_s (st_if rfl) ?_
      by_cases c15 : (a11 157 0) ≤ 0
      · have e := (if_pos c15).symm.trans e
        refine ex_pc (if_pos c15) ?_
        refine ex_s (am_nb (m := 1) (pc1 := 33) (ls1 := [(0, .ref 157), (1, .int x0)]) (st1 := [.ref 157]) (H1 := H12) (k1 := 0) (n1 := 0) (by with_unfolding_all rfl)) ?_
        refine xe_get (v := .ref 159) s13 rfl rfl (by decide) rfl ?_
        refine ex_s (am_nb (m := 1) (pc1 := 37) (ls1 := [(0, .ref 157), (1, .int x0)]) (st1 := [.int x0, .ref 159]) (H1 := H12) (k1 := 0) (n1 := 0) (by with_unfolding_all rfl)) ?_
        obtain ⟨g16, e⟩ := xg_some e
        refine xe_bald s13 rfl rfl g16 ?_
        refine ex_s (am_nb (m := 2) (pc1 := 42) (ls1 := [(0, .ref 157), (1, .int x0)]) (st1 := [.int ((a11 159 (x0.toNatClampNeg)) &&& 255)]) (H1 := H12) (k1 := 0) (n1 := 0) (by with_unfolding_all rfl)) ?_
        cases e
        exact ex_r (st_iret rfl rfl rfl) s13
      · have e := (if_neg c15).symm.trans e
        refine ex_pc (if_neg c15) ?_
        refine ex_s (am_nb (m := 2) (pc1 := 42) (ls1 := [(0, .ref 157), (1, .int x0)]) (st1 := [.int 0]) (H1 := H12) (k1 := 0) (n1 := 0) (by with_unfolding_all rfl)) ?_
        cases e
        exact ex_r (st_iret rfl rfl rfl) s13
    refine ex_s (st_icmp rfl) ?_
    by_cases c10 : x0 < (a 157 4)
    · refine ex_pc (if_pos c10) ?_
      refine ex_s (am_nb (m := 1) (pc1 := 18) (ls1 := [(0, .ref 157), (1, .int x0)]) (st1 := [.int 0, .ref 157]) (H1 := H) (k1 := 0) (n1 := 0) (by with_unfolding_all rfl)) ?_
      rw [if_pos c10] at kk
      exact kk
    · refine ex_pc (if_neg c10) ?_
      refine ex_s (am_nb (m := 2) (pc1 := 18) (ls1 := [(0, .ref 157), (1, .int x0)]) (st1 := [.int 1, .ref 157]) (H1 := H) (k1 := 0) (n1 := 0) (by with_unfolding_all rfl)) ?_
      rw [if_neg c10] at kk
      exact kk

set_option maxRecDepth 100000 in
theorem tf266_here {sL : Nat} {sx : Nat → Int32} {h b N : Nat} {T : List am_C} {r : Int32} {a' : xA} {x0 : Int32} {a : xA} {H : am_H} (hS : xS h b T a H) (e : f266_here N h b x0 a = some (r, a')) : am_E sL sx am_cs 266 0 [(0, .ref 157), (1, .int x0)] [] H (some (.int r)) (fun H1 => xS h b T a' H1) := by
  unfold f266_here at e
  refine ex_s (am_nb (m := 2) (pc1 := 2) (ls1 := [(0, .ref 157), (1, .int x0)]) (st1 := [.ref 157, .int x0]) (H1 := H) (k1 := 0) (n1 := 0) (by with_unfolding_all rfl)) ?_
  refine xe_get (v := .int (a 157 16)) hS rfl rfl (by decide) rfl ?_
  refine ex_s (st_icmp rfl) ?_
  by_cases c2 : (a 157 16) ≤ x0
  · have e := (if_pos c2).symm.trans e
    refine ex_pc (if_pos c2) ?_
    refine ex_s (am_nb (m := 1) (pc1 := 22) (ls1 := [(0, .ref 157), (1, .int x0)]) (st1 := [.int (-1)]) (H1 := H) (k1 := 0) (n1 := 0) (by with_unfolding_all rfl)) ?_
    cases e
    exact ex_r (st_iret rfl rfl rfl) hS
  · have e := (if_neg c2).symm.trans e
    refine ex_pc (if_neg c2) ?_
    refine ex_s (am_nb (m := 1) (pc1 := 9) (ls1 := [(0, .ref 157), (1, .int x0)]) (st1 := [.ref 157]) (H1 := H) (k1 := 0) (n1 := 0) (by with_unfolding_all rfl)) ?_
    refine xe_get (v := .ref 158) hS rfl rfl (by decide) rfl ?_
    refine ex_s (am_nb (m := 1) (pc1 := 13) (ls1 := [(0, .ref 157), (1, .int x0)]) (st1 := [.int x0, .ref 158]) (H1 := H) (k1 := 0) (n1 := 0) (by with_unfolding_all rfl)) ?_
    obtain ⟨g3, e⟩ := xg_some e
    refine xe_bald hS rfl rfl g3 ?_
    refine ex_s (am_nb (m := 3) (pc1 := 22) (ls1 := [(0, .ref 157), (1, .int x0)]) (st1 := [.int ((a 158 (x0.toNatClampNeg)) &&& 255)]) (H1 := H) (k1 := 0) (n1 := 0) (by with_unfolding_all rfl)) ?_
    cases e
    exact ex_r (st_iret rfl rfl rfl) hS

set_option maxRecDepth 100000 in
theorem tj267_12 {sL : Nat} {sx : Nat → Int32} {h b N : Nat} {T : List am_C} {r : Int32} {a' : xA} {a : xA} {H : am_H} (hS : xS h b T a H) (e : j267_12 N h b a = some (r, a')) : am_E sL sx am_cs 267 12 [] [] H (some (.int r)) (fun H1 => xS h b T a' H1) := by
  unfold j267_12 at e
  refine ex_s (am_nb (m := 2) (pc1 := 17) (ls1 := []) (st1 := [.int 1]) (H1 := H) (k1 := 0) (n1 := 0) (by with_unfolding_all rfl)) ?_
  cases e
  exact ex_r (st_iret rfl rfl rfl) hS

set_option maxRecDepth 100000 in
theorem tf267_isBlank {sL : Nat} {sx : Nat → Int32} {h b N : Nat} {T : List am_C} {r : Int32} {a' : xA} {x0 : Int32} {a : xA} {H : am_H} (hS : xS h b T a H) (e : f267_isBlank N h b x0 a = some (r, a')) : am_E sL sx am_cs 267 0 [(0, .int x0)] [] H (some (.int r)) (fun H1 => xS h b T a' H1) := by
  unfold f267_isBlank at e
  refine ex_s (am_nb (m := 2) (pc1 := 3) (ls1 := [(0, .int x0)]) (st1 := [.int 9, .int x0]) (H1 := H) (k1 := 0) (n1 := 0) (by with_unfolding_all rfl)) ?_
  refine ex_s (st_icmp rfl) ?_
  by_cases c3 : x0 = 9
  · have e := (if_pos c3).symm.trans e
    refine ex_pc (if_pos c3) ?_
    exact le_E (l1 := []) trivial rfl (tj267_12  hS e)
  · have e := (if_neg c3).symm.trans e
    refine ex_pc (if_neg c3) ?_
    refine ex_s (am_nb (m := 2) (pc1 := 9) (ls1 := [(0, .int x0)]) (st1 := [.int 32, .int x0]) (H1 := H) (k1 := 0) (n1 := 0) (by with_unfolding_all rfl)) ?_
    have kk : am_E sL sx am_cs 267 17 [(0, .int x0)] [.int (if x0 = 32 then (1 : Int32) else (0 : Int32))] H (some (.int r)) (fun H1 => xS h b T a' H1) := by
      obtain ⟨g5, e⟩ := xg_some e
      cases e
      exact ex_r (st_iret rfl rfl (xnar_z g5)) hS
    refine ex_s (st_icmp rfl) ?_
    by_cases c4 : x0 = 32
    · refine ex_pc (if_pos c4) ?_
      refine ex_s (am_nb (m := 2) (pc1 := 17) (ls1 := [(0, .int x0)]) (st1 := [.int 1]) (H1 := H) (k1 := 0) (n1 := 0) (by with_unfolding_all rfl)) ?_
      rw [if_pos c4] at kk
      exact kk
    · refine ex_pc (if_neg c4) ?_
      refine ex_s (am_nb (m := 1) (pc1 := 17) (ls1 := [(0, .int x0)]) (st1 := [.int 0]) (H1 := H) (k1 := 0) (n1 := 0) (by with_unfolding_all rfl)) ?_
      rw [if_neg c4] at kk
      exact kk

set_option maxRecDepth 100000 in
theorem tl268_0 {sL : Nat} {sx : Nat → Int32} {h b N : Nat} {T : List am_C} {R : Option Value} {F : am_H → Prop} {z : Nat × xA} (k0 : z.1 = 0 → ∀ H2 : am_H, xS h b T z.2 H2 → am_E sL sx am_cs 268 27 [] [] H2 R F) : ∀ (n : Nat) (a : xA) (H : am_H), xS h b T a H → l268_0 N h b n a = some z → am_E sL sx am_cs 268 0 [(0, .ref 157)] [] H R F := by
  intro n
  induction n with
  | zero =>
    intro a H hS e
    cases e
  | succ n ih =>
    intro a H hS e
    unfold l268_0 at e
    refine ex_s (am_nb (m := 2) (pc1 := 2) (ls1 := [(0, .ref 157)]) (st1 := [.ref 157, .ref 157]) (H1 := H) (k1 := 0) (n1 := 0) (by with_unfolding_all rfl)) ?_
    refine xe_get (v := .int (a 157 15)) hS rfl rfl (by decide) rfl ?_
    obtain ⟨r18, a19, e17, e⟩ := xb2_some e
    refine ex_cv1 (as := [.int (a 157 15)]) (rest := []) rfl rfl rfl rfl (hS.obj rfl (by decide)) rfl (by with_unfolding_all rfl) (by with_unfolding_all rfl) (tf266_here hS e17) (fun H15 s16 => ?_)
    obtain ⟨r23, a24, e22, e⟩ := xb2_some e
    refine ex_cs1 (as := [.int r18]) (rest := []) rfl (by decide) rfl rfl (by with_unfolding_all rfl) (by with_unfolding_all rfl) (tf267_isBlank s16 e22) (fun H20 s21 => ?_)
    refine ex_s (st_if rfl) ?_
    by_cases c25 : r23 = 0
    · have e := (if_pos c25).symm.trans e
      refine ex_pc (if_pos c25) ?_
      cases e
      exact le_E (l1 := []) trivial rfl (k0 rfl H20 s21)
    · have e := (if_neg c25).symm.trans e
      refine ex_pc (if_neg c25) ?_
      refine ex_s (am_nb (m := 2) (pc1 := 16) (ls1 := [(0, .ref 157)]) (st1 := [.ref 157, .ref 157]) (H1 := H20) (k1 := 0) (n1 := 0) (by with_unfolding_all rfl)) ?_
      refine xe_get (v := .int (a24 157 15)) s21 rfl rfl (by decide) rfl ?_
      refine ex_s (am_nb (m := 2) (pc1 := 21) (ls1 := [(0, .ref 157)]) (st1 := [.int ((a24 157 15) + 1), .ref 157]) (H1 := H20) (k1 := 0) (n1 := 0) (by with_unfolding_all rfl)) ?_
      obtain ⟨a26, ha26, e⟩ := xw_some e
      refine xe_put (w := ((a24 157 15) + 1)) s21 rfl rfl (by decide) rfl rfl rfl rfl (fun H27 s28 => ?_)
      have s28 : xS h b T a26 H27 := by rw [ha26]; exact s28
      refine ex_s (am_nb (m := 1) (pc1 := 0) (ls1 := [(0, .ref 157)]) (st1 := []) (H1 := H27) (k1 := 0) (n1 := 0) (by with_unfolding_all rfl)) ?_
      exact le_E (l1 := [(0, .ref 157)]) ⟨rfl, trivial⟩ rfl (ih a26 H27 s28 e)
