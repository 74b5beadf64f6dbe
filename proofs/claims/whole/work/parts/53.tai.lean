/-! The program does what the functions say. -/
set_option maxRecDepth 100000 in
theorem tf221_align {sL : Nat} {sx : Nat → Int32} {h b N : Nat} {T : List am_C} {a' : xA} {a : xA} {H : am_H} (hS : xS h b T a H) (e : f221_align N h b a = some a') : am_E sL sx am_cs 221 0 [(0, .ref 136)] [] H none (fun H1 => xS h b T a' H1) := by
  unfold f221_align at e
  refine ex_s (am_nb (m := 1) (pc1 := 1) (ls1 := [(0, .ref 136)]) (st1 := [.ref 136]) (H1 := H) (k1 := 0) (n1 := 0) (by with_unfolding_all rfl)) ?_
  refine xe_get (v := .ref 138) hS rfl rfl (by decide) rfl ?_
  refine ex_s (am_nb (m := 2) (pc1 := 6) (ls1 := [(0, .ref 136)]) (st1 := [.ref 136, .int 0, .ref 138]) (H1 := H) (k1 := 0) (n1 := 0) (by with_unfolding_all rfl)) ?_
  refine xe_get (v := .ref 138) hS rfl rfl (by decide) rfl ?_
  refine xe_alenc (v := Int32.ofNat (h * b)) hS rfl rfl rfl ?_
  refine ex_s (am_nb (m := 1) (pc1 := 12) (ls1 := [(0, .ref 136)]) (st1 := [.int 69, .int (Int32.ofNat (h * b)), .int 0, .ref 138]) (H1 := H) (k1 := 0) (n1 := 0) (by with_unfolding_all rfl)) ?_
  obtain ⟨a4, e3, e⟩ := xb1_some e
  refine ex_cs0 (as := [.ref 138, .int 0, .int (Int32.ofNat (h * b)), .int 69]) (rest := []) rfl (by decide) rfl rfl (by with_unfolding_all rfl) (by with_unfolding_all rfl) (tf14_fill hS e3) (fun H1 s2 => ?_)
  refine ex_s (am_nb (m := 1) (pc1 := 16) (ls1 := [(0, .ref 136)]) (st1 := [.ref 136]) (H1 := H1) (k1 := 0) (n1 := 0) (by with_unfolding_all rfl)) ?_
  refine xe_get (v := .ref 139) s2 rfl rfl (by decide) rfl ?_
  refine ex_s (am_nb (m := 2) (pc1 := 21) (ls1 := [(0, .ref 136)]) (st1 := [.ref 136, .int 0, .ref 139]) (H1 := H1) (k1 := 0) (n1 := 0) (by with_unfolding_all rfl)) ?_
  refine xe_get (v := .int (a4 136 0)) s2 rfl rfl (by decide) rfl ?_
  refine ex_s (am_nb (m := 1) (pc1 := 25) (ls1 := [(0, .ref 136)]) (st1 := [.int 0, .int (a4 136 0), .int 0, .ref 139]) (H1 := H1) (k1 := 0) (n1 := 0) (by with_unfolding_all rfl)) ?_
  obtain ⟨a8, e7, e⟩ := xb1_some e
  refine ex_cs0 (as := [.ref 139, .int 0, .int (a4 136 0), .int 0]) (rest := []) rfl (by decide) rfl rfl (by with_unfolding_all rfl) (by with_unfolding_all rfl) (tf14_fill s2 e7) (fun H5 s6 => ?_)
  refine ex_s (am_nb (m := 2) (pc1 := 30) (ls1 := [(0, .ref 136)]) (st1 := [.int 0, .ref 136]) (H1 := H5) (k1 := 0) (n1 := 0) (by with_unfolding_all rfl)) ?_
  obtain ⟨a9, ha9, e⟩ := xw_some e
  refine xe_put (w := 0) s6 rfl rfl (by decide) rfl rfl rfl rfl (fun H10 s11 => ?_)
  have s11 : xS h b T a9 H10 := by rw [ha9]; exact s11
  refine ex_s (am_nb (m := 2) (pc1 := 35) (ls1 := [(0, .ref 136)]) (st1 := [.ref 136, .ref 136]) (H1 := H10) (k1 := 0) (n1 := 0) (by with_unfolding_all rfl)) ?_
  refine xe_get (v := .int (a9 136 0)) s11 rfl rfl (by decide) rfl ?_
  refine ex_s (am_nb (m := 2) (pc1 := 40) (ls1 := [(0, .ref 136)]) (st1 := [.int ((a9 136 0) - 1), .ref 136]) (H1 := H10) (k1 := 0) (n1 := 0) (by with_unfolding_all rfl)) ?_
  obtain ⟨a12, ha12, e⟩ := xw_some e
  refine xe_put (w := ((a9 136 0) - 1)) s11 rfl rfl (by decide) rfl rfl rfl rfl (fun H13 s14 => ?_)
  have s14 : xS h b T a12 H13 := by rw [ha12]; exact s14
  refine ex_s (am_nb (m := 3) (pc1 := 46) (ls1 := [(0, .ref 136)]) (st1 := [.int 0, .int 0, .ref 136]) (H1 := H13) (k1 := 0) (n1 := 0) (by with_unfolding_all rfl)) ?_
  obtain ⟨a18, e17, e⟩ := xb1_some e
  refine ex_cv0 (as := [.int 0, .int 0]) (rest := []) rfl rfl rfl rfl (s14.obj rfl (by decide)) rfl (by with_unfolding_all rfl) (by with_unfolding_all rfl) (tf16_place s14 e17) (fun H15 s16 => ?_)
  refine ex_s (am_nb (m := 2) (pc1 := 51) (ls1 := [(0, .ref 136)]) (st1 := [.int 2, .ref 136]) (H1 := H15) (k1 := 0) (n1 := 0) (by with_unfolding_all rfl)) ?_
  obtain ⟨a19, ha19, e⟩ := xw_some e
  refine xe_put (w := 2) s16 rfl rfl (by decide) rfl rfl rfl rfl (fun H20 s21 => ?_)
  have s21 : xS h b T a19 H20 := by rw [ha19]; exact s21
  cases e
  exact ex_r (st_vret rfl rfl) s21

set_option maxRecDepth 100000 in
theorem tf219_endHash {sL : Nat} {sx : Nat → Int32} {h b N : Nat} {T : List am_C} {a' : xA} {x0 : Int32} {a : xA} {H : am_H} (hS : xS h b T a H) (e : f219_endHash N h b x0 a = some a') : am_E sL sx am_cs 219 0 [(0, .ref 129), (1, .int x0)] [] H none (fun H1 => xS h b T a' H1) := by
  unfold f219_endHash at e
  refine ex_s (am_nb (m := 1) (pc1 := 1) (ls1 := [(0, .ref 129), (1, .int x0)]) (st1 := [.int x0]) (H1 := H) (k1 := 0) (n1 := 0) (by with_unfolding_all rfl)) ?_
  refine ex_s (st_tsw rfl) ?_
  by_cases c1 : x0 = 51
  · have e := (if_pos c1).symm.trans e
    refine ex_pc (pc1 := 40) (by rw [c1]; with_unfolding_all rfl) ?_
    refine ex_s (am_nb (m := 1) (pc1 := 41) (ls1 := [(0, .ref 129), (1, .int x0)]) (st1 := [.ref 129]) (H1 := H) (k1 := 0) (n1 := 0) (by with_unfolding_all rfl)) ?_
    refine xe_get (v := .ref 136) hS rfl rfl (by decide) rfl ?_
    refine ex_s (am_nb (m := 1) (pc1 := 45) (ls1 := [(0, .ref 129), (1, .int x0)]) (st1 := [.int 2, .ref 136]) (H1 := H) (k1 := 0) (n1 := 0) (by with_unfolding_all rfl)) ?_
    obtain ⟨a5, e4, e⟩ := xb1_some e
    refine ex_cv0 (as := [.int 2]) (rest := []) rfl rfl rfl rfl (hS.obj rfl (by decide)) rfl (by with_unfolding_all rfl) (by with_unfolding_all rfl) (tf220_setWidth hS e4) (fun H2 s3 => ?_)
    refine ex_s (am_nb (m := 1) (pc1 := 94) (ls1 := [(0, .ref 129), (1, .int x0)]) (st1 := []) (H1 := H2) (k1 := 0) (n1 := 0) (by with_unfolding_all rfl)) ?_
    cases e
    exact ex_r (st_vret rfl rfl) s3
  · have e := (if_neg c1).symm.trans e
    by_cases c6 : x0 = 52
    · have e := (if_pos c6).symm.trans e
      refine ex_pc (pc1 := 51) (by rw [c6]; with_unfolding_all rfl) ?_
      refine ex_s (am_nb (m := 1) (pc1 := 52) (ls1 := [(0, .ref 129), (1, .int x0)]) (st1 := [.ref 129]) (H1 := H) (k1 := 0) (n1 := 0) (by with_unfolding_all rfl)) ?_
      refine xe_get (v := .ref 136) hS rfl rfl (by decide) rfl ?_
      refine ex_s (am_nb (m := 1) (pc1 := 56) (ls1 := [(0, .ref 129), (1, .int x0)]) (st1 := [.int 3, .ref 136]) (H1 := H) (k1 := 0) (n1 := 0) (by with_unfolding_all rfl)) ?_
      obtain ⟨a10, e9, e⟩ := xb1_some e
      refine ex_cv0 (as := [.int 3]) (rest := []) rfl rfl rfl rfl (hS.obj rfl (by decide)) rfl (by with_unfolding_all rfl) (by with_unfolding_all rfl) (tf220_setWidth hS e9) (fun H7 s8 => ?_)
      refine ex_s (am_nb (m := 1) (pc1 := 94) (ls1 := [(0, .ref 129), (1, .int x0)]) (st1 := []) (H1 := H7) (k1 := 0) (n1 := 0) (by with_unfolding_all rfl)) ?_
      cases e
      exact ex_r (st_vret rfl rfl) s8
    · have e := (if_neg c6).symm.trans e
      by_cases c11 : x0 = 53
      · have e := (if_pos c11).symm.trans e
        refine ex_pc (pc1 := 62) (by rw [c11]; with_unfolding_all rfl) ?_
        refine ex_s (am_nb (m := 1) (pc1 := 63) (ls1 := [(0, .ref 129), (1, .int x0)]) (st1 := [.ref 129]) (H1 := H) (k1 := 0) (n1 := 0) (by with_unfolding_all rfl)) ?_
        refine xe_get (v := .ref 136) hS rfl rfl (by decide) rfl ?_
        refine ex_s (am_nb (m := 1) (pc1 := 67) (ls1 := [(0, .ref 129), (1, .int x0)]) (st1 := [.int 0, .ref 136]) (H1 := H) (k1 := 0) (n1 := 0) (by with_unfolding_all rfl)) ?_
        obtain ⟨a15, e14, e⟩ := xb1_some e
        refine ex_cv0 (as := [.int 0]) (rest := []) rfl rfl rfl rfl (hS.obj rfl (by decide)) rfl (by with_unfolding_all rfl) (by with_unfolding_all rfl) (tf220_setWidth hS e14) (fun H12 s13 => ?_)
        refine ex_s (am_nb (m := 1) (pc1 := 94) (ls1 := [(0, .ref 129), (1, .int x0)]) (st1 := []) (H1 := H12) (k1 := 0) (n1 := 0) (by with_unfolding_all rfl)) ?_
        cases e
        exact ex_r (st_vret rfl rfl) s13
      · have e := (if_neg c11).symm.trans e
        by_cases c16 : x0 = 54
        · have e := (if_pos c16).symm.trans e
          refine ex_pc (pc1 := 73) (by rw [c16]; with_unfolding_all rfl) ?_
          refine ex_s (am_nb (m := 1) (pc1 := 74) (ls1 := [(0, .ref 129), (1, .int x0)]) (st1 := [.ref 129]) (H1 := H) (k1 := 0) (n1 := 0) (by with_unfolding_all rfl)) ?_
          refine xe_get (v := .ref 136) hS rfl rfl (by decide) rfl ?_
          refine ex_s (am_nb (m := 1) (pc1 := 78) (ls1 := [(0, .ref 129), (1, .int x0)]) (st1 := [.int 1, .ref 136]) (H1 := H) (k1 := 0) (n1 := 0) (by with_unfolding_all rfl)) ?_
          obtain ⟨a20, e19, e⟩ := xb1_some e
          refine ex_cv0 (as := [.int 1]) (rest := []) rfl rfl rfl rfl (hS.obj rfl (by decide)) rfl (by with_unfolding_all rfl) (by with_unfolding_all rfl) (tf220_setWidth hS e19) (fun H17 s18 => ?_)
          refine ex_s (am_nb (m := 1) (pc1 := 94) (ls1 := [(0, .ref 129), (1, .int x0)]) (st1 := []) (H1 := H17) (k1 := 0) (n1 := 0) (by with_unfolding_all rfl)) ?_
          cases e
          exact ex_r (st_vret rfl rfl) s18
        · have e := (if_neg c16).symm.trans e
          by_cases c21 : x0 = 56
          · have e := (if_pos c21).symm.trans e
            refine ex_pc (pc1 := 84) (by rw [c21]; with_unfolding_all rfl) ?_
            refine ex_s (am_nb (m := 1) (pc1 := 85) (ls1 := [(0, .ref 129), (1, .int x0)]) (st1 := [.ref 129]) (H1 := H) (k1 := 0) (n1 := 0) (by with_unfolding_all rfl)) ?_
            refine xe_get (v := .ref 136) hS rfl rfl (by decide) rfl ?_
            obtain ⟨a25, e24, e⟩ := xb1_some e
            refine ex_cv0 (as := []) (rest := []) rfl rfl rfl rfl (hS.obj rfl (by decide)) rfl (by with_unfolding_all rfl) (by with_unfolding_all rfl) (tf221_align hS e24) (fun H22 s23 => ?_)
            refine ex_s (am_nb (m := 1) (pc1 := 94) (ls1 := [(0, .ref 129), (1, .int x0)]) (st1 := []) (H1 := H22) (k1 := 0) (n1 := 0) (by with_unfolding_all rfl)) ?_
            cases e
            exact ex_r (st_vret rfl rfl) s23
          · have e := (if_neg c21).symm.trans e
            refine ex_pc (pc1 := 94) (am_sw_n (sw_c (Or.inl c1) (sw_c (Or.inl c6) (sw_c (Or.inl c11) (sw_c (Or.inl c16) (sw_c (Or.inr rfl) (sw_c (Or.inl c21) sw_o))))))) ?_
            cases e
            exact ex_r (st_vret rfl rfl) hS

set_option maxRecDepth 100000 in
theorem tf222_chooseSet {sL : Nat} {sx : Nat → Int32} {h b N : Nat} {T : List am_C} {a' : xA} {x0 : Int32} {x1 : Int32} {a : xA} {H : am_H} (hS : xS h b T a H) (e : f222_chooseSet N h b x0 x1 a = some a') : am_E sL sx am_cs 222 0 [(0, .ref 129), (1, .int x0), (2, .int x1)] [] H none (fun H1 => xS h b T a' H1) := by
  unfold f222_chooseSet at e
  refine ex_s (am_nb (m := 2) (pc1 := 3) (ls1 := [(0, .ref 129), (1, .int x0), (2, .int x1)]) (st1 := [.int 66, .int x1]) (H1 := H) (k1 := 0) (n1 := 0) (by with_unfolding_all rfl)) ?_
  refine ex_s (st_icmp rfl) ?_
  by_cases c2 : x1 = 66
  · have e := (if_pos c2).symm.trans e
    refine ex_pc (if_pos c2) ?_
    refine ex_s (am_nb (m := 1) (pc1 := 7) (ls1 := [(0, .ref 129), (1, .int x0), (2, .int x1)]) (st1 := [.ref 129]) (H1 := H) (k1 := 0) (n1 := 0) (by with_unfolding_all rfl)) ?_
    refine xe_get (v := .ref 136) hS rfl rfl (by decide) rfl ?_
    refine ex_s (am_nb (m := 1) (pc1 := 11) (ls1 := [(0, .ref 129), (1, .int x0), (2, .int x1)]) (st1 := [.ref 136, .ref 136]) (H1 := H) (k1 := 0) (n1 := 0) (by with_unfolding_all rfl)) ?_
    refine xe_get (v := .int (a 136 12)) hS rfl rfl (by decide) rfl ?_
    refine ex_s (am_nb (m := 4) (pc1 := 18) (ls1 := [(0, .ref 129), (1, .int x0), (2, .int x1)]) (st1 := [.int ((a 136 12) &&& (x0 ^^^ (-1))), .ref 136]) (H1 := H) (k1 := 0) (n1 := 0) (by with_unfolding_all rfl)) ?_
    obtain ⟨a3, ha3, e⟩ := xw_some e
    refine xe_put (w := ((a 136 12) &&& (x0 ^^^ (-1)))) hS rfl rfl (by decide) rfl rfl rfl rfl (fun H4 s5 => ?_)
    have s5 : xS h b T a3 H4 := by rw [ha3]; exact s5
    refine ex_s (am_nb (m := 1) (pc1 := 43) (ls1 := [(0, .ref 129), (1, .int x0), (2, .int x1)]) (st1 := []) (H1 := H4) (k1 := 0) (n1 := 0) (by with_unfolding_all rfl)) ?_
    cases e
    exact ex_r (st_vret rfl rfl) s5
  · have e := (if_neg c2).symm.trans e
    refine ex_pc (if_neg c2) ?_
    refine ex_s (am_nb (m := 2) (pc1 := 27) (ls1 := [(0, .ref 129), (1, .int x0), (2, .int x1)]) (st1 := [.int 48, .int x1]) (H1 := H) (k1 := 0) (n1 := 0) (by with_unfolding_all rfl)) ?_
    refine ex_s (st_icmp rfl) ?_
    by_cases c7 : x1 = 48
    · have e := (if_pos c7).symm.trans e
      refine ex_pc (if_pos c7) ?_
      refine ex_s (am_nb (m := 1) (pc1 := 31) (ls1 := [(0, .ref 129), (1, .int x0), (2, .int x1)]) (st1 := [.ref 129]) (H1 := H) (k1 := 0) (n1 := 0) (by with_unfolding_all rfl)) ?_
      refine xe_get (v := .ref 136) hS rfl rfl (by decide) rfl ?_
      refine ex_s (am_nb (m := 1) (pc1 := 35) (ls1 := [(0, .ref 129), (1, .int x0), (2, .int x1)]) (st1 := [.ref 136, .ref 136]) (H1 := H) (k1 := 0) (n1 := 0) (by with_unfolding_all rfl)) ?_
      refine xe_get (v := .int (a 136 12)) hS rfl rfl (by decide) rfl ?_
      refine ex_s (am_nb (m := 2) (pc1 := 40) (ls1 := [(0, .ref 129), (1, .int x0), (2, .int x1)]) (st1 := [.int ((a 136 12) ||| x0), .ref 136]) (H1 := H) (k1 := 0) (n1 := 0) (by with_unfolding_all rfl)) ?_
      obtain ⟨a8, ha8, e⟩ := xw_some e
      refine xe_put (w := ((a 136 12) ||| x0)) hS rfl rfl (by decide) rfl rfl rfl rfl (fun H9 s10 => ?_)
      have s10 : xS h b T a8 H9 := by rw [ha8]; exact s10
      cases e
      exact ex_r (st_vret rfl rfl) s10
    · have e := (if_neg c7).symm.trans e
      refine ex_pc (if_neg c7) ?_
      cases e
      exact ex_r (st_vret rfl rfl) hS

set_option maxRecDepth 100000 in
theorem tj212_36 {sL : Nat} {sx : Nat → Int32} {h b N : Nat} {T : List am_C} {a' : xA} {q1 : Int32} {t0 : Int32} {a : xA} {H : am_H} (hS : xS h b T a H) (e : j212_36 N h b q1 t0 a = some a') : am_E sL sx am_cs 212 36 [(0, .ref 129), (1, .int q1)] [.int t0] H none (fun H1 => xS h b T a' H1) := by
  unfold j212_36 at e
  refine ex_s (am_nb (m := 3) (pc1 := 39) (ls1 := [(2, .int t0), (0, .ref 129), (1, .int q1)]) (st1 := [.int t0, .ref 129]) (H1 := H) (k1 := 0) (n1 := 0) (by with_unfolding_all rfl)) ?_
  have kk : am_E sL sx am_cs 212 47 [(2, .int t0), (0, .ref 129), (1, .int q1)] [.int (if t0 = 0 then (2 : Int32) else (1 : Int32)), .ref 129] H none (fun H1 => xS h b T a' H1) := by
    obtain ⟨a33, ha33, e⟩ := xw_some e
    refine xe_put (w := (if t0 = 0 then (2 : Int32) else (1 : Int32))) hS rfl rfl (by decide) rfl rfl rfl rfl (fun H34 s35 => ?_)
    have s35 : xS h b T a33 H34 := by rw [ha33]; exact s35
    refine ex_s (am_nb (m := 2) (pc1 := 52) (ls1 := [(2, .int t0), (0, .ref 129), (1, .int q1)]) (st1 := [.int q1, .ref 129]) (H1 := H34) (k1 := 0) (n1 := 0) (by with_unfolding_all rfl)) ?_
    obtain ⟨a36, ha36, e⟩ := xw_some e
    refine xe_put (w := q1) s35 rfl rfl (by decide) rfl rfl rfl rfl (fun H37 s38 => ?_)
    have s38 : xS h b T a36 H37 := by rw [ha36]; exact s38
    cases e
    exact ex_r (st_vret rfl rfl) s38
  refine ex_s (st_if rfl) ?_
  by_cases c32 : t0 = 0
  · refine ex_pc (if_pos c32) ?_
    refine ex_s (am_nb (m := 1) (pc1 := 47) (ls1 := [(2, .int t0), (0, .ref 129), (1, .int q1)]) (st1 := [.int 2, .ref 129]) (H1 := H) (k1 := 0) (n1 := 0) (by with_unfolding_all rfl)) ?_
    rw [if_pos c32] at kk
    exact kk
  · refine ex_pc (if_neg c32) ?_
    refine ex_s (am_nb (m := 2) (pc1 := 47) (ls1 := [(2, .int t0), (0, .ref 129), (1, .int q1)]) (st1 := [.int 1, .ref 129]) (H1 := H) (k1 := 0) (n1 := 0) (by with_unfolding_all rfl)) ?_
    rw [if_neg c32] at kk
    exact kk

set_option maxRecDepth 100000 in
theorem tj212_31 {sL : Nat} {sx : Nat → Int32} {h b N : Nat} {T : List am_C} {a' : xA} {q1 : Int32} {a : xA} {H : am_H} (hS : xS h b T a H) (e : j212_31 N h b q1 a = some a') : am_E sL sx am_cs 212 31 [(0, .ref 129), (1, .int q1)] [] H none (fun H1 => xS h b T a' H1) := by
  unfold j212_31 at e
  refine ex_s (am_nb (m := 2) (pc1 := 36) (ls1 := [(0, .ref 129), (1, .int q1)]) (st1 := [.int 1]) (H1 := H) (k1 := 0) (n1 := 0) (by with_unfolding_all rfl)) ?_
  exact le_E (l1 := [(0, .ref 129), (1, .int q1)]) ⟨rfl, rfl, trivial⟩ rfl (tj212_36  hS e)

set_option maxRecDepth 100000 in
theorem tj212_35 {sL : Nat} {sx : Nat → Int32} {h b N : Nat} {T : List am_C} {a' : xA} {q1 : Int32} {a : xA} {H : am_H} (hS : xS h b T a H) (e : j212_35 N h b q1 a = some a') : am_E sL sx am_cs 212 35 [(0, .ref 129), (1, .int q1)] [] H none (fun H1 => xS h b T a' H1) := by
  unfold j212_35 at e
  refine ex_s (am_nb (m := 1) (pc1 := 36) (ls1 := [(0, .ref 129), (1, .int q1)]) (st1 := [.int 0]) (H1 := H) (k1 := 0) (n1 := 0) (by with_unfolding_all rfl)) ?_
  exact le_E (l1 := [(0, .ref 129), (1, .int q1)]) ⟨rfl, rfl, trivial⟩ rfl (tj212_36  hS e)

set_option maxRecDepth 100000 in
theorem tf212_readEscape {sL : Nat} {sx : Nat → Int32} {h b N : Nat} {T : List am_C} {a' : xA} {x0 : Int32} {a : xA} {H : am_H} (hS : xS h b T a H) (e : f212_readEscape N h b x0 a = some a') : am_E sL sx am_cs 212 0 [(0, .ref 129), (1, .int x0)] [] H none (fun H1 => xS h b T a' H1) := by
  unfold f212_readEscape at e
  refine ex_s (am_nb (m := 2) (pc1 := 3) (ls1 := [(0, .ref 129), (1, .int x0)]) (st1 := [.int 48, .int x0]) (H1 := H) (k1 := 0) (n1 := 0) (by with_unfolding_all rfl)) ?_
  refine ex_s (st_icmp rfl) ?_
  by_cases c1 : 48 ≤ x0
  · have e := (if_pos c1).symm.trans e
    refine ex_pc (if_pos c1) ?_
    refine ex_s (am_nb (m := 2) (pc1 := 58) (ls1 := [(0, .ref 129), (1, .int x0)]) (st1 := [.int 0, .ref 129]) (H1 := H) (k1 := 0) (n1 := 0) (by with_unfolding_all rfl)) ?_
    obtain ⟨a2, ha2, e⟩ := xw_some e
    refine xe_put (w := 0) hS rfl rfl (by decide) rfl rfl rfl rfl (fun H3 s4 => ?_)
    have s4 : xS h b T a2 H3 := by rw [ha2]; exact s4
    refine ex_s (am_nb (m := 1) (pc1 := 62) (ls1 := [(0, .ref 129), (1, .int x0)]) (st1 := [.ref 129]) (H1 := H3) (k1 := 0) (n1 := 0) (by with_unfolding_all rfl)) ?_
    refine xe_get (v := .int (a2 129 10)) s4 rfl rfl (by decide) rfl ?_
    refine ex_s (st_lsw rfl) ?_
    by_cases c5 : (a2 129 10) = 0
    · have e := (if_pos c5).symm.trans e
      refine ex_pc (pc1 := 108) (by rw [c5]; with_unfolding_all rfl) ?_
      refine ex_s (am_nb (m := 2) (pc1 := 110) (ls1 := [(0, .ref 129), (1, .int x0)]) (st1 := [.int x0, .ref 129]) (H1 := H3) (k1 := 0) (n1 := 0) (by with_unfolding_all rfl)) ?_
      obtain ⟨a9, e8, e⟩ := xb1_some e
      refine ex_cv0 (as := [.int x0]) (rest := []) rfl rfl rfl rfl (s4.obj rfl (by decide)) rfl (by with_unfolding_all rfl) (by with_unfolding_all rfl) (tf213_endEscape s4 e8) (fun H6 s7 => ?_)
      refine ex_s (am_nb (m := 1) (pc1 := 142) (ls1 := [(0, .ref 129), (1, .int x0)]) (st1 := []) (H1 := H6) (k1 := 0) (n1 := 0) (by with_unfolding_all rfl)) ?_
      cases e
      exact ex_r (st_vret rfl rfl) s7
    · have e := (if_neg c5).symm.trans e
      by_cases c10 : (a2 129 10) = 35
      · have e := (if_pos c10).symm.trans e
        refine ex_pc (pc1 := 116) (by rw [c10]; with_unfolding_all rfl) ?_
        refine ex_s (am_nb (m := 2) (pc1 := 118) (ls1 := [(0, .ref 129), (1, .int x0)]) (st1 := [.int x0, .ref 129]) (H1 := H3) (k1 := 0) (n1 := 0) (by with_unfolding_all rfl)) ?_
        obtain ⟨a14, e13, e⟩ := xb1_some e
        refine ex_cv0 (as := [.int x0]) (rest := []) rfl rfl rfl rfl (s4.obj rfl (by decide)) rfl (by with_unfolding_all rfl) (by with_unfolding_all rfl) (tf219_endHash s4 e13) (fun H11 s12 => ?_)
        refine ex_s (am_nb (m := 1) (pc1 := 142) (ls1 := [(0, .ref 129), (1, .int x0)]) (st1 := []) (H1 := H11) (k1 := 0) (n1 := 0) (by with_unfolding_all rfl)) ?_
        cases e
        exact ex_r (st_vret rfl rfl) s12
      · have e := (if_neg c10).symm.trans e
        by_cases c15 : (a2 129 10) = 40
        · have e := (if_pos c15).symm.trans e
          refine ex_pc (pc1 := 124) (by rw [c15]; with_unfolding_all rfl) ?_
          refine ex_s (am_nb (m := 3) (pc1 := 127) (ls1 := [(0, .ref 129), (1, .int x0)]) (st1 := [.int x0, .int 1, .ref 129]) (H1 := H3) (k1 := 0) (n1 := 0) (by with_unfolding_all rfl)) ?_
          obtain ⟨a19, e18, e⟩ := xb1_some e
          refine ex_cv0 (as := [.int 1, .int x0]) (rest := []) rfl rfl rfl rfl (s4.obj rfl (by decide)) rfl (by with_unfolding_all rfl) (by with_unfolding_all rfl) (tf222_chooseSet s4 e18) (fun H16 s17 => ?_)
          refine ex_s (am_nb (m := 1) (pc1 := 142) (ls1 := [(0, .ref 129), (1, .int x0)]) (st1 := []) (H1 := H16) (k1 := 0) (n1 := 0) (by with_unfolding_all rfl)) ?_
          cases e
          exact ex_r (st_vret rfl rfl) s17
        · have e := (if_neg c15).symm.trans e
          by_cases c20 : (a2 129 10) = 41
          · have e := (if_pos c20).symm.trans e
            refine ex_pc (pc1 := 133) (by rw [c20]; with_unfolding_all rfl) ?_
            refine ex_s (am_nb (m := 3) (pc1 := 136) (ls1 := [(0, .ref 129), (1, .int x0)]) (st1 := [.int x0, .int 2, .ref 129]) (H1 := H3) (k1 := 0) (n1 := 0) (by with_unfolding_all rfl)) ?_
            obtain ⟨a24, e23, e⟩ := xb1_some e
            refine ex_cv0 (as := [.int 2, .int x0]) (rest := []) rfl rfl rfl rfl (s4.obj rfl (by decide)) rfl (by with_unfolding_all rfl) (by with_unfolding_all rfl) (tf222_chooseSet s4 e23) (fun H21 s22 => ?_)
            refine ex_s (am_nb (m := 1) (pc1 := 142) (ls1 := [(0, .ref 129), (1, .int x0)]) (st1 := []) (H1 := H21) (k1 := 0) (n1 := 0) (by with_unfolding_all rfl)) ?_
            cases e
            exact ex_r (st_vret rfl rfl) s22
          · have e := (if_neg c20).symm.trans e
            refine ex_pc (pc1 := 142) (am_sw_n (sw_c (Or.inl c5) (sw_c (Or.inl c10) (sw_c (Or.inl c15) (sw_c (Or.inl c20) sw_o))))) ?_
            cases e
            exact ex_r (st_vret rfl rfl) s4
  · have e := (if_neg c1).symm.trans e
    refine ex_pc (if_neg c1) ?_
    refine ex_s (am_nb (m := 1) (pc1 := 7) (ls1 := [(0, .ref 129), (1, .int x0)]) (st1 := [.ref 129]) (H1 := H) (k1 := 0) (n1 := 0) (by with_unfolding_all rfl)) ?_
    refine xe_get (v := .int (a 129 10)) hS rfl rfl (by decide) rfl ?_
    refine ex_s (st_if rfl) ?_
    by_cases c27 : (a 129 10) = 0
    · have e := (if_pos c27).symm.trans e
      refine ex_pc (if_pos c27) ?_
      refine ex_s (am_nb (m := 2) (pc1 := 16) (ls1 := [(0, .ref 129), (1, .int x0)]) (st1 := [.int 35, .int x0]) (H1 := H) (k1 := 0) (n1 := 0) (by with_unfolding_all rfl)) ?_
      refine ex_s (st_icmp rfl) ?_
      by_cases c31 : x0 = 35
      · have e := (if_pos c31).symm.trans e
        refine ex_pc (if_pos c31) ?_
        exact le_E (l1 := [(0, .ref 129), (1, .int x0)]) ⟨rfl, rfl, trivial⟩ rfl (tj212_31  hS e)
      · have e := (if_neg c31).symm.trans e
        refine ex_pc (if_neg c31) ?_
        refine ex_s (am_nb (m := 2) (pc1 := 22) (ls1 := [(0, .ref 129), (1, .int x0)]) (st1 := [.int 40, .int x0]) (H1 := H) (k1 := 0) (n1 := 0) (by with_unfolding_all rfl)) ?_
        refine ex_s (st_icmp rfl) ?_
        by_cases c41 : x0 = 40
        · have e := (if_pos c41).symm.trans e
          refine ex_pc (if_pos c41) ?_
          exact le_E (l1 := [(0, .ref 129), (1, .int x0)]) ⟨rfl, rfl, trivial⟩ rfl (tj212_31  hS e)
        · have e := (if_neg c41).symm.trans e
          refine ex_pc (if_neg c41) ?_
          refine ex_s (am_nb (m := 2) (pc1 := 28) (ls1 := [(0, .ref 129), (1, .int x0)]) (st1 := [.int 41, .int x0]) (H1 := H) (k1 := 0) (n1 := 0) (by with_unfolding_all rfl)) ?_
          have kk : am_E sL sx am_cs 212 36 [(0, .ref 129), (1, .int x0)] [.int (if x0 = 41 then (1 : Int32) else (0 : Int32))] H none (fun H1 => xS h b T a' H1) := by
            refine ex_s (am_nb (m := 3) (pc1 := 39) (ls1 := [(2, .int (if x0 = 41 then (1 : Int32) else (0 : Int32))), (0, .ref 129), (1, .int x0)]) (st1 := [.int (if x0 = 41 then (1 : Int32) else (0 : Int32)), .ref 129]) (H1 := H) (k1 := 0) (n1 := 0) (by with_unfolding_all rfl)) ?_
            have kk : am_E sL sx am_cs 212 47 [(2, .int (if x0 = 41 then (1 : Int32) else (0 : Int32))), (0, .ref 129), (1, .int x0)] [.int (if (if x0 = 41 then (1 : Int32) else (0 : Int32)) = 0 then (2 : Int32) else (1 : Int32)), .ref 129] H none (fun H1 => xS h b T a' H1) := by
              obtain ⟨a44, ha44, e⟩ := xw_some e
              refine xe_put (w := (if (if x0 = 41 then (1 : Int32) else (0 : Int32)) = 0 then (2 : Int32) else (1 : Int32))) hS rfl rfl (by decide) rfl rfl rfl rfl (fun H45 s46 => ?_)
              have s46 : xS h b T a44 H45 := by rw [ha44]; exact s46
              refine ex_s (am_nb (m := 2) (pc1 := 52) (ls1 := [(2, .int (if x0 = 41 then (1 : Int32) else (0 : Int32))), (0, .ref 129), (1, .int x0)]) (st1 := [.int x0, .ref 129]) (H1 := H45) (k1 := 0) (n1 := 0) (by with_unfolding_all rfl)) ?_
              obtain ⟨a47, ha47, e⟩ := xw_some e
              refine xe_put (w := x0) s46 rfl rfl (by decide) rfl rfl rfl rfl (fun H48 s49 => ?_)
              have s49 : xS h b T a47 H48 := by rw [ha47]; exact s49
              cases e
              exact ex_r (st_vret rfl rfl) s49
            refine ex_s (st_if rfl) ?_
            by_cases c43 : (if x0 = 41 then (1 : Int32) else (0 : Int32)) = 0
            · refine ex_pc (if_pos c43) ?_
              refine ex_s (am_nb (m := 1) (pc1 := 47) (ls1 := [(2, .int (if x0 = 41 then (1 : Int32) else (0 : Int32))), (0, .ref 129), (1, .int x0)]) (st1 := [.int 2, .ref 129]) (H1 := H) (k1 := 0) (n1 := 0) (by with_unfolding_all rfl)) ?_
              rw [if_pos c43] at kk
              exact kk
            · refine ex_pc (if_neg c43) ?_
              refine ex_s (am_nb (m := 2) (pc1 := 47) (ls1 := [(2, .int (if x0 = 41 then (1 : Int32) else (0 : Int32))), (0, .ref 129), (1, .int x0)]) (st1 := [.int 1, .ref 129]) (H1 := H) (k1 := 0) (n1 := 0) (by with_unfolding_all rfl)) ?_
              rw [if_neg c43] at kk
              exact kk
          refine ex_s (st_icmp rfl) ?_
          by_cases c42 : x0 = 41
          · refine ex_pc (if_pos c42) ?_
            refine ex_s (am_nb (m := 2) (pc1 := 36) (ls1 := [(0, .ref 129), (1, .int x0)]) (st1 := [.int 1]) (H1 := H) (k1 := 0) (n1 := 0) (by with_unfolding_all rfl)) ?_
            rw [if_pos c42] at kk
            exact kk
          · refine ex_pc (if_neg c42) ?_
            refine ex_s (am_nb (m := 1) (pc1 := 36) (ls1 := [(0, .ref 129), (1, .int x0)]) (st1 := [.int 0]) (H1 := H) (k1 := 0) (n1 := 0) (by with_unfolding_all rfl)) ?_
            rw [if_neg c42] at kk
            exact kk
    · have e := (if_neg c27).symm.trans e
      refine ex_pc (if_neg c27) ?_
      exact le_E (l1 := [(0, .ref 129), (1, .int x0)]) ⟨rfl, rfl, trivial⟩ rfl (tj212_35  hS e)

set_option maxRecDepth 100000 in
theorem tf225_placeFirst {sL : Nat} {sx : Nat → Int32} {h b N : Nat} {T : List am_C} {a' : xA} {a : xA} {H : am_H} (hS : xS h b T a H) (e : f225_placeFirst N h b a = some a') : am_E sL sx am_cs 225 0 [(0, .ref 136)] [] H none (fun H1 => xS h b T a' H1) := by
  unfold f225_placeFirst at e
  refine ex_s (am_nb (m := 3) (pc1 := 4) (ls1 := [(0, .ref 136)]) (st1 := [.int 16, .ref 136, .ref 136]) (H1 := H) (k1 := 0) (n1 := 0) (by with_unfolding_all rfl)) ?_
  obtain ⟨r4, a5, e3, e⟩ := xb2_some e
  refine ex_cv1 (as := [.int 16]) (rest := [.ref 136]) rfl rfl rfl rfl (hS.obj rfl (by decide)) rfl (by with_unfolding_all rfl) (by with_unfolding_all rfl) (tf197_has hS e3) (fun H1 s2 => ?_)
  have kk : am_E sL sx am_cs 225 18 [(0, .ref 136)] [.int (if r4 = 0 then (0 : Int32) else (a5 136 8)), .ref 136] H1 none (fun H1 => xS h b T a' H1) := by
    refine ex_s (am_nb (m := 1) (pc1 := 19) (ls1 := [(0, .ref 136)]) (st1 := [.int 0, .int (if r4 = 0 then (0 : Int32) else (a5 136 8)), .ref 136]) (H1 := H1) (k1 := 0) (n1 := 0) (by with_unfolding_all rfl)) ?_
    obtain ⟨a10, e9, e⟩ := xb1_some e
    refine ex_cv0 (as := [.int (if r4 = 0 then (0 : Int32) else (a5 136 8)), .int 0]) (rest := []) rfl rfl rfl rfl (s2.obj rfl (by decide)) rfl (by with_unfolding_all rfl) (by with_unfolding_all rfl) (tf16_place s2 e9) (fun H7 s8 => ?_)
    cases e
    exact ex_r (st_vret rfl rfl) s8
  refine ex_s (st_if rfl) ?_
  by_cases c6 : r4 = 0
  · refine ex_pc (if_pos c6) ?_
    refine ex_s (am_nb (m := 1) (pc1 := 18) (ls1 := [(0, .ref 136)]) (st1 := [.int 0, .ref 136]) (H1 := H1) (k1 := 0) (n1 := 0) (by with_unfolding_all rfl)) ?_
    rw [if_pos c6] at kk
    exact kk
  · refine ex_pc (if_neg c6) ?_
    refine ex_s (am_nb (m := 1) (pc1 := 11) (ls1 := [(0, .ref 136)]) (st1 := [.ref 136, .ref 136]) (H1 := H1) (k1 := 0) (n1 := 0) (by with_unfolding_all rfl)) ?_
    refine xe_get (v := .int (a5 136 8)) s2 rfl rfl (by decide) rfl ?_
    refine ex_s (am_nb (m := 1) (pc1 := 18) (ls1 := [(0, .ref 136)]) (st1 := [.int (a5 136 8), .ref 136]) (H1 := H1) (k1 := 0) (n1 := 0) (by with_unfolding_all rfl)) ?_
    rw [if_neg c6] at kk
    exact kk

set_option maxRecDepth 100000 in
theorem tj224_159 {sL : Nat} {sx : Nat → Int32} {h b N : Nat} {T : List am_C} {R : Option Value} {F : am_H → Prop} {w2 : Int32} {z : Nat × xA} {rc : Int32 → xA → Option (Nat × xA)} (k0 : z.1 = 0 → ∀ H2 : am_H, xS h b T z.2 H2 → am_E sL sx am_cs 224 165 [] [] H2 R F) (ih : ∀ (v3 : Int32) (a : xA) (H : am_H), xS h b T a H → rc v3 a = some z → am_E sL sx am_cs 224 27 [(0, .ref 129), (2, .int w2), (3, .int v3)] [] H R F) {q3 : Int32} {a : xA} {H : am_H} (hS : xS h b T a H) (e : j224_159 N h b rc w2 q3 a = some z) : am_E sL sx am_cs 224 159 [(0, .ref 129), (2, .int w2), (3, .int q3)] [] H R F := by
  unfold j224_159 at e
  refine ex_s (am_nb (m := 2) (pc1 := 27) (ls1 := [(3, .int (q3 + 1)), (0, .ref 129), (2, .int w2)]) (st1 := []) (H1 := H) (k1 := 0) (n1 := 0) (by with_unfolding_all rfl)) ?_
  exact le_E (l1 := [(0, .ref 129), (2, .int w2), (3, .int (q3 + 1))]) ⟨rfl, rfl, rfl, trivial⟩ rfl (ih (q3 + 1) a H hS e)

set_option maxRecDepth 100000 in
theorem tl224_27 {sL : Nat} {sx : Nat → Int32} {h b N : Nat} {T : List am_C} {R : Option Value} {F : am_H → Prop} {w2 : Int32} {z : Nat × xA} (k0 : z.1 = 0 → ∀ H2 : am_H, xS h b T z.2 H2 → am_E sL sx am_cs 224 165 [] [] H2 R F) : ∀ (n : Nat) (v3 : Int32) (a : xA) (H : am_H), xS h b T a H → l224_27 N h b w2 n v3 a = some z → am_E sL sx am_cs 224 27 [(0, .ref 129), (2, .int w2), (3, .int v3)] [] H R F := by
  intro n
  induction n with
  | zero =>
    intro v3 a H hS e
    cases e
  | succ n ih =>
    intro v3 a H hS e
    unfold l224_27 at e
    refine ex_s (am_nb (m := 2) (pc1 := 29) (ls1 := [(0, .ref 129), (2, .int w2), (3, .int v3)]) (st1 := [.ref 129, .int v3]) (H1 := H) (k1 := 0) (n1 := 0) (by with_unfolding_all rfl)) ?_
    refine xe_get (v := .int (a 129 12)) hS rfl rfl (by decide) rfl ?_
    refine ex_s (st_icmp rfl) ?_
    by_cases c5 : (a 129 12) ≤ v3
    · have e := (if_pos c5).symm.trans e
      refine ex_pc (if_pos c5) ?_
      cases e
      exact le_E (l1 := []) trivial rfl (k0 rfl H hS)
    · have e := (if_neg c5).symm.trans e
      refine ex_pc (if_neg c5) ?_
      refine ex_s (am_nb (m := 1) (pc1 := 36) (ls1 := [(0, .ref 129), (2, .int w2), (3, .int v3)]) (st1 := [.ref 129]) (H1 := H) (k1 := 0) (n1 := 0) (by with_unfolding_all rfl)) ?_
      refine xe_get (v := .ref 135) hS rfl rfl (by decide) rfl ?_
      refine ex_s (am_nb (m := 1) (pc1 := 40) (ls1 := [(0, .ref 129), (2, .int w2), (3, .int v3)]) (st1 := [.int v3, .ref 135]) (H1 := H) (k1 := 0) (n1 := 0) (by with_unfolding_all rfl)) ?_
      obtain ⟨g6, e⟩ := xg_some e
      refine xe_iald hS rfl rfl g6 ?_
      refine ex_s (st_tsw rfl) ?_
      by_cases c7 : (a 135 (v3.toNatClampNeg)) = 1
      · have e := (if_pos c7).symm.trans e
        refine ex_pc (pc1 := 88) (by rw [c7]; with_unfolding_all rfl) ?_
        refine ex_s (am_nb (m := 1) (pc1 := 89) (ls1 := [(0, .ref 129), (2, .int w2), (3, .int v3)]) (st1 := [.ref 129]) (H1 := H) (k1 := 0) (n1 := 0) (by with_unfolding_all rfl)) ?_
        refine xe_get (v := .ref 136) hS rfl rfl (by decide) rfl ?_
        refine ex_s (am_nb (m := 2) (pc1 := 94) (ls1 := [(0, .ref 129), (2, .int w2), (3, .int v3)]) (st1 := [.int w2, .int 4, .ref 136]) (H1 := H) (k1 := 0) (n1 := 0) (by with_unfolding_all rfl)) ?_
        obtain ⟨a11, e10, e⟩ := xb1_some e
        refine ex_cv0 (as := [.int 4, .int w2]) (rest := []) rfl rfl rfl rfl (hS.obj rfl (by decide)) rfl (by with_unfolding_all rfl) (by with_unfolding_all rfl) (tf216_turn hS e10) (fun H8 s9 => ?_)
        refine ex_s (am_nb (m := 1) (pc1 := 159) (ls1 := [(0, .ref 129), (2, .int w2), (3, .int v3)]) (st1 := []) (H1 := H8) (k1 := 0) (n1 := 0) (by with_unfolding_all rfl)) ?_
        exact le_E (l1 := [(0, .ref 129), (2, .int w2), (3, .int v3)]) ⟨rfl, rfl, rfl, trivial⟩ rfl (tj224_159 k0 ih  s9 e)
      · have e := (if_neg c7).symm.trans e
        by_cases c12 : (a 135 (v3.toNatClampNeg)) = 5
        · have e := (if_pos c12).symm.trans e
          refine ex_pc (pc1 := 100) (by rw [c12]; with_unfolding_all rfl) ?_
          refine ex_s (am_nb (m := 1) (pc1 := 101) (ls1 := [(0, .ref 129), (2, .int w2), (3, .int v3)]) (st1 := [.ref 129]) (H1 := H) (k1 := 0) (n1 := 0) (by with_unfolding_all rfl)) ?_
          refine xe_get (v := .ref 136) hS rfl rfl (by decide) rfl ?_
          refine ex_s (am_nb (m := 2) (pc1 := 107) (ls1 := [(0, .ref 129), (2, .int w2), (3, .int v3)]) (st1 := [.int w2, .int 8, .ref 136]) (H1 := H) (k1 := 0) (n1 := 0) (by with_unfolding_all rfl)) ?_
          obtain ⟨a16, e15, e⟩ := xb1_some e
          refine ex_cv0 (as := [.int 8, .int w2]) (rest := []) rfl rfl rfl rfl (hS.obj rfl (by decide)) rfl (by with_unfolding_all rfl) (by with_unfolding_all rfl) (tf216_turn hS e15) (fun H13 s14 => ?_)
          refine ex_s (am_nb (m := 1) (pc1 := 159) (ls1 := [(0, .ref 129), (2, .int w2), (3, .int v3)]) (st1 := []) (H1 := H13) (k1 := 0) (n1 := 0) (by with_unfolding_all rfl)) ?_
          exact le_E (l1 := [(0, .ref 129), (2, .int w2), (3, .int v3)]) ⟨rfl, rfl, rfl, trivial⟩ rfl (tj224_159 k0 ih  s14 e)
        · have e := (if_neg c12).symm.trans e
          by_cases c17 : (a 135 (v3.toNatClampNeg)) = 6
          · have e := (if_pos c17).symm.trans e
            refine ex_pc (pc1 := 113) (by rw [c17]; with_unfolding_all rfl) ?_
            refine ex_s (am_nb (m := 1) (pc1 := 114) (ls1 := [(0, .ref 129), (2, .int w2), (3, .int v3)]) (st1 := [.ref 129]) (H1 := H) (k1 := 0) (n1 := 0) (by with_unfolding_all rfl)) ?_
            refine xe_get (v := .ref 136) hS rfl rfl (by decide) rfl ?_
            refine ex_s (am_nb (m := 2) (pc1 := 120) (ls1 := [(0, .ref 129), (2, .int w2), (3, .int v3)]) (st1 := [.int w2, .int 16, .ref 136]) (H1 := H) (k1 := 0) (n1 := 0) (by with_unfolding_all rfl)) ?_
            obtain ⟨a21, e20, e⟩ := xb1_some e
            refine ex_cv0 (as := [.int 16, .int w2]) (rest := []) rfl rfl rfl rfl (hS.obj rfl (by decide)) rfl (by with_unfolding_all rfl) (by with_unfolding_all rfl) (tf216_turn hS e20) (fun H18 s19 => ?_)
            refine ex_s (am_nb (m := 1) (pc1 := 124) (ls1 := [(0, .ref 129), (2, .int w2), (3, .int v3)]) (st1 := [.ref 129]) (H1 := H18) (k1 := 0) (n1 := 0) (by with_unfolding_all rfl)) ?_
            refine xe_get (v := .ref 136) s19 rfl rfl (by decide) rfl ?_
            obtain ⟨a25, e24, e⟩ := xb1_some e
            refine ex_cv0 (as := []) (rest := []) rfl rfl rfl rfl (s19.obj rfl (by decide)) rfl (by with_unfolding_all rfl) (by with_unfolding_all rfl) (tf225_placeFirst s19 e24) (fun H22 s23 => ?_)
            refine ex_s (am_nb (m := 1) (pc1 := 159) (ls1 := [(0, .ref 129), (2, .int w2), (3, .int v3)]) (st1 := []) (H1 := H22) (k1 := 0) (n1 := 0) (by with_unfolding_all rfl)) ?_
            exact le_E (l1 := [(0, .ref 129), (2, .int w2), (3, .int v3)]) ⟨rfl, rfl, rfl, trivial⟩ rfl (tj224_159 k0 ih  s23 e)
          · have e := (if_neg c17).symm.trans e
            by_cases c26 : (a 135 (v3.toNatClampNeg)) = 7
            · have e := (if_pos c26).symm.trans e
              refine ex_pc (pc1 := 133) (by rw [c26]; with_unfolding_all rfl) ?_
              refine ex_s (am_nb (m := 1) (pc1 := 134) (ls1 := [(0, .ref 129), (2, .int w2), (3, .int v3)]) (st1 := [.ref 129]) (H1 := H) (k1 := 0) (n1 := 0) (by with_unfolding_all rfl)) ?_
              refine xe_get (v := .ref 136) hS rfl rfl (by decide) rfl ?_
              refine ex_s (am_nb (m := 2) (pc1 := 140) (ls1 := [(0, .ref 129), (2, .int w2), (3, .int v3)]) (st1 := [.int w2, .int 32, .ref 136]) (H1 := H) (k1 := 0) (n1 := 0) (by with_unfolding_all rfl)) ?_
              obtain ⟨a30, e29, e⟩ := xb1_some e
              refine ex_cv0 (as := [.int 32, .int w2]) (rest := []) rfl rfl rfl rfl (hS.obj rfl (by decide)) rfl (by with_unfolding_all rfl) (by with_unfolding_all rfl) (tf216_turn hS e29) (fun H27 s28 => ?_)
              refine ex_s (am_nb (m := 1) (pc1 := 159) (ls1 := [(0, .ref 129), (2, .int w2), (3, .int v3)]) (st1 := []) (H1 := H27) (k1 := 0) (n1 := 0) (by with_unfolding_all rfl)) ?_
              exact le_E (l1 := [(0, .ref 129), (2, .int w2), (3, .int v3)]) ⟨rfl, rfl, rfl, trivial⟩ rfl (tj224_159 k0 ih  s28 e)
            · have e := (if_neg c26).symm.trans e
              by_cases c31 : (a 135 (v3.toNatClampNeg)) = 8
              · have e := (if_pos c31).symm.trans e
                refine ex_pc (pc1 := 146) (by rw [c31]; with_unfolding_all rfl) ?_
                refine ex_s (am_nb (m := 1) (pc1 := 147) (ls1 := [(0, .ref 129), (2, .int w2), (3, .int v3)]) (st1 := [.ref 129]) (H1 := H) (k1 := 0) (n1 := 0) (by with_unfolding_all rfl)) ?_
                refine xe_get (v := .ref 136) hS rfl rfl (by decide) rfl ?_
                refine ex_s (am_nb (m := 2) (pc1 := 153) (ls1 := [(0, .ref 129), (2, .int w2), (3, .int v3)]) (st1 := [.int w2, .int 64, .ref 136]) (H1 := H) (k1 := 0) (n1 := 0) (by with_unfolding_all rfl)) ?_
                obtain ⟨a35, e34, e⟩ := xb1_some e
                refine ex_cv0 (as := [.int 64, .int w2]) (rest := []) rfl rfl rfl rfl (hS.obj rfl (by decide)) rfl (by with_unfolding_all rfl) (by with_unfolding_all rfl) (tf216_turn hS e34) (fun H32 s33 => ?_)
                refine ex_s (am_nb (m := 1) (pc1 := 159) (ls1 := [(0, .ref 129), (2, .int w2), (3, .int v3)]) (st1 := []) (H1 := H32) (k1 := 0) (n1 := 0) (by with_unfolding_all rfl)) ?_
                exact le_E (l1 := [(0, .ref 129), (2, .int w2), (3, .int v3)]) ⟨rfl, rfl, rfl, trivial⟩ rfl (tj224_159 k0 ih  s33 e)
              · have e := (if_neg c31).symm.trans e
                refine ex_pc (pc1 := 159) (am_sw_n (sw_c (Or.inl c7) (sw_c (Or.inr rfl) (sw_c (Or.inr rfl) (sw_c (Or.inr rfl) (sw_c (Or.inl c12) (sw_c (Or.inl c17) (sw_c (Or.inl c26) (sw_c (Or.inl c31) sw_o))))))))) ?_
                exact le_E (l1 := [(0, .ref 129), (2, .int w2), (3, .int v3)]) ⟨rfl, rfl, rfl, trivial⟩ rfl (tj224_159 k0 ih  hS e)

set_option maxRecDepth 100000 in
theorem tj224_13 {sL : Nat} {sx : Nat → Int32} {h b N : Nat} {T : List am_C} {a' : xA} {q1 : Int32} {a : xA} {H : am_H} (hS : xS h b T a H) (e : j224_13 N h b q1 a = some a') : am_E sL sx am_cs 224 13 [(0, .ref 129), (1, .int q1)] [] H none (fun H1 => xS h b T a' H1) := by
  unfold j224_13 at e
  refine ex_s (am_nb (m := 2) (pc1 := 16) (ls1 := [(0, .ref 129), (1, .int q1)]) (st1 := [.int 104, .int q1]) (H1 := H) (k1 := 0) (n1 := 0) (by with_unfolding_all rfl)) ?_
  have kk : am_E sL sx am_cs 224 24 [(0, .ref 129), (1, .int q1)] [.int (if q1 = 104 then (1 : Int32) else (0 : Int32))] H none (fun H1 => xS h b T a' H1) := by
    refine ex_s (am_nb (m := 3) (pc1 := 27) (ls1 := [(3, .int 0), (2, .int (if q1 = 104 then (1 : Int32) else (0 : Int32))), (0, .ref 129), (1, .int q1)]) (st1 := []) (H1 := H) (k1 := 0) (n1 := 0) (by with_unfolding_all rfl)) ?_
    obtain ⟨z36, e37, e⟩ := Option.bind_eq_some_iff.mp e
    refine le_E (l1 := [(0, .ref 129), (2, .int (if q1 = 104 then (1 : Int32) else (0 : Int32))), (3, .int 0)]) ⟨rfl, rfl, rfl, trivial⟩ rfl (tl224_27 (z := z36)  (fun uz36_0 Hz360 sz360 => ?_) N 0 a H hS e37)
    cases e
    exact ex_r (st_vret rfl rfl) sz360
  refine ex_s (st_icmp rfl) ?_
  by_cases c4 : q1 = 104
  · refine ex_pc (if_pos c4) ?_
    refine ex_s (am_nb (m := 2) (pc1 := 24) (ls1 := [(0, .ref 129), (1, .int q1)]) (st1 := [.int 1]) (H1 := H) (k1 := 0) (n1 := 0) (by with_unfolding_all rfl)) ?_
    rw [if_pos c4] at kk
    exact kk
  · refine ex_pc (if_neg c4) ?_
    refine ex_s (am_nb (m := 1) (pc1 := 24) (ls1 := [(0, .ref 129), (1, .int q1)]) (st1 := [.int 0]) (H1 := H) (k1 := 0) (n1 := 0) (by with_unfolding_all rfl)) ?_
    rw [if_neg c4] at kk
    exact kk

set_option maxRecDepth 100000 in
theorem tf224_turnPrivateModes {sL : Nat} {sx : Nat → Int32} {h b N : Nat} {T : List am_C} {a' : xA} {x0 : Int32} {a : xA} {H : am_H} (hS : xS h b T a H) (e : f224_turnPrivateModes N h b x0 a = some a') : am_E sL sx am_cs 224 0 [(0, .ref 129), (1, .int x0)] [] H none (fun H1 => xS h b T a' H1) := by
  unfold f224_turnPrivateModes at e
  refine ex_s (am_nb (m := 2) (pc1 := 3) (ls1 := [(0, .ref 129), (1, .int x0)]) (st1 := [.int 104, .int x0]) (H1 := H) (k1 := 0) (n1 := 0) (by with_unfolding_all rfl)) ?_
  refine ex_s (st_icmp rfl) ?_
  by_cases c3 : x0 = 104
  · have e := (if_pos c3).symm.trans e
    refine ex_pc (if_pos c3) ?_
    exact le_E (l1 := [(0, .ref 129), (1, .int x0)]) ⟨rfl, rfl, trivial⟩ rfl (tj224_13  hS e)
  · have e := (if_neg c3).symm.trans e
    refine ex_pc (if_neg c3) ?_
    refine ex_s (am_nb (m := 2) (pc1 := 9) (ls1 := [(0, .ref 129), (1, .int x0)]) (st1 := [.int 108, .int x0]) (H1 := H) (k1 := 0) (n1 := 0) (by with_unfolding_all rfl)) ?_
    refine ex_s (st_icmp rfl) ?_
    by_cases c38 : x0 = 108
    · have e := (if_pos c38).symm.trans e
      refine ex_pc (if_pos c38) ?_
      exact le_E (l1 := [(0, .ref 129), (1, .int x0)]) ⟨rfl, rfl, trivial⟩ rfl (tj224_13  hS e)
    · have e := (if_neg c38).symm.trans e
      refine ex_pc (if_neg c38) ?_
      cases e
      exact ex_r (st_vret rfl rfl) hS

set_option maxRecDepth 100000 in
theorem tf227_goUp {sL : Nat} {sx : Nat → Int32} {h b N : Nat} {T : List am_C} {a' : xA} {x0 : Int32} {a : xA} {H : am_H} (hS : xS h b T a H) (e : f227_goUp N h b x0 a = some a') : am_E sL sx am_cs 227 0 [(0, .ref 136), (1, .int x0)] [] H none (fun H1 => xS h b T a' H1) := by
  unfold f227_goUp at e
  refine ex_s (am_nb (m := 2) (pc1 := 2) (ls1 := [(0, .ref 136), (1, .int x0)]) (st1 := [.ref 136, .ref 136]) (H1 := H) (k1 := 0) (n1 := 0) (by with_unfolding_all rfl)) ?_
  refine xe_get (v := .int (a 136 5)) hS rfl rfl (by decide) rfl ?_
  refine ex_s (am_nb (m := 3) (pc1 := 8) (ls1 := [(0, .ref 136), (1, .int x0)]) (st1 := [.ref 136, .int ((a 136 5) - x0), .ref 136]) (H1 := H) (k1 := 0) (n1 := 0) (by with_unfolding_all rfl)) ?_
  refine xe_get (v := .int (a 136 5)) hS rfl rfl (by decide) rfl ?_
  refine ex_s (am_nb (m := 1) (pc1 := 12) (ls1 := [(0, .ref 136), (1, .int x0)]) (st1 := [.ref 136, .int (a 136 5), .int ((a 136 5) - x0), .ref 136]) (H1 := H) (k1 := 0) (n1 := 0) (by with_unfolding_all rfl)) ?_
  refine xe_get (v := .int (a 136 8)) hS rfl rfl (by decide) rfl ?_
  have kk : am_E sL sx am_cs 227 26 [(0, .ref 136), (1, .int x0)] [.int (if (a 136 5) < (a 136 8) then (0 : Int32) else (a 136 8)), .int ((a 136 5) - x0), .ref 136] H none (fun H1 => xS h b T a' H1) := by
    refine ex_s (am_nb (m := 2) (pc1 := 30) (ls1 := [(0, .ref 136), (1, .int x0)]) (st1 := [.ref 136, .int (xmax ((a 136 5) - x0) (if (a 136 5) < (a 136 8) then (0 : Int32) else (a 136 8))), .ref 136]) (H1 := H) (k1 := 0) (n1 := 0) (by with_unfolding_all rfl)) ?_
    refine xe_get (v := .int (a 136 6)) hS rfl rfl (by decide) rfl ?_
    obtain ⟨a5, e4, e⟩ := xb1_some e
    refine ex_cv0 (as := [.int (xmax ((a 136 5) - x0) (if (a 136 5) < (a 136 8) then (0 : Int32) else (a 136 8))), .int (a 136 6)]) (rest := []) rfl rfl rfl rfl (hS.obj rfl (by decide)) rfl (by with_unfolding_all rfl) (by with_unfolding_all rfl) (tf16_place hS e4) (fun H2 s3 => ?_)
    cases e
    exact ex_r (st_vret rfl rfl) s3
  refine ex_s (st_icmp rfl) ?_
  by_cases c1 : (a 136 5) < (a 136 8)
  · refine ex_pc (if_pos c1) ?_
    refine ex_s (am_nb (m := 1) (pc1 := 26) (ls1 := [(0, .ref 136), (1, .int x0)]) (st1 := [.int 0, .int ((a 136 5) - x0), .ref 136]) (H1 := H) (k1 := 0) (n1 := 0) (by with_unfolding_all rfl)) ?_
    rw [if_pos c1] at kk
    exact kk
  · refine ex_pc (if_neg c1) ?_
    refine ex_s (am_nb (m := 1) (pc1 := 19) (ls1 := [(0, .ref 136), (1, .int x0)]) (st1 := [.ref 136, .int ((a 136 5) - x0), .ref 136]) (H1 := H) (k1 := 0) (n1 := 0) (by with_unfolding_all rfl)) ?_
    refine xe_get (v := .int (a 136 8)) hS rfl rfl (by decide) rfl ?_
    refine ex_s (am_nb (m := 1) (pc1 := 26) (ls1 := [(0, .ref 136), (1, .int x0)]) (st1 := [.int (a 136 8), .int ((a 136 5) - x0), .ref 136]) (H1 := H) (k1 := 0) (n1 := 0) (by with_unfolding_all rfl)) ?_
    rw [if_neg c1] at kk
    exact kk

set_option maxRecDepth 100000 in
theorem tf228_goDown {sL : Nat} {sx : Nat → Int32} {h b N : Nat} {T : List am_C} {a' : xA} {x0 : Int32} {a : xA} {H : am_H} (hS : xS h b T a H) (e : f228_goDown N h b x0 a = some a') : am_E sL sx am_cs 228 0 [(0, .ref 136), (1, .int x0)] [] H none (fun H1 => xS h b T a' H1) := by
  unfold f228_goDown at e
  refine ex_s (am_nb (m := 2) (pc1 := 2) (ls1 := [(0, .ref 136), (1, .int x0)]) (st1 := [.ref 136, .ref 136]) (H1 := H) (k1 := 0) (n1 := 0) (by with_unfolding_all rfl)) ?_
  refine xe_get (v := .int (a 136 5)) hS rfl rfl (by decide) rfl ?_
  refine ex_s (am_nb (m := 3) (pc1 := 8) (ls1 := [(0, .ref 136), (1, .int x0)]) (st1 := [.ref 136, .int ((a 136 5) + x0), .ref 136]) (H1 := H) (k1 := 0) (n1 := 0) (by with_unfolding_all rfl)) ?_
  refine xe_get (v := .int (a 136 5)) hS rfl rfl (by decide) rfl ?_
  refine ex_s (am_nb (m := 1) (pc1 := 12) (ls1 := [(0, .ref 136), (1, .int x0)]) (st1 := [.ref 136, .int (a 136 5), .int ((a 136 5) + x0), .ref 136]) (H1 := H) (k1 := 0) (n1 := 0) (by with_unfolding_all rfl)) ?_
  refine xe_get (v := .int (a 136 9)) hS rfl rfl (by decide) rfl ?_
  have kk : am_E sL sx am_cs 228 31 [(0, .ref 136), (1, .int x0)] [.int (if (a 136 9) < (a 136 5) then ((a 136 0) - 1) else (a 136 9)), .int ((a 136 5) + x0), .ref 136] H none (fun H1 => xS h b T a' H1) := by
    refine ex_s (am_nb (m := 2) (pc1 := 35) (ls1 := [(0, .ref 136), (1, .int x0)]) (st1 := [.ref 136, .int (xmin ((a 136 5) + x0) (if (a 136 9) < (a 136 5) then ((a 136 0) - 1) else (a 136 9))), .ref 136]) (H1 := H) (k1 := 0) (n1 := 0) (by with_unfolding_all rfl)) ?_
    refine xe_get (v := .int (a 136 6)) hS rfl rfl (by decide) rfl ?_
    obtain ⟨a5, e4, e⟩ := xb1_some e
    refine ex_cv0 (as := [.int (xmin ((a 136 5) + x0) (if (a 136 9) < (a 136 5) then ((a 136 0) - 1) else (a 136 9))), .int (a 136 6)]) (rest := []) rfl rfl rfl rfl (hS.obj rfl (by decide)) rfl (by with_unfolding_all rfl) (by with_unfolding_all rfl) (tf16_place hS e4) (fun H2 s3 => ?_)
    cases e
    exact ex_r (st_vret rfl rfl) s3
  refine ex_s (st_icmp rfl) ?_
  by_cases c1 : (a 136 9) < (a 136 5)
  · refine ex_pc (if_pos c1) ?_
    refine ex_s (am_nb (m := 1) (pc1 := 26) (ls1 := [(0, .ref 136), (1, .int x0)]) (st1 := [.ref 136, .int ((a 136 5) + x0), .ref 136]) (H1 := H) (k1 := 0) (n1 := 0) (by with_unfolding_all rfl)) ?_
    refine xe_get (v := .int (a 136 0)) hS rfl rfl (by decide) rfl ?_
    refine ex_s (am_nb (m := 2) (pc1 := 31) (ls1 := [(0, .ref 136), (1, .int x0)]) (st1 := [.int ((a 136 0) - 1), .int ((a 136 5) + x0), .ref 136]) (H1 := H) (k1 := 0) (n1 := 0) (by with_unfolding_all rfl)) ?_
    rw [if_pos c1] at kk
    exact kk
  · refine ex_pc (if_neg c1) ?_
    refine ex_s (am_nb (m := 1) (pc1 := 19) (ls1 := [(0, .ref 136), (1, .int x0)]) (st1 := [.ref 136, .int ((a 136 5) + x0), .ref 136]) (H1 := H) (k1 := 0) (n1 := 0) (by with_unfolding_all rfl)) ?_
    refine xe_get (v := .int (a 136 9)) hS rfl rfl (by decide) rfl ?_
    refine ex_s (am_nb (m := 1) (pc1 := 31) (ls1 := [(0, .ref 136), (1, .int x0)]) (st1 := [.int (a 136 9), .int ((a 136 5) + x0), .ref 136]) (H1 := H) (k1 := 0) (n1 := 0) (by with_unfolding_all rfl)) ?_
    rw [if_neg c1] at kk
    exact kk

set_option maxRecDepth 100000 in
theorem tf229_placeTold {sL : Nat} {sx : Nat → Int32} {h b N : Nat} {T : List am_C} {a' : xA} {x0 : Int32} {x1 : Int32} {a : xA} {H : am_H} (hS : xS h b T a H) (e : f229_placeTold N h b x0 x1 a = some a') : am_E sL sx am_cs 229 0 [(0, .ref 136), (1, .int x0), (2, .int x1)] [] H none (fun H1 => xS h b T a' H1) := by
  unfold f229_placeTold at e
  refine ex_s (am_nb (m := 2) (pc1 := 3) (ls1 := [(0, .ref 136), (1, .int x0), (2, .int x1)]) (st1 := [.int 16, .ref 136]) (H1 := H) (k1 := 0) (n1 := 0) (by with_unfolding_all rfl)) ?_
  obtain ⟨r4, a5, e3, e⟩ := xb2_some e
  refine ex_cv1 (as := [.int 16]) (rest := []) rfl rfl rfl rfl (hS.obj rfl (by decide)) rfl (by with_unfolding_all rfl) (by with_unfolding_all rfl) (tf197_has hS e3) (fun H1 s2 => ?_)
  refine ex_s (st_if rfl) ?_
  by_cases c7 : r4 = 0
  · have e := (if_pos c7).symm.trans e
    refine ex_pc (if_pos c7) ?_
    refine ex_s (am_nb (m := 3) (pc1 := 33) (ls1 := [(0, .ref 136), (1, .int x0), (2, .int x1)]) (st1 := [.int x1, .int x0, .ref 136]) (H1 := H1) (k1 := 0) (n1 := 0) (by with_unfolding_all rfl)) ?_
    obtain ⟨a11, e10, e⟩ := xb1_some e
    refine ex_cv0 (as := [.int x0, .int x1]) (rest := []) rfl rfl rfl rfl (s2.obj rfl (by decide)) rfl (by with_unfolding_all rfl) (by with_unfolding_all rfl) (tf16_place s2 e10) (fun H8 s9 => ?_)
    cases e
    exact ex_r (st_vret rfl rfl) s9
  · have e := (if_neg c7).symm.trans e
    refine ex_pc (if_neg c7) ?_
    refine ex_s (am_nb (m := 2) (pc1 := 11) (ls1 := [(0, .ref 136), (1, .int x0), (2, .int x1)]) (st1 := [.ref 136, .ref 136]) (H1 := H1) (k1 := 0) (n1 := 0) (by with_unfolding_all rfl)) ?_
    refine xe_get (v := .int (a5 136 8)) s2 rfl rfl (by decide) rfl ?_
    refine ex_s (am_nb (m := 3) (pc1 := 17) (ls1 := [(0, .ref 136), (1, .int x0), (2, .int x1)]) (st1 := [.ref 136, .int ((a5 136 8) + x0), .ref 136]) (H1 := H1) (k1 := 0) (n1 := 0) (by with_unfolding_all rfl)) ?_
    refine xe_get (v := .int (a5 136 9)) s2 rfl rfl (by decide) rfl ?_
    refine ex_s (am_nb (m := 2) (pc1 := 24) (ls1 := [(0, .ref 136), (1, .int x0), (2, .int x1)]) (st1 := [.int x1, .int (xmin ((a5 136 8) + x0) (a5 136 9)), .ref 136]) (H1 := H1) (k1 := 0) (n1 := 0) (by with_unfolding_all rfl)) ?_
    obtain ⟨a15, e14, e⟩ := xb1_some e
    refine ex_cv0 (as := [.int (xmin ((a5 136 8) + x0) (a5 136 9)), .int x1]) (rest := []) rfl rfl rfl rfl (s2.obj rfl (by decide)) rfl (by with_unfolding_all rfl) (by with_unfolding_all rfl) (tf16_place s2 e14) (fun H12 s13 => ?_)
    refine ex_s (am_nb (m := 1) (pc1 := 36) (ls1 := [(0, .ref 136), (1, .int x0), (2, .int x1)]) (st1 := []) (H1 := H12) (k1 := 0) (n1 := 0) (by with_unfolding_all rfl)) ?_
    cases e
    exact ex_r (st_vret rfl rfl) s13

set_option maxRecDepth 100000 in
theorem tf231_eraseRow {sL : Nat} {sx : Nat → Int32} {h b N : Nat} {T : List am_C} {a' : xA} {x0 : Int32} {a : xA} {H : am_H} (hS : xS h b T a H) (e : f231_eraseRow N h b x0 a = some a') : am_E sL sx am_cs 231 0 [(0, .ref 136), (1, .int x0)] [] H none (fun H1 => xS h b T a' H1) := by
  unfold f231_eraseRow at e
  refine ex_s (am_nb (m := 1) (pc1 := 1) (ls1 := [(0, .ref 136), (1, .int x0)]) (st1 := [.ref 136]) (H1 := H) (k1 := 0) (n1 := 0) (by with_unfolding_all rfl)) ?_
  refine xe_get (v := .int (a 136 5)) hS rfl rfl (by decide) rfl ?_
  refine ex_s (am_nb (m := 1) (pc1 := 5) (ls1 := [(0, .ref 136), (1, .int x0)]) (st1 := [.ref 136, .int (a 136 5)]) (H1 := H) (k1 := 0) (n1 := 0) (by with_unfolding_all rfl)) ?_
  refine xe_get (v := .int (a 136 1)) hS rfl rfl (by decide) rfl ?_
  refine ex_s (am_nb (m := 3) (pc1 := 11) (ls1 := [(2, .int ((a 136 5) * (a 136 1))), (0, .ref 136), (1, .int x0)]) (st1 := [.int x0]) (H1 := H) (k1 := 0) (n1 := 0) (by with_unfolding_all rfl)) ?_
  refine ex_s (st_tsw rfl) ?_
  by_cases c1 : x0 = 0
  · have e := (if_pos c1).symm.trans e
    refine ex_pc (pc1 := 36) (by rw [c1]; with_unfolding_all rfl) ?_
    refine ex_s (am_nb (m := 1) (pc1 := 37) (ls1 := [(2, .int ((a 136 5) * (a 136 1))), (0, .ref 136), (1, .int x0)]) (st1 := [.ref 136]) (H1 := H) (k1 := 0) (n1 := 0) (by with_unfolding_all rfl)) ?_
    refine xe_get (v := .ref 138) hS rfl rfl (by decide) rfl ?_
    refine ex_s (am_nb (m := 1) (pc1 := 41) (ls1 := [(2, .int ((a 136 5) * (a 136 1))), (0, .ref 136), (1, .int x0)]) (st1 := [.ref 136, .ref 138]) (H1 := H) (k1 := 0) (n1 := 0) (by with_unfolding_all rfl)) ?_
    obtain ⟨r5, a6, e4, e⟩ := xb2_some e
    refine ex_cv1 (as := []) (rest := [.ref 138]) rfl rfl rfl rfl (hS.obj rfl (by decide)) rfl (by with_unfolding_all rfl) (by with_unfolding_all rfl) (tf208_here hS e4) (fun H2 s3 => ?_)
    refine ex_s (am_nb (m := 2) (pc1 := 46) (ls1 := [(2, .int ((a 136 5) * (a 136 1))), (0, .ref 136), (1, .int x0)]) (st1 := [.ref 136, .int ((a 136 5) * (a 136 1)), .int r5, .ref 138]) (H1 := H2) (k1 := 0) (n1 := 0) (by with_unfolding_all rfl)) ?_
    refine xe_get (v := .int (a6 136 1)) s3 rfl rfl (by decide) rfl ?_
    refine ex_s (am_nb (m := 2) (pc1 := 52) (ls1 := [(2, .int ((a 136 5) * (a 136 1))), (0, .ref 136), (1, .int x0)]) (st1 := [.int 32, .int (((a 136 5) * (a 136 1)) + (a6 136 1)), .int r5, .ref 138]) (H1 := H2) (k1 := 0) (n1 := 0) (by with_unfolding_all rfl)) ?_
    obtain ⟨a10, e9, e⟩ := xb1_some e
    refine ex_cs0 (as := [.ref 138, .int r5, .int (((a 136 5) * (a 136 1)) + (a6 136 1)), .int 32]) (rest := []) rfl (by decide) rfl rfl (by with_unfolding_all rfl) (by with_unfolding_all rfl) (tf14_fill s3 e9) (fun H7 s8 => ?_)
    refine ex_s (am_nb (m := 1) (pc1 := 96) (ls1 := [(2, .int ((a 136 5) * (a 136 1))), (0, .ref 136), (1, .int x0)]) (st1 := []) (H1 := H7) (k1 := 0) (n1 := 0) (by with_unfolding_all rfl)) ?_
    cases e
    exact ex_r (st_vret rfl rfl) s8
  · have e := (if_neg c1).symm.trans e
    by_cases c11 : x0 = 1
    · have e := (if_pos c11).symm.trans e
      refine ex_pc (pc1 := 58) (by rw [c11]; with_unfolding_all rfl) ?_
      refine ex_s (am_nb (m := 1) (pc1 := 59) (ls1 := [(2, .int ((a 136 5) * (a 136 1))), (0, .ref 136), (1, .int x0)]) (st1 := [.ref 136]) (H1 := H) (k1 := 0) (n1 := 0) (by with_unfolding_all rfl)) ?_
      refine xe_get (v := .ref 138) hS rfl rfl (by decide) rfl ?_
      refine ex_s (am_nb (m := 2) (pc1 := 64) (ls1 := [(2, .int ((a 136 5) * (a 136 1))), (0, .ref 136), (1, .int x0)]) (st1 := [.ref 136, .int ((a 136 5) * (a 136 1)), .ref 138]) (H1 := H) (k1 := 0) (n1 := 0) (by with_unfolding_all rfl)) ?_
      obtain ⟨r15, a16, e14, e⟩ := xb2_some e
      refine ex_cv1 (as := []) (rest := [.int ((a 136 5) * (a 136 1)), .ref 138]) rfl rfl rfl rfl (hS.obj rfl (by decide)) rfl (by with_unfolding_all rfl) (by with_unfolding_all rfl) (tf208_here hS e14) (fun H12 s13 => ?_)
      refine ex_s (am_nb (m := 3) (pc1 := 71) (ls1 := [(2, .int ((a 136 5) * (a 136 1))), (0, .ref 136), (1, .int x0)]) (st1 := [.int 32, .int (r15 + 1), .int ((a 136 5) * (a 136 1)), .ref 138]) (H1 := H12) (k1 := 0) (n1 := 0) (by with_unfolding_all rfl)) ?_
      obtain ⟨a20, e19, e⟩ := xb1_some e
      refine ex_cs0 (as := [.ref 138, .int ((a 136 5) * (a 136 1)), .int (r15 + 1), .int 32]) (rest := []) rfl (by decide) rfl rfl (by with_unfolding_all rfl) (by with_unfolding_all rfl) (tf14_fill s13 e19) (fun H17 s18 => ?_)
      refine ex_s (am_nb (m := 1) (pc1 := 96) (ls1 := [(2, .int ((a 136 5) * (a 136 1))), (0, .ref 136), (1, .int x0)]) (st1 := []) (H1 := H17) (k1 := 0) (n1 := 0) (by with_unfolding_all rfl)) ?_
      cases e
      exact ex_r (st_vret rfl rfl) s18
    · have e := (if_neg c11).symm.trans e
      by_cases c21 : x0 = 2
      · have e := (if_pos c21).symm.trans e
        refine ex_pc (pc1 := 77) (by rw [c21]; with_unfolding_all rfl) ?_
        refine ex_s (am_nb (m := 1) (pc1 := 78) (ls1 := [(2, .int ((a 136 5) * (a 136 1))), (0, .ref 136), (1, .int x0)]) (st1 := [.ref 136]) (H1 := H) (k1 := 0) (n1 := 0) (by with_unfolding_all rfl)) ?_
        refine xe_get (v := .ref 138) hS rfl rfl (by decide) rfl ?_
        refine ex_s (am_nb (m := 3) (pc1 := 84) (ls1 := [(2, .int ((a 136 5) * (a 136 1))), (0, .ref 136), (1, .int x0)]) (st1 := [.ref 136, .int ((a 136 5) * (a 136 1)), .int ((a 136 5) * (a 136 1)), .ref 138]) (H1 := H) (k1 := 0) (n1 := 0) (by with_unfolding_all rfl)) ?_
        refine xe_get (v := .int (a 136 1)) hS rfl rfl (by decide) rfl ?_
        refine ex_s (am_nb (m := 2) (pc1 := 90) (ls1 := [(2, .int ((a 136 5) * (a 136 1))), (0, .ref 136), (1, .int x0)]) (st1 := [.int 32, .int (((a 136 5) * (a 136 1)) + (a 136 1)), .int ((a 136 5) * (a 136 1)), .ref 138]) (H1 := H) (k1 := 0) (n1 := 0) (by with_unfolding_all rfl)) ?_
        obtain ⟨a25, e24, e⟩ := xb1_some e
        refine ex_cs0 (as := [.ref 138, .int ((a 136 5) * (a 136 1)), .int (((a 136 5) * (a 136 1)) + (a 136 1)), .int 32]) (rest := []) rfl (by decide) rfl rfl (by with_unfolding_all rfl) (by with_unfolding_all rfl) (tf14_fill hS e24) (fun H22 s23 => ?_)
        refine ex_s (am_nb (m := 1) (pc1 := 96) (ls1 := [(2, .int ((a 136 5) * (a 136 1))), (0, .ref 136), (1, .int x0)]) (st1 := []) (H1 := H22) (k1 := 0) (n1 := 0) (by with_unfolding_all rfl)) ?_
        cases e
        exact ex_r (st_vret rfl rfl) s23
      · have e := (if_neg c21).symm.trans e
        refine ex_pc (pc1 := 96) (am_sw_n (sw_c (Or.inl c1) (sw_c (Or.inl c11) (sw_c (Or.inl c21) sw_o)))) ?_
        cases e
        exact ex_r (st_vret rfl rfl) hS

set_option maxRecDepth 100000 in
theorem tj230_145 {sL : Nat} {sx : Nat → Int32} {h b N : Nat} {T : List am_C} {a' : xA} {a : xA} {H : am_H} (hS : xS h b T a H) (e : j230_145 N h b a = some a') : am_E sL sx am_cs 230 145 [(0, .ref 136)] [] H none (fun H1 => xS h b T a' H1) := by
  unfold j230_145 at e
  refine ex_s (am_nb (m := 2) (pc1 := 147) (ls1 := [(0, .ref 136)]) (st1 := [.int 2, .ref 136]) (H1 := H) (k1 := 0) (n1 := 0) (by with_unfolding_all rfl)) ?_
  obtain ⟨a16, ha16, e⟩ := xw_some e
  refine xe_put (w := 2) hS rfl rfl (by decide) rfl rfl rfl rfl (fun H17 s18 => ?_)
  have s18 : xS h b T a16 H17 := by rw [ha16]; exact s18
  cases e
  exact ex_r (st_vret rfl rfl) s18

set_option maxRecDepth 100000 in
theorem tj230_97 {sL : Nat} {sx : Nat → Int32} {h b N : Nat} {T : List am_C} {a' : xA} {q1 : Int32} {a : xA} {H : am_H} (hS : xS h b T a H) (e : j230_97 N h b q1 a = some a') : am_E sL sx am_cs 230 97 [(0, .ref 136), (1, .int q1)] [] H none (fun H1 => xS h b T a' H1) := by
  unfold j230_97 at e
  refine ex_s (am_nb (m := 2) (pc1 := 99) (ls1 := [(0, .ref 136), (1, .int q1)]) (st1 := [.int 1, .int q1]) (H1 := H) (k1 := 0) (n1 := 0) (by with_unfolding_all rfl)) ?_
  refine ex_s (st_icmp rfl) ?_
  by_cases c15 : q1 = 1
  · have e := (if_pos c15).symm.trans e
    refine ex_pc (if_pos c15) ?_
    exact le_E (l1 := [(0, .ref 136)]) ⟨rfl, trivial⟩ rfl (tj230_145  hS e)
  · have e := (if_neg c15).symm.trans e
    refine ex_pc (if_neg c15) ?_
    refine ex_s (am_nb (m := 1) (pc1 := 103) (ls1 := [(0, .ref 136), (1, .int q1)]) (st1 := [.ref 136]) (H1 := H) (k1 := 0) (n1 := 0) (by with_unfolding_all rfl)) ?_
    refine xe_get (v := .ref 138) hS rfl rfl (by decide) rfl ?_
    refine ex_s (am_nb (m := 1) (pc1 := 107) (ls1 := [(0, .ref 136), (1, .int q1)]) (st1 := [.ref 136, .ref 138]) (H1 := H) (k1 := 0) (n1 := 0) (by with_unfolding_all rfl)) ?_
    refine xe_get (v := .int (a 136 5)) hS rfl rfl (by decide) rfl ?_
    refine ex_s (am_nb (m := 3) (pc1 := 113) (ls1 := [(0, .ref 136), (1, .int q1)]) (st1 := [.ref 136, .int ((a 136 5) + 1), .ref 138]) (H1 := H) (k1 := 0) (n1 := 0) (by with_unfolding_all rfl)) ?_
    refine xe_get (v := .int (a 136 1)) hS rfl rfl (by decide) rfl ?_
    refine ex_s (am_nb (m := 2) (pc1 := 118) (ls1 := [(0, .ref 136), (1, .int q1)]) (st1 := [.ref 136, .int (((a 136 5) + 1) * (a 136 1)), .ref 138]) (H1 := H) (k1 := 0) (n1 := 0) (by with_unfolding_all rfl)) ?_
    refine xe_get (v := .ref 138) hS rfl rfl (by decide) rfl ?_
    refine xe_alenc (v := Int32.ofNat (h * b)) hS rfl rfl rfl ?_
    refine ex_s (am_nb (m := 1) (pc1 := 124) (ls1 := [(0, .ref 136), (1, .int q1)]) (st1 := [.int 32, .int (Int32.ofNat (h * b)), .int (((a 136 5) + 1) * (a 136 1)), .ref 138]) (H1 := H) (k1 := 0) (n1 := 0) (by with_unfolding_all rfl)) ?_
    obtain ⟨a22, e21, e⟩ := xb1_some e
    refine ex_cs0 (as := [.ref 138, .int (((a 136 5) + 1) * (a 136 1)), .int (Int32.ofNat (h * b)), .int 32]) (rest := []) rfl (by decide) rfl rfl (by with_unfolding_all rfl) (by with_unfolding_all rfl) (tf14_fill hS e21) (fun H19 s20 => ?_)
    refine ex_s (am_nb (m := 1) (pc1 := 128) (ls1 := [(0, .ref 136), (1, .int q1)]) (st1 := [.ref 136]) (H1 := H19) (k1 := 0) (n1 := 0) (by with_unfolding_all rfl)) ?_
    refine xe_get (v := .ref 139) s20 rfl rfl (by decide) rfl ?_
    refine ex_s (am_nb (m := 1) (pc1 := 132) (ls1 := [(0, .ref 136), (1, .int q1)]) (st1 := [.ref 136, .ref 139]) (H1 := H19) (k1 := 0) (n1 := 0) (by with_unfolding_all rfl)) ?_
    refine xe_get (v := .int (a22 136 5)) s20 rfl rfl (by decide) rfl ?_
    refine ex_s (am_nb (m := 3) (pc1 := 138) (ls1 := [(0, .ref 136), (1, .int q1)]) (st1 := [.ref 136, .int ((a22 136 5) + 1), .ref 139]) (H1 := H19) (k1 := 0) (n1 := 0) (by with_unfolding_all rfl)) ?_
    refine xe_get (v := .int (a22 136 0)) s20 rfl rfl (by decide) rfl ?_
    refine ex_s (am_nb (m := 1) (pc1 := 142) (ls1 := [(0, .ref 136), (1, .int q1)]) (st1 := [.int 0, .int (a22 136 0), .int ((a22 136 5) + 1), .ref 139]) (H1 := H19) (k1 := 0) (n1 := 0) (by with_unfolding_all rfl)) ?_
    obtain ⟨a26, e25, e⟩ := xb1_some e
    refine ex_cs0 (as := [.ref 139, .int ((a22 136 5) + 1), .int (a22 136 0), .int 0]) (rest := []) rfl (by decide) rfl rfl (by with_unfolding_all rfl) (by with_unfolding_all rfl) (tf14_fill s20 e25) (fun H23 s24 => ?_)
    exact le_E (l1 := [(0, .ref 136)]) ⟨rfl, trivial⟩ rfl (tj230_145  s24 e)

set_option maxRecDepth 100000 in
theorem tj230_61 {sL : Nat} {sx : Nat → Int32} {h b N : Nat} {T : List am_C} {a' : xA} {q1 : Int32} {a : xA} {H : am_H} (hS : xS h b T a H) (e : j230_61 N h b q1 a = some a') : am_E sL sx am_cs 230 61 [(0, .ref 136), (1, .int q1)] [] H none (fun H1 => xS h b T a' H1) := by
  unfold j230_61 at e
  refine ex_s (am_nb (m := 1) (pc1 := 62) (ls1 := [(0, .ref 136), (1, .int q1)]) (st1 := [.int q1]) (H1 := H) (k1 := 0) (n1 := 0) (by with_unfolding_all rfl)) ?_
  refine ex_s (st_if rfl) ?_
  by_cases c13 : q1 = 0
  · have e := (if_pos c13).symm.trans e
    refine ex_pc (if_pos c13) ?_
    exact le_E (l1 := [(0, .ref 136), (1, .int q1)]) ⟨rfl, rfl, trivial⟩ rfl (tj230_97  hS e)
  · have e := (if_neg c13).symm.trans e
    refine ex_pc (if_neg c13) ?_
    refine ex_s (am_nb (m := 1) (pc1 := 66) (ls1 := [(0, .ref 136), (1, .int q1)]) (st1 := [.ref 136]) (H1 := H) (k1 := 0) (n1 := 0) (by with_unfolding_all rfl)) ?_
    refine xe_get (v := .ref 138) hS rfl rfl (by decide) rfl ?_
    refine ex_s (am_nb (m := 2) (pc1 := 71) (ls1 := [(0, .ref 136), (1, .int q1)]) (st1 := [.ref 136, .int 0, .ref 138]) (H1 := H) (k1 := 0) (n1 := 0) (by with_unfolding_all rfl)) ?_
    refine xe_get (v := .int (a 136 5)) hS rfl rfl (by decide) rfl ?_
    refine ex_s (am_nb (m := 1) (pc1 := 75) (ls1 := [(0, .ref 136), (1, .int q1)]) (st1 := [.ref 136, .int (a 136 5), .int 0, .ref 138]) (H1 := H) (k1 := 0) (n1 := 0) (by with_unfolding_all rfl)) ?_
    refine xe_get (v := .int (a 136 1)) hS rfl rfl (by decide) rfl ?_
    refine ex_s (am_nb (m := 2) (pc1 := 81) (ls1 := [(0, .ref 136), (1, .int q1)]) (st1 := [.int 32, .int ((a 136 5) * (a 136 1)), .int 0, .ref 138]) (H1 := H) (k1 := 0) (n1 := 0) (by with_unfolding_all rfl)) ?_
    obtain ⟨a30, e29, e⟩ := xb1_some e
    refine ex_cs0 (as := [.ref 138, .int 0, .int ((a 136 5) * (a 136 1)), .int 32]) (rest := []) rfl (by decide) rfl rfl (by with_unfolding_all rfl) (by with_unfolding_all rfl) (tf14_fill hS e29) (fun H27 s28 => ?_)
    refine ex_s (am_nb (m := 1) (pc1 := 85) (ls1 := [(0, .ref 136), (1, .int q1)]) (st1 := [.ref 136]) (H1 := H27) (k1 := 0) (n1 := 0) (by with_unfolding_all rfl)) ?_
    refine xe_get (v := .ref 139) s28 rfl rfl (by decide) rfl ?_
    refine ex_s (am_nb (m := 2) (pc1 := 90) (ls1 := [(0, .ref 136), (1, .int q1)]) (st1 := [.ref 136, .int 0, .ref 139]) (H1 := H27) (k1 := 0) (n1 := 0) (by with_unfolding_all rfl)) ?_
    refine xe_get (v := .int (a30 136 5)) s28 rfl rfl (by decide) rfl ?_
    refine ex_s (am_nb (m := 1) (pc1 := 94) (ls1 := [(0, .ref 136), (1, .int q1)]) (st1 := [.int 0, .int (a30 136 5), .int 0, .ref 139]) (H1 := H27) (k1 := 0) (n1 := 0) (by with_unfolding_all rfl)) ?_
    obtain ⟨a34, e33, e⟩ := xb1_some e
    refine ex_cs0 (as := [.ref 139, .int 0, .int (a30 136 5), .int 0]) (rest := []) rfl (by decide) rfl rfl (by with_unfolding_all rfl) (by with_unfolding_all rfl) (tf14_fill s28 e33) (fun H31 s32 => ?_)
    exact le_E (l1 := [(0, .ref 136), (1, .int q1)]) ⟨rfl, rfl, trivial⟩ rfl (tj230_97  s32 e)

set_option maxRecDepth 100000 in
theorem tj230_41 {sL : Nat} {sx : Nat → Int32} {h b N : Nat} {T : List am_C} {a' : xA} {q1 : Int32} {t0 : Int32} {a : xA} {H : am_H} (hS : xS h b T a H) (e : j230_41 N h b q1 t0 a = some a') : am_E sL sx am_cs 230 41 [(0, .ref 136), (1, .int q1)] [.int t0] H none (fun H1 => xS h b T a' H1) := by
  unfold j230_41 at e
  refine ex_s (am_nb (m := 3) (pc1 := 44) (ls1 := [(2, .int t0), (0, .ref 136), (1, .int q1)]) (st1 := [.int q1, .ref 136]) (H1 := H) (k1 := 0) (n1 := 0) (by with_unfolding_all rfl)) ?_
  obtain ⟨a9, e8, e⟩ := xb1_some e
  refine ex_cv0 (as := [.int q1]) (rest := []) rfl rfl rfl rfl (hS.obj rfl (by decide)) rfl (by with_unfolding_all rfl) (by with_unfolding_all rfl) (tf231_eraseRow hS e8) (fun H6 s7 => ?_)
  refine ex_s (am_nb (m := 1) (pc1 := 48) (ls1 := [(2, .int t0), (0, .ref 136), (1, .int q1)]) (st1 := [.int t0]) (H1 := H6) (k1 := 0) (n1 := 0) (by with_unfolding_all rfl)) ?_
  refine ex_s (st_if rfl) ?_
  by_cases c11 : t0 = 0
  · have e := (if_pos c11).symm.trans e
    refine ex_pc (if_pos c11) ?_
    exact le_E (l1 := [(0, .ref 136), (1, .int q1)]) ⟨rfl, rfl, trivial⟩ rfl (tj230_61  s7 e)
  · have e := (if_neg c11).symm.trans e
    refine ex_pc (if_neg c11) ?_
    refine ex_s (am_nb (m := 1) (pc1 := 52) (ls1 := [(2, .int t0), (0, .ref 136), (1, .int q1)]) (st1 := [.ref 136]) (H1 := H6) (k1 := 0) (n1 := 0) (by with_unfolding_all rfl)) ?_
    refine xe_get (v := .ref 139) s7 rfl rfl (by decide) rfl ?_
    refine ex_s (am_nb (m := 1) (pc1 := 56) (ls1 := [(2, .int t0), (0, .ref 136), (1, .int q1)]) (st1 := [.ref 136, .ref 139]) (H1 := H6) (k1 := 0) (n1 := 0) (by with_unfolding_all rfl)) ?_
    refine xe_get (v := .int (a9 136 5)) s7 rfl rfl (by decide) rfl ?_
    refine ex_s (am_nb (m := 1) (pc1 := 60) (ls1 := [(2, .int t0), (0, .ref 136), (1, .int q1)]) (st1 := [.int 0, .int (a9 136 5), .ref 139]) (H1 := H6) (k1 := 0) (n1 := 0) (by with_unfolding_all rfl)) ?_
    obtain ⟨g38, e⟩ := xg_some e
    obtain ⟨a35, ha35, e⟩ := xw_some e
    refine xe_iast s7 rfl rfl g38 (fun H36 s37 => ?_)
    have s37 : xS h b T a35 H36 := by rw [ha35]; exact s37
    exact le_E (l1 := [(0, .ref 136), (1, .int q1)]) ⟨rfl, rfl, trivial⟩ rfl (tj230_61  s37 e)

set_option maxRecDepth 100000 in
theorem tj230_36 {sL : Nat} {sx : Nat → Int32} {h b N : Nat} {T : List am_C} {a' : xA} {q1 : Int32} {a : xA} {H : am_H} (hS : xS h b T a H) (e : j230_36 N h b q1 a = some a') : am_E sL sx am_cs 230 36 [(0, .ref 136), (1, .int q1)] [] H none (fun H1 => xS h b T a' H1) := by
  unfold j230_36 at e
  refine ex_s (am_nb (m := 2) (pc1 := 41) (ls1 := [(0, .ref 136), (1, .int q1)]) (st1 := [.int 1]) (H1 := H) (k1 := 0) (n1 := 0) (by with_unfolding_all rfl)) ?_
  exact le_E (l1 := [(0, .ref 136), (1, .int q1)]) ⟨rfl, rfl, trivial⟩ rfl (tj230_41  hS e)

set_option maxRecDepth 100000 in
theorem tf230_eraseScreen {sL : Nat} {sx : Nat → Int32} {h b N : Nat} {T : List am_C} {a' : xA} {x0 : Int32} {a : xA} {H : am_H} (hS : xS h b T a H) (e : f230_eraseScreen N h b x0 a = some a') : am_E sL sx am_cs 230 0 [(0, .ref 136), (1, .int x0)] [] H none (fun H1 => xS h b T a' H1) := by
  unfold f230_eraseScreen at e
  refine ex_s (am_nb (m := 2) (pc1 := 2) (ls1 := [(0, .ref 136), (1, .int x0)]) (st1 := [.int 2, .int x0]) (H1 := H) (k1 := 0) (n1 := 0) (by with_unfolding_all rfl)) ?_
  refine ex_s (st_icmp rfl) ?_
  by_cases c1 : x0 ≤ 2
  · have e := (if_pos c1).symm.trans e
    refine ex_pc (if_pos c1) ?_
    refine ex_s (am_nb (m := 2) (pc1 := 8) (ls1 := [(0, .ref 136), (1, .int x0)]) (st1 := [.int 2, .int x0]) (H1 := H) (k1 := 0) (n1 := 0) (by with_unfolding_all rfl)) ?_
    refine ex_s (st_icmp rfl) ?_
    by_cases c5 : x0 = 2
    · have e := (if_pos c5).symm.trans e
      refine ex_pc (if_pos c5) ?_
      exact le_E (l1 := [(0, .ref 136), (1, .int x0)]) ⟨rfl, rfl, trivial⟩ rfl (tj230_36  hS e)
    · have e := (if_neg c5).symm.trans e
      refine ex_pc (if_neg c5) ?_
      refine ex_s (am_nb (m := 1) (pc1 := 12) (ls1 := [(0, .ref 136), (1, .int x0)]) (st1 := [.int x0]) (H1 := H) (k1 := 0) (n1 := 0) (by with_unfolding_all rfl)) ?_
      refine ex_s (st_if rfl) ?_
      by_cases c41 : x0 = 0
      · have e := (if_pos c41).symm.trans e
        refine ex_pc (if_pos c41) ?_
        refine ex_s (am_nb (m := 1) (pc1 := 16) (ls1 := [(0, .ref 136), (1, .int x0)]) (st1 := [.ref 136]) (H1 := H) (k1 := 0) (n1 := 0) (by with_unfolding_all rfl)) ?_
        refine xe_get (v := .int (a 136 6)) hS rfl rfl (by decide) rfl ?_
        have kk : am_E sL sx am_cs 230 41 [(0, .ref 136), (1, .int x0)] [.int (if (a 136 6) = 0 then (1 : Int32) else (0 : Int32))] H none (fun H1 => xS h b T a' H1) := by
          refine ex_s (am_nb (m := 3) (pc1 := 44) (ls1 := [(2, .int (if (a 136 6) = 0 then (1 : Int32) else (0 : Int32))), (0, .ref 136), (1, .int x0)]) (st1 := [.int x0, .ref 136]) (H1 := H) (k1 := 0) (n1 := 0) (by with_unfolding_all rfl)) ?_
          obtain ⟨a46, e45, e⟩ := xb1_some e
          refine ex_cv0 (as := [.int x0]) (rest := []) rfl rfl rfl rfl (hS.obj rfl (by decide)) rfl (by with_unfolding_all rfl) (by with_unfolding_all rfl) (tf231_eraseRow hS e45) (fun H43 s44 => ?_)
          refine ex_s (am_nb (m := 1) (pc1 := 48) (ls1 := [(2, .int (if (a 136 6) = 0 then (1 : Int32) else (0 : Int32))), (0, .ref 136), (1, .int x0)]) (st1 := [.int (if (a 136 6) = 0 then (1 : Int32) else (0 : Int32))]) (H1 := H43) (k1 := 0) (n1 := 0) (by with_unfolding_all rfl)) ?_
          refine ex_s (st_if rfl) ?_
          by_cases c48 : (if (a 136 6) = 0 then (1 : Int32) else (0 : Int32)) = 0
          · have e := (if_pos c48).symm.trans e
            refine ex_pc (if_pos c48) ?_
            exact le_E (l1 := [(0, .ref 136), (1, .int x0)]) ⟨rfl, rfl, trivial⟩ rfl (tj230_61  s44 e)
          · have e := (if_neg c48).symm.trans e
            refine ex_pc (if_neg c48) ?_
            refine ex_s (am_nb (m := 1) (pc1 := 52) (ls1 := [(2, .int (if (a 136 6) = 0 then (1 : Int32) else (0 : Int32))), (0, .ref 136), (1, .int x0)]) (st1 := [.ref 136]) (H1 := H43) (k1 := 0) (n1 := 0) (by with_unfolding_all rfl)) ?_
            refine xe_get (v := .ref 139) s44 rfl rfl (by decide) rfl ?_
            refine ex_s (am_nb (m := 1) (pc1 := 56) (ls1 := [(2, .int (if (a 136 6) = 0 then (1 : Int32) else (0 : Int32))), (0, .ref 136), (1, .int x0)]) (st1 := [.ref 136, .ref 139]) (H1 := H43) (k1 := 0) (n1 := 0) (by with_unfolding_all rfl)) ?_
            refine xe_get (v := .int (a46 136 5)) s44 rfl rfl (by decide) rfl ?_
            refine ex_s (am_nb (m := 1) (pc1 := 60) (ls1 := [(2, .int (if (a 136 6) = 0 then (1 : Int32) else (0 : Int32))), (0, .ref 136), (1, .int x0)]) (st1 := [.int 0, .int (a46 136 5), .ref 139]) (H1 := H43) (k1 := 0) (n1 := 0) (by with_unfolding_all rfl)) ?_
            obtain ⟨g52, e⟩ := xg_some e
            obtain ⟨a49, ha49, e⟩ := xw_some e
            refine xe_iast s44 rfl rfl g52 (fun H50 s51 => ?_)
            have s51 : xS h b T a49 H50 := by rw [ha49]; exact s51
            exact le_E (l1 := [(0, .ref 136), (1, .int x0)]) ⟨rfl, rfl, trivial⟩ rfl (tj230_61  s51 e)
        refine ex_s (st_if rfl) ?_
        by_cases c42 : (a 136 6) = 0
        · refine ex_pc (if_pos c42) ?_
          refine ex_s (am_nb (m := 3) (pc1 := 41) (ls1 := [(0, .ref 136), (1, .int x0)]) (st1 := [.int 1]) (H1 := H) (k1 := 0) (n1 := 0) (by with_unfolding_all rfl)) ?_
          rw [if_pos c42] at kk
          exact kk
        · refine ex_pc (if_neg c42) ?_
          refine ex_s (am_nb (m := 1) (pc1 := 41) (ls1 := [(0, .ref 136), (1, .int x0)]) (st1 := [.int 0]) (H1 := H) (k1 := 0) (n1 := 0) (by with_unfolding_all rfl)) ?_
          rw [if_neg c42] at kk
          exact kk
      · have e := (if_neg c41).symm.trans e
        refine ex_pc (if_neg c41) ?_
        refine ex_s (am_nb (m := 1) (pc1 := 26) (ls1 := [(0, .ref 136), (1, .int x0)]) (st1 := [.ref 136]) (H1 := H) (k1 := 0) (n1 := 0) (by with_unfolding_all rfl)) ?_
        refine xe_get (v := .int (a 136 6)) hS rfl rfl (by decide) rfl ?_
        refine ex_s (am_nb (m := 1) (pc1 := 30) (ls1 := [(0, .ref 136), (1, .int x0)]) (st1 := [.ref 136, .int (a 136 6)]) (H1 := H) (k1 := 0) (n1 := 0) (by with_unfolding_all rfl)) ?_
        obtain ⟨r56, a57, e55, e⟩ := xb2_some e
        refine ex_cv1 (as := []) (rest := [.int (a 136 6)]) rfl rfl rfl rfl (hS.obj rfl (by decide)) rfl (by with_unfolding_all rfl) (by with_unfolding_all rfl) (tf17_last hS e55) (fun H53 s54 => ?_)
        have kk : am_E sL sx am_cs 230 41 [(0, .ref 136), (1, .int x0)] [.int (if (a 136 6) < r56 then (0 : Int32) else (1 : Int32))] H53 none (fun H1 => xS h b T a' H1) := by
          refine ex_s (am_nb (m := 3) (pc1 := 44) (ls1 := [(2, .int (if (a 136 6) < r56 then (0 : Int32) else (1 : Int32))), (0, .ref 136), (1, .int x0)]) (st1 := [.int x0, .ref 136]) (H1 := H53) (k1 := 0) (n1 := 0) (by with_unfolding_all rfl)) ?_
          obtain ⟨a62, e61, e⟩ := xb1_some e
          refine ex_cv0 (as := [.int x0]) (rest := []) rfl rfl rfl rfl (s54.obj rfl (by decide)) rfl (by with_unfolding_all rfl) (by with_unfolding_all rfl) (tf231_eraseRow s54 e61) (fun H59 s60 => ?_)
          refine ex_s (am_nb (m := 1) (pc1 := 48) (ls1 := [(2, .int (if (a 136 6) < r56 then (0 : Int32) else (1 : Int32))), (0, .ref 136), (1, .int x0)]) (st1 := [.int (if (a 136 6) < r56 then (0 : Int32) else (1 : Int32))]) (H1 := H59) (k1 := 0) (n1 := 0) (by with_unfolding_all rfl)) ?_
          refine ex_s (st_if rfl) ?_
          by_cases c64 : (if (a 136 6) < r56 then (0 : Int32) else (1 : Int32)) = 0
          · have e := (if_pos c64).symm.trans e
            refine ex_pc (if_pos c64) ?_
            exact le_E (l1 := [(0, .ref 136), (1, .int x0)]) ⟨rfl, rfl, trivial⟩ rfl (tj230_61  s60 e)
          · have e := (if_neg c64).symm.trans e
            refine ex_pc (if_neg c64) ?_
            refine ex_s (am_nb (m := 1) (pc1 := 52) (ls1 := [(2, .int (if (a 136 6) < r56 then (0 : Int32) else (1 : Int32))), (0, .ref 136), (1, .int x0)]) (st1 := [.ref 136]) (H1 := H59) (k1 := 0) (n1 := 0) (by with_unfolding_all rfl)) ?_
            refine xe_get (v := .ref 139) s60 rfl rfl (by decide) rfl ?_
            refine ex_s (am_nb (m := 1) (pc1 := 56) (ls1 := [(2, .int (if (a 136 6) < r56 then (0 : Int32) else (1 : Int32))), (0, .ref 136), (1, .int x0)]) (st1 := [.ref 136, .ref 139]) (H1 := H59) (k1 := 0) (n1 := 0) (by with_unfolding_all rfl)) ?_
            refine xe_get (v := .int (a62 136 5)) s60 rfl rfl (by decide) rfl ?_
            refine ex_s (am_nb (m := 1) (pc1 := 60) (ls1 := [(2, .int (if (a 136 6) < r56 then (0 : Int32) else (1 : Int32))), (0, .ref 136), (1, .int x0)]) (st1 := [.int 0, .int (a62 136 5), .ref 139]) (H1 := H59) (k1 := 0) (n1 := 0) (by with_unfolding_all rfl)) ?_
            obtain ⟨g68, e⟩ := xg_some e
            obtain ⟨a65, ha65, e⟩ := xw_some e
            refine xe_iast s60 rfl rfl g68 (fun H66 s67 => ?_)
            have s67 : xS h b T a65 H66 := by rw [ha65]; exact s67
            exact le_E (l1 := [(0, .ref 136), (1, .int x0)]) ⟨rfl, rfl, trivial⟩ rfl (tj230_61  s67 e)
        refine ex_s (st_icmp rfl) ?_
        by_cases c58 : (a 136 6) < r56
        · refine ex_pc (if_pos c58) ?_
          refine ex_s (am_nb (m := 1) (pc1 := 41) (ls1 := [(0, .ref 136), (1, .int x0)]) (st1 := [.int 0]) (H1 := H53) (k1 := 0) (n1 := 0) (by with_unfolding_all rfl)) ?_
          rw [if_pos c58] at kk
          exact kk
        · refine ex_pc (if_neg c58) ?_
          refine ex_s (am_nb (m := 2) (pc1 := 41) (ls1 := [(0, .ref 136), (1, .int x0)]) (st1 := [.int 1]) (H1 := H53) (k1 := 0) (n1 := 0) (by with_unfolding_all rfl)) ?_
          rw [if_neg c58] at kk
          exact kk
  · have e := (if_neg c1).symm.trans e
    refine ex_pc (if_neg c1) ?_
    cases e
    exact ex_r (st_vret rfl rfl) hS

set_option maxRecDepth 100000 in
theorem tf232_slideRowsHere {sL : Nat} {sx : Nat → Int32} {h b N : Nat} {T : List am_C} {a' : xA} {x0 : Int32} {a : xA} {H : am_H} (hS : xS h b T a H) (e : f232_slideRowsHere N h b x0 a = some a') : am_E sL sx am_cs 232 0 [(0, .ref 136), (1, .int x0)] [] H none (fun H1 => xS h b T a' H1) := by
  unfold f232_slideRowsHere at e
  refine ex_s (am_nb (m := 1) (pc1 := 1) (ls1 := [(0, .ref 136), (1, .int x0)]) (st1 := [.ref 136]) (H1 := H) (k1 := 0) (n1 := 0) (by with_unfolding_all rfl)) ?_
  refine xe_get (v := .int (a 136 5)) hS rfl rfl (by decide) rfl ?_
  refine ex_s (am_nb (m := 1) (pc1 := 5) (ls1 := [(0, .ref 136), (1, .int x0)]) (st1 := [.ref 136, .int (a 136 5)]) (H1 := H) (k1 := 0) (n1 := 0) (by with_unfolding_all rfl)) ?_
  refine xe_get (v := .int (a 136 8)) hS rfl rfl (by decide) rfl ?_
  refine ex_s (st_icmp rfl) ?_
  by_cases c3 : (a 136 5) < (a 136 8)
  · have e := (if_pos c3).symm.trans e
    refine ex_pc (if_pos c3) ?_
    cases e
    exact ex_r (st_vret rfl rfl) hS
  · have e := (if_neg c3).symm.trans e
    refine ex_pc (if_neg c3) ?_
    refine ex_s (am_nb (m := 1) (pc1 := 12) (ls1 := [(0, .ref 136), (1, .int x0)]) (st1 := [.ref 136]) (H1 := H) (k1 := 0) (n1 := 0) (by with_unfolding_all rfl)) ?_
    refine xe_get (v := .int (a 136 5)) hS rfl rfl (by decide) rfl ?_
    refine ex_s (am_nb (m := 1) (pc1 := 16) (ls1 := [(0, .ref 136), (1, .int x0)]) (st1 := [.ref 136, .int (a 136 5)]) (H1 := H) (k1 := 0) (n1 := 0) (by with_unfolding_all rfl)) ?_
    refine xe_get (v := .int (a 136 9)) hS rfl rfl (by decide) rfl ?_
    refine ex_s (st_icmp rfl) ?_
    by_cases c5 : (a 136 9) < (a 136 5)
    · have e := (if_pos c5).symm.trans e
      refine ex_pc (if_pos c5) ?_
      cases e
      exact ex_r (st_vret rfl rfl) hS
    · have e := (if_neg c5).symm.trans e
      refine ex_pc (if_neg c5) ?_
      refine ex_s (am_nb (m := 2) (pc1 := 24) (ls1 := [(0, .ref 136), (1, .int x0)]) (st1 := [.ref 136, .ref 136]) (H1 := H) (k1 := 0) (n1 := 0) (by with_unfolding_all rfl)) ?_
      refine xe_get (v := .int (a 136 5)) hS rfl rfl (by decide) rfl ?_
      refine ex_s (am_nb (m := 1) (pc1 := 28) (ls1 := [(0, .ref 136), (1, .int x0)]) (st1 := [.ref 136, .int (a 136 5), .ref 136]) (H1 := H) (k1 := 0) (n1 := 0) (by with_unfolding_all rfl)) ?_
      refine xe_get (v := .int (a 136 9)) hS rfl rfl (by decide) rfl ?_
      refine ex_s (am_nb (m := 1) (pc1 := 32) (ls1 := [(0, .ref 136), (1, .int x0)]) (st1 := [.int x0, .int (a 136 9), .int (a 136 5), .ref 136]) (H1 := H) (k1 := 0) (n1 := 0) (by with_unfolding_all rfl)) ?_
      obtain ⟨a9, e8, e⟩ := xb1_some e
      refine ex_cv0 (as := [.int (a 136 5), .int (a 136 9), .int x0]) (rest := []) rfl rfl rfl rfl (hS.obj rfl (by decide)) rfl (by with_unfolding_all rfl) (by with_unfolding_all rfl) (tf207_slideRows hS e8) (fun H6 s7 => ?_)
      refine ex_s (am_nb (m := 2) (pc1 := 37) (ls1 := [(0, .ref 136), (1, .int x0)]) (st1 := [.ref 136, .ref 136]) (H1 := H6) (k1 := 0) (n1 := 0) (by with_unfolding_all rfl)) ?_
      refine xe_get (v := .int (a9 136 5)) s7 rfl rfl (by decide) rfl ?_
      refine ex_s (am_nb (m := 1) (pc1 := 41) (ls1 := [(0, .ref 136), (1, .int x0)]) (st1 := [.int 0, .int (a9 136 5), .ref 136]) (H1 := H6) (k1 := 0) (n1 := 0) (by with_unfolding_all rfl)) ?_
      obtain ⟨a13, e12, e⟩ := xb1_some e
      refine ex_cv0 (as := [.int (a9 136 5), .int 0]) (rest := []) rfl rfl rfl rfl (s7.obj rfl (by decide)) rfl (by with_unfolding_all rfl) (by with_unfolding_all rfl) (tf16_place s7 e12) (fun H10 s11 => ?_)
      cases e
      exact ex_r (st_vret rfl rfl) s11

set_option maxRecDepth 100000 in
theorem tf233_slideCellsHere {sL : Nat} {sx : Nat → Int32} {h b N : Nat} {T : List am_C} {a' : xA} {x0 : Int32} {a : xA} {H : am_H} (hS : xS h b T a H) (e : f233_slideCellsHere N h b x0 a = some a') : am_E sL sx am_cs 233 0 [(0, .ref 136), (1, .int x0)] [] H none (fun H1 => xS h b T a' H1) := by
  unfold f233_slideCellsHere at e
  refine ex_s (am_nb (m := 1) (pc1 := 1) (ls1 := [(0, .ref 136), (1, .int x0)]) (st1 := [.ref 136]) (H1 := H) (k1 := 0) (n1 := 0) (by with_unfolding_all rfl)) ?_
  refine xe_get (v := .ref 138) hS rfl rfl (by decide) rfl ?_
  refine ex_s (am_nb (m := 1) (pc1 := 5) (ls1 := [(0, .ref 136), (1, .int x0)]) (st1 := [.ref 136, .ref 138]) (H1 := H) (k1 := 0) (n1 := 0) (by with_unfolding_all rfl)) ?_
  obtain ⟨r4, a5, e3, e⟩ := xb2_some e
  refine ex_cv1 (as := []) (rest := [.ref 138]) rfl rfl rfl rfl (hS.obj rfl (by decide)) rfl (by with_unfolding_all rfl) (by with_unfolding_all rfl) (tf208_here hS e3) (fun H1 s2 => ?_)
  refine ex_s (am_nb (m := 1) (pc1 := 9) (ls1 := [(0, .ref 136), (1, .int x0)]) (st1 := [.ref 136, .int r4, .ref 138]) (H1 := H1) (k1 := 0) (n1 := 0) (by with_unfolding_all rfl)) ?_
  obtain ⟨r9, a10, e8, e⟩ := xb2_some e
  refine ex_cv1 (as := []) (rest := [.int r4, .ref 138]) rfl rfl rfl rfl (s2.obj rfl (by decide)) rfl (by with_unfolding_all rfl) (by with_unfolding_all rfl) (tf17_last s2 e8) (fun H6 s7 => ?_)
  refine ex_s (am_nb (m := 1) (pc1 := 13) (ls1 := [(0, .ref 136), (1, .int x0)]) (st1 := [.ref 136, .int r9, .int r4, .ref 138]) (H1 := H6) (k1 := 0) (n1 := 0) (by with_unfolding_all rfl)) ?_
  refine xe_get (v := .int (a10 136 6)) s7 rfl rfl (by decide) rfl ?_
  refine ex_s (am_nb (m := 5) (pc1 := 22) (ls1 := [(0, .ref 136), (1, .int x0)]) (st1 := [.int 32, .int x0, .int ((r9 - (a10 136 6)) + 1), .int r4, .ref 138]) (H1 := H6) (k1 := 0) (n1 := 0) (by with_unfolding_all rfl)) ?_
  obtain ⟨a14, e13, e⟩ := xb1_some e
  refine ex_cs0 (as := [.ref 138, .int r4, .int ((r9 - (a10 136 6)) + 1), .int x0, .int 32]) (rest := []) rfl (by decide) rfl rfl (by with_unfolding_all rfl) (by with_unfolding_all rfl) (tf108_slide s7 e13) (fun H11 s12 => ?_)
  refine ex_s (am_nb (m := 2) (pc1 := 27) (ls1 := [(0, .ref 136), (1, .int x0)]) (st1 := [.int 0, .ref 136]) (H1 := H11) (k1 := 0) (n1 := 0) (by with_unfolding_all rfl)) ?_
  obtain ⟨a15, ha15, e⟩ := xw_some e
  refine xe_put (w := 0) s12 rfl rfl (by decide) rfl rfl rfl rfl (fun H16 s17 => ?_)
  have s17 : xS h b T a15 H16 := by rw [ha15]; exact s17
  cases e
  exact ex_r (st_vret rfl rfl) s17

set_option maxRecDepth 100000 in
theorem tf234_blankCellsHere {sL : Nat} {sx : Nat → Int32} {h b N : Nat} {T : List am_C} {a' : xA} {x0 : Int32} {a : xA} {H : am_H} (hS : xS h b T a H) (e : f234_blankCellsHere N h b x0 a = some a') : am_E sL sx am_cs 234 0 [(0, .ref 136), (1, .int x0)] [] H none (fun H1 => xS h b T a' H1) := by
  unfold f234_blankCellsHere at e
  refine ex_s (am_nb (m := 2) (pc1 := 2) (ls1 := [(0, .ref 136), (1, .int x0)]) (st1 := [.ref 136, .int x0]) (H1 := H) (k1 := 0) (n1 := 0) (by with_unfolding_all rfl)) ?_
  obtain ⟨r4, a5, e3, e⟩ := xb2_some e
  refine ex_cv1 (as := []) (rest := [.int x0]) rfl rfl rfl rfl (hS.obj rfl (by decide)) rfl (by with_unfolding_all rfl) (by with_unfolding_all rfl) (tf17_last hS e3) (fun H1 s2 => ?_)
  refine ex_s (am_nb (m := 1) (pc1 := 6) (ls1 := [(0, .ref 136), (1, .int x0)]) (st1 := [.ref 136, .int r4, .int x0]) (H1 := H1) (k1 := 0) (n1 := 0) (by with_unfolding_all rfl)) ?_
  refine xe_get (v := .int (a5 136 6)) s2 rfl rfl (by decide) rfl ?_
  refine ex_s (am_nb (m := 6) (pc1 := 17) (ls1 := [(2, .int (xmin x0 ((r4 - (a5 136 6)) + 1))), (0, .ref 136), (1, .int x0)]) (st1 := [.ref 136]) (H1 := H1) (k1 := 0) (n1 := 0) (by with_unfolding_all rfl)) ?_
  refine xe_get (v := .ref 138) s2 rfl rfl (by decide) rfl ?_
  refine ex_s (am_nb (m := 1) (pc1 := 21) (ls1 := [(2, .int (xmin x0 ((r4 - (a5 136 6)) + 1))), (0, .ref 136), (1, .int x0)]) (st1 := [.ref 136, .ref 138]) (H1 := H1) (k1 := 0) (n1 := 0) (by with_unfolding_all rfl)) ?_
  obtain ⟨r9, a10, e8, e⟩ := xb2_some e
  refine ex_cv1 (as := []) (rest := [.ref 138]) rfl rfl rfl rfl (s2.obj rfl (by decide)) rfl (by with_unfolding_all rfl) (by with_unfolding_all rfl) (tf208_here s2 e8) (fun H6 s7 => ?_)
  refine ex_s (am_nb (m := 1) (pc1 := 25) (ls1 := [(2, .int (xmin x0 ((r4 - (a5 136 6)) + 1))), (0, .ref 136), (1, .int x0)]) (st1 := [.ref 136, .int r9, .ref 138]) (H1 := H6) (k1 := 0) (n1 := 0) (by with_unfolding_all rfl)) ?_
  obtain ⟨r14, a15, e13, e⟩ := xb2_some e
  refine ex_cv1 (as := []) (rest := [.int r9, .ref 138]) rfl rfl rfl rfl (s7.obj rfl (by decide)) rfl (by with_unfolding_all rfl) (by with_unfolding_all rfl) (tf208_here s7 e13) (fun H11 s12 => ?_)
  refine ex_s (am_nb (m := 3) (pc1 := 32) (ls1 := [(2, .int (xmin x0 ((r4 - (a5 136 6)) + 1))), (0, .ref 136), (1, .int x0)]) (st1 := [.int 32, .int (r14 + (xmin x0 ((r4 - (a5 136 6)) + 1))), .int r9, .ref 138]) (H1 := H11) (k1 := 0) (n1 := 0) (by with_unfolding_all rfl)) ?_
  obtain ⟨a19, e18, e⟩ := xb1_some e
  refine ex_cs0 (as := [.ref 138, .int r9, .int (r14 + (xmin x0 ((r4 - (a5 136 6)) + 1))), .int 32]) (rest := []) rfl (by decide) rfl rfl (by with_unfolding_all rfl) (by with_unfolding_all rfl) (tf14_fill s12 e18) (fun H16 s17 => ?_)
  refine ex_s (am_nb (m := 2) (pc1 := 37) (ls1 := [(2, .int (xmin x0 ((r4 - (a5 136 6)) + 1))), (0, .ref 136), (1, .int x0)]) (st1 := [.int 0, .ref 136]) (H1 := H16) (k1 := 0) (n1 := 0) (by with_unfolding_all rfl)) ?_
  obtain ⟨a20, ha20, e⟩ := xw_some e
  refine xe_put (w := 0) s17 rfl rfl (by decide) rfl rfl rfl rfl (fun H21 s22 => ?_)
  have s22 : xS h b T a20 H21 := by rw [ha20]; exact s22
  cases e
  exact ex_r (st_vret rfl rfl) s22

set_option maxRecDepth 100000 in
theorem tf235_setMargins {sL : Nat} {sx : Nat → Int32} {h b N : Nat} {T : List am_C} {a' : xA} {x0 : Int32} {x1 : Int32} {a : xA} {H : am_H} (hS : xS h b T a H) (e : f235_setMargins N h b x0 x1 a = some a') : am_E sL sx am_cs 235 0 [(0, .ref 136), (1, .int x0), (2, .int x1)] [] H none (fun H1 => xS h b T a' H1) := by
  unfold f235_setMargins at e
  refine ex_s (am_nb (m := 2) (pc1 := 2) (ls1 := [(0, .ref 136), (1, .int x0), (2, .int x1)]) (st1 := [.int x1, .int x0]) (H1 := H) (k1 := 0) (n1 := 0) (by with_unfolding_all rfl)) ?_
  refine ex_s (st_icmp rfl) ?_
  by_cases c3 : x1 ≤ x0
  · have e := (if_pos c3).symm.trans e
    refine ex_pc (if_pos c3) ?_
    cases e
    exact ex_r (st_vret rfl rfl) hS
  · have e := (if_neg c3).symm.trans e
    refine ex_pc (if_neg c3) ?_
    refine ex_s (am_nb (m := 2) (pc1 := 7) (ls1 := [(0, .ref 136), (1, .int x0), (2, .int x1)]) (st1 := [.ref 136, .int x1]) (H1 := H) (k1 := 0) (n1 := 0) (by with_unfolding_all rfl)) ?_
    refine xe_get (v := .int (a 136 0)) hS rfl rfl (by decide) rfl ?_
    refine ex_s (st_icmp rfl) ?_
    by_cases c5 : (a 136 0) < x1
    · have e := (if_pos c5).symm.trans e
      refine ex_pc (if_pos c5) ?_
      cases e
      exact ex_r (st_vret rfl rfl) hS
    · have e := (if_neg c5).symm.trans e
      refine ex_pc (if_neg c5) ?_
      refine ex_s (am_nb (m := 4) (pc1 := 17) (ls1 := [(0, .ref 136), (1, .int x0), (2, .int x1)]) (st1 := [.int (x0 - 1), .ref 136]) (H1 := H) (k1 := 0) (n1 := 0) (by with_unfolding_all rfl)) ?_
      obtain ⟨a6, ha6, e⟩ := xw_some e
      refine xe_put (w := (x0 - 1)) hS rfl rfl (by decide) rfl rfl rfl rfl (fun H7 s8 => ?_)
      have s8 : xS h b T a6 H7 := by rw [ha6]; exact s8
      refine ex_s (am_nb (m := 4) (pc1 := 24) (ls1 := [(0, .ref 136), (1, .int x0), (2, .int x1)]) (st1 := [.int (x1 - 1), .ref 136]) (H1 := H7) (k1 := 0) (n1 := 0) (by with_unfolding_all rfl)) ?_
      obtain ⟨a9, ha9, e⟩ := xw_some e
      refine xe_put (w := (x1 - 1)) s8 rfl rfl (by decide) rfl rfl rfl rfl (fun H10 s11 => ?_)
      have s11 : xS h b T a9 H10 := by rw [ha9]; exact s11
      refine ex_s (am_nb (m := 3) (pc1 := 31) (ls1 := [(0, .ref 136), (1, .int x0), (2, .int x1)]) (st1 := [.int 16, .ref 136, .ref 136]) (H1 := H10) (k1 := 0) (n1 := 0) (by with_unfolding_all rfl)) ?_
      obtain ⟨r15, a16, e14, e⟩ := xb2_some e
      refine ex_cv1 (as := [.int 16]) (rest := [.ref 136]) rfl rfl rfl rfl (s11.obj rfl (by decide)) rfl (by with_unfolding_all rfl) (by with_unfolding_all rfl) (tf197_has s11 e14) (fun H12 s13 => ?_)
      have kk : am_E sL sx am_cs 235 45 [(0, .ref 136), (1, .int x0), (2, .int x1)] [.int (if r15 = 0 then (0 : Int32) else (a16 136 8)), .ref 136] H12 none (fun H1 => xS h b T a' H1) := by
        refine ex_s (am_nb (m := 1) (pc1 := 46) (ls1 := [(0, .ref 136), (1, .int x0), (2, .int x1)]) (st1 := [.int 0, .int (if r15 = 0 then (0 : Int32) else (a16 136 8)), .ref 136]) (H1 := H12) (k1 := 0) (n1 := 0) (by with_unfolding_all rfl)) ?_
        obtain ⟨a21, e20, e⟩ := xb1_some e
        refine ex_cv0 (as := [.int (if r15 = 0 then (0 : Int32) else (a16 136 8)), .int 0]) (rest := []) rfl rfl rfl rfl (s13.obj rfl (by decide)) rfl (by with_unfolding_all rfl) (by with_unfolding_all rfl) (tf16_place s13 e20) (fun H18 s19 => ?_)
        cases e
        exact ex_r (st_vret rfl rfl) s19
      refine ex_s (st_if rfl) ?_
      by_cases c17 : r15 = 0
      · refine ex_pc (if_pos c17) ?_
        refine ex_s (am_nb (m := 1) (pc1 := 45) (ls1 := [(0, .ref 136), (1, .int x0), (2, .int x1)]) (st1 := [.int 0, .ref 136]) (H1 := H12) (k1 := 0) (n1 := 0) (by with_unfolding_all rfl)) ?_
        rw [if_pos c17] at kk
        exact kk
      · refine ex_pc (if_neg c17) ?_
        refine ex_s (am_nb (m := 1) (pc1 := 38) (ls1 := [(0, .ref 136), (1, .int x0), (2, .int x1)]) (st1 := [.ref 136, .ref 136]) (H1 := H12) (k1 := 0) (n1 := 0) (by with_unfolding_all rfl)) ?_
        refine xe_get (v := .int (a16 136 8)) s13 rfl rfl (by decide) rfl ?_
        refine ex_s (am_nb (m := 1) (pc1 := 45) (ls1 := [(0, .ref 136), (1, .int x0), (2, .int x1)]) (st1 := [.int (a16 136 8), .ref 136]) (H1 := H12) (k1 := 0) (n1 := 0) (by with_unfolding_all rfl)) ?_
        rw [if_neg c17] at kk
        exact kk

set_option maxRecDepth 100000 in
theorem tj237_288 {sL : Nat} {sx : Nat → Int32} {h b N : Nat} {T : List am_C} {R : Option Value} {F : am_H → Prop} {z : Nat × xA} {rc : Int32 → xA → Option (Nat × xA)} (k0 : z.1 = 0 → ∀ H2 : am_H, xS h b T z.2 H2 → am_E sL sx am_cs 237 294 [] [] H2 R F) (ih : ∀ (v1 : Int32) (a : xA) (H : am_H), xS h b T a H → rc v1 a = some z → am_E sL sx am_cs 237 2 [(0, .ref 129), (1, .int v1)] [] H R F) {q1 : Int32} {a : xA} {H : am_H} (hS : xS h b T a H) (e : j237_288 N h b rc q1 a = some z) : am_E sL sx am_cs 237 288 [(0, .ref 129), (1, .int q1)] [] H R F := by
  unfold j237_288 at e
  refine ex_s (am_nb (m := 2) (pc1 := 2) (ls1 := [(1, .int (q1 + 1)), (0, .ref 129)]) (st1 := []) (H1 := H) (k1 := 0) (n1 := 0) (by with_unfolding_all rfl)) ?_
  exact le_E (l1 := [(0, .ref 129), (1, .int (q1 + 1))]) ⟨rfl, rfl, trivial⟩ rfl (ih (q1 + 1) a H hS e)

set_option maxRecDepth 100000 in
theorem tl237_2 {sL : Nat} {sx : Nat → Int32} {h b N : Nat} {T : List am_C} {R : Option Value} {F : am_H → Prop} {z : Nat × xA} (k0 : z.1 = 0 → ∀ H2 : am_H, xS h b T z.2 H2 → am_E sL sx am_cs 237 294 [] [] H2 R F) : ∀ (n : Nat) (v1 : Int32) (a : xA) (H : am_H), xS h b T a H → l237_2 N h b n v1 a = some z → am_E sL sx am_cs 237 2 [(0, .ref 129), (1, .int v1)] [] H R F := by
  intro n
  induction n with
  | zero =>
    intro v1 a H hS e
    cases e
  | succ n ih =>
    intro v1 a H hS e
    unfold l237_2 at e
    refine ex_s (am_nb (m := 2) (pc1 := 4) (ls1 := [(0, .ref 129), (1, .int v1)]) (st1 := [.ref 129, .int v1]) (H1 := H) (k1 := 0) (n1 := 0) (by with_unfolding_all rfl)) ?_
    refine xe_get (v := .int (a 129 12)) hS rfl rfl (by decide) rfl ?_
    refine ex_s (st_icmp rfl) ?_
    by_cases c1 : (a 129 12) ≤ v1
    · have e := (if_pos c1).symm.trans e
      refine ex_pc (if_pos c1) ?_
      cases e
      exact le_E (l1 := []) trivial rfl (k0 rfl H hS)
    · have e := (if_neg c1).symm.trans e
      refine ex_pc (if_neg c1) ?_
      refine ex_s (am_nb (m := 1) (pc1 := 11) (ls1 := [(0, .ref 129), (1, .int v1)]) (st1 := [.ref 129]) (H1 := H) (k1 := 0) (n1 := 0) (by with_unfolding_all rfl)) ?_
      refine xe_get (v := .ref 135) hS rfl rfl (by decide) rfl ?_
      refine ex_s (am_nb (m := 1) (pc1 := 15) (ls1 := [(0, .ref 129), (1, .int v1)]) (st1 := [.int v1, .ref 135]) (H1 := H) (k1 := 0) (n1 := 0) (by with_unfolding_all rfl)) ?_
      obtain ⟨g2, e⟩ := xg_some e
      refine xe_iald hS rfl rfl g2 ?_
      refine ex_s (st_tsw rfl) ?_
      by_cases c3 : (a 135 (v1.toNatClampNeg)) = 0
      · have e := (if_pos c3).symm.trans e
        refine ex_pc (pc1 := 144) (by rw [c3]; with_unfolding_all rfl) ?_
        refine ex_s (am_nb (m := 1) (pc1 := 145) (ls1 := [(0, .ref 129), (1, .int v1)]) (st1 := [.ref 129]) (H1 := H) (k1 := 0) (n1 := 0) (by with_unfolding_all rfl)) ?_
        refine xe_get (v := .ref 136) hS rfl rfl (by decide) rfl ?_
        refine ex_s (am_nb (m := 1) (pc1 := 149) (ls1 := [(0, .ref 129), (1, .int v1)]) (st1 := [.int 0, .ref 136]) (H1 := H) (k1 := 0) (n1 := 0) (by with_unfolding_all rfl)) ?_
        obtain ⟨a4, ha4, e⟩ := xw_some e
        refine xe_put (w := 0) hS rfl rfl (by decide) rfl rfl rfl rfl (fun H5 s6 => ?_)
        have s6 : xS h b T a4 H5 := by rw [ha4]; exact s6
        refine ex_s (am_nb (m := 1) (pc1 := 288) (ls1 := [(0, .ref 129), (1, .int v1)]) (st1 := []) (H1 := H5) (k1 := 0) (n1 := 0) (by with_unfolding_all rfl)) ?_
        exact le_E (l1 := [(0, .ref 129), (1, .int v1)]) ⟨rfl, rfl, trivial⟩ rfl (tj237_288 k0 ih  s6 e)
      · have e := (if_neg c3).symm.trans e
        by_cases c7 : (a 135 (v1.toNatClampNeg)) = 1
        · have e := (if_pos c7).symm.trans e
          refine ex_pc (pc1 := 155) (by rw [c7]; with_unfolding_all rfl) ?_
          refine ex_s (am_nb (m := 1) (pc1 := 156) (ls1 := [(0, .ref 129), (1, .int v1)]) (st1 := [.ref 129]) (H1 := H) (k1 := 0) (n1 := 0) (by with_unfolding_all rfl)) ?_
          refine xe_get (v := .ref 136) hS rfl rfl (by decide) rfl ?_
          refine ex_s (am_nb (m := 1) (pc1 := 160) (ls1 := [(0, .ref 129), (1, .int v1)]) (st1 := [.ref 136, .ref 136]) (H1 := H) (k1 := 0) (n1 := 0) (by with_unfolding_all rfl)) ?_
          refine xe_get (v := .int (a 136 11)) hS rfl rfl (by decide) rfl ?_
          refine ex_s (am_nb (m := 2) (pc1 := 165) (ls1 := [(0, .ref 129), (1, .int v1)]) (st1 := [.int ((a 136 11) ||| 1), .ref 136]) (H1 := H) (k1 := 0) (n1 := 0) (by with_unfolding_all rfl)) ?_
          obtain ⟨a8, ha8, e⟩ := xw_some e
          refine xe_put (w := ((a 136 11) ||| 1)) hS rfl rfl (by decide) rfl rfl rfl rfl (fun H9 s10 => ?_)
          have s10 : xS h b T a8 H9 := by rw [ha8]; exact s10
          refine ex_s (am_nb (m := 1) (pc1 := 288) (ls1 := [(0, .ref 129), (1, .int v1)]) (st1 := []) (H1 := H9) (k1 := 0) (n1 := 0) (by with_unfolding_all rfl)) ?_
          exact le_E (l1 := [(0, .ref 129), (1, .int v1)]) ⟨rfl, rfl, trivial⟩ rfl (tj237_288 k0 ih  s10 e)
        · have e := (if_neg c7).symm.trans e
          by_cases c11 : (a 135 (v1.toNatClampNeg)) = 4
          · have e := (if_pos c11).symm.trans e
            refine ex_pc (pc1 := 171) (by rw [c11]; with_unfolding_all rfl) ?_
            refine ex_s (am_nb (m := 1) (pc1 := 172) (ls1 := [(0, .ref 129), (1, .int v1)]) (st1 := [.ref 129]) (H1 := H) (k1 := 0) (n1 := 0) (by with_unfolding_all rfl)) ?_
            refine xe_get (v := .ref 136) hS rfl rfl (by decide) rfl ?_
            refine ex_s (am_nb (m := 1) (pc1 := 176) (ls1 := [(0, .ref 129), (1, .int v1)]) (st1 := [.ref 136, .ref 136]) (H1 := H) (k1 := 0) (n1 := 0) (by with_unfolding_all rfl)) ?_
            refine xe_get (v := .int (a 136 11)) hS rfl rfl (by decide) rfl ?_
            refine ex_s (am_nb (m := 2) (pc1 := 181) (ls1 := [(0, .ref 129), (1, .int v1)]) (st1 := [.int ((a 136 11) ||| 2), .ref 136]) (H1 := H) (k1 := 0) (n1 := 0) (by with_unfolding_all rfl)) ?_
            obtain ⟨a12, ha12, e⟩ := xw_some e
            refine xe_put (w := ((a 136 11) ||| 2)) hS rfl rfl (by decide) rfl rfl rfl rfl (fun H13 s14 => ?_)
            have s14 : xS h b T a12 H13 := by rw [ha12]; exact s14
            refine ex_s (am_nb (m := 1) (pc1 := 288) (ls1 := [(0, .ref 129), (1, .int v1)]) (st1 := []) (H1 := H13) (k1 := 0) (n1 := 0) (by with_unfolding_all rfl)) ?_
            exact le_E (l1 := [(0, .ref 129), (1, .int v1)]) ⟨rfl, rfl, trivial⟩ rfl (tj237_288 k0 ih  s14 e)
          · have e := (if_neg c11).symm.trans e
            by_cases c15 : (a 135 (v1.toNatClampNeg)) = 5
            · have e := (if_pos c15).symm.trans e
              refine ex_pc (pc1 := 187) (by rw [c15]; with_unfolding_all rfl) ?_
              refine ex_s (am_nb (m := 1) (pc1 := 188) (ls1 := [(0, .ref 129), (1, .int v1)]) (st1 := [.ref 129]) (H1 := H) (k1 := 0) (n1 := 0) (by with_unfolding_all rfl)) ?_
              refine xe_get (v := .ref 136) hS rfl rfl (by decide) rfl ?_
              refine ex_s (am_nb (m := 1) (pc1 := 192) (ls1 := [(0, .ref 129), (1, .int v1)]) (st1 := [.ref 136, .ref 136]) (H1 := H) (k1 := 0) (n1 := 0) (by with_unfolding_all rfl)) ?_
              refine xe_get (v := .int (a 136 11)) hS rfl rfl (by decide) rfl ?_
              refine ex_s (am_nb (m := 2) (pc1 := 197) (ls1 := [(0, .ref 129), (1, .int v1)]) (st1 := [.int ((a 136 11) ||| 4), .ref 136]) (H1 := H) (k1 := 0) (n1 := 0) (by with_unfolding_all rfl)) ?_
              obtain ⟨a16, ha16, e⟩ := xw_some e
              refine xe_put (w := ((a 136 11) ||| 4)) hS rfl rfl (by decide) rfl rfl rfl rfl (fun H17 s18 => ?_)
              have s18 : xS h b T a16 H17 := by rw [ha16]; exact s18
              refine ex_s (am_nb (m := 1) (pc1 := 288) (ls1 := [(0, .ref 129), (1, .int v1)]) (st1 := []) (H1 := H17) (k1 := 0) (n1 := 0) (by with_unfolding_all rfl)) ?_
              exact le_E (l1 := [(0, .ref 129), (1, .int v1)]) ⟨rfl, rfl, trivial⟩ rfl (tj237_288 k0 ih  s18 e)
            · have e := (if_neg c15).symm.trans e
              by_cases c19 : (a 135 (v1.toNatClampNeg)) = 7
              · have e := (if_pos c19).symm.trans e
                refine ex_pc (pc1 := 203) (by rw [c19]; with_unfolding_all rfl) ?_
                refine ex_s (am_nb (m := 1) (pc1 := 204) (ls1 := [(0, .ref 129), (1, .int v1)]) (st1 := [.ref 129]) (H1 := H) (k1 := 0) (n1 := 0) (by with_unfolding_all rfl)) ?_
                refine xe_get (v := .ref 136) hS rfl rfl (by decide) rfl ?_
                refine ex_s (am_nb (m := 1) (pc1 := 208) (ls1 := [(0, .ref 129), (1, .int v1)]) (st1 := [.ref 136, .ref 136]) (H1 := H) (k1 := 0) (n1 := 0) (by with_unfolding_all rfl)) ?_
                refine xe_get (v := .int (a 136 11)) hS rfl rfl (by decide) rfl ?_
                refine ex_s (am_nb (m := 2) (pc1 := 214) (ls1 := [(0, .ref 129), (1, .int v1)]) (st1 := [.int ((a 136 11) ||| 8), .ref 136]) (H1 := H) (k1 := 0) (n1 := 0) (by with_unfolding_all rfl)) ?_
                obtain ⟨a20, ha20, e⟩ := xw_some e
                refine xe_put (w := ((a 136 11) ||| 8)) hS rfl rfl (by decide) rfl rfl rfl rfl (fun H21 s22 => ?_)
                have s22 : xS h b T a20 H21 := by rw [ha20]; exact s22
                refine ex_s (am_nb (m := 1) (pc1 := 288) (ls1 := [(0, .ref 129), (1, .int v1)]) (st1 := []) (H1 := H21) (k1 := 0) (n1 := 0) (by with_unfolding_all rfl)) ?_
                exact le_E (l1 := [(0, .ref 129), (1, .int v1)]) ⟨rfl, rfl, trivial⟩ rfl (tj237_288 k0 ih  s22 e)
              · have e := (if_neg c19).symm.trans e
                by_cases c23 : (a 135 (v1.toNatClampNeg)) = 22
                · have e := (if_pos c23).symm.trans e
                  refine ex_pc (pc1 := 220) (by rw [c23]; with_unfolding_all rfl) ?_
                  refine ex_s (am_nb (m := 1) (pc1 := 221) (ls1 := [(0, .ref 129), (1, .int v1)]) (st1 := [.ref 129]) (H1 := H) (k1 := 0) (n1 := 0) (by with_unfolding_all rfl)) ?_
                  refine xe_get (v := .ref 136) hS rfl rfl (by decide) rfl ?_
                  refine ex_s (am_nb (m := 1) (pc1 := 225) (ls1 := [(0, .ref 129), (1, .int v1)]) (st1 := [.ref 136, .ref 136]) (H1 := H) (k1 := 0) (n1 := 0) (by with_unfolding_all rfl)) ?_
                  refine xe_get (v := .int (a 136 11)) hS rfl rfl (by decide) rfl ?_
                  refine ex_s (am_nb (m := 2) (pc1 := 231) (ls1 := [(0, .ref 129), (1, .int v1)]) (st1 := [.int ((a 136 11) &&& (-2)), .ref 136]) (H1 := H) (k1 := 0) (n1 := 0) (by with_unfolding_all rfl)) ?_
                  obtain ⟨a24, ha24, e⟩ := xw_some e
                  refine xe_put (w := ((a 136 11) &&& (-2))) hS rfl rfl (by decide) rfl rfl rfl rfl (fun H25 s26 => ?_)
                  have s26 : xS h b T a24 H25 := by rw [ha24]; exact s26
                  refine ex_s (am_nb (m := 1) (pc1 := 288) (ls1 := [(0, .ref 129), (1, .int v1)]) (st1 := []) (H1 := H25) (k1 := 0) (n1 := 0) (by with_unfolding_all rfl)) ?_
                  exact le_E (l1 := [(0, .ref 129), (1, .int v1)]) ⟨rfl, rfl, trivial⟩ rfl (tj237_288 k0 ih  s26 e)
                · have e := (if_neg c23).symm.trans e
                  by_cases c27 : (a 135 (v1.toNatClampNeg)) = 24
                  · have e := (if_pos c27).symm.trans e
                    refine ex_pc (pc1 := 237) (by rw [c27]; with_unfolding_all rfl) ?_
                    refine ex_s (am_nb (m := 1) (pc1 := 238) (ls1 := [(0, .ref 129), (1, .int v1)]) (st1 := [.ref 129]) (H1 := H) (k1 := 0) (n1 := 0) (by with_unfolding_all rfl)) ?_
                    refine xe_get (v := .ref 136) hS rfl rfl (by decide) rfl ?_
                    refine ex_s (am_nb (m := 1) (pc1 := 242) (ls1 := [(0, .ref 129), (1, .int v1)]) (st1 := [.ref 136, .ref 136]) (H1 := H) (k1 := 0) (n1 := 0) (by with_unfolding_all rfl)) ?_
                    refine xe_get (v := .int (a 136 11)) hS rfl rfl (by decide) rfl ?_
                    refine ex_s (am_nb (m := 2) (pc1 := 248) (ls1 := [(0, .ref 129), (1, .int v1)]) (st1 := [.int ((a 136 11) &&& (-3)), .ref 136]) (H1 := H) (k1 := 0) (n1 := 0) (by with_unfolding_all rfl)) ?_
                    obtain ⟨a28, ha28, e⟩ := xw_some e
                    refine xe_put (w := ((a 136 11) &&& (-3))) hS rfl rfl (by decide) rfl rfl rfl rfl (fun H29 s30 => ?_)
                    have s30 : xS h b T a28 H29 := by rw [ha28]; exact s30
                    refine ex_s (am_nb (m := 1) (pc1 := 288) (ls1 := [(0, .ref 129), (1, .int v1)]) (st1 := []) (H1 := H29) (k1 := 0) (n1 := 0) (by with_unfolding_all rfl)) ?_
                    exact le_E (l1 := [(0, .ref 129), (1, .int v1)]) ⟨rfl, rfl, trivial⟩ rfl (tj237_288 k0 ih  s30 e)
                  · have e := (if_neg c27).symm.trans e
                    by_cases c31 : (a 135 (v1.toNatClampNeg)) = 25
                    · have e := (if_pos c31).symm.trans e
                      refine ex_pc (pc1 := 254) (by rw [c31]; with_unfolding_all rfl) ?_
                      refine ex_s (am_nb (m := 1) (pc1 := 255) (ls1 := [(0, .ref 129), (1, .int v1)]) (st1 := [.ref 129]) (H1 := H) (k1 := 0) (n1 := 0) (by with_unfolding_all rfl)) ?_
                      refine xe_get (v := .ref 136) hS rfl rfl (by decide) rfl ?_
                      refine ex_s (am_nb (m := 1) (pc1 := 259) (ls1 := [(0, .ref 129), (1, .int v1)]) (st1 := [.ref 136, .ref 136]) (H1 := H) (k1 := 0) (n1 := 0) (by with_unfolding_all rfl)) ?_
                      refine xe_get (v := .int (a 136 11)) hS rfl rfl (by decide) rfl ?_
                      refine ex_s (am_nb (m := 2) (pc1 := 265) (ls1 := [(0, .ref 129), (1, .int v1)]) (st1 := [.int ((a 136 11) &&& (-5)), .ref 136]) (H1 := H) (k1 := 0) (n1 := 0) (by with_unfolding_all rfl)) ?_
                      obtain ⟨a32, ha32, e⟩ := xw_some e
                      refine xe_put (w := ((a 136 11) &&& (-5))) hS rfl rfl (by decide) rfl rfl rfl rfl (fun H33 s34 => ?_)
                      have s34 : xS h b T a32 H33 := by rw [ha32]; exact s34
                      refine ex_s (am_nb (m := 1) (pc1 := 288) (ls1 := [(0, .ref 129), (1, .int v1)]) (st1 := []) (H1 := H33) (k1 := 0) (n1 := 0) (by with_unfolding_all rfl)) ?_
                      exact le_E (l1 := [(0, .ref 129), (1, .int v1)]) ⟨rfl, rfl, trivial⟩ rfl (tj237_288 k0 ih  s34 e)
                    · have e := (if_neg c31).symm.trans e
                      by_cases c35 : (a 135 (v1.toNatClampNeg)) = 27
                      · have e := (if_pos c35).symm.trans e
                        refine ex_pc (pc1 := 271) (by rw [c35]; with_unfolding_all rfl) ?_
                        refine ex_s (am_nb (m := 1) (pc1 := 272) (ls1 := [(0, .ref 129), (1, .int v1)]) (st1 := [.ref 129]) (H1 := H) (k1 := 0) (n1 := 0) (by with_unfolding_all rfl)) ?_
                        refine xe_get (v := .ref 136) hS rfl rfl (by decide) rfl ?_
                        refine ex_s (am_nb (m := 1) (pc1 := 276) (ls1 := [(0, .ref 129), (1, .int v1)]) (st1 := [.ref 136, .ref 136]) (H1 := H) (k1 := 0) (n1 := 0) (by with_unfolding_all rfl)) ?_
                        refine xe_get (v := .int (a 136 11)) hS rfl rfl (by decide) rfl ?_
                        refine ex_s (am_nb (m := 2) (pc1 := 282) (ls1 := [(0, .ref 129), (1, .int v1)]) (st1 := [.int ((a 136 11) &&& (-9)), .ref 136]) (H1 := H) (k1 := 0) (n1 := 0) (by with_unfolding_all rfl)) ?_
                        obtain ⟨a36, ha36, e⟩ := xw_some e
                        refine xe_put (w := ((a 136 11) &&& (-9))) hS rfl rfl (by decide) rfl rfl rfl rfl (fun H37 s38 => ?_)
                        have s38 : xS h b T a36 H37 := by rw [ha36]; exact s38
                        refine ex_s (am_nb (m := 1) (pc1 := 288) (ls1 := [(0, .ref 129), (1, .int v1)]) (st1 := []) (H1 := H37) (k1 := 0) (n1 := 0) (by with_unfolding_all rfl)) ?_
                        exact le_E (l1 := [(0, .ref 129), (1, .int v1)]) ⟨rfl, rfl, trivial⟩ rfl (tj237_288 k0 ih  s38 e)
                      · have e := (if_neg c35).symm.trans e
                        refine ex_pc (pc1 := 288) (am_sw_n (sw_c (Or.inl c3) (sw_c (Or.inl c7) (sw_c (Or.inr rfl) (sw_c (Or.inr rfl) (sw_c (Or.inl c11) (sw_c (Or.inl c15) (sw_c (Or.inr rfl) (sw_c (Or.inl c19) (sw_c (Or.inr rfl) (sw_c (Or.inr rfl) (sw_c (Or.inr rfl) (sw_c (Or.inr rfl) (sw_c (Or.inr rfl) (sw_c (Or.inr rfl) (sw_c (Or.inr rfl) (sw_c (Or.inr rfl) (sw_c (Or.inr rfl) (sw_c (Or.inr rfl) (sw_c (Or.inr rfl) (sw_c (Or.inr rfl) (sw_c (Or.inr rfl) (sw_c (Or.inr rfl) (sw_c (Or.inl c23) (sw_c (Or.inr rfl) (sw_c (Or.inl c27) (sw_c (Or.inl c31) (sw_c (Or.inr rfl) (sw_c (Or.inl c35) sw_o))))))))))))))))))))))))))))) ?_
                        exact le_E (l1 := [(0, .ref 129), (1, .int v1)]) ⟨rfl, rfl, trivial⟩ rfl (tj237_288 k0 ih  hS e)

set_option maxRecDepth 100000 in
theorem tf237_dressByNumbers {sL : Nat} {sx : Nat → Int32} {h b N : Nat} {T : List am_C} {a' : xA} {a : xA} {H : am_H} (hS : xS h b T a H) (e : f237_dressByNumbers N h b a = some a') : am_E sL sx am_cs 237 0 [(0, .ref 129)] [] H none (fun H1 => xS h b T a' H1) := by
  unfold f237_dressByNumbers at e
  refine ex_s (am_nb (m := 2) (pc1 := 2) (ls1 := [(1, .int 0), (0, .ref 129)]) (st1 := []) (H1 := H) (k1 := 0) (n1 := 0) (by with_unfolding_all rfl)) ?_
  obtain ⟨z39, e40, e⟩ := Option.bind_eq_some_iff.mp e
  refine le_E (l1 := [(0, .ref 129), (1, .int 0)]) ⟨rfl, rfl, trivial⟩ rfl (tl237_2 (z := z39)  (fun uz39_0 Hz390 sz390 => ?_) N 0 a H hS e40)
  cases e
  exact ex_r (st_vret rfl rfl) sz390

set_option maxRecDepth 100000 in
theorem tj238_54 {sL : Nat} {sx : Nat → Int32} {h b N : Nat} {T : List am_C} {R : Option Value} {F : am_H → Prop} {z : Nat × xA} {rc : Int32 → xA → Option (Nat × xA)} (k0 : z.1 = 0 → ∀ H2 : am_H, xS h b T z.2 H2 → am_E sL sx am_cs 238 60 [] [] H2 R F) (ih : ∀ (v1 : Int32) (a : xA) (H : am_H), xS h b T a H → rc v1 a = some z → am_E sL sx am_cs 238 2 [(0, .ref 129), (1, .int v1)] [] H R F) {q1 : Int32} {a : xA} {H : am_H} (hS : xS h b T a H) (e : j238_54 N h b rc q1 a = some z) : am_E sL sx am_cs 238 54 [(0, .ref 129), (1, .int q1)] [] H R F := by
  unfold j238_54 at e
  refine ex_s (am_nb (m := 2) (pc1 := 2) (ls1 := [(1, .int (q1 + 1)), (0, .ref 129)]) (st1 := []) (H1 := H) (k1 := 0) (n1 := 0) (by with_unfolding_all rfl)) ?_
  exact le_E (l1 := [(0, .ref 129), (1, .int (q1 + 1))]) ⟨rfl, rfl, trivial⟩ rfl (ih (q1 + 1) a H hS e)

set_option maxRecDepth 100000 in
theorem tl238_2 {sL : Nat} {sx : Nat → Int32} {h b N : Nat} {T : List am_C} {R : Option Value} {F : am_H → Prop} {z : Nat × xA} (k0 : z.1 = 0 → ∀ H2 : am_H, xS h b T z.2 H2 → am_E sL sx am_cs 238 60 [] [] H2 R F) : ∀ (n : Nat) (v1 : Int32) (a : xA) (H : am_H), xS h b T a H → l238_2 N h b n v1 a = some z → am_E sL sx am_cs 238 2 [(0, .ref 129), (1, .int v1)] [] H R F := by
  intro n
  induction n with
  | zero =>
    intro v1 a H hS e
    cases e
  | succ n ih =>
    intro v1 a H hS e
    unfold l238_2 at e
    refine ex_s (am_nb (m := 2) (pc1 := 4) (ls1 := [(0, .ref 129), (1, .int v1)]) (st1 := [.ref 129, .int v1]) (H1 := H) (k1 := 0) (n1 := 0) (by with_unfolding_all rfl)) ?_
    refine xe_get (v := .int (a 129 12)) hS rfl rfl (by decide) rfl ?_
    refine ex_s (st_icmp rfl) ?_
    by_cases c1 : (a 129 12) ≤ v1
    · have e := (if_pos c1).symm.trans e
      refine ex_pc (if_pos c1) ?_
      cases e
      exact le_E (l1 := []) trivial rfl (k0 rfl H hS)
    · have e := (if_neg c1).symm.trans e
      refine ex_pc (if_neg c1) ?_
      refine ex_s (am_nb (m := 1) (pc1 := 11) (ls1 := [(0, .ref 129), (1, .int v1)]) (st1 := [.ref 129]) (H1 := H) (k1 := 0) (n1 := 0) (by with_unfolding_all rfl)) ?_
      refine xe_get (v := .ref 135) hS rfl rfl (by decide) rfl ?_
      refine ex_s (am_nb (m := 1) (pc1 := 15) (ls1 := [(0, .ref 129), (1, .int v1)]) (st1 := [.int v1, .ref 135]) (H1 := H) (k1 := 0) (n1 := 0) (by with_unfolding_all rfl)) ?_
      obtain ⟨g2, e⟩ := xg_some e
      refine xe_iald hS rfl rfl g2 ?_
      refine ex_s (am_nb (m := 2) (pc1 := 18) (ls1 := [(2, .int (a 135 (v1.toNatClampNeg))), (0, .ref 129), (1, .int v1)]) (st1 := [.int (a 135 (v1.toNatClampNeg))]) (H1 := H) (k1 := 0) (n1 := 0) (by with_unfolding_all rfl)) ?_
      refine ex_s (st_if rfl) ?_
      by_cases c4 : (a 135 (v1.toNatClampNeg)) = 0
      · have e := (if_pos c4).symm.trans e
        refine ex_pc (if_pos c4) ?_
        refine ex_s (am_nb (m := 1) (pc1 := 22) (ls1 := [(2, .int (a 135 (v1.toNatClampNeg))), (0, .ref 129), (1, .int v1)]) (st1 := [.ref 129]) (H1 := H) (k1 := 0) (n1 := 0) (by with_unfolding_all rfl)) ?_
        refine xe_get (v := .ref 136) hS rfl rfl (by decide) rfl ?_
        refine ex_s (am_nb (m := 1) (pc1 := 26) (ls1 := [(2, .int (a 135 (v1.toNatClampNeg))), (0, .ref 129), (1, .int v1)]) (st1 := [.int 0, .ref 136]) (H1 := H) (k1 := 0) (n1 := 0) (by with_unfolding_all rfl)) ?_
        obtain ⟨a5, ha5, e⟩ := xw_some e
        refine xe_put (w := 0) hS rfl rfl (by decide) rfl rfl rfl rfl (fun H6 s7 => ?_)
        have s7 : xS h b T a5 H6 := by rw [ha5]; exact s7
        refine ex_s (am_nb (m := 1) (pc1 := 54) (ls1 := [(2, .int (a 135 (v1.toNatClampNeg))), (0, .ref 129), (1, .int v1)]) (st1 := []) (H1 := H6) (k1 := 0) (n1 := 0) (by with_unfolding_all rfl)) ?_
        exact le_E (l1 := [(0, .ref 129), (1, .int v1)]) ⟨rfl, rfl, trivial⟩ rfl (tj238_54 k0 ih  s7 e)
      · have e := (if_neg c4).symm.trans e
        refine ex_pc (if_neg c4) ?_
        refine ex_s (am_nb (m := 2) (pc1 := 34) (ls1 := [(2, .int (a 135 (v1.toNatClampNeg))), (0, .ref 129), (1, .int v1)]) (st1 := [.int 4, .int (a 135 (v1.toNatClampNeg))]) (H1 := H) (k1 := 0) (n1 := 0) (by with_unfolding_all rfl)) ?_
        refine ex_s (st_icmp rfl) ?_
        by_cases c9 : 4 < (a 135 (v1.toNatClampNeg))
        · have e := (if_pos c9).symm.trans e
          refine ex_pc (if_pos c9) ?_
          exact le_E (l1 := [(0, .ref 129), (1, .int v1)]) ⟨rfl, rfl, trivial⟩ rfl (tj238_54 k0 ih  hS e)
        · have e := (if_neg c9).symm.trans e
          refine ex_pc (if_neg c9) ?_
          refine ex_s (am_nb (m := 1) (pc1 := 38) (ls1 := [(2, .int (a 135 (v1.toNatClampNeg))), (0, .ref 129), (1, .int v1)]) (st1 := [.ref 129]) (H1 := H) (k1 := 0) (n1 := 0) (by with_unfolding_all rfl)) ?_
          refine xe_get (v := .ref 136) hS rfl rfl (by decide) rfl ?_
          refine ex_s (am_nb (m := 1) (pc1 := 42) (ls1 := [(2, .int (a 135 (v1.toNatClampNeg))), (0, .ref 129), (1, .int v1)]) (st1 := [.ref 136, .ref 136]) (H1 := H) (k1 := 0) (n1 := 0) (by with_unfolding_all rfl)) ?_
          refine xe_get (v := .int (a 136 14)) hS rfl rfl (by decide) rfl ?_
          refine ex_s (am_nb (m := 6) (pc1 := 51) (ls1 := [(2, .int (a 135 (v1.toNatClampNeg))), (0, .ref 129), (1, .int v1)]) (st1 := [.int ((a 136 14) ||| ((1 : Int32) <<< (((a 135 (v1.toNatClampNeg)) - 1) &&& 31))), .ref 136]) (H1 := H) (k1 := 0) (n1 := 0) (by with_unfolding_all rfl)) ?_
          obtain ⟨a10, ha10, e⟩ := xw_some e
          refine xe_put (w := ((a 136 14) ||| ((1 : Int32) <<< (((a 135 (v1.toNatClampNeg)) - 1) &&& 31)))) hS rfl rfl (by decide) rfl rfl rfl rfl (fun H11 s12 => ?_)
          have s12 : xS h b T a10 H11 := by rw [ha10]; exact s12
          exact le_E (l1 := [(0, .ref 129), (1, .int v1)]) ⟨rfl, rfl, trivial⟩ rfl (tj238_54 k0 ih  s12 e)

set_option maxRecDepth 100000 in
theorem tf238_lightByNumbers {sL : Nat} {sx : Nat → Int32} {h b N : Nat} {T : List am_C} {a' : xA} {a : xA} {H : am_H} (hS : xS h b T a H) (e : f238_lightByNumbers N h b a = some a') : am_E sL sx am_cs 238 0 [(0, .ref 129)] [] H none (fun H1 => xS h b T a' H1) := by
  unfold f238_lightByNumbers at e
  refine ex_s (am_nb (m := 2) (pc1 := 2) (ls1 := [(1, .int 0), (0, .ref 129)]) (st1 := []) (H1 := H) (k1 := 0) (n1 := 0) (by with_unfolding_all rfl)) ?_
  obtain ⟨z13, e14, e⟩ := Option.bind_eq_some_iff.mp e
  refine le_E (l1 := [(0, .ref 129), (1, .int 0)]) ⟨rfl, rfl, trivial⟩ rfl (tl238_2 (z := z13)  (fun uz13_0 Hz130 sz130 => ?_) N 0 a H hS e14)
  cases e
  exact ex_r (st_vret rfl rfl) sz130

set_option maxRecDepth 100000 in
theorem tj239_52 {sL : Nat} {sx : Nat → Int32} {h b N : Nat} {T : List am_C} {R : Option Value} {F : am_H → Prop} {w1 : Int32} {z : Nat × xA} {rc : Int32 → xA → Option (Nat × xA)} (k0 : z.1 = 0 → ∀ H2 : am_H, xS h b T z.2 H2 → am_E sL sx am_cs 239 58 [] [] H2 R F) (ih : ∀ (v2 : Int32) (a : xA) (H : am_H), xS h b T a H → rc v2 a = some z → am_E sL sx am_cs 239 2 [(0, .ref 129), (1, .int w1), (2, .int v2)] [] H R F) {q2 : Int32} {a : xA} {H : am_H} (hS : xS h b T a H) (e : j239_52 N h b rc w1 q2 a = some z) : am_E sL sx am_cs 239 52 [(0, .ref 129), (1, .int w1), (2, .int q2)] [] H R F := by
  unfold j239_52 at e
  refine ex_s (am_nb (m := 2) (pc1 := 2) (ls1 := [(2, .int (q2 + 1)), (0, .ref 129), (1, .int w1)]) (st1 := []) (H1 := H) (k1 := 0) (n1 := 0) (by with_unfolding_all rfl)) ?_
  exact le_E (l1 := [(0, .ref 129), (1, .int w1), (2, .int (q2 + 1))]) ⟨rfl, rfl, rfl, trivial⟩ rfl (ih (q2 + 1) a H hS e)

set_option maxRecDepth 100000 in
theorem tl239_2 {sL : Nat} {sx : Nat → Int32} {h b N : Nat} {T : List am_C} {R : Option Value} {F : am_H → Prop} {w1 : Int32} {z : Nat × xA} (k0 : z.1 = 0 → ∀ H2 : am_H, xS h b T z.2 H2 → am_E sL sx am_cs 239 58 [] [] H2 R F) : ∀ (n : Nat) (v2 : Int32) (a : xA) (H : am_H), xS h b T a H → l239_2 N h b w1 n v2 a = some z → am_E sL sx am_cs 239 2 [(0, .ref 129), (1, .int w1), (2, .int v2)] [] H R F := by
  intro n
  induction n with
  | zero =>
    intro v2 a H hS e
    cases e
  | succ n ih =>
    intro v2 a H hS e
    unfold l239_2 at e
    refine ex_s (am_nb (m := 2) (pc1 := 4) (ls1 := [(0, .ref 129), (1, .int w1), (2, .int v2)]) (st1 := [.ref 129, .int v2]) (H1 := H) (k1 := 0) (n1 := 0) (by with_unfolding_all rfl)) ?_
    refine xe_get (v := .int (a 129 12)) hS rfl rfl (by decide) rfl ?_
    refine ex_s (st_icmp rfl) ?_
    by_cases c1 : (a 129 12) ≤ v2
    · have e := (if_pos c1).symm.trans e
      refine ex_pc (if_pos c1) ?_
      cases e
      exact le_E (l1 := []) trivial rfl (k0 rfl H hS)
    · have e := (if_neg c1).symm.trans e
      refine ex_pc (if_neg c1) ?_
      refine ex_s (am_nb (m := 1) (pc1 := 11) (ls1 := [(0, .ref 129), (1, .int w1), (2, .int v2)]) (st1 := [.ref 129]) (H1 := H) (k1 := 0) (n1 := 0) (by with_unfolding_all rfl)) ?_
      refine xe_get (v := .ref 135) hS rfl rfl (by decide) rfl ?_
      refine ex_s (am_nb (m := 1) (pc1 := 15) (ls1 := [(0, .ref 129), (1, .int w1), (2, .int v2)]) (st1 := [.int v2, .ref 135]) (H1 := H) (k1 := 0) (n1 := 0) (by with_unfolding_all rfl)) ?_
      obtain ⟨g2, e⟩ := xg_some e
      refine xe_iald hS rfl rfl g2 ?_
      refine ex_s (am_nb (m := 1) (pc1 := 17) (ls1 := [(0, .ref 129), (1, .int w1), (2, .int v2)]) (st1 := [.int 4, .int (a 135 (v2.toNatClampNeg))]) (H1 := H) (k1 := 0) (n1 := 0) (by with_unfolding_all rfl)) ?_
      refine ex_s (st_icmp rfl) ?_
      by_cases c4 : (a 135 (v2.toNatClampNeg)) = 4
      · have e := (if_pos c4).symm.trans e
        refine ex_pc (if_pos c4) ?_
        refine ex_s (am_nb (m := 1) (pc1 := 21) (ls1 := [(0, .ref 129), (1, .int w1), (2, .int v2)]) (st1 := [.ref 129]) (H1 := H) (k1 := 0) (n1 := 0) (by with_unfolding_all rfl)) ?_
        refine xe_get (v := .ref 136) hS rfl rfl (by decide) rfl ?_
        refine ex_s (am_nb (m := 2) (pc1 := 26) (ls1 := [(0, .ref 129), (1, .int w1), (2, .int v2)]) (st1 := [.int w1, .int 1, .ref 136]) (H1 := H) (k1 := 0) (n1 := 0) (by with_unfolding_all rfl)) ?_
        obtain ⟨a8, e7, e⟩ := xb1_some e
        refine ex_cv0 (as := [.int 1, .int w1]) (rest := []) rfl rfl rfl rfl (hS.obj rfl (by decide)) rfl (by with_unfolding_all rfl) (by with_unfolding_all rfl) (tf216_turn hS e7) (fun H5 s6 => ?_)
        refine ex_s (am_nb (m := 1) (pc1 := 52) (ls1 := [(0, .ref 129), (1, .int w1), (2, .int v2)]) (st1 := []) (H1 := H5) (k1 := 0) (n1 := 0) (by with_unfolding_all rfl)) ?_
        exact le_E (l1 := [(0, .ref 129), (1, .int w1), (2, .int v2)]) ⟨rfl, rfl, rfl, trivial⟩ rfl (tj239_52 k0 ih  s6 e)
      · have e := (if_neg c4).symm.trans e
        refine ex_pc (if_neg c4) ?_
        refine ex_s (am_nb (m := 1) (pc1 := 33) (ls1 := [(0, .ref 129), (1, .int w1), (2, .int v2)]) (st1 := [.ref 129]) (H1 := H) (k1 := 0) (n1 := 0) (by with_unfolding_all rfl)) ?_
        refine xe_get (v := .ref 135) hS rfl rfl (by decide) rfl ?_
        refine ex_s (am_nb (m := 1) (pc1 := 37) (ls1 := [(0, .ref 129), (1, .int w1), (2, .int v2)]) (st1 := [.int v2, .ref 135]) (H1 := H) (k1 := 0) (n1 := 0) (by with_unfolding_all rfl)) ?_
        refine xe_iald hS rfl rfl g2 ?_
        refine ex_s (am_nb (m := 1) (pc1 := 40) (ls1 := [(0, .ref 129), (1, .int w1), (2, .int v2)]) (st1 := [.int 20, .int (a 135 (v2.toNatClampNeg))]) (H1 := H) (k1 := 0) (n1 := 0) (by with_unfolding_all rfl)) ?_
        refine ex_s (st_icmp rfl) ?_
        by_cases c10 : (a 135 (v2.toNatClampNeg)) = 20
        · have e := (if_pos c10).symm.trans e
          refine ex_pc (if_pos c10) ?_
          refine ex_s (am_nb (m := 1) (pc1 := 44) (ls1 := [(0, .ref 129), (1, .int w1), (2, .int v2)]) (st1 := [.ref 129]) (H1 := H) (k1 := 0) (n1 := 0) (by with_unfolding_all rfl)) ?_
          refine xe_get (v := .ref 136) hS rfl rfl (by decide) rfl ?_
          refine ex_s (am_nb (m := 2) (pc1 := 49) (ls1 := [(0, .ref 129), (1, .int w1), (2, .int v2)]) (st1 := [.int w1, .int 2, .ref 136]) (H1 := H) (k1 := 0) (n1 := 0) (by with_unfolding_all rfl)) ?_
          obtain ⟨a14, e13, e⟩ := xb1_some e
          refine ex_cv0 (as := [.int 2, .int w1]) (rest := []) rfl rfl rfl rfl (hS.obj rfl (by decide)) rfl (by with_unfolding_all rfl) (by with_unfolding_all rfl) (tf216_turn hS e13) (fun H11 s12 => ?_)
          exact le_E (l1 := [(0, .ref 129), (1, .int w1), (2, .int v2)]) ⟨rfl, rfl, rfl, trivial⟩ rfl (tj239_52 k0 ih  s12 e)
        · have e := (if_neg c10).symm.trans e
          refine ex_pc (if_neg c10) ?_
          exact le_E (l1 := [(0, .ref 129), (1, .int w1), (2, .int v2)]) ⟨rfl, rfl, rfl, trivial⟩ rfl (tj239_52 k0 ih  hS e)

set_option maxRecDepth 100000 in
theorem tf239_turnModes {sL : Nat} {sx : Nat → Int32} {h b N : Nat} {T : List am_C} {a' : xA} {x0 : Int32} {a : xA} {H : am_H} (hS : xS h b T a H) (e : f239_turnModes N h b x0 a = some a') : am_E sL sx am_cs 239 0 [(0, .ref 129), (1, .int x0)] [] H none (fun H1 => xS h b T a' H1) := by
  unfold f239_turnModes at e
  refine ex_s (am_nb (m := 2) (pc1 := 2) (ls1 := [(2, .int 0), (0, .ref 129), (1, .int x0)]) (st1 := []) (H1 := H) (k1 := 0) (n1 := 0) (by with_unfolding_all rfl)) ?_
  obtain ⟨z15, e16, e⟩ := Option.bind_eq_some_iff.mp e
  refine le_E (l1 := [(0, .ref 129), (1, .int x0), (2, .int 0)]) ⟨rfl, rfl, rfl, trivial⟩ rfl (tl239_2 (z := z15)  (fun uz15_0 Hz150 sz150 => ?_) N 0 a H hS e16)
  cases e
  exact ex_r (st_vret rfl rfl) sz150

set_option maxRecDepth 100000 in
theorem tl240_2 {sL : Nat} {sx : Nat → Int32} {h b N : Nat} {T : List am_C} {R : Option Value} {F : am_H → Prop} {z : Nat × xA} (k0 : z.1 = 0 → ∀ H2 : am_H, xS h b T z.2 H2 → am_E sL sx am_cs 240 23 [] [] H2 R F) : ∀ (n : Nat) (v1 : Int32) (a : xA) (H : am_H), xS h b T a H → l240_2 N h b n v1 a = some z → am_E sL sx am_cs 240 2 [(0, .ref 136), (1, .int v1)] [] H R F := by
  intro n
  induction n with
  | zero =>
    intro v1 a H hS e
    cases e
  | succ n ih =>
    intro v1 a H hS e
    unfold l240_2 at e
    refine ex_s (am_nb (m := 2) (pc1 := 4) (ls1 := [(0, .ref 136), (1, .int v1)]) (st1 := [.ref 136, .int v1]) (H1 := H) (k1 := 0) (n1 := 0) (by with_unfolding_all rfl)) ?_
    refine xe_get (v := .int (a 136 1)) hS rfl rfl (by decide) rfl ?_
    refine ex_s (st_icmp rfl) ?_
    by_cases c1 : (a 136 1) ≤ v1
    · have e := (if_pos c1).symm.trans e
      refine ex_pc (if_pos c1) ?_
      cases e
      exact le_E (l1 := []) trivial rfl (k0 rfl H hS)
    · have e := (if_neg c1).symm.trans e
      refine ex_pc (if_neg c1) ?_
      refine ex_s (am_nb (m := 1) (pc1 := 11) (ls1 := [(0, .ref 136), (1, .int v1)]) (st1 := [.ref 136]) (H1 := H) (k1 := 0) (n1 := 0) (by with_unfolding_all rfl)) ?_
      refine xe_get (v := .ref 140) hS rfl rfl (by decide) rfl ?_
      refine ex_s (am_nb (m := 2) (pc1 := 16) (ls1 := [(0, .ref 136), (1, .int v1)]) (st1 := [.int 0, .int v1, .ref 140]) (H1 := H) (k1 := 0) (n1 := 0) (by with_unfolding_all rfl)) ?_
      obtain ⟨g5, e⟩ := xg_some e
      obtain ⟨a2, ha2, e⟩ := xw_some e
      refine xe_zast hS rfl rfl g5 (fun H3 s4 => ?_)
      have s4 : xS h b T a2 H3 := by rw [ha2]; exact s4
      refine ex_s (am_nb (m := 2) (pc1 := 2) (ls1 := [(1, .int (v1 + 1)), (0, .ref 136)]) (st1 := []) (H1 := H3) (k1 := 0) (n1 := 0) (by with_unfolding_all rfl)) ?_
      exact le_E (l1 := [(0, .ref 136), (1, .int (v1 + 1))]) ⟨rfl, rfl, trivial⟩ rfl (ih (v1 + 1) a2 H3 s4 e)

set_option maxRecDepth 100000 in
theorem tf240_clearStops {sL : Nat} {sx : Nat → Int32} {h b N : Nat} {T : List am_C} {a' : xA} {a : xA} {H : am_H} (hS : xS h b T a H) (e : f240_clearStops N h b a = some a') : am_E sL sx am_cs 240 0 [(0, .ref 136)] [] H none (fun H1 => xS h b T a' H1) := by
  unfold f240_clearStops at e
  refine ex_s (am_nb (m := 2) (pc1 := 2) (ls1 := [(1, .int 0), (0, .ref 136)]) (st1 := []) (H1 := H) (k1 := 0) (n1 := 0) (by with_unfolding_all rfl)) ?_
  obtain ⟨z6, e7, e⟩ := Option.bind_eq_some_iff.mp e
  refine le_E (l1 := [(0, .ref 136), (1, .int 0)]) ⟨rfl, rfl, trivial⟩ rfl (tl240_2 (z := z6)  (fun uz6_0 Hz60 sz60 => ?_) N 0 a H hS e7)
  cases e
  exact ex_r (st_vret rfl rfl) sz60

set_option maxRecDepth 100000 in
theorem tf241_answerWell {sL : Nat} {sx : Nat → Int32} {h b N : Nat} {T : List am_C} {a' : xA} {a : xA} {H : am_H} (hS : xS h b T a H) (e : f241_answerWell N h b a = some a') : am_E sL sx am_cs 241 0 [(0, .ref 129)] [] H none (fun H1 => xS h b T a' H1) := by
  unfold f241_answerWell at e
  refine ex_s (am_nb (m := 1) (pc1 := 1) (ls1 := [(0, .ref 129)]) (st1 := [.ref 129]) (H1 := H) (k1 := 0) (n1 := 0) (by with_unfolding_all rfl)) ?_
  refine xe_get (v := .ref 134) hS rfl rfl (by decide) rfl ?_
  refine ex_s (am_nb (m := 2) (pc1 := 7) (ls1 := [(0, .ref 129)]) (st1 := [.int 27, .int 0, .ref 134]) (H1 := H) (k1 := 0) (n1 := 0) (by with_unfolding_all rfl)) ?_
  obtain ⟨a1, ha1, e⟩ := xw_some e
  refine xe_iast hS rfl rfl (show ¬ ((0 : Int32) < 0 ∨ 32 ≤ ((0 : Int32)).toNatClampNeg) by decide) (fun H2 s3 => ?_)
  have s3 : xS h b T a1 H2 := by rw [ha1]; exact s3
  refine ex_s (am_nb (m := 1) (pc1 := 9) (ls1 := [(0, .ref 129)]) (st1 := [.ref 129]) (H1 := H2) (k1 := 0) (n1 := 0) (by with_unfolding_all rfl)) ?_
  refine xe_get (v := .ref 134) s3 rfl rfl (by decide) rfl ?_
  refine ex_s (am_nb (m := 2) (pc1 := 15) (ls1 := [(0, .ref 129)]) (st1 := [.int 91, .int 1, .ref 134]) (H1 := H2) (k1 := 0) (n1 := 0) (by with_unfolding_all rfl)) ?_
  obtain ⟨a4, ha4, e⟩ := xw_some e
  refine xe_iast s3 rfl rfl (show ¬ ((1 : Int32) < 0 ∨ 32 ≤ ((1 : Int32)).toNatClampNeg) by decide) (fun H5 s6 => ?_)
  have s6 : xS h b T a4 H5 := by rw [ha4]; exact s6
  refine ex_s (am_nb (m := 1) (pc1 := 17) (ls1 := [(0, .ref 129)]) (st1 := [.ref 129]) (H1 := H5) (k1 := 0) (n1 := 0) (by with_unfolding_all rfl)) ?_
  refine xe_get (v := .ref 134) s6 rfl rfl (by decide) rfl ?_
  refine ex_s (am_nb (m := 2) (pc1 := 23) (ls1 := [(0, .ref 129)]) (st1 := [.int 48, .int 2, .ref 134]) (H1 := H5) (k1 := 0) (n1 := 0) (by with_unfolding_all rfl)) ?_
  obtain ⟨a7, ha7, e⟩ := xw_some e
  refine xe_iast s6 rfl rfl (show ¬ ((2 : Int32) < 0 ∨ 32 ≤ ((2 : Int32)).toNatClampNeg) by decide) (fun H8 s9 => ?_)
  have s9 : xS h b T a7 H8 := by rw [ha7]; exact s9
  refine ex_s (am_nb (m := 1) (pc1 := 25) (ls1 := [(0, .ref 129)]) (st1 := [.ref 129]) (H1 := H8) (k1 := 0) (n1 := 0) (by with_unfolding_all rfl)) ?_
  refine xe_get (v := .ref 134) s9 rfl rfl (by decide) rfl ?_
  refine ex_s (am_nb (m := 2) (pc1 := 31) (ls1 := [(0, .ref 129)]) (st1 := [.int 110, .int 3, .ref 134]) (H1 := H8) (k1 := 0) (n1 := 0) (by with_unfolding_all rfl)) ?_
  obtain ⟨a10, ha10, e⟩ := xw_some e
  refine xe_iast s9 rfl rfl (show ¬ ((3 : Int32) < 0 ∨ 32 ≤ ((3 : Int32)).toNatClampNeg) by decide) (fun H11 s12 => ?_)
  have s12 : xS h b T a10 H11 := by rw [ha10]; exact s12
  refine ex_s (am_nb (m := 1) (pc1 := 33) (ls1 := [(0, .ref 129)]) (st1 := [.ref 129]) (H1 := H11) (k1 := 0) (n1 := 0) (by with_unfolding_all rfl)) ?_
  refine xe_get (v := .ref 132) s12 rfl rfl (by decide) rfl ?_
  refine ex_s (am_nb (m := 1) (pc1 := 37) (ls1 := [(0, .ref 129)]) (st1 := [.ref 129, .ref 132]) (H1 := H11) (k1 := 0) (n1 := 0) (by with_unfolding_all rfl)) ?_
  refine xe_get (v := .ref 134) s12 rfl rfl (by decide) rfl ?_
  refine ex_s (am_nb (m := 1) (pc1 := 41) (ls1 := [(0, .ref 129)]) (st1 := [.int 4, .ref 134, .ref 132]) (H1 := H11) (k1 := 0) (n1 := 0) (by with_unfolding_all rfl)) ?_
  obtain ⟨r16, a17, e15, e⟩ := xb2_some e
  refine ex_cv1 (as := [.ref 134, .int 4]) (rest := []) rfl rfl rfl rfl (s12.obj rfl (by decide)) rfl (by with_unfolding_all rfl) (by with_unfolding_all rfl) (tf201_addWhole s12 e15) (fun H13 s14 => ?_)
  refine ex_s (am_nb (m := 1) (pc1 := 45) (ls1 := [(0, .ref 129)]) (st1 := []) (H1 := H13) (k1 := 0) (n1 := 0) (by with_unfolding_all rfl)) ?_
  cases e
  exact ex_r (st_vret rfl rfl) s14

set_option maxRecDepth 100000 in
theorem tj243_27 {sL : Nat} {sx : Nat → Int32} {h b N : Nat} {T : List am_C} {r : Int32} {a' : xA} {q1 : Int32} {q3 : Int32} {a : xA} {H : am_H} (hS : xS h b T a H) (e : j243_27 N h b q1 q3 a = some (r, a')) : am_E sL sx am_cs 243 27 [(0, .ref 129), (1, .int q1), (3, .int q3)] [] H (some (.int r)) (fun H1 => xS h b T a' H1) := by
  unfold j243_27 at e
  refine ex_s (am_nb (m := 1) (pc1 := 28) (ls1 := [(0, .ref 129), (1, .int q1), (3, .int q3)]) (st1 := [.ref 129]) (H1 := H) (k1 := 0) (n1 := 0) (by with_unfolding_all rfl)) ?_
  refine xe_get (v := .ref 134) hS rfl rfl (by decide) rfl ?_
  refine ex_s (am_nb (m := 6) (pc1 := 39) (ls1 := [(0, .ref 129), (1, .int q1), (3, .int q3)]) (st1 := [.int (48 + (q1 - q1 / 10 * 10)), .int q3, .ref 134]) (H1 := H) (k1 := 0) (n1 := 0) (by with_unfolding_all rfl)) ?_
  obtain ⟨g6, e⟩ := xg_some e
  obtain ⟨a3, ha3, e⟩ := xw_some e
  refine xe_iast hS rfl rfl g6 (fun H4 s5 => ?_)
  have s5 : xS h b T a3 H4 := by rw [ha3]; exact s5
  refine ex_s (am_nb (m := 3) (pc1 := 43) (ls1 := [(0, .ref 129), (1, .int q1), (3, .int q3)]) (st1 := [.int (q3 + 1)]) (H1 := H4) (k1 := 0) (n1 := 0) (by with_unfolding_all rfl)) ?_
  cases e
  exact ex_r (st_iret rfl rfl rfl) s5

set_option maxRecDepth 100000 in
theorem tf243_addNumber {sL : Nat} {sx : Nat → Int32} {h b N : Nat} {T : List am_C} {r : Int32} {a' : xA} {x0 : Int32} {x1 : Int32} {a : xA} {H : am_H} (hS : xS h b T a H) (e : f243_addNumber N h b x0 x1 a = some (r, a')) : am_E sL sx am_cs 243 0 [(0, .ref 129), (1, .int x0), (2, .int x1)] [] H (some (.int r)) (fun H1 => xS h b T a' H1) := by
  unfold f243_addNumber at e
  refine ex_s (am_nb (m := 4) (pc1 := 5) (ls1 := [(3, .int x1), (0, .ref 129), (1, .int x0), (2, .int x1)]) (st1 := [.int 10, .int x0]) (H1 := H) (k1 := 0) (n1 := 0) (by with_unfolding_all rfl)) ?_
  refine ex_s (st_icmp rfl) ?_
  by_cases c2 : x0 < 10
  · have e := (if_pos c2).symm.trans e
    refine ex_pc (if_pos c2) ?_
    exact le_E (l1 := [(0, .ref 129), (1, .int x0), (3, .int x1)]) ⟨rfl, rfl, rfl, trivial⟩ rfl (tj243_27  hS e)
  · have e := (if_neg c2).symm.trans e
    refine ex_pc (if_neg c2) ?_
    refine ex_s (am_nb (m := 1) (pc1 := 9) (ls1 := [(3, .int x1), (0, .ref 129), (1, .int x0), (2, .int x1)]) (st1 := [.ref 129]) (H1 := H) (k1 := 0) (n1 := 0) (by with_unfolding_all rfl)) ?_
    refine xe_get (v := .ref 134) hS rfl rfl (by decide) rfl ?_
    refine ex_s (am_nb (m := 8) (pc1 := 23) (ls1 := [(3, .int x1), (0, .ref 129), (1, .int x0), (2, .int x1)]) (st1 := [.int (48 + ((x0 / 10) - (x0 / 10) / 10 * 10)), .int x1, .ref 134]) (H1 := H) (k1 := 0) (n1 := 0) (by with_unfolding_all rfl)) ?_
    obtain ⟨g10, e⟩ := xg_some e
    obtain ⟨a7, ha7, e⟩ := xw_some e
    refine xe_iast hS rfl rfl g10 (fun H8 s9 => ?_)
    have s9 : xS h b T a7 H8 := by rw [ha7]; exact s9
    refine ex_s (am_nb (m := 1) (pc1 := 27) (ls1 := [(3, .int (x1 + 1)), (0, .ref 129), (1, .int x0), (2, .int x1)]) (st1 := []) (H1 := H8) (k1 := 0) (n1 := 0) (by with_unfolding_all rfl)) ?_
    exact le_E (l1 := [(0, .ref 129), (1, .int x0), (3, .int (x1 + 1))]) ⟨rfl, rfl, rfl, trivial⟩ rfl (tj243_27  s9 e)

set_option maxRecDepth 100000 in
theorem tj242_23 {sL : Nat} {sx : Nat → Int32} {h b N : Nat} {T : List am_C} {a' : xA} {t0 : Int32} {a : xA} {H : am_H} (hS : xS h b T a H) (e : j242_23 N h b t0 a = some a') : am_E sL sx am_cs 242 23 [(0, .ref 129)] [.int t0] H none (fun H1 => xS h b T a' H1) := by
  unfold j242_23 at e
  refine ex_s (am_nb (m := 2) (pc1 := 25) (ls1 := [(1, .int t0), (0, .ref 129)]) (st1 := [.ref 129]) (H1 := H) (k1 := 0) (n1 := 0) (by with_unfolding_all rfl)) ?_
  refine xe_get (v := .ref 134) hS rfl rfl (by decide) rfl ?_
  refine ex_s (am_nb (m := 2) (pc1 := 31) (ls1 := [(1, .int t0), (0, .ref 129)]) (st1 := [.int 27, .int 0, .ref 134]) (H1 := H) (k1 := 0) (n1 := 0) (by with_unfolding_all rfl)) ?_
  obtain ⟨a8, ha8, e⟩ := xw_some e
  refine xe_iast hS rfl rfl (show ¬ ((0 : Int32) < 0 ∨ 32 ≤ ((0 : Int32)).toNatClampNeg) by decide) (fun H9 s10 => ?_)
  have s10 : xS h b T a8 H9 := by rw [ha8]; exact s10
  refine ex_s (am_nb (m := 1) (pc1 := 33) (ls1 := [(1, .int t0), (0, .ref 129)]) (st1 := [.ref 129]) (H1 := H9) (k1 := 0) (n1 := 0) (by with_unfolding_all rfl)) ?_
  refine xe_get (v := .ref 134) s10 rfl rfl (by decide) rfl ?_
  refine ex_s (am_nb (m := 2) (pc1 := 39) (ls1 := [(1, .int t0), (0, .ref 129)]) (st1 := [.int 91, .int 1, .ref 134]) (H1 := H9) (k1 := 0) (n1 := 0) (by with_unfolding_all rfl)) ?_
  obtain ⟨a11, ha11, e⟩ := xw_some e
  refine xe_iast s10 rfl rfl (show ¬ ((1 : Int32) < 0 ∨ 32 ≤ ((1 : Int32)).toNatClampNeg) by decide) (fun H12 s13 => ?_)
  have s13 : xS h b T a11 H12 := by rw [ha11]; exact s13
  refine ex_s (am_nb (m := 3) (pc1 := 43) (ls1 := [(1, .int t0), (0, .ref 129)]) (st1 := [.ref 129, .int 1, .ref 129]) (H1 := H12) (k1 := 0) (n1 := 0) (by with_unfolding_all rfl)) ?_
  refine xe_get (v := .ref 136) s13 rfl rfl (by decide) rfl ?_
  refine xe_get (v := .int (a11 136 5)) s13 rfl rfl (by decide) rfl ?_
  refine ex_s (am_nb (m := 6) (pc1 := 57) (ls1 := [(1, .int t0), (0, .ref 129)]) (st1 := [.int 2, .int (xmax 1 (((a11 136 5) - t0) + 1)), .ref 129]) (H1 := H12) (k1 := 0) (n1 := 0) (by with_unfolding_all rfl)) ?_
  obtain ⟨r17, a18, e16, e⟩ := xb2_some e
  refine ex_cv1 (as := [.int (xmax 1 (((a11 136 5) - t0) + 1)), .int 2]) (rest := []) rfl rfl rfl rfl (s13.obj rfl (by decide)) rfl (by with_unfolding_all rfl) (by with_unfolding_all rfl) (tf243_addNumber s13 e16) (fun H14 s15 => ?_)
  refine ex_s (am_nb (m := 2) (pc1 := 62) (ls1 := [(2, .int r17), (1, .int t0), (0, .ref 129)]) (st1 := [.ref 129]) (H1 := H14) (k1 := 0) (n1 := 0) (by with_unfolding_all rfl)) ?_
  refine xe_get (v := .ref 134) s15 rfl rfl (by decide) rfl ?_
  refine ex_s (am_nb (m := 2) (pc1 := 68) (ls1 := [(2, .int r17), (1, .int t0), (0, .ref 129)]) (st1 := [.int 59, .int r17, .ref 134]) (H1 := H14) (k1 := 0) (n1 := 0) (by with_unfolding_all rfl)) ?_
  obtain ⟨g22, e⟩ := xg_some e
  obtain ⟨a19, ha19, e⟩ := xw_some e
  refine xe_iast s15 rfl rfl g22 (fun H20 s21 => ?_)
  have s21 : xS h b T a19 H20 := by rw [ha19]; exact s21
  refine ex_s (am_nb (m := 2) (pc1 := 71) (ls1 := [(2, .int r17), (1, .int t0), (0, .ref 129)]) (st1 := [.ref 129, .ref 129]) (H1 := H20) (k1 := 0) (n1 := 0) (by with_unfolding_all rfl)) ?_
  refine xe_get (v := .ref 136) s21 rfl rfl (by decide) rfl ?_
  refine xe_get (v := .int (a19 136 6)) s21 rfl rfl (by decide) rfl ?_
  refine ex_s (am_nb (m := 5) (pc1 := 82) (ls1 := [(2, .int r17), (1, .int t0), (0, .ref 129)]) (st1 := [.int (r17 + 1), .int ((a19 136 6) + 1), .ref 129]) (H1 := H20) (k1 := 0) (n1 := 0) (by with_unfolding_all rfl)) ?_
  obtain ⟨r26, a27, e25, e⟩ := xb2_some e
  refine ex_cv1 (as := [.int ((a19 136 6) + 1), .int (r17 + 1)]) (rest := []) rfl rfl rfl rfl (s21.obj rfl (by decide)) rfl (by with_unfolding_all rfl) (by with_unfolding_all rfl) (tf243_addNumber s21 e25) (fun H23 s24 => ?_)
  refine ex_s (am_nb (m := 2) (pc1 := 87) (ls1 := [(2, .int r26), (1, .int t0), (0, .ref 129)]) (st1 := [.ref 129]) (H1 := H23) (k1 := 0) (n1 := 0) (by with_unfolding_all rfl)) ?_
  refine xe_get (v := .ref 134) s24 rfl rfl (by decide) rfl ?_
  refine ex_s (am_nb (m := 2) (pc1 := 93) (ls1 := [(2, .int r26), (1, .int t0), (0, .ref 129)]) (st1 := [.int 82, .int r26, .ref 134]) (H1 := H23) (k1 := 0) (n1 := 0) (by with_unfolding_all rfl)) ?_
  obtain ⟨g31, e⟩ := xg_some e
  obtain ⟨a28, ha28, e⟩ := xw_some e
  refine xe_iast s24 rfl rfl g31 (fun H29 s30 => ?_)
  have s30 : xS h b T a28 H29 := by rw [ha28]; exact s30
  refine ex_s (am_nb (m := 1) (pc1 := 95) (ls1 := [(2, .int r26), (1, .int t0), (0, .ref 129)]) (st1 := [.ref 129]) (H1 := H29) (k1 := 0) (n1 := 0) (by with_unfolding_all rfl)) ?_
  refine xe_get (v := .ref 132) s30 rfl rfl (by decide) rfl ?_
  refine ex_s (am_nb (m := 1) (pc1 := 99) (ls1 := [(2, .int r26), (1, .int t0), (0, .ref 129)]) (st1 := [.ref 129, .ref 132]) (H1 := H29) (k1 := 0) (n1 := 0) (by with_unfolding_all rfl)) ?_
  refine xe_get (v := .ref 134) s30 rfl rfl (by decide) rfl ?_
  refine ex_s (am_nb (m := 3) (pc1 := 105) (ls1 := [(2, .int r26), (1, .int t0), (0, .ref 129)]) (st1 := [.int (r26 + 1), .ref 134, .ref 132]) (H1 := H29) (k1 := 0) (n1 := 0) (by with_unfolding_all rfl)) ?_
  obtain ⟨r35, a36, e34, e⟩ := xb2_some e
  refine ex_cv1 (as := [.ref 134, .int (r26 + 1)]) (rest := []) rfl rfl rfl rfl (s30.obj rfl (by decide)) rfl (by with_unfolding_all rfl) (by with_unfolding_all rfl) (tf201_addWhole s30 e34) (fun H32 s33 => ?_)
  refine ex_s (am_nb (m := 1) (pc1 := 109) (ls1 := [(2, .int r26), (1, .int t0), (0, .ref 129)]) (st1 := []) (H1 := H32) (k1 := 0) (n1 := 0) (by with_unfolding_all rfl)) ?_
  cases e
  exact ex_r (st_vret rfl rfl) s33

set_option maxRecDepth 100000 in
theorem tf242_answerPlace {sL : Nat} {sx : Nat → Int32} {h b N : Nat} {T : List am_C} {a' : xA} {a : xA} {H : am_H} (hS : xS h b T a H) (e : f242_answerPlace N h b a = some a') : am_E sL sx am_cs 242 0 [(0, .ref 129)] [] H none (fun H1 => xS h b T a' H1) := by
  unfold f242_answerPlace at e
  refine ex_s (am_nb (m := 1) (pc1 := 1) (ls1 := [(0, .ref 129)]) (st1 := [.ref 129]) (H1 := H) (k1 := 0) (n1 := 0) (by with_unfolding_all rfl)) ?_
  refine xe_get (v := .ref 136) hS rfl rfl (by decide) rfl ?_
  refine ex_s (am_nb (m := 1) (pc1 := 6) (ls1 := [(0, .ref 129)]) (st1 := [.int 16, .ref 136]) (H1 := H) (k1 := 0) (n1 := 0) (by with_unfolding_all rfl)) ?_
  obtain ⟨r4, a5, e3, e⟩ := xb2_some e
  refine ex_cv1 (as := [.int 16]) (rest := []) rfl rfl rfl rfl (hS.obj rfl (by decide)) rfl (by with_unfolding_all rfl) (by with_unfolding_all rfl) (tf197_has hS e3) (fun H1 s2 => ?_)
  refine ex_s (st_if rfl) ?_
  by_cases c7 : r4 = 0
  · have e := (if_pos c7).symm.trans e
    refine ex_pc (if_pos c7) ?_
    refine ex_s (am_nb (m := 1) (pc1 := 23) (ls1 := [(0, .ref 129)]) (st1 := [.int 0]) (H1 := H1) (k1 := 0) (n1 := 0) (by with_unfolding_all rfl)) ?_
    exact le_E (l1 := [(0, .ref 129)]) ⟨rfl, trivial⟩ rfl (tj242_23  s2 e)
  · have e := (if_neg c7).symm.trans e
    refine ex_pc (if_neg c7) ?_
    refine ex_s (am_nb (m := 1) (pc1 := 13) (ls1 := [(0, .ref 129)]) (st1 := [.ref 129]) (H1 := H1) (k1 := 0) (n1 := 0) (by with_unfolding_all rfl)) ?_
    refine xe_get (v := .ref 136) s2 rfl rfl (by decide) rfl ?_
    refine xe_get (v := .int (a5 136 8)) s2 rfl rfl (by decide) rfl ?_
    refine ex_s (am_nb (m := 1) (pc1 := 23) (ls1 := [(0, .ref 129)]) (st1 := [.int (a5 136 8)]) (H1 := H1) (k1 := 0) (n1 := 0) (by with_unfolding_all rfl)) ?_
    exact le_E (l1 := [(0, .ref 129)]) ⟨rfl, trivial⟩ rfl (tj242_23  s2 e)

set_option maxRecDepth 100000 in
theorem tf236_setOrAnswer {sL : Nat} {sx : Nat → Int32} {h b N : Nat} {T : List am_C} {a' : xA} {x0 : Int32} {x1 : Int32} {a : xA} {H : am_H} (hS : xS h b T a H) (e : f236_setOrAnswer N h b x0 x1 a = some a') : am_E sL sx am_cs 236 0 [(0, .ref 129), (1, .int x0), (2, .int x1)] [] H none (fun H1 => xS h b T a' H1) := by
  unfold f236_setOrAnswer at e
  refine ex_s (am_nb (m := 1) (pc1 := 1) (ls1 := [(0, .ref 129), (1, .int x0), (2, .int x1)]) (st1 := [.int x0]) (H1 := H) (k1 := 0) (n1 := 0) (by with_unfolding_all rfl)) ?_
  refine ex_s (st_tsw rfl) ?_
  by_cases c1 : x0 = 99
  · have e := (if_pos c1).symm.trans e
    refine ex_pc (pc1 := 144) (by rw [c1]; with_unfolding_all rfl) ?_
    refine ex_s (am_nb (m := 1) (pc1 := 145) (ls1 := [(0, .ref 129), (1, .int x0), (2, .int x1)]) (st1 := [.int x1]) (H1 := H) (k1 := 0) (n1 := 0) (by with_unfolding_all rfl)) ?_
    refine ex_s (st_if rfl) ?_
    by_cases c3 : x1 = 0
    · have e := (if_pos c3).symm.trans e
      refine ex_pc (if_pos c3) ?_
      refine ex_s (am_nb (m := 1) (pc1 := 149) (ls1 := [(0, .ref 129), (1, .int x0), (2, .int x1)]) (st1 := [.ref 129]) (H1 := H) (k1 := 0) (n1 := 0) (by with_unfolding_all rfl)) ?_
      obtain ⟨a7, e6, e⟩ := xb1_some e
      refine ex_cv0 (as := []) (rest := []) rfl rfl rfl rfl (hS.obj rfl (by decide)) rfl (by with_unfolding_all rfl) (by with_unfolding_all rfl) (tf218_answerWhat hS e6) (fun H4 s5 => ?_)
      refine ex_s (am_nb (m := 1) (pc1 := 180) (ls1 := [(0, .ref 129), (1, .int x0), (2, .int x1)]) (st1 := []) (H1 := H4) (k1 := 0) (n1 := 0) (by with_unfolding_all rfl)) ?_
      cases e
      exact ex_r (st_vret rfl rfl) s5
    · have e := (if_neg c3).symm.trans e
      refine ex_pc (if_neg c3) ?_
      cases e
      exact ex_r (st_vret rfl rfl) hS
  · have e := (if_neg c1).symm.trans e
    by_cases c8 : x0 = 103
    · have e := (if_pos c8).symm.trans e
      refine ex_pc (pc1 := 106) (by rw [c8]; with_unfolding_all rfl) ?_
      refine ex_s (am_nb (m := 1) (pc1 := 107) (ls1 := [(0, .ref 129), (1, .int x0), (2, .int x1)]) (st1 := [.int x1]) (H1 := H) (k1 := 0) (n1 := 0) (by with_unfolding_all rfl)) ?_
      refine ex_s (st_if rfl) ?_
      by_cases c9 : x1 = 0
      · have e := (if_pos c9).symm.trans e
        refine ex_pc (if_pos c9) ?_
        refine ex_s (am_nb (m := 1) (pc1 := 111) (ls1 := [(0, .ref 129), (1, .int x0), (2, .int x1)]) (st1 := [.ref 129]) (H1 := H) (k1 := 0) (n1 := 0) (by with_unfolding_all rfl)) ?_
        refine xe_get (v := .ref 136) hS rfl rfl (by decide) rfl ?_
        refine xe_get (v := .ref 140) hS rfl rfl (by decide) rfl ?_
        refine ex_s (am_nb (m := 1) (pc1 := 118) (ls1 := [(0, .ref 129), (1, .int x0), (2, .int x1)]) (st1 := [.ref 129, .ref 140]) (H1 := H) (k1 := 0) (n1 := 0) (by with_unfolding_all rfl)) ?_
        refine xe_get (v := .ref 136) hS rfl rfl (by decide) rfl ?_
        refine xe_get (v := .int (a 136 6)) hS rfl rfl (by decide) rfl ?_
        refine ex_s (am_nb (m := 1) (pc1 := 125) (ls1 := [(0, .ref 129), (1, .int x0), (2, .int x1)]) (st1 := [.int 0, .int (a 136 6), .ref 140]) (H1 := H) (k1 := 0) (n1 := 0) (by with_unfolding_all rfl)) ?_
        obtain ⟨g13, e⟩ := xg_some e
        obtain ⟨a10, ha10, e⟩ := xw_some e
        refine xe_zast hS rfl rfl g13 (fun H11 s12 => ?_)
        have s12 : xS h b T a10 H11 := by rw [ha10]; exact s12
        refine ex_s (am_nb (m := 1) (pc1 := 180) (ls1 := [(0, .ref 129), (1, .int x0), (2, .int x1)]) (st1 := []) (H1 := H11) (k1 := 0) (n1 := 0) (by with_unfolding_all rfl)) ?_
        cases e
        exact ex_r (st_vret rfl rfl) s12
      · have e := (if_neg c9).symm.trans e
        refine ex_pc (if_neg c9) ?_
        refine ex_s (am_nb (m := 2) (pc1 := 131) (ls1 := [(0, .ref 129), (1, .int x0), (2, .int x1)]) (st1 := [.int 3, .int x1]) (H1 := H) (k1 := 0) (n1 := 0) (by with_unfolding_all rfl)) ?_
        refine ex_s (st_icmp rfl) ?_
        by_cases c15 : x1 = 3
        · have e := (if_pos c15).symm.trans e
          refine ex_pc (if_pos c15) ?_
          refine ex_s (am_nb (m := 1) (pc1 := 135) (ls1 := [(0, .ref 129), (1, .int x0), (2, .int x1)]) (st1 := [.ref 129]) (H1 := H) (k1 := 0) (n1 := 0) (by with_unfolding_all rfl)) ?_
          refine xe_get (v := .ref 136) hS rfl rfl (by decide) rfl ?_
          obtain ⟨a19, e18, e⟩ := xb1_some e
          refine ex_cv0 (as := []) (rest := []) rfl rfl rfl rfl (hS.obj rfl (by decide)) rfl (by with_unfolding_all rfl) (by with_unfolding_all rfl) (tf240_clearStops hS e18) (fun H16 s17 => ?_)
          refine ex_s (am_nb (m := 1) (pc1 := 180) (ls1 := [(0, .ref 129), (1, .int x0), (2, .int x1)]) (st1 := []) (H1 := H16) (k1 := 0) (n1 := 0) (by with_unfolding_all rfl)) ?_
          cases e
          exact ex_r (st_vret rfl rfl) s17
        · have e := (if_neg c15).symm.trans e
          refine ex_pc (if_neg c15) ?_
          cases e
          exact ex_r (st_vret rfl rfl) hS
    · have e := (if_neg c8).symm.trans e
      by_cases c20 : x0 = 104
      · have e := (if_pos c20).symm.trans e
        refine ex_pc (pc1 := 90) (by rw [c20]; with_unfolding_all rfl) ?_
        refine ex_s (am_nb (m := 2) (pc1 := 92) (ls1 := [(0, .ref 129), (1, .int x0), (2, .int x1)]) (st1 := [.int 1, .ref 129]) (H1 := H) (k1 := 0) (n1 := 0) (by with_unfolding_all rfl)) ?_
        obtain ⟨a24, e23, e⟩ := xb1_some e
        refine ex_cv0 (as := [.int 1]) (rest := []) rfl rfl rfl rfl (hS.obj rfl (by decide)) rfl (by with_unfolding_all rfl) (by with_unfolding_all rfl) (tf239_turnModes hS e23) (fun H21 s22 => ?_)
        refine ex_s (am_nb (m := 1) (pc1 := 180) (ls1 := [(0, .ref 129), (1, .int x0), (2, .int x1)]) (st1 := []) (H1 := H21) (k1 := 0) (n1 := 0) (by with_unfolding_all rfl)) ?_
        cases e
        exact ex_r (st_vret rfl rfl) s22
      · have e := (if_neg c20).symm.trans e
        by_cases c25 : x0 = 108
        · have e := (if_pos c25).symm.trans e
          refine ex_pc (pc1 := 98) (by rw [c25]; with_unfolding_all rfl) ?_
          refine ex_s (am_nb (m := 2) (pc1 := 100) (ls1 := [(0, .ref 129), (1, .int x0), (2, .int x1)]) (st1 := [.int 0, .ref 129]) (H1 := H) (k1 := 0) (n1 := 0) (by with_unfolding_all rfl)) ?_
          obtain ⟨a29, e28, e⟩ := xb1_some e
          refine ex_cv0 (as := [.int 0]) (rest := []) rfl rfl rfl rfl (hS.obj rfl (by decide)) rfl (by with_unfolding_all rfl) (by with_unfolding_all rfl) (tf239_turnModes hS e28) (fun H26 s27 => ?_)
          refine ex_s (am_nb (m := 1) (pc1 := 180) (ls1 := [(0, .ref 129), (1, .int x0), (2, .int x1)]) (st1 := []) (H1 := H26) (k1 := 0) (n1 := 0) (by with_unfolding_all rfl)) ?_
          cases e
          exact ex_r (st_vret rfl rfl) s27
        · have e := (if_neg c25).symm.trans e
          by_cases c30 : x0 = 109
          · have e := (if_pos c30).symm.trans e
            refine ex_pc (pc1 := 76) (by rw [c30]; with_unfolding_all rfl) ?_
            refine ex_s (am_nb (m := 1) (pc1 := 77) (ls1 := [(0, .ref 129), (1, .int x0), (2, .int x1)]) (st1 := [.ref 129]) (H1 := H) (k1 := 0) (n1 := 0) (by with_unfolding_all rfl)) ?_
            obtain ⟨a34, e33, e⟩ := xb1_some e
            refine ex_cv0 (as := []) (rest := []) rfl rfl rfl rfl (hS.obj rfl (by decide)) rfl (by with_unfolding_all rfl) (by with_unfolding_all rfl) (tf237_dressByNumbers hS e33) (fun H31 s32 => ?_)
            refine ex_s (am_nb (m := 1) (pc1 := 180) (ls1 := [(0, .ref 129), (1, .int x0), (2, .int x1)]) (st1 := []) (H1 := H31) (k1 := 0) (n1 := 0) (by with_unfolding_all rfl)) ?_
            cases e
            exact ex_r (st_vret rfl rfl) s32
          · have e := (if_neg c30).symm.trans e
            by_cases c35 : x0 = 110
            · have e := (if_pos c35).symm.trans e
              refine ex_pc (pc1 := 155) (by rw [c35]; with_unfolding_all rfl) ?_
              refine ex_s (am_nb (m := 2) (pc1 := 157) (ls1 := [(0, .ref 129), (1, .int x0), (2, .int x1)]) (st1 := [.int 5, .int x1]) (H1 := H) (k1 := 0) (n1 := 0) (by with_unfolding_all rfl)) ?_
              refine ex_s (st_icmp rfl) ?_
              by_cases c37 : x1 = 5
              · have e := (if_pos c37).symm.trans e
                refine ex_pc (if_pos c37) ?_
                refine ex_s (am_nb (m := 1) (pc1 := 161) (ls1 := [(0, .ref 129), (1, .int x0), (2, .int x1)]) (st1 := [.ref 129]) (H1 := H) (k1 := 0) (n1 := 0) (by with_unfolding_all rfl)) ?_
                obtain ⟨a41, e40, e⟩ := xb1_some e
                refine ex_cv0 (as := []) (rest := []) rfl rfl rfl rfl (hS.obj rfl (by decide)) rfl (by with_unfolding_all rfl) (by with_unfolding_all rfl) (tf241_answerWell hS e40) (fun H38 s39 => ?_)
                refine ex_s (am_nb (m := 1) (pc1 := 180) (ls1 := [(0, .ref 129), (1, .int x0), (2, .int x1)]) (st1 := []) (H1 := H38) (k1 := 0) (n1 := 0) (by with_unfolding_all rfl)) ?_
                cases e
                exact ex_r (st_vret rfl rfl) s39
              · have e := (if_neg c37).symm.trans e
                refine ex_pc (if_neg c37) ?_
                refine ex_s (am_nb (m := 2) (pc1 := 170) (ls1 := [(0, .ref 129), (1, .int x0), (2, .int x1)]) (st1 := [.int 6, .int x1]) (H1 := H) (k1 := 0) (n1 := 0) (by with_unfolding_all rfl)) ?_
                refine ex_s (st_icmp rfl) ?_
                by_cases c43 : x1 = 6
                · have e := (if_pos c43).symm.trans e
                  refine ex_pc (if_pos c43) ?_
                  refine ex_s (am_nb (m := 1) (pc1 := 174) (ls1 := [(0, .ref 129), (1, .int x0), (2, .int x1)]) (st1 := [.ref 129]) (H1 := H) (k1 := 0) (n1 := 0) (by with_unfolding_all rfl)) ?_
                  obtain ⟨a47, e46, e⟩ := xb1_some e
                  refine ex_cv0 (as := []) (rest := []) rfl rfl rfl rfl (hS.obj rfl (by decide)) rfl (by with_unfolding_all rfl) (by with_unfolding_all rfl) (tf242_answerPlace hS e46) (fun H44 s45 => ?_)
                  refine ex_s (am_nb (m := 1) (pc1 := 180) (ls1 := [(0, .ref 129), (1, .int x0), (2, .int x1)]) (st1 := []) (H1 := H44) (k1 := 0) (n1 := 0) (by with_unfolding_all rfl)) ?_
                  cases e
                  exact ex_r (st_vret rfl rfl) s45
                · have e := (if_neg c43).symm.trans e
                  refine ex_pc (if_neg c43) ?_
                  cases e
                  exact ex_r (st_vret rfl rfl) hS
            · have e := (if_neg c35).symm.trans e
              by_cases c48 : x0 = 113
              · have e := (if_pos c48).symm.trans e
                refine ex_pc (pc1 := 83) (by rw [c48]; with_unfolding_all rfl) ?_
                refine ex_s (am_nb (m := 1) (pc1 := 84) (ls1 := [(0, .ref 129), (1, .int x0), (2, .int x1)]) (st1 := [.ref 129]) (H1 := H) (k1 := 0) (n1 := 0) (by with_unfolding_all rfl)) ?_
                obtain ⟨a52, e51, e⟩ := xb1_some e
                refine ex_cv0 (as := []) (rest := []) rfl rfl rfl rfl (hS.obj rfl (by decide)) rfl (by with_unfolding_all rfl) (by with_unfolding_all rfl) (tf238_lightByNumbers hS e51) (fun H49 s50 => ?_)
                refine ex_s (am_nb (m := 1) (pc1 := 180) (ls1 := [(0, .ref 129), (1, .int x0), (2, .int x1)]) (st1 := []) (H1 := H49) (k1 := 0) (n1 := 0) (by with_unfolding_all rfl)) ?_
                cases e
                exact ex_r (st_vret rfl rfl) s50
              · have e := (if_neg c48).symm.trans e
                refine ex_pc (pc1 := 180) (am_sw_n (sw_c (Or.inl c1) (sw_c (Or.inr rfl) (sw_c (Or.inr rfl) (sw_c (Or.inr rfl) (sw_c (Or.inl c8) (sw_c (Or.inl c20) (sw_c (Or.inr rfl) (sw_c (Or.inr rfl) (sw_c (Or.inr rfl) (sw_c (Or.inl c25) (sw_c (Or.inl c30) (sw_c (Or.inl c35) (sw_c (Or.inr rfl) (sw_c (Or.inr rfl) (sw_c (Or.inl c48) sw_o)))))))))))))))) ?_
                cases e
                exact ex_r (st_vret rfl rfl) hS

set_option maxRecDepth 100000 in
theorem tj226_498 {sL : Nat} {sx : Nat → Int32} {h b N : Nat} {T : List am_C} {a' : xA} {t0 : Int32} {t1 : Int32} {a : xA} {H : am_H} (hS : xS h b T a H) (e : j226_498 N h b t0 t1 a = some a') : am_E sL sx am_cs 226 498 [] [.int t0, .int t1, .ref 136] H none (fun H1 => xS h b T a' H1) := by
  unfold j226_498 at e
  obtain ⟨a79, e78, e⟩ := xb1_some e
  refine ex_cv0 (as := [.int t1, .int t0]) (rest := []) rfl rfl rfl rfl (hS.obj rfl (by decide)) rfl (by with_unfolding_all rfl) (by with_unfolding_all rfl) (tf235_setMargins hS e78) (fun H76 s77 => ?_)
  refine ex_s (am_nb (m := 1) (pc1 := 510) (ls1 := []) (st1 := []) (H1 := H76) (k1 := 0) (n1 := 0) (by with_unfolding_all rfl)) ?_
  cases e
  exact ex_r (st_vret rfl rfl) s77

set_option maxRecDepth 100000 in
theorem tj226_25 {sL : Nat} {sx : Nat → Int32} {h b N : Nat} {T : List am_C} {a' : xA} {q1 : Int32} {q2 : Int32} {t0 : Int32} {a : xA} {H : am_H} (hS : xS h b T a H) (e : j226_25 N h b q1 q2 t0 a = some a') : am_E sL sx am_cs 226 25 [(0, .ref 129), (1, .int q1), (2, .int q2)] [.int t0] H none (fun H1 => xS h b T a' H1) := by
  unfold j226_25 at e
  refine ex_s (am_nb (m := 6) (pc1 := 34) (ls1 := [(4, .int (xmax 1 q2)), (3, .int t0), (0, .ref 129), (1, .int q1), (2, .int q2)]) (st1 := [.int q1]) (H1 := H) (k1 := 0) (n1 := 0) (by with_unfolding_all rfl)) ?_
  refine ex_s (st_tsw rfl) ?_
  by_cases c3 : q1 = 64
  · have e := (if_pos c3).symm.trans e
    refine ex_pc (pc1 := 440) (by rw [c3]; with_unfolding_all rfl) ?_
    refine ex_s (am_nb (m := 1) (pc1 := 441) (ls1 := [(4, .int (xmax 1 q2)), (3, .int t0), (0, .ref 129), (1, .int q1), (2, .int q2)]) (st1 := [.ref 129]) (H1 := H) (k1 := 0) (n1 := 0) (by with_unfolding_all rfl)) ?_
    refine xe_get (v := .ref 136) hS rfl rfl (by decide) rfl ?_
    refine ex_s (am_nb (m := 1) (pc1 := 446) (ls1 := [(4, .int (xmax 1 q2)), (3, .int t0), (0, .ref 129), (1, .int q1), (2, .int q2)]) (st1 := [.int (xmax 1 q2), .ref 136]) (H1 := H) (k1 := 0) (n1 := 0) (by with_unfolding_all rfl)) ?_
    obtain ⟨a7, e6, e⟩ := xb1_some e
    refine ex_cv0 (as := [.int (xmax 1 q2)]) (rest := []) rfl rfl rfl rfl (hS.obj rfl (by decide)) rfl (by with_unfolding_all rfl) (by with_unfolding_all rfl) (tf233_slideCellsHere hS e6) (fun H4 s5 => ?_)
    refine ex_s (am_nb (m := 1) (pc1 := 510) (ls1 := [(4, .int (xmax 1 q2)), (3, .int t0), (0, .ref 129), (1, .int q1), (2, .int q2)]) (st1 := []) (H1 := H4) (k1 := 0) (n1 := 0) (by with_unfolding_all rfl)) ?_
    cases e
    exact ex_r (st_vret rfl rfl) s5
  · have e := (if_neg c3).symm.trans e
    by_cases c8 : q1 = 65
    · have e := (if_pos c8).symm.trans e
      refine ex_pc (pc1 := 252) (by rw [c8]; with_unfolding_all rfl) ?_
      refine ex_s (am_nb (m := 1) (pc1 := 253) (ls1 := [(4, .int (xmax 1 q2)), (3, .int t0), (0, .ref 129), (1, .int q1), (2, .int q2)]) (st1 := [.ref 129]) (H1 := H) (k1 := 0) (n1 := 0) (by with_unfolding_all rfl)) ?_
      refine xe_get (v := .ref 136) hS rfl rfl (by decide) rfl ?_
      refine ex_s (am_nb (m := 1) (pc1 := 258) (ls1 := [(4, .int (xmax 1 q2)), (3, .int t0), (0, .ref 129), (1, .int q1), (2, .int q2)]) (st1 := [.int (xmax 1 q2), .ref 136]) (H1 := H) (k1 := 0) (n1 := 0) (by with_unfolding_all rfl)) ?_
      obtain ⟨a12, e11, e⟩ := xb1_some e
      refine ex_cv0 (as := [.int (xmax 1 q2)]) (rest := []) rfl rfl rfl rfl (hS.obj rfl (by decide)) rfl (by with_unfolding_all rfl) (by with_unfolding_all rfl) (tf227_goUp hS e11) (fun H9 s10 => ?_)
      refine ex_s (am_nb (m := 1) (pc1 := 510) (ls1 := [(4, .int (xmax 1 q2)), (3, .int t0), (0, .ref 129), (1, .int q1), (2, .int q2)]) (st1 := []) (H1 := H9) (k1 := 0) (n1 := 0) (by with_unfolding_all rfl)) ?_
      cases e
      exact ex_r (st_vret rfl rfl) s10
    · have e := (if_neg c8).symm.trans e
      by_cases c13 : q1 = 66
      · have e := (if_pos c13).symm.trans e
        refine ex_pc (pc1 := 264) (by rw [c13]; with_unfolding_all rfl) ?_
        refine ex_s (am_nb (m := 1) (pc1 := 265) (ls1 := [(4, .int (xmax 1 q2)), (3, .int t0), (0, .ref 129), (1, .int q1), (2, .int q2)]) (st1 := [.ref 129]) (H1 := H) (k1 := 0) (n1 := 0) (by with_unfolding_all rfl)) ?_
        refine xe_get (v := .ref 136) hS rfl rfl (by decide) rfl ?_
        refine ex_s (am_nb (m := 1) (pc1 := 270) (ls1 := [(4, .int (xmax 1 q2)), (3, .int t0), (0, .ref 129), (1, .int q1), (2, .int q2)]) (st1 := [.int (xmax 1 q2), .ref 136]) (H1 := H) (k1 := 0) (n1 := 0) (by with_unfolding_all rfl)) ?_
        obtain ⟨a17, e16, e⟩ := xb1_some e
        refine ex_cv0 (as := [.int (xmax 1 q2)]) (rest := []) rfl rfl rfl rfl (hS.obj rfl (by decide)) rfl (by with_unfolding_all rfl) (by with_unfolding_all rfl) (tf228_goDown hS e16) (fun H14 s15 => ?_)
        refine ex_s (am_nb (m := 1) (pc1 := 510) (ls1 := [(4, .int (xmax 1 q2)), (3, .int t0), (0, .ref 129), (1, .int q1), (2, .int q2)]) (st1 := []) (H1 := H14) (k1 := 0) (n1 := 0) (by with_unfolding_all rfl)) ?_
        cases e
        exact ex_r (st_vret rfl rfl) s15
      · have e := (if_neg c13).symm.trans e
        by_cases c18 : q1 = 67
        · have e := (if_pos c18).symm.trans e
          refine ex_pc (pc1 := 276) (by rw [c18]; with_unfolding_all rfl) ?_
          refine ex_s (am_nb (m := 1) (pc1 := 277) (ls1 := [(4, .int (xmax 1 q2)), (3, .int t0), (0, .ref 129), (1, .int q1), (2, .int q2)]) (st1 := [.ref 129]) (H1 := H) (k1 := 0) (n1 := 0) (by with_unfolding_all rfl)) ?_
          refine xe_get (v := .ref 136) hS rfl rfl (by decide) rfl ?_
          refine ex_s (am_nb (m := 1) (pc1 := 281) (ls1 := [(4, .int (xmax 1 q2)), (3, .int t0), (0, .ref 129), (1, .int q1), (2, .int q2)]) (st1 := [.ref 129, .ref 136]) (H1 := H) (k1 := 0) (n1 := 0) (by with_unfolding_all rfl)) ?_
          refine xe_get (v := .ref 136) hS rfl rfl (by decide) rfl ?_
          refine xe_get (v := .int (a 136 5)) hS rfl rfl (by decide) rfl ?_
          refine ex_s (am_nb (m := 1) (pc1 := 288) (ls1 := [(4, .int (xmax 1 q2)), (3, .int t0), (0, .ref 129), (1, .int q1), (2, .int q2)]) (st1 := [.ref 129, .int (a 136 5), .ref 136]) (H1 := H) (k1 := 0) (n1 := 0) (by with_unfolding_all rfl)) ?_
          refine xe_get (v := .ref 136) hS rfl rfl (by decide) rfl ?_
          refine xe_get (v := .int (a 136 6)) hS rfl rfl (by decide) rfl ?_
          refine ex_s (am_nb (m := 2) (pc1 := 297) (ls1 := [(4, .int (xmax 1 q2)), (3, .int t0), (0, .ref 129), (1, .int q1), (2, .int q2)]) (st1 := [.int ((a 136 6) + (xmax 1 q2)), .int (a 136 5), .ref 136]) (H1 := H) (k1 := 0) (n1 := 0) (by with_unfolding_all rfl)) ?_
          obtain ⟨a22, e21, e⟩ := xb1_some e
          refine ex_cv0 (as := [.int (a 136 5), .int ((a 136 6) + (xmax 1 q2))]) (rest := []) rfl rfl rfl rfl (hS.obj rfl (by decide)) rfl (by with_unfolding_all rfl) (by with_unfolding_all rfl) (tf16_place hS e21) (fun H19 s20 => ?_)
          refine ex_s (am_nb (m := 1) (pc1 := 510) (ls1 := [(4, .int (xmax 1 q2)), (3, .int t0), (0, .ref 129), (1, .int q1), (2, .int q2)]) (st1 := []) (H1 := H19) (k1 := 0) (n1 := 0) (by with_unfolding_all rfl)) ?_
          cases e
          exact ex_r (st_vret rfl rfl) s20
        · have e := (if_neg c18).symm.trans e
          by_cases c23 : q1 = 68
          · have e := (if_pos c23).symm.trans e
            refine ex_pc (pc1 := 303) (by rw [c23]; with_unfolding_all rfl) ?_
            refine ex_s (am_nb (m := 1) (pc1 := 304) (ls1 := [(4, .int (xmax 1 q2)), (3, .int t0), (0, .ref 129), (1, .int q1), (2, .int q2)]) (st1 := [.ref 129]) (H1 := H) (k1 := 0) (n1 := 0) (by with_unfolding_all rfl)) ?_
            refine xe_get (v := .ref 136) hS rfl rfl (by decide) rfl ?_
            refine ex_s (am_nb (m := 1) (pc1 := 308) (ls1 := [(4, .int (xmax 1 q2)), (3, .int t0), (0, .ref 129), (1, .int q1), (2, .int q2)]) (st1 := [.ref 129, .ref 136]) (H1 := H) (k1 := 0) (n1 := 0) (by with_unfolding_all rfl)) ?_
            refine xe_get (v := .ref 136) hS rfl rfl (by decide) rfl ?_
            refine xe_get (v := .int (a 136 5)) hS rfl rfl (by decide) rfl ?_
            refine ex_s (am_nb (m := 1) (pc1 := 315) (ls1 := [(4, .int (xmax 1 q2)), (3, .int t0), (0, .ref 129), (1, .int q1), (2, .int q2)]) (st1 := [.ref 129, .int (a 136 5), .ref 136]) (H1 := H) (k1 := 0) (n1 := 0) (by with_unfolding_all rfl)) ?_
            refine xe_get (v := .ref 136) hS rfl rfl (by decide) rfl ?_
            refine xe_get (v := .int (a 136 6)) hS rfl rfl (by decide) rfl ?_
            refine ex_s (am_nb (m := 2) (pc1 := 324) (ls1 := [(4, .int (xmax 1 q2)), (3, .int t0), (0, .ref 129), (1, .int q1), (2, .int q2)]) (st1 := [.int ((a 136 6) - (xmax 1 q2)), .int (a 136 5), .ref 136]) (H1 := H) (k1 := 0) (n1 := 0) (by with_unfolding_all rfl)) ?_
            obtain ⟨a27, e26, e⟩ := xb1_some e
            refine ex_cv0 (as := [.int (a 136 5), .int ((a 136 6) - (xmax 1 q2))]) (rest := []) rfl rfl rfl rfl (hS.obj rfl (by decide)) rfl (by with_unfolding_all rfl) (by with_unfolding_all rfl) (tf16_place hS e26) (fun H24 s25 => ?_)
            refine ex_s (am_nb (m := 1) (pc1 := 510) (ls1 := [(4, .int (xmax 1 q2)), (3, .int t0), (0, .ref 129), (1, .int q1), (2, .int q2)]) (st1 := []) (H1 := H24) (k1 := 0) (n1 := 0) (by with_unfolding_all rfl)) ?_
            cases e
            exact ex_r (st_vret rfl rfl) s25
          · have e := (if_neg c23).symm.trans e
            by_cases c28 : q1 = 71
            · have e := (if_pos c28).symm.trans e
              refine ex_pc (pc1 := 330) (by rw [c28]; with_unfolding_all rfl) ?_
              refine ex_s (am_nb (m := 1) (pc1 := 331) (ls1 := [(4, .int (xmax 1 q2)), (3, .int t0), (0, .ref 129), (1, .int q1), (2, .int q2)]) (st1 := [.ref 129]) (H1 := H) (k1 := 0) (n1 := 0) (by with_unfolding_all rfl)) ?_
              refine xe_get (v := .ref 136) hS rfl rfl (by decide) rfl ?_
              refine ex_s (am_nb (m := 1) (pc1 := 335) (ls1 := [(4, .int (xmax 1 q2)), (3, .int t0), (0, .ref 129), (1, .int q1), (2, .int q2)]) (st1 := [.ref 129, .ref 136]) (H1 := H) (k1 := 0) (n1 := 0) (by with_unfolding_all rfl)) ?_
              refine xe_get (v := .ref 136) hS rfl rfl (by decide) rfl ?_
              refine xe_get (v := .int (a 136 5)) hS rfl rfl (by decide) rfl ?_
              refine ex_s (am_nb (m := 3) (pc1 := 345) (ls1 := [(4, .int (xmax 1 q2)), (3, .int t0), (0, .ref 129), (1, .int q1), (2, .int q2)]) (st1 := [.int ((xmax 1 q2) - 1), .int (a 136 5), .ref 136]) (H1 := H) (k1 := 0) (n1 := 0) (by with_unfolding_all rfl)) ?_
              obtain ⟨a32, e31, e⟩ := xb1_some e
              refine ex_cv0 (as := [.int (a 136 5), .int ((xmax 1 q2) - 1)]) (rest := []) rfl rfl rfl rfl (hS.obj rfl (by decide)) rfl (by with_unfolding_all rfl) (by with_unfolding_all rfl) (tf16_place hS e31) (fun H29 s30 => ?_)
              refine ex_s (am_nb (m := 1) (pc1 := 510) (ls1 := [(4, .int (xmax 1 q2)), (3, .int t0), (0, .ref 129), (1, .int q1), (2, .int q2)]) (st1 := []) (H1 := H29) (k1 := 0) (n1 := 0) (by with_unfolding_all rfl)) ?_
              cases e
              exact ex_r (st_vret rfl rfl) s30
            · have e := (if_neg c28).symm.trans e
              by_cases c33 : q1 = 72 ∨ q1 = 102
              · have e := (if_pos c33).symm.trans e
                refine ex_pc (pc1 := 372) (by rcases c33 with c33 | c33 <;> (rw [c33]; with_unfolding_all rfl)) ?_
                refine ex_s (am_nb (m := 1) (pc1 := 373) (ls1 := [(4, .int (xmax 1 q2)), (3, .int t0), (0, .ref 129), (1, .int q1), (2, .int q2)]) (st1 := [.ref 129]) (H1 := H) (k1 := 0) (n1 := 0) (by with_unfolding_all rfl)) ?_
                refine xe_get (v := .ref 136) hS rfl rfl (by decide) rfl ?_
                refine ex_s (am_nb (m := 8) (pc1 := 387) (ls1 := [(4, .int (xmax 1 q2)), (3, .int t0), (0, .ref 129), (1, .int q1), (2, .int q2)]) (st1 := [.int ((xmax 1 t0) - 1), .int ((xmax 1 q2) - 1), .ref 136]) (H1 := H) (k1 := 0) (n1 := 0) (by with_unfolding_all rfl)) ?_
                obtain ⟨a37, e36, e⟩ := xb1_some e
                refine ex_cv0 (as := [.int ((xmax 1 q2) - 1), .int ((xmax 1 t0) - 1)]) (rest := []) rfl rfl rfl rfl (hS.obj rfl (by decide)) rfl (by with_unfolding_all rfl) (by with_unfolding_all rfl) (tf229_placeTold hS e36) (fun H34 s35 => ?_)
                refine ex_s (am_nb (m := 1) (pc1 := 510) (ls1 := [(4, .int (xmax 1 q2)), (3, .int t0), (0, .ref 129), (1, .int q1), (2, .int q2)]) (st1 := []) (H1 := H34) (k1 := 0) (n1 := 0) (by with_unfolding_all rfl)) ?_
                cases e
                exact ex_r (st_vret rfl rfl) s35
              · have e := (if_neg c33).symm.trans e
                by_cases c38 : q1 = 74
                · have e := (if_pos c38).symm.trans e
                  refine ex_pc (pc1 := 393) (by rw [c38]; with_unfolding_all rfl) ?_
                  refine ex_s (am_nb (m := 1) (pc1 := 394) (ls1 := [(4, .int (xmax 1 q2)), (3, .int t0), (0, .ref 129), (1, .int q1), (2, .int q2)]) (st1 := [.ref 129]) (H1 := H) (k1 := 0) (n1 := 0) (by with_unfolding_all rfl)) ?_
                  refine xe_get (v := .ref 136) hS rfl rfl (by decide) rfl ?_
                  refine ex_s (am_nb (m := 1) (pc1 := 398) (ls1 := [(4, .int (xmax 1 q2)), (3, .int t0), (0, .ref 129), (1, .int q1), (2, .int q2)]) (st1 := [.int q2, .ref 136]) (H1 := H) (k1 := 0) (n1 := 0) (by with_unfolding_all rfl)) ?_
                  obtain ⟨a42, e41, e⟩ := xb1_some e
                  refine ex_cv0 (as := [.int q2]) (rest := []) rfl rfl rfl rfl (hS.obj rfl (by decide)) rfl (by with_unfolding_all rfl) (by with_unfolding_all rfl) (tf230_eraseScreen hS e41) (fun H39 s40 => ?_)
                  refine ex_s (am_nb (m := 1) (pc1 := 510) (ls1 := [(4, .int (xmax 1 q2)), (3, .int t0), (0, .ref 129), (1, .int q1), (2, .int q2)]) (st1 := []) (H1 := H39) (k1 := 0) (n1 := 0) (by with_unfolding_all rfl)) ?_
                  cases e
                  exact ex_r (st_vret rfl rfl) s40
                · have e := (if_neg c38).symm.trans e
                  by_cases c43 : q1 = 75
                  · have e := (if_pos c43).symm.trans e
                    refine ex_pc (pc1 := 404) (by rw [c43]; with_unfolding_all rfl) ?_
                    refine ex_s (am_nb (m := 1) (pc1 := 405) (ls1 := [(4, .int (xmax 1 q2)), (3, .int t0), (0, .ref 129), (1, .int q1), (2, .int q2)]) (st1 := [.ref 129]) (H1 := H) (k1 := 0) (n1 := 0) (by with_unfolding_all rfl)) ?_
                    refine xe_get (v := .ref 136) hS rfl rfl (by decide) rfl ?_
                    refine ex_s (am_nb (m := 1) (pc1 := 409) (ls1 := [(4, .int (xmax 1 q2)), (3, .int t0), (0, .ref 129), (1, .int q1), (2, .int q2)]) (st1 := [.int q2, .ref 136]) (H1 := H) (k1 := 0) (n1 := 0) (by with_unfolding_all rfl)) ?_
                    obtain ⟨a47, e46, e⟩ := xb1_some e
                    refine ex_cv0 (as := [.int q2]) (rest := []) rfl rfl rfl rfl (hS.obj rfl (by decide)) rfl (by with_unfolding_all rfl) (by with_unfolding_all rfl) (tf231_eraseRow hS e46) (fun H44 s45 => ?_)
                    refine ex_s (am_nb (m := 1) (pc1 := 510) (ls1 := [(4, .int (xmax 1 q2)), (3, .int t0), (0, .ref 129), (1, .int q1), (2, .int q2)]) (st1 := []) (H1 := H44) (k1 := 0) (n1 := 0) (by with_unfolding_all rfl)) ?_
                    cases e
                    exact ex_r (st_vret rfl rfl) s45
                  · have e := (if_neg c43).symm.trans e
                    by_cases c48 : q1 = 76
                    · have e := (if_pos c48).symm.trans e
                      refine ex_pc (pc1 := 415) (by rw [c48]; with_unfolding_all rfl) ?_
                      refine ex_s (am_nb (m := 1) (pc1 := 416) (ls1 := [(4, .int (xmax 1 q2)), (3, .int t0), (0, .ref 129), (1, .int q1), (2, .int q2)]) (st1 := [.ref 129]) (H1 := H) (k1 := 0) (n1 := 0) (by with_unfolding_all rfl)) ?_
                      refine xe_get (v := .ref 136) hS rfl rfl (by decide) rfl ?_
                      refine ex_s (am_nb (m := 1) (pc1 := 421) (ls1 := [(4, .int (xmax 1 q2)), (3, .int t0), (0, .ref 129), (1, .int q1), (2, .int q2)]) (st1 := [.int (xmax 1 q2), .ref 136]) (H1 := H) (k1 := 0) (n1 := 0) (by with_unfolding_all rfl)) ?_
                      obtain ⟨a52, e51, e⟩ := xb1_some e
                      refine ex_cv0 (as := [.int (xmax 1 q2)]) (rest := []) rfl rfl rfl rfl (hS.obj rfl (by decide)) rfl (by with_unfolding_all rfl) (by with_unfolding_all rfl) (tf232_slideRowsHere hS e51) (fun H49 s50 => ?_)
                      refine ex_s (am_nb (m := 1) (pc1 := 510) (ls1 := [(4, .int (xmax 1 q2)), (3, .int t0), (0, .ref 129), (1, .int q1), (2, .int q2)]) (st1 := []) (H1 := H49) (k1 := 0) (n1 := 0) (by with_unfolding_all rfl)) ?_
                      cases e
                      exact ex_r (st_vret rfl rfl) s50
                    · have e := (if_neg c48).symm.trans e
                      by_cases c53 : q1 = 77
                      · have e := (if_pos c53).symm.trans e
                        refine ex_pc (pc1 := 427) (by rw [c53]; with_unfolding_all rfl) ?_
                        refine ex_s (am_nb (m := 1) (pc1 := 428) (ls1 := [(4, .int (xmax 1 q2)), (3, .int t0), (0, .ref 129), (1, .int q1), (2, .int q2)]) (st1 := [.ref 129]) (H1 := H) (k1 := 0) (n1 := 0) (by with_unfolding_all rfl)) ?_
                        refine xe_get (v := .ref 136) hS rfl rfl (by decide) rfl ?_
                        refine ex_s (am_nb (m := 2) (pc1 := 434) (ls1 := [(4, .int (xmax 1 q2)), (3, .int t0), (0, .ref 129), (1, .int q1), (2, .int q2)]) (st1 := [.int (-(xmax 1 q2)), .ref 136]) (H1 := H) (k1 := 0) (n1 := 0) (by with_unfolding_all rfl)) ?_
                        obtain ⟨a57, e56, e⟩ := xb1_some e
                        refine ex_cv0 (as := [.int (-(xmax 1 q2))]) (rest := []) rfl rfl rfl rfl (hS.obj rfl (by decide)) rfl (by with_unfolding_all rfl) (by with_unfolding_all rfl) (tf232_slideRowsHere hS e56) (fun H54 s55 => ?_)
                        refine ex_s (am_nb (m := 1) (pc1 := 510) (ls1 := [(4, .int (xmax 1 q2)), (3, .int t0), (0, .ref 129), (1, .int q1), (2, .int q2)]) (st1 := []) (H1 := H54) (k1 := 0) (n1 := 0) (by with_unfolding_all rfl)) ?_
                        cases e
                        exact ex_r (st_vret rfl rfl) s55
                      · have e := (if_neg c53).symm.trans e
                        by_cases c58 : q1 = 80
                        · have e := (if_pos c58).symm.trans e
                          refine ex_pc (pc1 := 452) (by rw [c58]; with_unfolding_all rfl) ?_
                          refine ex_s (am_nb (m := 1) (pc1 := 453) (ls1 := [(4, .int (xmax 1 q2)), (3, .int t0), (0, .ref 129), (1, .int q1), (2, .int q2)]) (st1 := [.ref 129]) (H1 := H) (k1 := 0) (n1 := 0) (by with_unfolding_all rfl)) ?_
                          refine xe_get (v := .ref 136) hS rfl rfl (by decide) rfl ?_
                          refine ex_s (am_nb (m := 2) (pc1 := 459) (ls1 := [(4, .int (xmax 1 q2)), (3, .int t0), (0, .ref 129), (1, .int q1), (2, .int q2)]) (st1 := [.int (-(xmax 1 q2)), .ref 136]) (H1 := H) (k1 := 0) (n1 := 0) (by with_unfolding_all rfl)) ?_
                          obtain ⟨a62, e61, e⟩ := xb1_some e
                          refine ex_cv0 (as := [.int (-(xmax 1 q2))]) (rest := []) rfl rfl rfl rfl (hS.obj rfl (by decide)) rfl (by with_unfolding_all rfl) (by with_unfolding_all rfl) (tf233_slideCellsHere hS e61) (fun H59 s60 => ?_)
                          refine ex_s (am_nb (m := 1) (pc1 := 510) (ls1 := [(4, .int (xmax 1 q2)), (3, .int t0), (0, .ref 129), (1, .int q1), (2, .int q2)]) (st1 := []) (H1 := H59) (k1 := 0) (n1 := 0) (by with_unfolding_all rfl)) ?_
                          cases e
                          exact ex_r (st_vret rfl rfl) s60
                        · have e := (if_neg c58).symm.trans e
                          by_cases c63 : q1 = 88
                          · have e := (if_pos c63).symm.trans e
                            refine ex_pc (pc1 := 465) (by rw [c63]; with_unfolding_all rfl) ?_
                            refine ex_s (am_nb (m := 1) (pc1 := 466) (ls1 := [(4, .int (xmax 1 q2)), (3, .int t0), (0, .ref 129), (1, .int q1), (2, .int q2)]) (st1 := [.ref 129]) (H1 := H) (k1 := 0) (n1 := 0) (by with_unfolding_all rfl)) ?_
                            refine xe_get (v := .ref 136) hS rfl rfl (by decide) rfl ?_
                            refine ex_s (am_nb (m := 1) (pc1 := 471) (ls1 := [(4, .int (xmax 1 q2)), (3, .int t0), (0, .ref 129), (1, .int q1), (2, .int q2)]) (st1 := [.int (xmax 1 q2), .ref 136]) (H1 := H) (k1 := 0) (n1 := 0) (by with_unfolding_all rfl)) ?_
                            obtain ⟨a67, e66, e⟩ := xb1_some e
                            refine ex_cv0 (as := [.int (xmax 1 q2)]) (rest := []) rfl rfl rfl rfl (hS.obj rfl (by decide)) rfl (by with_unfolding_all rfl) (by with_unfolding_all rfl) (tf234_blankCellsHere hS e66) (fun H64 s65 => ?_)
                            refine ex_s (am_nb (m := 1) (pc1 := 510) (ls1 := [(4, .int (xmax 1 q2)), (3, .int t0), (0, .ref 129), (1, .int q1), (2, .int q2)]) (st1 := []) (H1 := H64) (k1 := 0) (n1 := 0) (by with_unfolding_all rfl)) ?_
                            cases e
                            exact ex_r (st_vret rfl rfl) s65
                          · have e := (if_neg c63).symm.trans e
                            by_cases c68 : q1 = 100
                            · have e := (if_pos c68).symm.trans e
                              refine ex_pc (pc1 := 351) (by rw [c68]; with_unfolding_all rfl) ?_
                              refine ex_s (am_nb (m := 1) (pc1 := 352) (ls1 := [(4, .int (xmax 1 q2)), (3, .int t0), (0, .ref 129), (1, .int q1), (2, .int q2)]) (st1 := [.ref 129]) (H1 := H) (k1 := 0) (n1 := 0) (by with_unfolding_all rfl)) ?_
                              refine xe_get (v := .ref 136) hS rfl rfl (by decide) rfl ?_
                              refine ex_s (am_nb (m := 4) (pc1 := 360) (ls1 := [(4, .int (xmax 1 q2)), (3, .int t0), (0, .ref 129), (1, .int q1), (2, .int q2)]) (st1 := [.ref 129, .int ((xmax 1 q2) - 1), .ref 136]) (H1 := H) (k1 := 0) (n1 := 0) (by with_unfolding_all rfl)) ?_
                              refine xe_get (v := .ref 136) hS rfl rfl (by decide) rfl ?_
                              refine xe_get (v := .int (a 136 6)) hS rfl rfl (by decide) rfl ?_
                              obtain ⟨a72, e71, e⟩ := xb1_some e
                              refine ex_cv0 (as := [.int ((xmax 1 q2) - 1), .int (a 136 6)]) (rest := []) rfl rfl rfl rfl (hS.obj rfl (by decide)) rfl (by with_unfolding_all rfl) (by with_unfolding_all rfl) (tf229_placeTold hS e71) (fun H69 s70 => ?_)
                              refine ex_s (am_nb (m := 1) (pc1 := 510) (ls1 := [(4, .int (xmax 1 q2)), (3, .int t0), (0, .ref 129), (1, .int q1), (2, .int q2)]) (st1 := []) (H1 := H69) (k1 := 0) (n1 := 0) (by with_unfolding_all rfl)) ?_
                              cases e
                              exact ex_r (st_vret rfl rfl) s70
                            · have e := (if_neg c68).symm.trans e
                              by_cases c73 : q1 = 114
                              · have e := (if_pos c73).symm.trans e
                                refine ex_pc (pc1 := 477) (by rw [c73]; with_unfolding_all rfl) ?_
                                refine ex_s (am_nb (m := 1) (pc1 := 478) (ls1 := [(4, .int (xmax 1 q2)), (3, .int t0), (0, .ref 129), (1, .int q1), (2, .int q2)]) (st1 := [.ref 129]) (H1 := H) (k1 := 0) (n1 := 0) (by with_unfolding_all rfl)) ?_
                                refine xe_get (v := .ref 136) hS rfl rfl (by decide) rfl ?_
                                refine ex_s (am_nb (m := 2) (pc1 := 484) (ls1 := [(4, .int (xmax 1 q2)), (3, .int t0), (0, .ref 129), (1, .int q1), (2, .int q2)]) (st1 := [.int t0, .int (xmax 1 q2), .ref 136]) (H1 := H) (k1 := 0) (n1 := 0) (by with_unfolding_all rfl)) ?_
                                refine ex_s (st_if rfl) ?_
                                by_cases c75 : t0 = 0
                                · have e := (if_pos c75).symm.trans e
                                  refine ex_pc (if_pos c75) ?_
                                  refine ex_s (am_nb (m := 1) (pc1 := 488) (ls1 := [(4, .int (xmax 1 q2)), (3, .int t0), (0, .ref 129), (1, .int q1), (2, .int q2)]) (st1 := [.ref 129, .int (xmax 1 q2), .ref 136]) (H1 := H) (k1 := 0) (n1 := 0) (by with_unfolding_all rfl)) ?_
                                  refine xe_get (v := .ref 136) hS rfl rfl (by decide) rfl ?_
                                  refine xe_get (v := .int (a 136 0)) hS rfl rfl (by decide) rfl ?_
                                  refine ex_s (am_nb (m := 1) (pc1 := 498) (ls1 := [(4, .int (xmax 1 q2)), (3, .int t0), (0, .ref 129), (1, .int q1), (2, .int q2)]) (st1 := [.int (a 136 0), .int (xmax 1 q2), .ref 136]) (H1 := H) (k1 := 0) (n1 := 0) (by with_unfolding_all rfl)) ?_
                                  exact le_E (l1 := []) trivial rfl (tj226_498  hS e)
                                · have e := (if_neg c75).symm.trans e
                                  refine ex_pc (if_neg c75) ?_
                                  refine ex_s (am_nb (m := 1) (pc1 := 498) (ls1 := [(4, .int (xmax 1 q2)), (3, .int t0), (0, .ref 129), (1, .int q1), (2, .int q2)]) (st1 := [.int t0, .int (xmax 1 q2), .ref 136]) (H1 := H) (k1 := 0) (n1 := 0) (by with_unfolding_all rfl)) ?_
                                  exact le_E (l1 := []) trivial rfl (tj226_498  hS e)
                              · have e := (if_neg c73).symm.trans e
                                refine ex_pc (pc1 := 504) (am_sw_n (sw_c (Or.inl c3) (sw_c (Or.inl c8) (sw_c (Or.inl c13) (sw_c (Or.inl c18) (sw_c (Or.inl c23) (sw_c (Or.inr rfl) (sw_c (Or.inr rfl) (sw_c (Or.inl c28) (sw_c (Or.inl (fun q => c33 (Or.inl q))) (sw_c (Or.inr rfl) (sw_c (Or.inl c38) (sw_c (Or.inl c43) (sw_c (Or.inl c48) (sw_c (Or.inl c53) (sw_c (Or.inr rfl) (sw_c (Or.inr rfl) (sw_c (Or.inl c58) (sw_c (Or.inr rfl) (sw_c (Or.inr rfl) (sw_c (Or.inr rfl) (sw_c (Or.inr rfl) (sw_c (Or.inr rfl) (sw_c (Or.inr rfl) (sw_c (Or.inr rfl) (sw_c (Or.inl c63) (sw_c (Or.inr rfl) (sw_c (Or.inr rfl) (sw_c (Or.inr rfl) (sw_c (Or.inr rfl) (sw_c (Or.inr rfl) (sw_c (Or.inr rfl) (sw_c (Or.inr rfl) (sw_c (Or.inr rfl) (sw_c (Or.inr rfl) (sw_c (Or.inr rfl) (sw_c (Or.inr rfl) (sw_c (Or.inl c68) (sw_c (Or.inr rfl) (sw_c (Or.inl (fun q => c33 (Or.inr q))) (sw_c (Or.inr rfl) (sw_c (Or.inr rfl) (sw_c (Or.inr rfl) (sw_c (Or.inr rfl) (sw_c (Or.inr rfl) (sw_c (Or.inr rfl) (sw_c (Or.inr rfl) (sw_c (Or.inr rfl) (sw_c (Or.inr rfl) (sw_c (Or.inr rfl) (sw_c (Or.inr rfl) (sw_c (Or.inl c73) sw_o)))))))))))))))))))))))))))))))))))))))))))))))))))) ?_
                                refine ex_s (am_nb (m := 3) (pc1 := 507) (ls1 := [(4, .int (xmax 1 q2)), (3, .int t0), (0, .ref 129), (1, .int q1), (2, .int q2)]) (st1 := [.int q2, .int q1, .ref 129]) (H1 := H) (k1 := 0) (n1 := 0) (by with_unfolding_all rfl)) ?_
                                obtain ⟨a83, e82, e⟩ := xb1_some e
                                refine ex_cv0 (as := [.int q1, .int q2]) (rest := []) rfl rfl rfl rfl (hS.obj rfl (by decide)) rfl (by with_unfolding_all rfl) (by with_unfolding_all rfl) (tf236_setOrAnswer hS e82) (fun H80 s81 => ?_)
                                cases e
                                exact ex_r (st_vret rfl rfl) s81
