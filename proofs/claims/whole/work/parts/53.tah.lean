/-! The program does what the functions say. -/
set_option maxRecDepth 100000 in
theorem tj180_109 {sL : Nat} {sx : Nat → Int32} {h b N : Nat} {T : List am_C} {a' : xA} {q2 : Int32} {a : xA} {H : am_H} (hS : xS h b T a H) (e : j180_109 N h b q2 a = some a') : am_E sL sx am_cs 180 109 [(0, .ref 116), (2, .int q2)] [] H none (fun H1 => xS h b T a' H1) := by
  unfold j180_109 at e
  refine ex_s (am_nb (m := 2) (pc1 := 111) (ls1 := [(0, .ref 116), (2, .int q2)]) (st1 := [.int 1, .ref 116]) (H1 := H) (k1 := 0) (n1 := 0) (by with_unfolding_all rfl)) ?_
  obtain ⟨r33, a34, e32, e⟩ := xb2_some e
  refine ex_cv1 (as := [.int 1]) (rest := []) rfl rfl rfl rfl (hS.obj rfl (by decide)) rfl (by with_unfolding_all rfl) (by with_unfolding_all rfl) (tf162_has hS e32) (fun H30 s31 => ?_)
  refine ex_s (st_if rfl) ?_
  by_cases c36 : r33 = 0
  · have e := (if_pos c36).symm.trans e
    refine ex_pc (if_pos c36) ?_
    refine ex_s (am_nb (m := 2) (pc1 := 127) (ls1 := [(0, .ref 116), (2, .int q2)]) (st1 := [.int q2, .ref 116]) (H1 := H30) (k1 := 0) (n1 := 0) (by with_unfolding_all rfl)) ?_
    obtain ⟨a40, e39, e⟩ := xb1_some e
    refine ex_cv0 (as := [.int q2]) (rest := []) rfl rfl rfl rfl (s31.obj rfl (by decide)) rfl (by with_unfolding_all rfl) (by with_unfolding_all rfl) (tf181_take s31 e39) (fun H37 s38 => ?_)
    cases e
    exact ex_r (st_vret rfl rfl) s38
  · have e := (if_neg c36).symm.trans e
    refine ex_pc (if_neg c36) ?_
    refine ex_s (am_nb (m := 2) (pc1 := 119) (ls1 := [(0, .ref 116), (2, .int q2)]) (st1 := [.int q2, .ref 116]) (H1 := H30) (k1 := 0) (n1 := 0) (by with_unfolding_all rfl)) ?_
    obtain ⟨a44, e43, e⟩ := xb1_some e
    refine ex_cv0 (as := [.int q2]) (rest := []) rfl rfl rfl rfl (s31.obj rfl (by decide)) rfl (by with_unfolding_all rfl) (by with_unfolding_all rfl) (tf185_edit s31 e43) (fun H41 s42 => ?_)
    refine ex_s (am_nb (m := 1) (pc1 := 130) (ls1 := [(0, .ref 116), (2, .int q2)]) (st1 := []) (H1 := H41) (k1 := 0) (n1 := 0) (by with_unfolding_all rfl)) ?_
    cases e
    exact ex_r (st_vret rfl rfl) s42

set_option maxRecDepth 100000 in
theorem tj180_68 {sL : Nat} {sx : Nat → Int32} {h b N : Nat} {T : List am_C} {a' : xA} {q2 : Int32} {a : xA} {H : am_H} (hS : xS h b T a H) (e : j180_68 N h b q2 a = some a') : am_E sL sx am_cs 180 68 [(0, .ref 116), (2, .int q2)] [] H none (fun H1 => xS h b T a' H1) := by
  unfold j180_68 at e
  refine ex_s (am_nb (m := 1) (pc1 := 69) (ls1 := [(0, .ref 116), (2, .int q2)]) (st1 := [.ref 116]) (H1 := H) (k1 := 0) (n1 := 0) (by with_unfolding_all rfl)) ?_
  refine xe_get (v := .int (a 116 5)) hS rfl rfl (by decide) rfl ?_
  refine ex_s (st_if rfl) ?_
  by_cases c21 : (a 116 5) = 0
  · have e := (if_pos c21).symm.trans e
    refine ex_pc (if_pos c21) ?_
    refine ex_s (am_nb (m := 2) (pc1 := 91) (ls1 := [(0, .ref 116), (2, .int q2)]) (st1 := [.int 32, .ref 116]) (H1 := H) (k1 := 0) (n1 := 0) (by with_unfolding_all rfl)) ?_
    obtain ⟨r25, a26, e24, e⟩ := xb2_some e
    refine ex_cv1 (as := [.int 32]) (rest := []) rfl rfl rfl rfl (hS.obj rfl (by decide)) rfl (by with_unfolding_all rfl) (by with_unfolding_all rfl) (tf162_has hS e24) (fun H22 s23 => ?_)
    refine ex_s (st_if rfl) ?_
    by_cases c29 : r25 = 0
    · have e := (if_pos c29).symm.trans e
      refine ex_pc (if_pos c29) ?_
      exact le_E (l1 := [(0, .ref 116), (2, .int q2)]) ⟨rfl, rfl, trivial⟩ rfl (tj180_109  s23 e)
    · have e := (if_neg c29).symm.trans e
      refine ex_pc (if_neg c29) ?_
      refine ex_s (am_nb (m := 2) (pc1 := 99) (ls1 := [(0, .ref 116), (2, .int q2)]) (st1 := [.int 3, .int q2]) (H1 := H22) (k1 := 0) (n1 := 0) (by with_unfolding_all rfl)) ?_
      refine ex_s (st_icmp rfl) ?_
      by_cases c46 : q2 = 3
      · have e := (if_pos c46).symm.trans e
        refine ex_pc (if_pos c46) ?_
        refine ex_s (am_nb (m := 1) (pc1 := 103) (ls1 := [(0, .ref 116), (2, .int q2)]) (st1 := [.ref 116]) (H1 := H22) (k1 := 0) (n1 := 0) (by with_unfolding_all rfl)) ?_
        obtain ⟨a50, e49, e⟩ := xb1_some e
        refine ex_cv0 (as := []) (rest := []) rfl rfl rfl rfl (s23.obj rfl (by decide)) rfl (by with_unfolding_all rfl) (by with_unfolding_all rfl) (tf184_interrupt s23 e49) (fun H47 s48 => ?_)
        refine ex_s (am_nb (m := 1) (pc1 := 130) (ls1 := [(0, .ref 116), (2, .int q2)]) (st1 := []) (H1 := H47) (k1 := 0) (n1 := 0) (by with_unfolding_all rfl)) ?_
        cases e
        exact ex_r (st_vret rfl rfl) s48
      · have e := (if_neg c46).symm.trans e
        refine ex_pc (if_neg c46) ?_
        exact le_E (l1 := [(0, .ref 116), (2, .int q2)]) ⟨rfl, rfl, trivial⟩ rfl (tj180_109  s23 e)
  · have e := (if_neg c21).symm.trans e
    refine ex_pc (if_neg c21) ?_
    refine ex_s (am_nb (m := 2) (pc1 := 77) (ls1 := [(0, .ref 116), (2, .int q2)]) (st1 := [.int 0, .ref 116]) (H1 := H) (k1 := 0) (n1 := 0) (by with_unfolding_all rfl)) ?_
    obtain ⟨a51, ha51, e⟩ := xw_some e
    refine xe_put (w := 0) hS rfl rfl (by decide) rfl rfl rfl rfl (fun H52 s53 => ?_)
    have s53 : xS h b T a51 H52 := by rw [ha51]; exact s53
    refine ex_s (am_nb (m := 2) (pc1 := 82) (ls1 := [(0, .ref 116), (2, .int q2)]) (st1 := [.int q2, .ref 116]) (H1 := H52) (k1 := 0) (n1 := 0) (by with_unfolding_all rfl)) ?_
    obtain ⟨a57, e56, e⟩ := xb1_some e
    refine ex_cv0 (as := [.int q2]) (rest := []) rfl rfl rfl rfl (s53.obj rfl (by decide)) rfl (by with_unfolding_all rfl) (by with_unfolding_all rfl) (tf181_take s53 e56) (fun H54 s55 => ?_)
    refine ex_s (am_nb (m := 1) (pc1 := 130) (ls1 := [(0, .ref 116), (2, .int q2)]) (st1 := []) (H1 := H54) (k1 := 0) (n1 := 0) (by with_unfolding_all rfl)) ?_
    cases e
    exact ex_r (st_vret rfl rfl) s55

set_option maxRecDepth 100000 in
theorem tj180_50 {sL : Nat} {sx : Nat → Int32} {h b N : Nat} {T : List am_C} {a' : xA} {q2 : Int32} {a : xA} {H : am_H} (hS : xS h b T a H) (e : j180_50 N h b q2 a = some a') : am_E sL sx am_cs 180 50 [(0, .ref 116), (2, .int q2)] [] H none (fun H1 => xS h b T a' H1) := by
  unfold j180_50 at e
  refine ex_s (am_nb (m := 3) (pc1 := 54) (ls1 := [(0, .ref 116), (2, .int q2)]) (st1 := [.int 19, .int q2, .ref 116]) (H1 := H) (k1 := 0) (n1 := 0) (by with_unfolding_all rfl)) ?_
  have kk : am_E sL sx am_cs 180 62 [(0, .ref 116), (2, .int q2)] [.int (if q2 = 19 then (1 : Int32) else (0 : Int32)), .ref 116] H none (fun H1 => xS h b T a' H1) := by
    obtain ⟨g66, e⟩ := xg_some e
    obtain ⟨a63, ha63, e⟩ := xw_some e
    refine xe_put (w := (if q2 = 19 then (1 : Int32) else (0 : Int32))) hS rfl rfl (by decide) rfl rfl (xfit_z g66) rfl (fun H64 s65 => ?_)
    have s65 : xS h b T a63 H64 := by rw [ha63]; exact s65
    refine ex_s (am_nb (m := 1) (pc1 := 130) (ls1 := [(0, .ref 116), (2, .int q2)]) (st1 := []) (H1 := H64) (k1 := 0) (n1 := 0) (by with_unfolding_all rfl)) ?_
    cases e
    exact ex_r (st_vret rfl rfl) s65
  refine ex_s (st_icmp rfl) ?_
  by_cases c62 : q2 = 19
  · refine ex_pc (if_pos c62) ?_
    refine ex_s (am_nb (m := 2) (pc1 := 62) (ls1 := [(0, .ref 116), (2, .int q2)]) (st1 := [.int 1, .ref 116]) (H1 := H) (k1 := 0) (n1 := 0) (by with_unfolding_all rfl)) ?_
    rw [if_pos c62] at kk
    exact kk
  · refine ex_pc (if_neg c62) ?_
    refine ex_s (am_nb (m := 1) (pc1 := 62) (ls1 := [(0, .ref 116), (2, .int q2)]) (st1 := [.int 0, .ref 116]) (H1 := H) (k1 := 0) (n1 := 0) (by with_unfolding_all rfl)) ?_
    rw [if_neg c62] at kk
    exact kk

set_option maxRecDepth 100000 in
theorem tj180_28 {sL : Nat} {sx : Nat → Int32} {h b N : Nat} {T : List am_C} {a' : xA} {t0 : Int32} {a : xA} {H : am_H} (hS : xS h b T a H) (e : j180_28 N h b t0 a = some a') : am_E sL sx am_cs 180 28 [(0, .ref 116)] [.int t0] H none (fun H1 => xS h b T a' H1) := by
  unfold j180_28 at e
  refine ex_s (am_nb (m := 3) (pc1 := 32) (ls1 := [(2, .int t0), (0, .ref 116)]) (st1 := [.int 64, .ref 116]) (H1 := H) (k1 := 0) (n1 := 0) (by with_unfolding_all rfl)) ?_
  obtain ⟨r14, a15, e13, e⟩ := xb2_some e
  refine ex_cv1 (as := [.int 64]) (rest := []) rfl rfl rfl rfl (hS.obj rfl (by decide)) rfl (by with_unfolding_all rfl) (by with_unfolding_all rfl) (tf162_has hS e13) (fun H11 s12 => ?_)
  refine ex_s (st_if rfl) ?_
  by_cases c19 : r14 = 0
  · have e := (if_pos c19).symm.trans e
    refine ex_pc (if_pos c19) ?_
    exact le_E (l1 := [(0, .ref 116), (2, .int t0)]) ⟨rfl, rfl, trivial⟩ rfl (tj180_68  s12 e)
  · have e := (if_neg c19).symm.trans e
    refine ex_pc (if_neg c19) ?_
    refine ex_s (am_nb (m := 2) (pc1 := 41) (ls1 := [(2, .int t0), (0, .ref 116)]) (st1 := [.int 19, .int t0]) (H1 := H11) (k1 := 0) (n1 := 0) (by with_unfolding_all rfl)) ?_
    refine ex_s (st_icmp rfl) ?_
    by_cases c61 : t0 = 19
    · have e := (if_pos c61).symm.trans e
      refine ex_pc (if_pos c61) ?_
      exact le_E (l1 := [(0, .ref 116), (2, .int t0)]) ⟨rfl, rfl, trivial⟩ rfl (tj180_50  s12 e)
    · have e := (if_neg c61).symm.trans e
      refine ex_pc (if_neg c61) ?_
      refine ex_s (am_nb (m := 2) (pc1 := 47) (ls1 := [(2, .int t0), (0, .ref 116)]) (st1 := [.int 17, .int t0]) (H1 := H11) (k1 := 0) (n1 := 0) (by with_unfolding_all rfl)) ?_
      refine ex_s (st_icmp rfl) ?_
      by_cases c67 : t0 = 17
      · have e := (if_pos c67).symm.trans e
        refine ex_pc (if_pos c67) ?_
        exact le_E (l1 := [(0, .ref 116), (2, .int t0)]) ⟨rfl, rfl, trivial⟩ rfl (tj180_50  s12 e)
      · have e := (if_neg c67).symm.trans e
        refine ex_pc (if_neg c67) ?_
        exact le_E (l1 := [(0, .ref 116), (2, .int t0)]) ⟨rfl, rfl, trivial⟩ rfl (tj180_68  s12 e)

set_option maxRecDepth 100000 in
theorem tj180_27 {sL : Nat} {sx : Nat → Int32} {h b N : Nat} {T : List am_C} {a' : xA} {q1 : Int32} {a : xA} {H : am_H} (hS : xS h b T a H) (e : j180_27 N h b q1 a = some a') : am_E sL sx am_cs 180 27 [(0, .ref 116), (1, .int q1)] [] H none (fun H1 => xS h b T a' H1) := by
  unfold j180_27 at e
  refine ex_s (am_nb (m := 1) (pc1 := 28) (ls1 := [(0, .ref 116), (1, .int q1)]) (st1 := [.int q1]) (H1 := H) (k1 := 0) (n1 := 0) (by with_unfolding_all rfl)) ?_
  exact le_E (l1 := [(0, .ref 116)]) ⟨rfl, trivial⟩ rfl (tj180_28  hS e)

set_option maxRecDepth 100000 in
theorem tf180_receive {sL : Nat} {sx : Nat → Int32} {h b N : Nat} {T : List am_C} {a' : xA} {x0 : Int32} {a : xA} {H : am_H} (hS : xS h b T a H) (e : f180_receive N h b x0 a = some a') : am_E sL sx am_cs 180 0 [(0, .ref 116), (1, .int x0)] [] H none (fun H1 => xS h b T a' H1) := by
  unfold f180_receive at e
  refine ex_s (am_nb (m := 2) (pc1 := 3) (ls1 := [(0, .ref 116), (1, .int x0)]) (st1 := [.int 13, .int x0]) (H1 := H) (k1 := 0) (n1 := 0) (by with_unfolding_all rfl)) ?_
  refine ex_s (st_icmp rfl) ?_
  by_cases c2 : x0 = 13
  · have e := (if_pos c2).symm.trans e
    refine ex_pc (if_pos c2) ?_
    refine ex_s (am_nb (m := 2) (pc1 := 9) (ls1 := [(0, .ref 116), (1, .int x0)]) (st1 := [.int 8, .ref 116]) (H1 := H) (k1 := 0) (n1 := 0) (by with_unfolding_all rfl)) ?_
    obtain ⟨r6, a7, e5, e⟩ := xb2_some e
    refine ex_cv1 (as := [.int 8]) (rest := []) rfl rfl rfl rfl (hS.obj rfl (by decide)) rfl (by with_unfolding_all rfl) (by with_unfolding_all rfl) (tf162_has hS e5) (fun H3 s4 => ?_)
    refine ex_s (st_if rfl) ?_
    by_cases c10 : r6 = 0
    · have e := (if_pos c10).symm.trans e
      refine ex_pc (if_pos c10) ?_
      exact le_E (l1 := [(0, .ref 116), (1, .int x0)]) ⟨rfl, rfl, trivial⟩ rfl (tj180_27  s4 e)
    · have e := (if_neg c10).symm.trans e
      refine ex_pc (if_neg c10) ?_
      refine ex_s (am_nb (m := 1) (pc1 := 16) (ls1 := [(0, .ref 116), (1, .int x0)]) (st1 := [.ref 116]) (H1 := H3) (k1 := 0) (n1 := 0) (by with_unfolding_all rfl)) ?_
      refine xe_get (v := .int (a7 116 5)) s4 rfl rfl (by decide) rfl ?_
      have kk : am_E sL sx am_cs 180 28 [(0, .ref 116), (1, .int x0)] [.int (if (a7 116 5) = 0 then (10 : Int32) else (x0))] H3 none (fun H1 => xS h b T a' H1) := by
        refine ex_s (am_nb (m := 3) (pc1 := 32) (ls1 := [(2, .int (if (a7 116 5) = 0 then (10 : Int32) else (x0))), (0, .ref 116), (1, .int x0)]) (st1 := [.int 64, .ref 116]) (H1 := H3) (k1 := 0) (n1 := 0) (by with_unfolding_all rfl)) ?_
        obtain ⟨r72, a73, e71, e⟩ := xb2_some e
        refine ex_cv1 (as := [.int 64]) (rest := []) rfl rfl rfl rfl (s4.obj rfl (by decide)) rfl (by with_unfolding_all rfl) (by with_unfolding_all rfl) (tf162_has s4 e71) (fun H69 s70 => ?_)
        refine ex_s (st_if rfl) ?_
        by_cases c77 : r72 = 0
        · have e := (if_pos c77).symm.trans e
          refine ex_pc (if_pos c77) ?_
          exact le_E (l1 := [(0, .ref 116), (2, .int (if (a7 116 5) = 0 then (10 : Int32) else (x0)))]) ⟨rfl, rfl, trivial⟩ rfl (tj180_68  s70 e)
        · have e := (if_neg c77).symm.trans e
          refine ex_pc (if_neg c77) ?_
          refine ex_s (am_nb (m := 2) (pc1 := 41) (ls1 := [(2, .int (if (a7 116 5) = 0 then (10 : Int32) else (x0))), (0, .ref 116), (1, .int x0)]) (st1 := [.int 19, .int (if (a7 116 5) = 0 then (10 : Int32) else (x0))]) (H1 := H69) (k1 := 0) (n1 := 0) (by with_unfolding_all rfl)) ?_
          refine ex_s (st_icmp rfl) ?_
          by_cases c81 : (if (a7 116 5) = 0 then (10 : Int32) else (x0)) = 19
          · have e := (if_pos c81).symm.trans e
            refine ex_pc (if_pos c81) ?_
            exact le_E (l1 := [(0, .ref 116), (2, .int (if (a7 116 5) = 0 then (10 : Int32) else (x0)))]) ⟨rfl, rfl, trivial⟩ rfl (tj180_50  s70 e)
          · have e := (if_neg c81).symm.trans e
            refine ex_pc (if_neg c81) ?_
            refine ex_s (am_nb (m := 2) (pc1 := 47) (ls1 := [(2, .int (if (a7 116 5) = 0 then (10 : Int32) else (x0))), (0, .ref 116), (1, .int x0)]) (st1 := [.int 17, .int (if (a7 116 5) = 0 then (10 : Int32) else (x0))]) (H1 := H69) (k1 := 0) (n1 := 0) (by with_unfolding_all rfl)) ?_
            refine ex_s (st_icmp rfl) ?_
            by_cases c82 : (if (a7 116 5) = 0 then (10 : Int32) else (x0)) = 17
            · have e := (if_pos c82).symm.trans e
              refine ex_pc (if_pos c82) ?_
              exact le_E (l1 := [(0, .ref 116), (2, .int (if (a7 116 5) = 0 then (10 : Int32) else (x0)))]) ⟨rfl, rfl, trivial⟩ rfl (tj180_50  s70 e)
            · have e := (if_neg c82).symm.trans e
              refine ex_pc (if_neg c82) ?_
              exact le_E (l1 := [(0, .ref 116), (2, .int (if (a7 116 5) = 0 then (10 : Int32) else (x0)))]) ⟨rfl, rfl, trivial⟩ rfl (tj180_68  s70 e)
      refine ex_s (st_if rfl) ?_
      by_cases c68 : (a7 116 5) = 0
      · refine ex_pc (if_pos c68) ?_
        refine ex_s (am_nb (m := 2) (pc1 := 28) (ls1 := [(0, .ref 116), (1, .int x0)]) (st1 := [.int 10]) (H1 := H3) (k1 := 0) (n1 := 0) (by with_unfolding_all rfl)) ?_
        rw [if_pos c68] at kk
        exact kk
      · refine ex_pc (if_neg c68) ?_
        refine ex_s (am_nb (m := 1) (pc1 := 28) (ls1 := [(0, .ref 116), (1, .int x0)]) (st1 := [.int x0]) (H1 := H3) (k1 := 0) (n1 := 0) (by with_unfolding_all rfl)) ?_
        rw [if_neg c68] at kk
        exact kk
  · have e := (if_neg c2).symm.trans e
    refine ex_pc (if_neg c2) ?_
    exact le_E (l1 := [(0, .ref 116), (1, .int x0)]) ⟨rfl, rfl, trivial⟩ rfl (tj180_27  hS e)

set_option maxRecDepth 100000 in
theorem tj194_26 {sL : Nat} {sx : Nat → Int32} {h b N : Nat} {T : List am_C} {a' : xA} {q1 : Int32} {a : xA} {H : am_H} (hS : xS h b T a H) (e : j194_26 N h b q1 a = some a') : am_E sL sx am_cs 194 26 [(0, .ref 123), (1, .int q1)] [] H none (fun H1 => xS h b T a' H1) := by
  unfold j194_26 at e
  refine ex_s (am_nb (m := 1) (pc1 := 27) (ls1 := [(0, .ref 123), (1, .int q1)]) (st1 := [.ref 123]) (H1 := H) (k1 := 0) (n1 := 0) (by with_unfolding_all rfl)) ?_
  refine xe_get (v := .int (a 123 3)) hS rfl rfl (by decide) rfl ?_
  refine ex_s (am_nb (m := 1) (pc1 := 31) (ls1 := [(0, .ref 123), (1, .int q1)]) (st1 := [.int q1, .int (a 123 3)]) (H1 := H) (k1 := 0) (n1 := 0) (by with_unfolding_all rfl)) ?_
  refine ex_s (st_icmp rfl) ?_
  by_cases c5 : (a 123 3) = q1
  · have e := (if_pos c5).symm.trans e
    refine ex_pc (if_pos c5) ?_
    refine ex_s (am_nb (m := 2) (pc1 := 36) (ls1 := [(0, .ref 123), (1, .int q1)]) (st1 := [.int (-1), .ref 123]) (H1 := H) (k1 := 0) (n1 := 0) (by with_unfolding_all rfl)) ?_
    obtain ⟨a6, ha6, e⟩ := xw_some e
    refine xe_put (w := (-1)) hS rfl rfl (by decide) rfl rfl rfl rfl (fun H7 s8 => ?_)
    have s8 : xS h b T a6 H7 := by rw [ha6]; exact s8
    cases e
    exact ex_r (st_vret rfl rfl) s8
  · have e := (if_neg c5).symm.trans e
    refine ex_pc (if_neg c5) ?_
    cases e
    exact ex_r (st_vret rfl rfl) hS

set_option maxRecDepth 100000 in
theorem tf194_release {sL : Nat} {sx : Nat → Int32} {h b N : Nat} {T : List am_C} {a' : xA} {x0 : Int32} {a : xA} {H : am_H} (hS : xS h b T a H) (e : f194_release N h b x0 a = some a') : am_E sL sx am_cs 194 0 [(0, .ref 123), (1, .int x0)] [] H none (fun H1 => xS h b T a' H1) := by
  unfold f194_release at e
  refine ex_s (am_nb (m := 1) (pc1 := 1) (ls1 := [(0, .ref 123), (1, .int x0)]) (st1 := [.ref 123]) (H1 := H) (k1 := 0) (n1 := 0) (by with_unfolding_all rfl)) ?_
  refine xe_get (v := .ref 125) hS rfl rfl (by decide) rfl ?_
  refine ex_s (am_nb (m := 1) (pc1 := 5) (ls1 := [(0, .ref 123), (1, .int x0)]) (st1 := [.int x0, .ref 125]) (H1 := H) (k1 := 0) (n1 := 0) (by with_unfolding_all rfl)) ?_
  obtain ⟨g1, e⟩ := xg_some e
  refine xe_zald hS rfl rfl g1 ?_
  refine ex_s (st_if rfl) ?_
  by_cases c3 : (a 125 (x0.toNatClampNeg)) = 0
  · have e := (if_pos c3).symm.trans e
    refine ex_pc (if_pos c3) ?_
    exact le_E (l1 := [(0, .ref 123), (1, .int x0)]) ⟨rfl, rfl, trivial⟩ rfl (tj194_26  hS e)
  · have e := (if_neg c3).symm.trans e
    refine ex_pc (if_neg c3) ?_
    refine ex_s (am_nb (m := 1) (pc1 := 10) (ls1 := [(0, .ref 123), (1, .int x0)]) (st1 := [.ref 123]) (H1 := H) (k1 := 0) (n1 := 0) (by with_unfolding_all rfl)) ?_
    refine xe_get (v := .ref 125) hS rfl rfl (by decide) rfl ?_
    refine ex_s (am_nb (m := 2) (pc1 := 15) (ls1 := [(0, .ref 123), (1, .int x0)]) (st1 := [.int 0, .int x0, .ref 125]) (H1 := H) (k1 := 0) (n1 := 0) (by with_unfolding_all rfl)) ?_
    obtain ⟨a9, ha9, e⟩ := xw_some e
    refine xe_zast hS rfl rfl g1 (fun H10 s11 => ?_)
    have s11 : xS h b T a9 H10 := by rw [ha9]; exact s11
    refine ex_s (am_nb (m := 2) (pc1 := 18) (ls1 := [(0, .ref 123), (1, .int x0)]) (st1 := [.ref 123, .ref 123]) (H1 := H10) (k1 := 0) (n1 := 0) (by with_unfolding_all rfl)) ?_
    refine xe_get (v := .int (a9 123 2)) s11 rfl rfl (by decide) rfl ?_
    refine ex_s (am_nb (m := 2) (pc1 := 23) (ls1 := [(0, .ref 123), (1, .int x0)]) (st1 := [.int ((a9 123 2) - 1), .ref 123]) (H1 := H10) (k1 := 0) (n1 := 0) (by with_unfolding_all rfl)) ?_
    obtain ⟨a12, ha12, e⟩ := xw_some e
    refine xe_put (w := ((a9 123 2) - 1)) s11 rfl rfl (by decide) rfl rfl rfl rfl (fun H13 s14 => ?_)
    have s14 : xS h b T a12 H13 := by rw [ha12]; exact s14
    exact le_E (l1 := [(0, .ref 123), (1, .int x0)]) ⟨rfl, rfl, trivial⟩ rfl (tj194_26  s14 e)

set_option maxRecDepth 100000 in
theorem tf197_has {sL : Nat} {sx : Nat → Int32} {h b N : Nat} {T : List am_C} {r : Int32} {a' : xA} {x0 : Int32} {a : xA} {H : am_H} (hS : xS h b T a H) (e : f197_has N h b x0 a = some (r, a')) : am_E sL sx am_cs 197 0 [(0, .ref 136), (1, .int x0)] [] H (some (.int r)) (fun H1 => xS h b T a' H1) := by
  unfold f197_has at e
  refine ex_s (am_nb (m := 1) (pc1 := 1) (ls1 := [(0, .ref 136), (1, .int x0)]) (st1 := [.ref 136]) (H1 := H) (k1 := 0) (n1 := 0) (by with_unfolding_all rfl)) ?_
  refine xe_get (v := .int (a 136 10)) hS rfl rfl (by decide) rfl ?_
  refine ex_s (am_nb (m := 2) (pc1 := 6) (ls1 := [(0, .ref 136), (1, .int x0)]) (st1 := [.int ((a 136 10) &&& x0)]) (H1 := H) (k1 := 0) (n1 := 0) (by with_unfolding_all rfl)) ?_
  have kk : am_E sL sx am_cs 197 14 [(0, .ref 136), (1, .int x0)] [.int (if ((a 136 10) &&& x0) = 0 then (0 : Int32) else (1 : Int32))] H (some (.int r)) (fun H1 => xS h b T a' H1) := by
    obtain ⟨g2, e⟩ := xg_some e
    cases e
    exact ex_r (st_iret rfl rfl (xnar_z g2)) hS
  refine ex_s (st_if rfl) ?_
  by_cases c1 : ((a 136 10) &&& x0) = 0
  · refine ex_pc (if_pos c1) ?_
    refine ex_s (am_nb (m := 1) (pc1 := 14) (ls1 := [(0, .ref 136), (1, .int x0)]) (st1 := [.int 0]) (H1 := H) (k1 := 0) (n1 := 0) (by with_unfolding_all rfl)) ?_
    rw [if_pos c1] at kk
    exact kk
  · refine ex_pc (if_neg c1) ?_
    refine ex_s (am_nb (m := 2) (pc1 := 14) (ls1 := [(0, .ref 136), (1, .int x0)]) (st1 := [.int 1]) (H1 := H) (k1 := 0) (n1 := 0) (by with_unfolding_all rfl)) ?_
    rw [if_neg c1] at kk
    exact kk

set_option maxRecDepth 100000 in
theorem tf198_three {sL : Nat} {sx : Nat → Int32} {h b N : Nat} {T : List am_C} {r : Int32} {a' : xA} {x0 : Int32} {x1 : Int32} {a : xA} {H : am_H} (hS : xS h b T a H) (e : f198_three N h b x0 x1 a = some (r, a')) : am_E sL sx am_cs 198 0 [(0, .ref 123), (1, .int x0), (2, .int x1)] [] H (some (.int r)) (fun H1 => xS h b T a' H1) := by
  unfold f198_three at e
  refine ex_s (am_nb (m := 1) (pc1 := 1) (ls1 := [(0, .ref 123), (1, .int x0), (2, .int x1)]) (st1 := [.ref 123]) (H1 := H) (k1 := 0) (n1 := 0) (by with_unfolding_all rfl)) ?_
  refine xe_get (v := .ref 126) hS rfl rfl (by decide) rfl ?_
  refine ex_s (am_nb (m := 2) (pc1 := 7) (ls1 := [(0, .ref 123), (1, .int x0), (2, .int x1)]) (st1 := [.int 27, .int 0, .ref 126]) (H1 := H) (k1 := 0) (n1 := 0) (by with_unfolding_all rfl)) ?_
  obtain ⟨a1, ha1, e⟩ := xw_some e
  refine xe_iast hS rfl rfl (show ¬ ((0 : Int32) < 0 ∨ 3 ≤ ((0 : Int32)).toNatClampNeg) by decide) (fun H2 s3 => ?_)
  have s3 : xS h b T a1 H2 := by rw [ha1]; exact s3
  refine ex_s (am_nb (m := 1) (pc1 := 9) (ls1 := [(0, .ref 123), (1, .int x0), (2, .int x1)]) (st1 := [.ref 123]) (H1 := H2) (k1 := 0) (n1 := 0) (by with_unfolding_all rfl)) ?_
  refine xe_get (v := .ref 126) s3 rfl rfl (by decide) rfl ?_
  refine ex_s (am_nb (m := 2) (pc1 := 14) (ls1 := [(0, .ref 123), (1, .int x0), (2, .int x1)]) (st1 := [.int x0, .int 1, .ref 126]) (H1 := H2) (k1 := 0) (n1 := 0) (by with_unfolding_all rfl)) ?_
  obtain ⟨a4, ha4, e⟩ := xw_some e
  refine xe_iast s3 rfl rfl (show ¬ ((1 : Int32) < 0 ∨ 3 ≤ ((1 : Int32)).toNatClampNeg) by decide) (fun H5 s6 => ?_)
  have s6 : xS h b T a4 H5 := by rw [ha4]; exact s6
  refine ex_s (am_nb (m := 1) (pc1 := 16) (ls1 := [(0, .ref 123), (1, .int x0), (2, .int x1)]) (st1 := [.ref 123]) (H1 := H5) (k1 := 0) (n1 := 0) (by with_unfolding_all rfl)) ?_
  refine xe_get (v := .ref 126) s6 rfl rfl (by decide) rfl ?_
  refine ex_s (am_nb (m := 2) (pc1 := 21) (ls1 := [(0, .ref 123), (1, .int x0), (2, .int x1)]) (st1 := [.int x1, .int 2, .ref 126]) (H1 := H5) (k1 := 0) (n1 := 0) (by with_unfolding_all rfl)) ?_
  obtain ⟨a7, ha7, e⟩ := xw_some e
  refine xe_iast s6 rfl rfl (show ¬ ((2 : Int32) < 0 ∨ 3 ≤ ((2 : Int32)).toNatClampNeg) by decide) (fun H8 s9 => ?_)
  have s9 : xS h b T a7 H8 := by rw [ha7]; exact s9
  refine ex_s (am_nb (m := 1) (pc1 := 23) (ls1 := [(0, .ref 123), (1, .int x0), (2, .int x1)]) (st1 := [.int 3]) (H1 := H8) (k1 := 0) (n1 := 0) (by with_unfolding_all rfl)) ?_
  cases e
  exact ex_r (st_iret rfl rfl rfl) s9

set_option maxRecDepth 100000 in
theorem tf199_one {sL : Nat} {sx : Nat → Int32} {h b N : Nat} {T : List am_C} {r : Int32} {a' : xA} {x0 : Int32} {a : xA} {H : am_H} (hS : xS h b T a H) (e : f199_one N h b x0 a = some (r, a')) : am_E sL sx am_cs 199 0 [(0, .ref 123), (1, .int x0)] [] H (some (.int r)) (fun H1 => xS h b T a' H1) := by
  unfold f199_one at e
  refine ex_s (am_nb (m := 1) (pc1 := 1) (ls1 := [(0, .ref 123), (1, .int x0)]) (st1 := [.ref 123]) (H1 := H) (k1 := 0) (n1 := 0) (by with_unfolding_all rfl)) ?_
  refine xe_get (v := .ref 126) hS rfl rfl (by decide) rfl ?_
  refine ex_s (am_nb (m := 2) (pc1 := 6) (ls1 := [(0, .ref 123), (1, .int x0)]) (st1 := [.int x0, .int 0, .ref 126]) (H1 := H) (k1 := 0) (n1 := 0) (by with_unfolding_all rfl)) ?_
  obtain ⟨a1, ha1, e⟩ := xw_some e
  refine xe_iast hS rfl rfl (show ¬ ((0 : Int32) < 0 ∨ 3 ≤ ((0 : Int32)).toNatClampNeg) by decide) (fun H2 s3 => ?_)
  have s3 : xS h b T a1 H2 := by rw [ha1]; exact s3
  refine ex_s (am_nb (m := 1) (pc1 := 8) (ls1 := [(0, .ref 123), (1, .int x0)]) (st1 := [.int 1]) (H1 := H2) (k1 := 0) (n1 := 0) (by with_unfolding_all rfl)) ?_
  cases e
  exact ex_r (st_iret rfl rfl rfl) s3

set_option maxRecDepth 100000 in
theorem tj200_29 {sL : Nat} {sx : Nat → Int32} {h b N : Nat} {T : List am_C} {r : Int32} {a' : xA} {q0 : Int32} {a : xA} {H : am_H} (hS : xS h b T a H) (e : j200_29 N h b q0 a = some (r, a')) : am_E sL sx am_cs 200 29 [(0, .int q0)] [] H (some (.int r)) (fun H1 => xS h b T a' H1) := by
  unfold j200_29 at e
  refine ex_s (am_nb (m := 2) (pc1 := 32) (ls1 := [(0, .int q0)]) (st1 := [.int 63, .int q0]) (H1 := H) (k1 := 0) (n1 := 0) (by with_unfolding_all rfl)) ?_
  have kk : am_E sL sx am_cs 200 41 [(0, .int q0)] [.int (if q0 = 63 then (127 : Int32) else (q0))] H (some (.int r)) (fun H1 => xS h b T a' H1) := by
    cases e
    exact ex_r (st_iret rfl rfl rfl) hS
  refine ex_s (st_icmp rfl) ?_
  by_cases c7 : q0 = 63
  · refine ex_pc (if_pos c7) ?_
    refine ex_s (am_nb (m := 2) (pc1 := 41) (ls1 := [(0, .int q0)]) (st1 := [.int 127]) (H1 := H) (k1 := 0) (n1 := 0) (by with_unfolding_all rfl)) ?_
    rw [if_pos c7] at kk
    exact kk
  · refine ex_pc (if_neg c7) ?_
    refine ex_s (am_nb (m := 1) (pc1 := 41) (ls1 := [(0, .int q0)]) (st1 := [.int q0]) (H1 := H) (k1 := 0) (n1 := 0) (by with_unfolding_all rfl)) ?_
    rw [if_neg c7] at kk
    exact kk

set_option maxRecDepth 100000 in
theorem tj200_24 {sL : Nat} {sx : Nat → Int32} {h b N : Nat} {T : List am_C} {r : Int32} {a' : xA} {q0 : Int32} {a : xA} {H : am_H} (hS : xS h b T a H) (e : j200_24 N h b q0 a = some (r, a')) : am_E sL sx am_cs 200 24 [(0, .int q0)] [] H (some (.int r)) (fun H1 => xS h b T a' H1) := by
  unfold j200_24 at e
  refine ex_s (am_nb (m := 3) (pc1 := 28) (ls1 := [(0, .int q0)]) (st1 := [.int (q0 &&& 31)]) (H1 := H) (k1 := 0) (n1 := 0) (by with_unfolding_all rfl)) ?_
  cases e
  exact ex_r (st_iret rfl rfl rfl) hS

set_option maxRecDepth 100000 in
theorem tj200_12 {sL : Nat} {sx : Nat → Int32} {h b N : Nat} {T : List am_C} {r : Int32} {a' : xA} {q0 : Int32} {a : xA} {H : am_H} (hS : xS h b T a H) (e : j200_12 N h b q0 a = some (r, a')) : am_E sL sx am_cs 200 12 [(0, .int q0)] [] H (some (.int r)) (fun H1 => xS h b T a' H1) := by
  unfold j200_12 at e
  refine ex_s (am_nb (m := 2) (pc1 := 15) (ls1 := [(0, .int q0)]) (st1 := [.int 97, .int q0]) (H1 := H) (k1 := 0) (n1 := 0) (by with_unfolding_all rfl)) ?_
  refine ex_s (st_icmp rfl) ?_
  by_cases c6 : q0 < 97
  · have e := (if_pos c6).symm.trans e
    refine ex_pc (if_pos c6) ?_
    exact le_E (l1 := [(0, .int q0)]) ⟨rfl, trivial⟩ rfl (tj200_29  hS e)
  · have e := (if_neg c6).symm.trans e
    refine ex_pc (if_neg c6) ?_
    refine ex_s (am_nb (m := 2) (pc1 := 21) (ls1 := [(0, .int q0)]) (st1 := [.int 122, .int q0]) (H1 := H) (k1 := 0) (n1 := 0) (by with_unfolding_all rfl)) ?_
    refine ex_s (st_icmp rfl) ?_
    by_cases c8 : 122 < q0
    · have e := (if_pos c8).symm.trans e
      refine ex_pc (if_pos c8) ?_
      exact le_E (l1 := [(0, .int q0)]) ⟨rfl, trivial⟩ rfl (tj200_29  hS e)
    · have e := (if_neg c8).symm.trans e
      refine ex_pc (if_neg c8) ?_
      exact le_E (l1 := [(0, .int q0)]) ⟨rfl, trivial⟩ rfl (tj200_24  hS e)

set_option maxRecDepth 100000 in
theorem tf200_controlled {sL : Nat} {sx : Nat → Int32} {h b N : Nat} {T : List am_C} {r : Int32} {a' : xA} {x0 : Int32} {a : xA} {H : am_H} (hS : xS h b T a H) (e : f200_controlled N h b x0 a = some (r, a')) : am_E sL sx am_cs 200 0 [(0, .int x0)] [] H (some (.int r)) (fun H1 => xS h b T a' H1) := by
  unfold f200_controlled at e
  refine ex_s (am_nb (m := 2) (pc1 := 3) (ls1 := [(0, .int x0)]) (st1 := [.int 64, .int x0]) (H1 := H) (k1 := 0) (n1 := 0) (by with_unfolding_all rfl)) ?_
  refine ex_s (st_icmp rfl) ?_
  by_cases c3 : x0 < 64
  · have e := (if_pos c3).symm.trans e
    refine ex_pc (if_pos c3) ?_
    exact le_E (l1 := [(0, .int x0)]) ⟨rfl, trivial⟩ rfl (tj200_12  hS e)
  · have e := (if_neg c3).symm.trans e
    refine ex_pc (if_neg c3) ?_
    refine ex_s (am_nb (m := 2) (pc1 := 9) (ls1 := [(0, .int x0)]) (st1 := [.int 95, .int x0]) (H1 := H) (k1 := 0) (n1 := 0) (by with_unfolding_all rfl)) ?_
    refine ex_s (st_icmp rfl) ?_
    by_cases c12 : x0 ≤ 95
    · have e := (if_pos c12).symm.trans e
      refine ex_pc (if_pos c12) ?_
      exact le_E (l1 := [(0, .int x0)]) ⟨rfl, trivial⟩ rfl (tj200_24  hS e)
    · have e := (if_neg c12).symm.trans e
      refine ex_pc (if_neg c12) ?_
      exact le_E (l1 := [(0, .int x0)]) ⟨rfl, trivial⟩ rfl (tj200_12  hS e)

set_option maxRecDepth 100000 in
theorem tj196_241 {sL : Nat} {sx : Nat → Int32} {h b N : Nat} {T : List am_C} {r : Int32} {a' : xA} {t0 : Int32} {a : xA} {H : am_H} (hS : xS h b T a H) (e : j196_241 N h b t0 a = some (r, a')) : am_E sL sx am_cs 196 241 [] [.int t0, .ref 123] H (some (.int r)) (fun H1 => xS h b T a' H1) := by
  unfold j196_241 at e
  obtain ⟨r44, a45, e43, e⟩ := xb2_some e
  refine ex_cv1 (as := [.int t0]) (rest := []) rfl rfl rfl rfl (hS.obj rfl (by decide)) rfl (by with_unfolding_all rfl) (by with_unfolding_all rfl) (tf199_one hS e43) (fun H41 s42 => ?_)
  cases e
  exact ex_r (st_iret rfl rfl rfl) s42

set_option maxRecDepth 100000 in
theorem tj196_119 {sL : Nat} {sx : Nat → Int32} {h b N : Nat} {T : List am_C} {r : Int32} {a' : xA} {q1 : Int32} {a : xA} {H : am_H} (hS : xS h b T a H) (e : j196_119 N h b q1 a = some (r, a')) : am_E sL sx am_cs 196 119 [(0, .ref 123), (1, .int q1), (2, .ref 136)] [] H (some (.int r)) (fun H1 => xS h b T a' H1) := by
  unfold j196_119 at e
  refine ex_s (am_nb (m := 2) (pc1 := 122) (ls1 := [(0, .ref 123), (1, .int q1), (2, .ref 136)]) (st1 := [.int 22, .int q1]) (H1 := H) (k1 := 0) (n1 := 0) (by with_unfolding_all rfl)) ?_
  refine ex_s (st_icmp rfl) ?_
  by_cases c13 : 22 < q1
  · have e := (if_pos c13).symm.trans e
    refine ex_pc (if_pos c13) ?_
    refine ex_s (am_nb (m := 1) (pc1 := 155) (ls1 := [(0, .ref 123), (1, .int q1), (2, .ref 136)]) (st1 := [.int q1]) (H1 := H) (k1 := 0) (n1 := 0) (by with_unfolding_all rfl)) ?_
    refine ex_s (st_tsw rfl) ?_
    by_cases c14 : q1 = 23
    · have e := (if_pos c14).symm.trans e
      refine ex_pc (pc1 := 192) (by rw [c14]; with_unfolding_all rfl) ?_
      refine ex_s (am_nb (m := 2) (pc1 := 195) (ls1 := [(0, .ref 123), (1, .int q1), (2, .ref 136)]) (st1 := [.int 9, .ref 123]) (H1 := H) (k1 := 0) (n1 := 0) (by with_unfolding_all rfl)) ?_
      obtain ⟨r18, a19, e17, e⟩ := xb2_some e
      refine ex_cv1 (as := [.int 9]) (rest := []) rfl rfl rfl rfl (hS.obj rfl (by decide)) rfl (by with_unfolding_all rfl) (by with_unfolding_all rfl) (tf199_one hS e17) (fun H15 s16 => ?_)
      cases e
      exact ex_r (st_iret rfl rfl rfl) s16
    · have e := (if_neg c14).symm.trans e
      by_cases c20 : q1 = 24
      · have e := (if_pos c20).symm.trans e
        refine ex_pc (pc1 := 199) (by rw [c20]; with_unfolding_all rfl) ?_
        refine ex_s (am_nb (m := 2) (pc1 := 202) (ls1 := [(0, .ref 123), (1, .int q1), (2, .ref 136)]) (st1 := [.int 8, .ref 123]) (H1 := H) (k1 := 0) (n1 := 0) (by with_unfolding_all rfl)) ?_
        obtain ⟨r24, a25, e23, e⟩ := xb2_some e
        refine ex_cv1 (as := [.int 8]) (rest := []) rfl rfl rfl rfl (hS.obj rfl (by decide)) rfl (by with_unfolding_all rfl) (by with_unfolding_all rfl) (tf199_one hS e23) (fun H21 s22 => ?_)
        cases e
        exact ex_r (st_iret rfl rfl rfl) s22
      · have e := (if_neg c20).symm.trans e
        by_cases c26 : q1 = 25
        · have e := (if_pos c26).symm.trans e
          refine ex_pc (pc1 := 206) (by rw [c26]; with_unfolding_all rfl) ?_
          refine ex_s (am_nb (m := 2) (pc1 := 209) (ls1 := [(0, .ref 123), (1, .int q1), (2, .ref 136)]) (st1 := [.int 127, .ref 123]) (H1 := H) (k1 := 0) (n1 := 0) (by with_unfolding_all rfl)) ?_
          obtain ⟨r30, a31, e29, e⟩ := xb2_some e
          refine ex_cv1 (as := [.int 127]) (rest := []) rfl rfl rfl rfl (hS.obj rfl (by decide)) rfl (by with_unfolding_all rfl) (by with_unfolding_all rfl) (tf199_one hS e29) (fun H27 s28 => ?_)
          cases e
          exact ex_r (st_iret rfl rfl rfl) s28
        · have e := (if_neg c26).symm.trans e
          by_cases c32 : q1 = 26
          · have e := (if_pos c32).symm.trans e
            refine ex_pc (pc1 := 213) (by rw [c32]; with_unfolding_all rfl) ?_
            refine ex_s (am_nb (m := 2) (pc1 := 216) (ls1 := [(0, .ref 123), (1, .int q1), (2, .ref 136)]) (st1 := [.int 27, .ref 123]) (H1 := H) (k1 := 0) (n1 := 0) (by with_unfolding_all rfl)) ?_
            obtain ⟨r36, a37, e35, e⟩ := xb2_some e
            refine ex_cv1 (as := [.int 27]) (rest := []) rfl rfl rfl rfl (hS.obj rfl (by decide)) rfl (by with_unfolding_all rfl) (by with_unfolding_all rfl) (tf199_one hS e35) (fun H33 s34 => ?_)
            cases e
            exact ex_r (st_iret rfl rfl rfl) s34
          · have e := (if_neg c32).symm.trans e
            by_cases c38 : q1 = 28
            · have e := (if_pos c38).symm.trans e
              refine ex_pc (pc1 := 220) (by rw [c38]; with_unfolding_all rfl) ?_
              refine ex_s (am_nb (m := 1) (pc1 := 221) (ls1 := [(0, .ref 123), (1, .int q1), (2, .ref 136)]) (st1 := [.int 0]) (H1 := H) (k1 := 0) (n1 := 0) (by with_unfolding_all rfl)) ?_
              cases e
              exact ex_r (st_iret rfl rfl rfl) hS
            · have e := (if_neg c38).symm.trans e
              refine ex_pc (pc1 := 222) (am_sw_n (sw_c (Or.inl c14) (sw_c (Or.inl c20) (sw_c (Or.inl c26) (sw_c (Or.inl c32) (sw_c (Or.inr rfl) (sw_c (Or.inl c38) sw_o))))))) ?_
              refine ex_s (am_nb (m := 2) (pc1 := 224) (ls1 := [(0, .ref 123), (1, .int q1), (2, .ref 136)]) (st1 := [.ref 123, .ref 123]) (H1 := H) (k1 := 0) (n1 := 0) (by with_unfolding_all rfl)) ?_
              refine xe_get (v := .ref 124) hS rfl rfl (by decide) rfl ?_
              refine ex_s (am_nb (m := 1) (pc1 := 229) (ls1 := [(0, .ref 123), (1, .int q1), (2, .ref 136)]) (st1 := [.int 28, .ref 124, .ref 123]) (H1 := H) (k1 := 0) (n1 := 0) (by with_unfolding_all rfl)) ?_
              refine xe_zaldc (v := a 124 28) hS rfl rfl (show ¬ ((28 : Int32) < 0 ∨ 127 ≤ ((28 : Int32)).toNatClampNeg) by decide) rfl ?_
              refine ex_s (st_if rfl) ?_
              by_cases c40 : (a 124 28) = 0
              · have e := (if_pos c40).symm.trans e
                refine ex_pc (if_pos c40) ?_
                refine ex_s (am_nb (m := 1) (pc1 := 241) (ls1 := [(0, .ref 123), (1, .int q1), (2, .ref 136)]) (st1 := [.int q1, .ref 123]) (H1 := H) (k1 := 0) (n1 := 0) (by with_unfolding_all rfl)) ?_
                exact le_E (l1 := []) trivial rfl (tj196_241  hS e)
              · have e := (if_neg c40).symm.trans e
                refine ex_pc (if_neg c40) ?_
                refine ex_s (am_nb (m := 1) (pc1 := 234) (ls1 := [(0, .ref 123), (1, .int q1), (2, .ref 136)]) (st1 := [.int q1, .ref 123]) (H1 := H) (k1 := 0) (n1 := 0) (by with_unfolding_all rfl)) ?_
                obtain ⟨r49, a50, e48, e⟩ := xb2_some e
                refine ex_cs1 (as := [.int q1]) (rest := [.ref 123]) rfl (by decide) rfl rfl (by with_unfolding_all rfl) (by with_unfolding_all rfl) (tf200_controlled hS e48) (fun H46 s47 => ?_)
                refine ex_s (am_nb (m := 1) (pc1 := 241) (ls1 := [(0, .ref 123), (1, .int q1), (2, .ref 136)]) (st1 := [.int r49, .ref 123]) (H1 := H46) (k1 := 0) (n1 := 0) (by with_unfolding_all rfl)) ?_
                exact le_E (l1 := []) trivial rfl (tj196_241  s47 e)
  · have e := (if_neg c13).symm.trans e
    refine ex_pc (if_neg c13) ?_
    refine ex_s (am_nb (m := 1) (pc1 := 126) (ls1 := [(0, .ref 123), (1, .int q1), (2, .ref 136)]) (st1 := [.ref 123]) (H1 := H) (k1 := 0) (n1 := 0) (by with_unfolding_all rfl)) ?_
    refine xe_get (v := .ref 126) hS rfl rfl (by decide) rfl ?_
    refine ex_s (am_nb (m := 2) (pc1 := 132) (ls1 := [(0, .ref 123), (1, .int q1), (2, .ref 136)]) (st1 := [.int 10, .int 1, .ref 126]) (H1 := H) (k1 := 0) (n1 := 0) (by with_unfolding_all rfl)) ?_
    obtain ⟨a51, ha51, e⟩ := xw_some e
    refine xe_iast hS rfl rfl (show ¬ ((1 : Int32) < 0 ∨ 3 ≤ ((1 : Int32)).toNatClampNeg) by decide) (fun H52 s53 => ?_)
    have s53 : xS h b T a51 H52 := by rw [ha51]; exact s53
    refine ex_s (am_nb (m := 2) (pc1 := 136) (ls1 := [(0, .ref 123), (1, .int q1), (2, .ref 136)]) (st1 := [.int 13, .ref 123]) (H1 := H52) (k1 := 0) (n1 := 0) (by with_unfolding_all rfl)) ?_
    obtain ⟨r57, a58, e56, e⟩ := xb2_some e
    refine ex_cv1 (as := [.int 13]) (rest := []) rfl rfl rfl rfl (s53.obj rfl (by decide)) rfl (by with_unfolding_all rfl) (by with_unfolding_all rfl) (tf199_one s53 e56) (fun H54 s55 => ?_)
    refine ex_s (am_nb (m := 2) (pc1 := 141) (ls1 := [(0, .ref 123), (1, .int q1), (2, .ref 136)]) (st1 := [.int 2, .ref 136, .int r57]) (H1 := H54) (k1 := 0) (n1 := 0) (by with_unfolding_all rfl)) ?_
    obtain ⟨r62, a63, e61, e⟩ := xb2_some e
    refine ex_cv1 (as := [.int 2]) (rest := [.int r57]) rfl rfl rfl rfl (s55.obj rfl (by decide)) rfl (by with_unfolding_all rfl) (by with_unfolding_all rfl) (tf197_has s55 e61) (fun H59 s60 => ?_)
    have kk : am_E sL sx am_cs 196 152 [(0, .ref 123), (1, .int q1), (2, .ref 136)] [.int (if r62 = 0 then (0 : Int32) else (1 : Int32)), .int r57] H59 (some (.int r)) (fun H1 => xS h b T a' H1) := by
      refine ex_s (am_nb (m := 1) (pc1 := 153) (ls1 := [(0, .ref 123), (1, .int q1), (2, .ref 136)]) (st1 := [.int (r57 + (if r62 = 0 then (0 : Int32) else (1 : Int32)))]) (H1 := H59) (k1 := 0) (n1 := 0) (by with_unfolding_all rfl)) ?_
      cases e
      exact ex_r (st_iret rfl rfl rfl) s60
    refine ex_s (st_if rfl) ?_
    by_cases c64 : r62 = 0
    · refine ex_pc (if_pos c64) ?_
      refine ex_s (am_nb (m := 1) (pc1 := 152) (ls1 := [(0, .ref 123), (1, .int q1), (2, .ref 136)]) (st1 := [.int 0, .int r57]) (H1 := H59) (k1 := 0) (n1 := 0) (by with_unfolding_all rfl)) ?_
      rw [if_pos c64] at kk
      exact kk
    · refine ex_pc (if_neg c64) ?_
      refine ex_s (am_nb (m := 2) (pc1 := 152) (ls1 := [(0, .ref 123), (1, .int q1), (2, .ref 136)]) (st1 := [.int 1, .int r57]) (H1 := H59) (k1 := 0) (n1 := 0) (by with_unfolding_all rfl)) ?_
      rw [if_neg c64] at kk
      exact kk

set_option maxRecDepth 100000 in
theorem tf196_bytesOf {sL : Nat} {sx : Nat → Int32} {h b N : Nat} {T : List am_C} {r : Int32} {a' : xA} {x0 : Int32} {a : xA} {H : am_H} (hS : xS h b T a H) (e : f196_bytesOf N h b x0 a = some (r, a')) : am_E sL sx am_cs 196 0 [(0, .ref 123), (1, .int x0), (2, .ref 136)] [] H (some (.int r)) (fun H1 => xS h b T a' H1) := by
  unfold f196_bytesOf at e
  refine ex_s (am_nb (m := 2) (pc1 := 4) (ls1 := [(0, .ref 123), (1, .int x0), (2, .ref 136)]) (st1 := [.int 128, .ref 136]) (H1 := H) (k1 := 0) (n1 := 0) (by with_unfolding_all rfl)) ?_
  obtain ⟨r4, a5, e3, e⟩ := xb2_some e
  refine ex_cv1 (as := [.int 128]) (rest := []) rfl rfl rfl rfl (hS.obj rfl (by decide)) rfl (by with_unfolding_all rfl) (by with_unfolding_all rfl) (tf197_has hS e3) (fun H1 s2 => ?_)
  refine ex_s (am_nb (m := 3) (pc1 := 10) (ls1 := [(3, .int r4), (0, .ref 123), (1, .int x0), (2, .ref 136)]) (st1 := [.int 4, .int x0]) (H1 := H1) (k1 := 0) (n1 := 0) (by with_unfolding_all rfl)) ?_
  refine ex_s (st_icmp rfl) ?_
  by_cases c6 : 4 ≤ x0
  · have e := (if_pos c6).symm.trans e
    refine ex_pc (if_pos c6) ?_
    refine ex_s (am_nb (m := 2) (pc1 := 40) (ls1 := [(3, .int r4), (0, .ref 123), (1, .int x0), (2, .ref 136)]) (st1 := [.int 8, .int x0]) (H1 := H1) (k1 := 0) (n1 := 0) (by with_unfolding_all rfl)) ?_
    refine ex_s (st_icmp rfl) ?_
    by_cases c7 : 8 ≤ x0
    · have e := (if_pos c7).symm.trans e
      refine ex_pc (if_pos c7) ?_
      refine ex_s (am_nb (m := 2) (pc1 := 59) (ls1 := [(3, .int r4), (0, .ref 123), (1, .int x0), (2, .ref 136)]) (st1 := [.int 21, .int x0]) (H1 := H1) (k1 := 0) (n1 := 0) (by with_unfolding_all rfl)) ?_
      refine ex_s (st_icmp rfl) ?_
      by_cases c8 : 21 ≤ x0
      · have e := (if_pos c8).symm.trans e
        refine ex_pc (if_pos c8) ?_
        refine ex_s (am_nb (m := 2) (pc1 := 103) (ls1 := [(3, .int r4), (0, .ref 123), (1, .int x0), (2, .ref 136)]) (st1 := [.int 21, .int x0]) (H1 := H1) (k1 := 0) (n1 := 0) (by with_unfolding_all rfl)) ?_
        refine ex_s (st_icmp rfl) ?_
        by_cases c11 : x0 = 21
        · have e := (if_pos c11).symm.trans e
          refine ex_pc (if_pos c11) ?_
          refine ex_s (am_nb (m := 1) (pc1 := 107) (ls1 := [(3, .int r4), (0, .ref 123), (1, .int x0), (2, .ref 136)]) (st1 := [.int r4]) (H1 := H1) (k1 := 0) (n1 := 0) (by with_unfolding_all rfl)) ?_
          refine ex_s (st_if rfl) ?_
          by_cases c12 : r4 = 0
          · have e := (if_pos c12).symm.trans e
            refine ex_pc (if_pos c12) ?_
            exact le_E (l1 := [(0, .ref 123), (1, .int x0), (2, .ref 136)]) ⟨rfl, rfl, rfl, trivial⟩ rfl (tj196_119  s2 e)
          · have e := (if_neg c12).symm.trans e
            refine ex_pc (if_neg c12) ?_
            refine ex_s (am_nb (m := 3) (pc1 := 115) (ls1 := [(3, .int r4), (0, .ref 123), (1, .int x0), (2, .ref 136)]) (st1 := [.int 77, .int 79, .ref 123]) (H1 := H1) (k1 := 0) (n1 := 0) (by with_unfolding_all rfl)) ?_
            obtain ⟨r68, a69, e67, e⟩ := xb2_some e
            refine ex_cv1 (as := [.int 79, .int 77]) (rest := []) rfl rfl rfl rfl (s2.obj rfl (by decide)) rfl (by with_unfolding_all rfl) (by with_unfolding_all rfl) (tf198_three s2 e67) (fun H65 s66 => ?_)
            cases e
            exact ex_r (st_iret rfl rfl rfl) s66
        · have e := (if_neg c11).symm.trans e
          refine ex_pc (if_neg c11) ?_
          exact le_E (l1 := [(0, .ref 123), (1, .int x0), (2, .ref 136)]) ⟨rfl, rfl, rfl, trivial⟩ rfl (tj196_119  s2 e)
      · have e := (if_neg c8).symm.trans e
        refine ex_pc (if_neg c8) ?_
        refine ex_s (am_nb (m := 5) (pc1 := 69) (ls1 := [(4, .int (x0 - 8)), (3, .int r4), (0, .ref 123), (1, .int x0), (2, .ref 136)]) (st1 := [.int r4]) (H1 := H1) (k1 := 0) (n1 := 0) (by with_unfolding_all rfl)) ?_
        refine ex_s (st_if rfl) ?_
        by_cases c71 : r4 = 0
        · have e := (if_pos c71).symm.trans e
          refine ex_pc (if_pos c71) ?_
          refine ex_s (am_nb (m := 3) (pc1 := 93) (ls1 := [(4, .int (x0 - 8)), (3, .int r4), (0, .ref 123), (1, .int x0), (2, .ref 136)]) (st1 := [.int (x0 - 8), .retAddr 3, .ref 123]) (H1 := H1) (k1 := 0) (n1 := 0) (by with_unfolding_all rfl)) ?_
          obtain ⟨g72, e⟩ := xg_some e
          obtain ⟨r73, er73, e⟩ := xbc_some e
          refine ex_s (st_chr rfl g72 er73 (by decide)) ?_
          obtain ⟨r77, a78, e76, e⟩ := xb2_some e
          refine ex_cv1 (as := [.int r73]) (rest := []) rfl rfl rfl rfl (s2.obj rfl (by decide)) rfl (by with_unfolding_all rfl) (by with_unfolding_all rfl) (tf199_one s2 e76) (fun H74 s75 => ?_)
          cases e
          exact ex_r (st_iret rfl rfl rfl) s75
        · have e := (if_neg c71).symm.trans e
          refine ex_pc (if_neg c71) ?_
          refine ex_s (am_nb (m := 4) (pc1 := 79) (ls1 := [(4, .int (x0 - 8)), (3, .int r4), (0, .ref 123), (1, .int x0), (2, .ref 136)]) (st1 := [.int (x0 - 8), .retAddr 2, .int 79, .ref 123]) (H1 := H1) (k1 := 0) (n1 := 0) (by with_unfolding_all rfl)) ?_
          obtain ⟨g79, e⟩ := xg_some e
          obtain ⟨r80, er80, e⟩ := xbc_some e
          refine ex_s (st_chr rfl g79 er80 (by decide)) ?_
          obtain ⟨r84, a85, e83, e⟩ := xb2_some e
          refine ex_cv1 (as := [.int 79, .int r80]) (rest := []) rfl rfl rfl rfl (s2.obj rfl (by decide)) rfl (by with_unfolding_all rfl) (by with_unfolding_all rfl) (tf198_three s2 e83) (fun H81 s82 => ?_)
          refine ex_s (am_nb (m := 1) (pc1 := 99) (ls1 := [(4, .int (x0 - 8)), (3, .int r4), (0, .ref 123), (1, .int x0), (2, .ref 136)]) (st1 := [.int r84]) (H1 := H81) (k1 := 0) (n1 := 0) (by with_unfolding_all rfl)) ?_
          cases e
          exact ex_r (st_iret rfl rfl rfl) s82
    · have e := (if_neg c7).symm.trans e
      refine ex_pc (if_neg c7) ?_
      refine ex_s (am_nb (m := 7) (pc1 := 52) (ls1 := [(3, .int r4), (0, .ref 123), (1, .int x0), (2, .ref 136)]) (st1 := [.int ((80 + x0) - 4), .int 79, .ref 123]) (H1 := H1) (k1 := 0) (n1 := 0) (by with_unfolding_all rfl)) ?_
      obtain ⟨r89, a90, e88, e⟩ := xb2_some e
      refine ex_cv1 (as := [.int 79, .int ((80 + x0) - 4)]) (rest := []) rfl rfl rfl rfl (s2.obj rfl (by decide)) rfl (by with_unfolding_all rfl) (by with_unfolding_all rfl) (tf198_three s2 e88) (fun H86 s87 => ?_)
      cases e
      exact ex_r (st_iret rfl rfl rfl) s87
  · have e := (if_neg c6).symm.trans e
    refine ex_pc (if_neg c6) ?_
    refine ex_s (am_nb (m := 3) (pc1 := 16) (ls1 := [(3, .int r4), (0, .ref 123), (1, .int x0), (2, .ref 136)]) (st1 := [.int 4, .ref 136, .ref 123]) (H1 := H1) (k1 := 0) (n1 := 0) (by with_unfolding_all rfl)) ?_
    obtain ⟨r94, a95, e93, e⟩ := xb2_some e
    refine ex_cv1 (as := [.int 4]) (rest := [.ref 123]) rfl rfl rfl rfl (s2.obj rfl (by decide)) rfl (by with_unfolding_all rfl) (by with_unfolding_all rfl) (tf197_has s2 e93) (fun H91 s92 => ?_)
    have kk : am_E sL sx am_cs 196 29 [(3, .int r4), (0, .ref 123), (1, .int x0), (2, .ref 136)] [.int (if r94 = 0 then (91 : Int32) else (79 : Int32)), .ref 123] H91 (some (.int r)) (fun H1 => xS h b T a' H1) := by
      refine ex_s (am_nb (m := 3) (pc1 := 33) (ls1 := [(3, .int r4), (0, .ref 123), (1, .int x0), (2, .ref 136)]) (st1 := [.int (65 + x0), .int (if r94 = 0 then (91 : Int32) else (79 : Int32)), .ref 123]) (H1 := H91) (k1 := 0) (n1 := 0) (by with_unfolding_all rfl)) ?_
      obtain ⟨r100, a101, e99, e⟩ := xb2_some e
      refine ex_cv1 (as := [.int (if r94 = 0 then (91 : Int32) else (79 : Int32)), .int (65 + x0)]) (rest := []) rfl rfl rfl rfl (s92.obj rfl (by decide)) rfl (by with_unfolding_all rfl) (by with_unfolding_all rfl) (tf198_three s92 e99) (fun H97 s98 => ?_)
      cases e
      exact ex_r (st_iret rfl rfl rfl) s98
    refine ex_s (st_if rfl) ?_
    by_cases c96 : r94 = 0
    · refine ex_pc (if_pos c96) ?_
      refine ex_s (am_nb (m := 1) (pc1 := 29) (ls1 := [(3, .int r4), (0, .ref 123), (1, .int x0), (2, .ref 136)]) (st1 := [.int 91, .ref 123]) (H1 := H91) (k1 := 0) (n1 := 0) (by with_unfolding_all rfl)) ?_
      rw [if_pos c96] at kk
      exact kk
    · refine ex_pc (if_neg c96) ?_
      refine ex_s (am_nb (m := 2) (pc1 := 29) (ls1 := [(3, .int r4), (0, .ref 123), (1, .int x0), (2, .ref 136)]) (st1 := [.int 79, .ref 123]) (H1 := H91) (k1 := 0) (n1 := 0) (by with_unfolding_all rfl)) ?_
      rw [if_neg c96] at kk
      exact kk

set_option maxRecDepth 100000 in
theorem tl201_24 {sL : Nat} {sx : Nat → Int32} {h b N : Nat} {T : List am_C} {R : Option Value} {F : am_H → Prop} {w0 : Nat} {w1 : Nat} {w2 : Int32} {z : Nat × xA} (kw0 : xk w0 = 1) (kw1 : xk w1 = 100) (k0 : z.1 = 0 → ∀ H2 : am_H, xS h b T z.2 H2 → am_E sL sx am_cs 201 60 [(0, .ref w0), (2, .int w2)] [] H2 R F) : ∀ (n : Nat) (v3 : Int32) (a : xA) (H : am_H), xS h b T a H → l201_24 N h b w0 w1 w2 n v3 a = some z → am_E sL sx am_cs 201 24 [(0, .ref w0), (1, .ref w1), (2, .int w2), (3, .int v3)] [] H R F := by
  intro n
  induction n with
  | zero =>
    intro v3 a H hS e
    cases e
  | succ n ih =>
    intro v3 a H hS e
    unfold l201_24 at e
    refine ex_s (am_nb (m := 2) (pc1 := 26) (ls1 := [(0, .ref w0), (1, .ref w1), (2, .int w2), (3, .int v3)]) (st1 := [.int w2, .int v3]) (H1 := H) (k1 := 0) (n1 := 0) (by with_unfolding_all rfl)) ?_
    refine ex_s (st_icmp rfl) ?_
    by_cases c6 : w2 ≤ v3
    · have e := (if_pos c6).symm.trans e
      refine ex_pc (if_pos c6) ?_
      cases e
      exact le_E (l1 := [(0, .ref w0), (2, .int w2)]) ⟨rfl, rfl, trivial⟩ rfl (k0 rfl H hS)
    · have e := (if_neg c6).symm.trans e
      refine ex_pc (if_neg c6) ?_
      refine ex_s (am_nb (m := 1) (pc1 := 30) (ls1 := [(0, .ref w0), (1, .ref w1), (2, .int w2), (3, .int v3)]) (st1 := [.ref w0]) (H1 := H) (k1 := 0) (n1 := 0) (by with_unfolding_all rfl)) ?_
      refine xe_get (v := .ref (w0 + 1)) hS rfl kw0 (by decide) rfl ?_
      refine ex_s (am_nb (m := 1) (pc1 := 34) (ls1 := [(0, .ref w0), (1, .ref w1), (2, .int w2), (3, .int v3)]) (st1 := [.ref w0, .ref (w0 + 1)]) (H1 := H) (k1 := 0) (n1 := 0) (by with_unfolding_all rfl)) ?_
      refine xe_get (v := .int (a w0 1)) hS rfl kw0 (by decide) rfl ?_
      refine ex_s (am_nb (m := 1) (pc1 := 38) (ls1 := [(0, .ref w0), (1, .ref w1), (2, .int w2), (3, .int v3)]) (st1 := [.ref w0, .int (a w0 1), .ref (w0 + 1)]) (H1 := H) (k1 := 0) (n1 := 0) (by with_unfolding_all rfl)) ?_
      refine xe_get (v := .int (a w0 2)) hS rfl kw0 (by decide) rfl ?_
      refine ex_s (am_nb (m := 4) (pc1 := 45) (ls1 := [(0, .ref w0), (1, .ref w1), (2, .int w2), (3, .int v3)]) (st1 := [.ref w0, .int (((a w0 1) + (a w0 2)) + v3), .ref (w0 + 1)]) (H1 := H) (k1 := 0) (n1 := 0) (by with_unfolding_all rfl)) ?_
      refine xe_get (v := .ref (w0 + 1)) hS rfl kw0 (by decide) rfl ?_
      refine xe_alenc (v := Int32.ofNat (xl h b (w0 + 1))) hS rfl (xd_0_1 kw0) rfl ?_
      obtain ⟨g7, e⟩ := xg_some e
      refine ex_s (st_irem rfl g7) ?_
      refine ex_s (am_nb (m := 2) (pc1 := 52) (ls1 := [(0, .ref w0), (1, .ref w1), (2, .int w2), (3, .int v3)]) (st1 := [.int v3, .ref w1, .int ((((a w0 1) + (a w0 2)) + v3) - (((a w0 1) + (a w0 2)) + v3) / (Int32.ofNat (xl h b (w0 + 1))) * (Int32.ofNat (xl h b (w0 + 1)))), .ref (w0 + 1)]) (H1 := H) (k1 := 0) (n1 := 0) (by with_unfolding_all rfl)) ?_
      obtain ⟨g8, e⟩ := xg_some e
      refine xe_iald hS rfl kw1 g8 ?_
      obtain ⟨g12, e⟩ := xg_some e
      obtain ⟨a9, ha9, e⟩ := xw_some e
      refine xe_iast hS rfl (xd_0_1 kw0) g12 (fun H10 s11 => ?_)
      have s11 : xS h b T a9 H10 := by rw [ha9]; exact s11
      refine ex_s (am_nb (m := 2) (pc1 := 24) (ls1 := [(3, .int (v3 + 1)), (0, .ref w0), (1, .ref w1), (2, .int w2)]) (st1 := []) (H1 := H10) (k1 := 0) (n1 := 0) (by with_unfolding_all rfl)) ?_
      exact le_E (l1 := [(0, .ref w0), (1, .ref w1), (2, .int w2), (3, .int (v3 + 1))]) ⟨rfl, rfl, rfl, rfl, trivial⟩ rfl (ih (v3 + 1) a9 H10 s11 e)

set_option maxRecDepth 100000 in
theorem tf201_addWhole {sL : Nat} {sx : Nat → Int32} {h b N : Nat} {T : List am_C} {r : Int32} {a' : xA} {o : Nat} {x0 : Nat} {x1 : Int32} {a : xA} {H : am_H} (hS : xS h b T a H) (e : f201_addWhole N h b o x0 x1 a = some (r, a')) : am_E sL sx am_cs 201 0 [(0, .ref o), (1, .ref x0), (2, .int x1)] [] H (some (.int r)) (fun H1 => xS h b T a' H1) := by
  unfold f201_addWhole at e
  obtain ⟨g1, e⟩ := xg_some e
  obtain ⟨g2, e⟩ := xg_some e
  refine ex_s (am_nb (m := 2) (pc1 := 2) (ls1 := [(0, .ref o), (1, .ref x0), (2, .int x1)]) (st1 := [.ref o, .int x1]) (H1 := H) (k1 := 0) (n1 := 0) (by with_unfolding_all rfl)) ?_
  refine xe_get (v := .ref (o + 1)) hS rfl g1 (by decide) rfl ?_
  refine xe_alenc (v := Int32.ofNat (xl h b (o + 1))) hS rfl (xd_0_1 g1) rfl ?_
  refine ex_s (am_nb (m := 1) (pc1 := 7) (ls1 := [(0, .ref o), (1, .ref x0), (2, .int x1)]) (st1 := [.ref o, .int (Int32.ofNat (xl h b (o + 1))), .int x1]) (H1 := H) (k1 := 0) (n1 := 0) (by with_unfolding_all rfl)) ?_
  refine xe_get (v := .int (a o 2)) hS rfl g1 (by decide) rfl ?_
  refine ex_s (am_nb (m := 1) (pc1 := 11) (ls1 := [(0, .ref o), (1, .ref x0), (2, .int x1)]) (st1 := [.int ((Int32.ofNat (xl h b (o + 1))) - (a o 2)), .int x1]) (H1 := H) (k1 := 0) (n1 := 0) (by with_unfolding_all rfl)) ?_
  refine ex_s (st_icmp rfl) ?_
  by_cases c4 : ((Int32.ofNat (xl h b (o + 1))) - (a o 2)) < x1
  · have e := (if_pos c4).symm.trans e
    refine ex_pc (if_pos c4) ?_
    refine ex_s (am_nb (m := 1) (pc1 := 21) (ls1 := [(0, .ref o), (1, .ref x0), (2, .int x1)]) (st1 := [.int 0]) (H1 := H) (k1 := 0) (n1 := 0) (by with_unfolding_all rfl)) ?_
    cases e
    exact ex_r (st_iret rfl rfl rfl) hS
  · have e := (if_neg c4).symm.trans e
    refine ex_pc (if_neg c4) ?_
    refine ex_s (am_nb (m := 2) (pc1 := 16) (ls1 := [(0, .ref o), (1, .ref x0), (2, .int x1)]) (st1 := [.ref x0, .int x1]) (H1 := H) (k1 := 0) (n1 := 0) (by with_unfolding_all rfl)) ?_
    refine xe_alenc (v := Int32.ofNat (xl h b x0)) hS rfl g2 rfl ?_
    refine ex_s (st_icmp rfl) ?_
    by_cases c5 : x1 ≤ (Int32.ofNat (xl h b x0))
    · have e := (if_pos c5).symm.trans e
      refine ex_pc (if_pos c5) ?_
      refine ex_s (am_nb (m := 2) (pc1 := 24) (ls1 := [(3, .int 0), (0, .ref o), (1, .ref x0), (2, .int x1)]) (st1 := []) (H1 := H) (k1 := 0) (n1 := 0) (by with_unfolding_all rfl)) ?_
      obtain ⟨z13, e14, e⟩ := Option.bind_eq_some_iff.mp e
      refine le_E (l1 := [(0, .ref o), (1, .ref x0), (2, .int x1), (3, .int 0)]) ⟨rfl, rfl, rfl, rfl, trivial⟩ rfl (tl201_24 (z := z13) g1 g2 (fun uz13_0 Hz130 sz130 => ?_) N 0 a H hS e14)
      refine ex_s (am_nb (m := 2) (pc1 := 62) (ls1 := [(0, .ref o), (2, .int x1)]) (st1 := [.ref o, .ref o]) (H1 := Hz130) (k1 := 0) (n1 := 0) (by with_unfolding_all rfl)) ?_
      refine xe_get (v := .int (z13.2 o 2)) sz130 rfl g1 (by decide) rfl ?_
      refine ex_s (am_nb (m := 2) (pc1 := 67) (ls1 := [(0, .ref o), (2, .int x1)]) (st1 := [.int ((z13.2 o 2) + x1), .ref o]) (H1 := Hz130) (k1 := 0) (n1 := 0) (by with_unfolding_all rfl)) ?_
      obtain ⟨a15, ha15, e⟩ := xw_some e
      refine xe_put (w := ((z13.2 o 2) + x1)) sz130 rfl g1 (by decide) rfl rfl rfl rfl (fun H16 s17 => ?_)
      have s17 : xS h b T a15 H16 := by rw [ha15]; exact s17
      refine ex_s (am_nb (m := 1) (pc1 := 71) (ls1 := [(0, .ref o), (2, .int x1)]) (st1 := [.int 1]) (H1 := H16) (k1 := 0) (n1 := 0) (by with_unfolding_all rfl)) ?_
      cases e
      exact ex_r (st_iret rfl rfl rfl) s17
    · have e := (if_neg c5).symm.trans e
      refine ex_pc (if_neg c5) ?_
      refine ex_s (am_nb (m := 1) (pc1 := 21) (ls1 := [(0, .ref o), (1, .ref x0), (2, .int x1)]) (st1 := [.int 0]) (H1 := H) (k1 := 0) (n1 := 0) (by with_unfolding_all rfl)) ?_
      cases e
      exact ex_r (st_iret rfl rfl rfl) hS

set_option maxRecDepth 100000 in
theorem tf195_strike {sL : Nat} {sx : Nat → Int32} {h b N : Nat} {T : List am_C} {a' : xA} {x0 : Int32} {a : xA} {H : am_H} (hS : xS h b T a H) (e : f195_strike N h b x0 a = some a') : am_E sL sx am_cs 195 0 [(0, .ref 123), (1, .int x0), (2, .ref 129)] [] H none (fun H1 => xS h b T a' H1) := by
  unfold f195_strike at e
  refine ex_s (am_nb (m := 2) (pc1 := 3) (ls1 := [(0, .ref 123), (1, .int x0), (2, .ref 129)]) (st1 := [.int 27, .int x0]) (H1 := H) (k1 := 0) (n1 := 0) (by with_unfolding_all rfl)) ?_
  refine ex_s (st_icmp rfl) ?_
  by_cases c1 : x0 = 27
  · have e := (if_pos c1).symm.trans e
    refine ex_pc (if_pos c1) ?_
    refine ex_s (am_nb (m := 2) (pc1 := 8) (ls1 := [(0, .ref 123), (1, .int x0), (2, .ref 129)]) (st1 := [.ref 129, .ref 129]) (H1 := H) (k1 := 0) (n1 := 0) (by with_unfolding_all rfl)) ?_
    refine xe_get (v := .int (a 129 5)) hS rfl rfl (by decide) rfl ?_
    have kk : am_E sL sx am_cs 195 19 [(0, .ref 123), (1, .int x0), (2, .ref 129)] [.int (if (a 129 5) = 0 then (1 : Int32) else (0 : Int32)), .ref 129] H none (fun H1 => xS h b T a' H1) := by
      obtain ⟨g6, e⟩ := xg_some e
      obtain ⟨a3, ha3, e⟩ := xw_some e
      refine xe_put (w := (if (a 129 5) = 0 then (1 : Int32) else (0 : Int32))) hS rfl rfl (by decide) rfl rfl (xfit_z g6) rfl (fun H4 s5 => ?_)
      have s5 : xS h b T a3 H4 := by rw [ha3]; exact s5
      cases e
      exact ex_r (st_vret rfl rfl) s5
    refine ex_s (st_if rfl) ?_
    by_cases c2 : (a 129 5) = 0
    · refine ex_pc (if_pos c2) ?_
      refine ex_s (am_nb (m := 2) (pc1 := 19) (ls1 := [(0, .ref 123), (1, .int x0), (2, .ref 129)]) (st1 := [.int 1, .ref 129]) (H1 := H) (k1 := 0) (n1 := 0) (by with_unfolding_all rfl)) ?_
      rw [if_pos c2] at kk
      exact kk
    · refine ex_pc (if_neg c2) ?_
      refine ex_s (am_nb (m := 1) (pc1 := 19) (ls1 := [(0, .ref 123), (1, .int x0), (2, .ref 129)]) (st1 := [.int 0, .ref 129]) (H1 := H) (k1 := 0) (n1 := 0) (by with_unfolding_all rfl)) ?_
      rw [if_neg c2] at kk
      exact kk
  · have e := (if_neg c1).symm.trans e
    refine ex_pc (if_neg c1) ?_
    refine ex_s (am_nb (m := 3) (pc1 := 26) (ls1 := [(0, .ref 123), (1, .int x0), (2, .ref 129)]) (st1 := [.ref 129, .int x0, .ref 123]) (H1 := H) (k1 := 0) (n1 := 0) (by with_unfolding_all rfl)) ?_
    refine xe_get (v := .ref 136) hS rfl rfl (by decide) rfl ?_
    obtain ⟨r10, a11, e9, e⟩ := xb2_some e
    refine ex_cv1 (as := [.int x0, .ref 136]) (rest := []) rfl rfl rfl rfl (hS.obj rfl (by decide)) rfl (by with_unfolding_all rfl) (by with_unfolding_all rfl) (tf196_bytesOf hS e9) (fun H7 s8 => ?_)
    refine ex_s (am_nb (m := 2) (pc1 := 34) (ls1 := [(3, .int r10), (0, .ref 123), (1, .int x0), (2, .ref 129)]) (st1 := [.ref 129]) (H1 := H7) (k1 := 0) (n1 := 0) (by with_unfolding_all rfl)) ?_
    refine xe_get (v := .ref 132) s8 rfl rfl (by decide) rfl ?_
    refine ex_s (am_nb (m := 1) (pc1 := 38) (ls1 := [(3, .int r10), (0, .ref 123), (1, .int x0), (2, .ref 129)]) (st1 := [.ref 123, .ref 132]) (H1 := H7) (k1 := 0) (n1 := 0) (by with_unfolding_all rfl)) ?_
    refine xe_get (v := .ref 126) s8 rfl rfl (by decide) rfl ?_
    refine ex_s (am_nb (m := 1) (pc1 := 42) (ls1 := [(3, .int r10), (0, .ref 123), (1, .int x0), (2, .ref 129)]) (st1 := [.int r10, .ref 126, .ref 132]) (H1 := H7) (k1 := 0) (n1 := 0) (by with_unfolding_all rfl)) ?_
    obtain ⟨r15, a16, e14, e⟩ := xb2_some e
    refine ex_cv1 (as := [.ref 126, .int r10]) (rest := []) rfl rfl rfl rfl (s8.obj rfl (by decide)) rfl (by with_unfolding_all rfl) (by with_unfolding_all rfl) (tf201_addWhole s8 e14) (fun H12 s13 => ?_)
    refine ex_s (st_if rfl) ?_
    by_cases c18 : r15 = 0
    · have e := (if_pos c18).symm.trans e
      refine ex_pc (if_pos c18) ?_
      refine ex_s (am_nb (m := 1) (pc1 := 49) (ls1 := [(3, .int r10), (0, .ref 123), (1, .int x0), (2, .ref 129)]) (st1 := [.ref 129]) (H1 := H12) (k1 := 0) (n1 := 0) (by with_unfolding_all rfl)) ?_
      refine xe_get (v := .ref 136) s13 rfl rfl (by decide) rfl ?_
      refine ex_s (am_nb (m := 1) (pc1 := 53) (ls1 := [(3, .int r10), (0, .ref 123), (1, .int x0), (2, .ref 129)]) (st1 := [.ref 136, .ref 136]) (H1 := H12) (k1 := 0) (n1 := 0) (by with_unfolding_all rfl)) ?_
      refine xe_get (v := .int (a16 136 15)) s13 rfl rfl (by decide) rfl ?_
      refine ex_s (am_nb (m := 2) (pc1 := 58) (ls1 := [(3, .int r10), (0, .ref 123), (1, .int x0), (2, .ref 129)]) (st1 := [.int ((a16 136 15) + 1), .ref 136]) (H1 := H12) (k1 := 0) (n1 := 0) (by with_unfolding_all rfl)) ?_
      obtain ⟨a19, ha19, e⟩ := xw_some e
      refine xe_put (w := ((a16 136 15) + 1)) s13 rfl rfl (by decide) rfl rfl rfl rfl (fun H20 s21 => ?_)
      have s21 : xS h b T a19 H20 := by rw [ha19]; exact s21
      cases e
      exact ex_r (st_vret rfl rfl) s21
    · have e := (if_neg c18).symm.trans e
      refine ex_pc (if_neg c18) ?_
      cases e
      exact ex_r (st_vret rfl rfl) s13

set_option maxRecDepth 100000 in
theorem tf202_isRepeatable {sL : Nat} {sx : Nat → Int32} {h b N : Nat} {T : List am_C} {r : Int32} {a' : xA} {x0 : Int32} {a : xA} {H : am_H} (hS : xS h b T a H) (e : f202_isRepeatable N h b x0 a = some (r, a')) : am_E sL sx am_cs 202 0 [(0, .int x0)] [] H (some (.int r)) (fun H1 => xS h b T a' H1) := by
  unfold f202_isRepeatable at e
  refine ex_s (am_nb (m := 2) (pc1 := 3) (ls1 := [(0, .int x0)]) (st1 := [.int 22, .int x0]) (H1 := H) (k1 := 0) (n1 := 0) (by with_unfolding_all rfl)) ?_
  refine ex_s (st_icmp rfl) ?_
  by_cases c6 : x0 = 22
  · have e := (if_pos c6).symm.trans e
    refine ex_pc (if_pos c6) ?_
    refine ex_s (am_nb (m := 1) (pc1 := 35) (ls1 := [(0, .int x0)]) (st1 := [.int 0]) (H1 := H) (k1 := 0) (n1 := 0) (by with_unfolding_all rfl)) ?_
    cases e
    exact ex_r (st_iret rfl rfl rfl) hS
  · have e := (if_neg c6).symm.trans e
    refine ex_pc (if_neg c6) ?_
    refine ex_s (am_nb (m := 2) (pc1 := 9) (ls1 := [(0, .int x0)]) (st1 := [.int 23, .int x0]) (H1 := H) (k1 := 0) (n1 := 0) (by with_unfolding_all rfl)) ?_
    refine ex_s (st_icmp rfl) ?_
    by_cases c11 : x0 = 23
    · have e := (if_pos c11).symm.trans e
      refine ex_pc (if_pos c11) ?_
      refine ex_s (am_nb (m := 1) (pc1 := 35) (ls1 := [(0, .int x0)]) (st1 := [.int 0]) (H1 := H) (k1 := 0) (n1 := 0) (by with_unfolding_all rfl)) ?_
      cases e
      exact ex_r (st_iret rfl rfl rfl) hS
    · have e := (if_neg c11).symm.trans e
      refine ex_pc (if_neg c11) ?_
      refine ex_s (am_nb (m := 2) (pc1 := 15) (ls1 := [(0, .int x0)]) (st1 := [.int 26, .int x0]) (H1 := H) (k1 := 0) (n1 := 0) (by with_unfolding_all rfl)) ?_
      refine ex_s (st_icmp rfl) ?_
      by_cases c15 : x0 = 26
      · have e := (if_pos c15).symm.trans e
        refine ex_pc (if_pos c15) ?_
        refine ex_s (am_nb (m := 1) (pc1 := 35) (ls1 := [(0, .int x0)]) (st1 := [.int 0]) (H1 := H) (k1 := 0) (n1 := 0) (by with_unfolding_all rfl)) ?_
        cases e
        exact ex_r (st_iret rfl rfl rfl) hS
      · have e := (if_neg c15).symm.trans e
        refine ex_pc (if_neg c15) ?_
        refine ex_s (am_nb (m := 2) (pc1 := 21) (ls1 := [(0, .int x0)]) (st1 := [.int 27, .int x0]) (H1 := H) (k1 := 0) (n1 := 0) (by with_unfolding_all rfl)) ?_
        refine ex_s (st_icmp rfl) ?_
        by_cases c18 : x0 = 27
        · have e := (if_pos c18).symm.trans e
          refine ex_pc (if_pos c18) ?_
          refine ex_s (am_nb (m := 1) (pc1 := 35) (ls1 := [(0, .int x0)]) (st1 := [.int 0]) (H1 := H) (k1 := 0) (n1 := 0) (by with_unfolding_all rfl)) ?_
          cases e
          exact ex_r (st_iret rfl rfl rfl) hS
        · have e := (if_neg c18).symm.trans e
          refine ex_pc (if_neg c18) ?_
          refine ex_s (am_nb (m := 2) (pc1 := 27) (ls1 := [(0, .int x0)]) (st1 := [.int 28, .int x0]) (H1 := H) (k1 := 0) (n1 := 0) (by with_unfolding_all rfl)) ?_
          have kk : am_E sL sx am_cs 202 35 [(0, .int x0)] [.int (if x0 = 28 then (0 : Int32) else (1 : Int32))] H (some (.int r)) (fun H1 => xS h b T a' H1) := by
            obtain ⟨g20, e⟩ := xg_some e
            cases e
            exact ex_r (st_iret rfl rfl (xnar_z g20)) hS
          refine ex_s (st_icmp rfl) ?_
          by_cases c19 : x0 = 28
          · refine ex_pc (if_pos c19) ?_
            refine ex_s (am_nb (m := 1) (pc1 := 35) (ls1 := [(0, .int x0)]) (st1 := [.int 0]) (H1 := H) (k1 := 0) (n1 := 0) (by with_unfolding_all rfl)) ?_
            rw [if_pos c19] at kk
            exact kk
          · refine ex_pc (if_neg c19) ?_
            refine ex_s (am_nb (m := 2) (pc1 := 35) (ls1 := [(0, .int x0)]) (st1 := [.int 1]) (H1 := H) (k1 := 0) (n1 := 0) (by with_unfolding_all rfl)) ?_
            rw [if_neg c19] at kk
            exact kk

set_option maxRecDepth 100000 in
theorem tj193_94 {sL : Nat} {sx : Nat → Int32} {h b N : Nat} {T : List am_C} {R : Option Value} {F : am_H → Prop} {w1 : Int32} {z : Nat × xA} {rc : Int32 → Int32 → xA → Option (Nat × xA)} (k0 : z.1 = 0 → ∀ H2 : am_H, xS h b T z.2 H2 → am_E sL sx am_cs 193 100 [(0, .ref 123), (1, .int w1), (2, .ref 129)] [] H2 R F) (ih : ∀ (v3 : Int32) (v4 : Int32) (a : xA) (H : am_H), xS h b T a H → rc v3 v4 a = some z → am_E sL sx am_cs 193 13 [(0, .ref 123), (1, .int w1), (2, .ref 129), (3, .int v3), (4, .int v4)] [] H R F) {q3 : Int32} {q4 : Int32} {a : xA} {H : am_H} (hS : xS h b T a H) (e : j193_94 N h b rc w1 q3 q4 a = some z) : am_E sL sx am_cs 193 94 [(0, .ref 123), (1, .int w1), (2, .ref 129), (3, .int q3), (4, .int q4)] [] H R F := by
  unfold j193_94 at e
  refine ex_s (am_nb (m := 2) (pc1 := 13) (ls1 := [(4, .int (q4 + 1)), (0, .ref 123), (1, .int w1), (2, .ref 129), (3, .int q3)]) (st1 := []) (H1 := H) (k1 := 0) (n1 := 0) (by with_unfolding_all rfl)) ?_
  exact le_E (l1 := [(0, .ref 123), (1, .int w1), (2, .ref 129), (3, .int q3), (4, .int (q4 + 1))]) ⟨rfl, rfl, rfl, rfl, rfl, trivial⟩ rfl (ih q3 (q4 + 1) a H hS e)

set_option maxRecDepth 100000 in
theorem tl193_13 {sL : Nat} {sx : Nat → Int32} {h b N : Nat} {T : List am_C} {R : Option Value} {F : am_H → Prop} {w1 : Int32} {z : Nat × xA} (k0 : z.1 = 0 → ∀ H2 : am_H, xS h b T z.2 H2 → am_E sL sx am_cs 193 100 [(0, .ref 123), (1, .int w1), (2, .ref 129)] [] H2 R F) : ∀ (n : Nat) (v3 : Int32) (v4 : Int32) (a : xA) (H : am_H), xS h b T a H → l193_13 N h b w1 n v3 v4 a = some z → am_E sL sx am_cs 193 13 [(0, .ref 123), (1, .int w1), (2, .ref 129), (3, .int v3), (4, .int v4)] [] H R F := by
  intro n
  induction n with
  | zero =>
    intro v3 v4 a H hS e
    cases e
  | succ n ih =>
    intro v3 v4 a H hS e
    unfold l193_13 at e
    refine ex_s (am_nb (m := 2) (pc1 := 17) (ls1 := [(0, .ref 123), (1, .int w1), (2, .ref 129), (3, .int v3), (4, .int v4)]) (st1 := [.int 127, .int v4]) (H1 := H) (k1 := 0) (n1 := 0) (by with_unfolding_all rfl)) ?_
    refine ex_s (st_icmp rfl) ?_
    by_cases c2 : 127 ≤ v4
    · have e := (if_pos c2).symm.trans e
      refine ex_pc (if_pos c2) ?_
      cases e
      exact le_E (l1 := [(0, .ref 123), (1, .int w1), (2, .ref 129)]) ⟨rfl, rfl, rfl, trivial⟩ rfl (k0 rfl H hS)
    · have e := (if_neg c2).symm.trans e
      refine ex_pc (if_neg c2) ?_
      refine ex_s (am_nb (m := 1) (pc1 := 21) (ls1 := [(0, .ref 123), (1, .int w1), (2, .ref 129), (3, .int v3), (4, .int v4)]) (st1 := [.ref 123]) (H1 := H) (k1 := 0) (n1 := 0) (by with_unfolding_all rfl)) ?_
      refine xe_get (v := .ref 124) hS rfl rfl (by decide) rfl ?_
      refine ex_s (am_nb (m := 1) (pc1 := 26) (ls1 := [(0, .ref 123), (1, .int w1), (2, .ref 129), (3, .int v3), (4, .int v4)]) (st1 := [.int v4, .ref 124]) (H1 := H) (k1 := 0) (n1 := 0) (by with_unfolding_all rfl)) ?_
      obtain ⟨g3, e⟩ := xg_some e
      refine xe_zald hS rfl rfl g3 ?_
      refine ex_s (st_if rfl) ?_
      by_cases c4 : (a 124 (v4.toNatClampNeg)) = 0
      · have e := (if_pos c4).symm.trans e
        refine ex_pc (if_pos c4) ?_
        refine ex_s (am_nb (m := 2) (pc1 := 33) (ls1 := [(0, .ref 123), (1, .int w1), (2, .ref 129), (3, .int v3), (4, .int v4)]) (st1 := [.int v4, .ref 123]) (H1 := H) (k1 := 0) (n1 := 0) (by with_unfolding_all rfl)) ?_
        obtain ⟨a8, e7, e⟩ := xb1_some e
        refine ex_cv0 (as := [.int v4]) (rest := []) rfl rfl rfl rfl (hS.obj rfl (by decide)) rfl (by with_unfolding_all rfl) (by with_unfolding_all rfl) (tf194_release hS e7) (fun H5 s6 => ?_)
        refine ex_s (am_nb (m := 1) (pc1 := 94) (ls1 := [(0, .ref 123), (1, .int w1), (2, .ref 129), (3, .int v3), (4, .int v4)]) (st1 := []) (H1 := H5) (k1 := 0) (n1 := 0) (by with_unfolding_all rfl)) ?_
        exact le_E (l1 := [(0, .ref 123), (1, .int w1), (2, .ref 129), (3, .int v3), (4, .int v4)]) ⟨rfl, rfl, rfl, rfl, rfl, trivial⟩ rfl (tj193_94 k0 ih  s6 e)
      · have e := (if_neg c4).symm.trans e
        refine ex_pc (if_neg c4) ?_
        refine ex_s (am_nb (m := 1) (pc1 := 40) (ls1 := [(0, .ref 123), (1, .int w1), (2, .ref 129), (3, .int v3), (4, .int v4)]) (st1 := [.ref 123]) (H1 := H) (k1 := 0) (n1 := 0) (by with_unfolding_all rfl)) ?_
        refine xe_get (v := .ref 125) hS rfl rfl (by decide) rfl ?_
        refine ex_s (am_nb (m := 1) (pc1 := 45) (ls1 := [(0, .ref 123), (1, .int w1), (2, .ref 129), (3, .int v3), (4, .int v4)]) (st1 := [.int v4, .ref 125]) (H1 := H) (k1 := 0) (n1 := 0) (by with_unfolding_all rfl)) ?_
        refine xe_zald hS rfl rfl g3 ?_
        refine ex_s (st_if rfl) ?_
        by_cases c11 : (a 125 (v4.toNatClampNeg)) = 0
        · have e := (if_pos c11).symm.trans e
          refine ex_pc (if_pos c11) ?_
          refine ex_s (am_nb (m := 2) (pc1 := 51) (ls1 := [(0, .ref 123), (1, .int w1), (2, .ref 129), (3, .int v3), (4, .int v4)]) (st1 := [.int 3, .int v3]) (H1 := H) (k1 := 0) (n1 := 0) (by with_unfolding_all rfl)) ?_
          refine ex_s (st_icmp rfl) ?_
          by_cases c13 : 3 ≤ v3
          · have e := (if_pos c13).symm.trans e
            refine ex_pc (if_pos c13) ?_
            exact le_E (l1 := [(0, .ref 123), (1, .int w1), (2, .ref 129), (3, .int v3), (4, .int v4)]) ⟨rfl, rfl, rfl, rfl, rfl, trivial⟩ rfl (tj193_94 k0 ih  hS e)
          · have e := (if_neg c13).symm.trans e
            refine ex_pc (if_neg c13) ?_
            refine ex_s (am_nb (m := 2) (pc1 := 58) (ls1 := [(3, .int (v3 + 1)), (0, .ref 123), (1, .int w1), (2, .ref 129), (4, .int v4)]) (st1 := [.ref 123]) (H1 := H) (k1 := 0) (n1 := 0) (by with_unfolding_all rfl)) ?_
            refine xe_get (v := .ref 125) hS rfl rfl (by decide) rfl ?_
            refine ex_s (am_nb (m := 2) (pc1 := 64) (ls1 := [(3, .int (v3 + 1)), (0, .ref 123), (1, .int w1), (2, .ref 129), (4, .int v4)]) (st1 := [.int 1, .int v4, .ref 125]) (H1 := H) (k1 := 0) (n1 := 0) (by with_unfolding_all rfl)) ?_
            obtain ⟨a14, ha14, e⟩ := xw_some e
            refine xe_zast hS rfl rfl g3 (fun H15 s16 => ?_)
            have s16 : xS h b T a14 H15 := by rw [ha14]; exact s16
            refine ex_s (am_nb (m := 3) (pc1 := 69) (ls1 := [(3, .int (v3 + 1)), (0, .ref 123), (1, .int w1), (2, .ref 129), (4, .int v4)]) (st1 := [.ref 129, .int v4, .ref 123]) (H1 := H15) (k1 := 0) (n1 := 0) (by with_unfolding_all rfl)) ?_
            obtain ⟨a20, e19, e⟩ := xb1_some e
            refine ex_cv0 (as := [.int v4, .ref 129]) (rest := []) rfl rfl rfl rfl (s16.obj rfl (by decide)) rfl (by with_unfolding_all rfl) (by with_unfolding_all rfl) (tf195_strike s16 e19) (fun H17 s18 => ?_)
            refine ex_s (am_nb (m := 1) (pc1 := 74) (ls1 := [(3, .int (v3 + 1)), (0, .ref 123), (1, .int w1), (2, .ref 129), (4, .int v4)]) (st1 := [.int v4]) (H1 := H17) (k1 := 0) (n1 := 0) (by with_unfolding_all rfl)) ?_
            obtain ⟨r24, a25, e23, e⟩ := xb2_some e
            refine ex_cs1 (as := [.int v4]) (rest := []) rfl (by decide) rfl rfl (by with_unfolding_all rfl) (by with_unfolding_all rfl) (tf202_isRepeatable s18 e23) (fun H21 s22 => ?_)
            refine ex_s (st_if rfl) ?_
            by_cases c27 : r24 = 0
            · have e := (if_pos c27).symm.trans e
              refine ex_pc (if_pos c27) ?_
              exact le_E (l1 := [(0, .ref 123), (1, .int w1), (2, .ref 129), (3, .int (v3 + 1)), (4, .int v4)]) ⟨rfl, rfl, rfl, rfl, rfl, trivial⟩ rfl (tj193_94 k0 ih  s22 e)
            · have e := (if_neg c27).symm.trans e
              refine ex_pc (if_neg c27) ?_
              refine ex_s (am_nb (m := 2) (pc1 := 83) (ls1 := [(3, .int (v3 + 1)), (0, .ref 123), (1, .int w1), (2, .ref 129), (4, .int v4)]) (st1 := [.int v4, .ref 123]) (H1 := H21) (k1 := 0) (n1 := 0) (by with_unfolding_all rfl)) ?_
              obtain ⟨a28, ha28, e⟩ := xw_some e
              refine xe_put (w := v4) s22 rfl rfl (by decide) rfl rfl rfl rfl (fun H29 s30 => ?_)
              have s30 : xS h b T a28 H29 := by rw [ha28]; exact s30
              refine ex_s (am_nb (m := 4) (pc1 := 91) (ls1 := [(3, .int (v3 + 1)), (0, .ref 123), (1, .int w1), (2, .ref 129), (4, .int v4)]) (st1 := [.int (w1 + 32), .ref 123]) (H1 := H29) (k1 := 0) (n1 := 0) (by with_unfolding_all rfl)) ?_
              obtain ⟨a31, ha31, e⟩ := xw_some e
              refine xe_put (w := (w1 + 32)) s30 rfl rfl (by decide) rfl rfl rfl rfl (fun H32 s33 => ?_)
              have s33 : xS h b T a31 H32 := by rw [ha31]; exact s33
              exact le_E (l1 := [(0, .ref 123), (1, .int w1), (2, .ref 129), (3, .int (v3 + 1)), (4, .int v4)]) ⟨rfl, rfl, rfl, rfl, rfl, trivial⟩ rfl (tj193_94 k0 ih  s33 e)
        · have e := (if_neg c11).symm.trans e
          refine ex_pc (if_neg c11) ?_
          exact le_E (l1 := [(0, .ref 123), (1, .int w1), (2, .ref 129), (3, .int v3), (4, .int v4)]) ⟨rfl, rfl, rfl, rfl, rfl, trivial⟩ rfl (tj193_94 k0 ih  hS e)

set_option maxRecDepth 100000 in
theorem tf193_scan {sL : Nat} {sx : Nat → Int32} {h b N : Nat} {T : List am_C} {a' : xA} {x0 : Int32} {a : xA} {H : am_H} (hS : xS h b T a H) (e : f193_scan N h b x0 a = some a') : am_E sL sx am_cs 193 0 [(0, .ref 123), (1, .int x0), (2, .ref 129)] [] H none (fun H1 => xS h b T a' H1) := by
  unfold f193_scan at e
  refine ex_s (am_nb (m := 1) (pc1 := 1) (ls1 := [(0, .ref 123), (1, .int x0), (2, .ref 129)]) (st1 := [.ref 123]) (H1 := H) (k1 := 0) (n1 := 0) (by with_unfolding_all rfl)) ?_
  refine xe_get (v := .int (a 123 2)) hS rfl rfl (by decide) rfl ?_
  refine ex_s (st_if rfl) ?_
  by_cases c1 : (a 123 2) = 0
  · have e := (if_pos c1).symm.trans e
    refine ex_pc (if_pos c1) ?_
    cases e
    exact ex_r (st_vret rfl rfl) hS
  · have e := (if_neg c1).symm.trans e
    refine ex_pc (if_neg c1) ?_
    refine ex_s (am_nb (m := 4) (pc1 := 13) (ls1 := [(4, .int 0), (3, .int 0), (0, .ref 123), (1, .int x0), (2, .ref 129)]) (st1 := []) (H1 := H) (k1 := 0) (n1 := 0) (by with_unfolding_all rfl)) ?_
    obtain ⟨z34, e35, e⟩ := Option.bind_eq_some_iff.mp e
    refine le_E (l1 := [(0, .ref 123), (1, .int x0), (2, .ref 129), (3, .int 0), (4, .int 0)]) ⟨rfl, rfl, rfl, rfl, rfl, trivial⟩ rfl (tl193_13 (z := z34)  (fun uz34_0 Hz340 sz340 => ?_) N 0 0 a H hS e35)
    refine ex_s (am_nb (m := 1) (pc1 := 101) (ls1 := [(0, .ref 123), (1, .int x0), (2, .ref 129)]) (st1 := [.ref 123]) (H1 := Hz340) (k1 := 0) (n1 := 0) (by with_unfolding_all rfl)) ?_
    refine xe_get (v := .int (z34.2 123 3)) sz340 rfl rfl (by decide) rfl ?_
    refine ex_s (am_nb (m := 1) (pc1 := 105) (ls1 := [(0, .ref 123), (1, .int x0), (2, .ref 129)]) (st1 := [.int (-1), .int (z34.2 123 3)]) (H1 := Hz340) (k1 := 0) (n1 := 0) (by with_unfolding_all rfl)) ?_
    refine ex_s (st_icmp rfl) ?_
    by_cases c37 : (z34.2 123 3) = (-1)
    · have e := (if_pos c37).symm.trans e
      refine ex_pc (if_pos c37) ?_
      cases e
      exact ex_r (st_vret rfl rfl) sz340
    · have e := (if_neg c37).symm.trans e
      refine ex_pc (if_neg c37) ?_
      refine ex_s (am_nb (m := 1) (pc1 := 109) (ls1 := [(0, .ref 123), (1, .int x0), (2, .ref 129)]) (st1 := [.ref 129]) (H1 := Hz340) (k1 := 0) (n1 := 0) (by with_unfolding_all rfl)) ?_
      refine xe_get (v := .ref 136) sz340 rfl rfl (by decide) rfl ?_
      refine ex_s (am_nb (m := 1) (pc1 := 114) (ls1 := [(0, .ref 123), (1, .int x0), (2, .ref 129)]) (st1 := [.int 64, .ref 136]) (H1 := Hz340) (k1 := 0) (n1 := 0) (by with_unfolding_all rfl)) ?_
      obtain ⟨r41, a42, e40, e⟩ := xb2_some e
      refine ex_cv1 (as := [.int 64]) (rest := []) rfl rfl rfl rfl (sz340.obj rfl (by decide)) rfl (by with_unfolding_all rfl) (by with_unfolding_all rfl) (tf197_has sz340 e40) (fun H38 s39 => ?_)
      refine ex_s (st_if rfl) ?_
      by_cases c45 : r41 = 0
      · have e := (if_pos c45).symm.trans e
        refine ex_pc (if_pos c45) ?_
        cases e
        exact ex_r (st_vret rfl rfl) s39
      · have e := (if_neg c45).symm.trans e
        refine ex_pc (if_neg c45) ?_
        refine ex_s (am_nb (m := 2) (pc1 := 122) (ls1 := [(0, .ref 123), (1, .int x0), (2, .ref 129)]) (st1 := [.ref 123, .int x0]) (H1 := H38) (k1 := 0) (n1 := 0) (by with_unfolding_all rfl)) ?_
        refine xe_get (v := .int (a42 123 4)) s39 rfl rfl (by decide) rfl ?_
        refine ex_s (st_icmp rfl) ?_
        by_cases c47 : x0 < (a42 123 4)
        · have e := (if_pos c47).symm.trans e
          refine ex_pc (if_pos c47) ?_
          cases e
          exact ex_r (st_vret rfl rfl) s39
        · have e := (if_neg c47).symm.trans e
          refine ex_pc (if_neg c47) ?_
          refine ex_s (am_nb (m := 2) (pc1 := 130) (ls1 := [(0, .ref 123), (1, .int x0), (2, .ref 129)]) (st1 := [.ref 123, .ref 123]) (H1 := H38) (k1 := 0) (n1 := 0) (by with_unfolding_all rfl)) ?_
          refine xe_get (v := .int (a42 123 3)) s39 rfl rfl (by decide) rfl ?_
          refine ex_s (am_nb (m := 1) (pc1 := 134) (ls1 := [(0, .ref 123), (1, .int x0), (2, .ref 129)]) (st1 := [.ref 129, .int (a42 123 3), .ref 123]) (H1 := H38) (k1 := 0) (n1 := 0) (by with_unfolding_all rfl)) ?_
          obtain ⟨a51, e50, e⟩ := xb1_some e
          refine ex_cv0 (as := [.int (a42 123 3), .ref 129]) (rest := []) rfl rfl rfl rfl (s39.obj rfl (by decide)) rfl (by with_unfolding_all rfl) (by with_unfolding_all rfl) (tf195_strike s39 e50) (fun H48 s49 => ?_)
          refine ex_s (am_nb (m := 4) (pc1 := 141) (ls1 := [(0, .ref 123), (1, .int x0), (2, .ref 129)]) (st1 := [.int (x0 + 4), .ref 123]) (H1 := H48) (k1 := 0) (n1 := 0) (by with_unfolding_all rfl)) ?_
          obtain ⟨a52, ha52, e⟩ := xw_some e
          refine xe_put (w := (x0 + 4)) s49 rfl rfl (by decide) rfl rfl rfl rfl (fun H53 s54 => ?_)
          have s54 : xS h b T a52 H53 := by rw [ha52]; exact s54
          cases e
          exact ex_r (st_vret rfl rfl) s54

set_option maxRecDepth 100000 in
theorem tf207_slideRows {sL : Nat} {sx : Nat → Int32} {h b N : Nat} {T : List am_C} {a' : xA} {x0 : Int32} {x1 : Int32} {x2 : Int32} {a : xA} {H : am_H} (hS : xS h b T a H) (e : f207_slideRows N h b x0 x1 x2 a = some a') : am_E sL sx am_cs 207 0 [(0, .ref 136), (1, .int x0), (2, .int x1), (3, .int x2)] [] H none (fun H1 => xS h b T a' H1) := by
  unfold f207_slideRows at e
  refine ex_s (am_nb (m := 2) (pc1 := 2) (ls1 := [(0, .ref 136), (1, .int x0), (2, .int x1), (3, .int x2)]) (st1 := [.ref 136, .int x2]) (H1 := H) (k1 := 0) (n1 := 0) (by with_unfolding_all rfl)) ?_
  refine xe_get (v := .int (a 136 0)) hS rfl rfl (by decide) rfl ?_
  refine ex_s (am_nb (m := 2) (pc1 := 7) (ls1 := [(0, .ref 136), (1, .int x0), (2, .int x1), (3, .int x2)]) (st1 := [.ref 136, .int (-(a 136 0)), .int x2]) (H1 := H) (k1 := 0) (n1 := 0) (by with_unfolding_all rfl)) ?_
  refine xe_get (v := .int (a 136 0)) hS rfl rfl (by decide) rfl ?_
  obtain ⟨r4, a5, e3, e⟩ := xb2_some e
  refine ex_cs1 (as := [.int x2, .int (-(a 136 0)), .int (a 136 0)]) (rest := []) rfl (by decide) rfl rfl (by with_unfolding_all rfl) (by with_unfolding_all rfl) (tf10_nearest hS e3) (fun H1 s2 => ?_)
  refine ex_s (am_nb (m := 2) (pc1 := 16) (ls1 := [(4, .int r4), (0, .ref 136), (1, .int x0), (2, .int x1), (3, .int x2)]) (st1 := [.ref 136]) (H1 := H1) (k1 := 0) (n1 := 0) (by with_unfolding_all rfl)) ?_
  refine xe_get (v := .ref 138) s2 rfl rfl (by decide) rfl ?_
  refine ex_s (am_nb (m := 2) (pc1 := 21) (ls1 := [(4, .int r4), (0, .ref 136), (1, .int x0), (2, .int x1), (3, .int x2)]) (st1 := [.ref 136, .int x0, .ref 138]) (H1 := H1) (k1 := 0) (n1 := 0) (by with_unfolding_all rfl)) ?_
  refine xe_get (v := .int (a5 136 1)) s2 rfl rfl (by decide) rfl ?_
  refine ex_s (am_nb (m := 7) (pc1 := 31) (ls1 := [(4, .int r4), (0, .ref 136), (1, .int x0), (2, .int x1), (3, .int x2)]) (st1 := [.ref 136, .int ((x1 - x0) + 1), .int (x0 * (a5 136 1)), .ref 138]) (H1 := H1) (k1 := 0) (n1 := 0) (by with_unfolding_all rfl)) ?_
  refine xe_get (v := .int (a5 136 1)) s2 rfl rfl (by decide) rfl ?_
  refine ex_s (am_nb (m := 3) (pc1 := 38) (ls1 := [(4, .int r4), (0, .ref 136), (1, .int x0), (2, .int x1), (3, .int x2)]) (st1 := [.ref 136, .int r4, .int (((x1 - x0) + 1) * (a5 136 1)), .int (x0 * (a5 136 1)), .ref 138]) (H1 := H1) (k1 := 0) (n1 := 0) (by with_unfolding_all rfl)) ?_
  refine xe_get (v := .int (a5 136 1)) s2 rfl rfl (by decide) rfl ?_
  refine ex_s (am_nb (m := 2) (pc1 := 44) (ls1 := [(4, .int r4), (0, .ref 136), (1, .int x0), (2, .int x1), (3, .int x2)]) (st1 := [.int 32, .int (r4 * (a5 136 1)), .int (((x1 - x0) + 1) * (a5 136 1)), .int (x0 * (a5 136 1)), .ref 138]) (H1 := H1) (k1 := 0) (n1 := 0) (by with_unfolding_all rfl)) ?_
  obtain ⟨a9, e8, e⟩ := xb1_some e
  refine ex_cs0 (as := [.ref 138, .int (x0 * (a5 136 1)), .int (((x1 - x0) + 1) * (a5 136 1)), .int (r4 * (a5 136 1)), .int 32]) (rest := []) rfl (by decide) rfl rfl (by with_unfolding_all rfl) (by with_unfolding_all rfl) (tf108_slide s2 e8) (fun H6 s7 => ?_)
  refine ex_s (am_nb (m := 1) (pc1 := 48) (ls1 := [(4, .int r4), (0, .ref 136), (1, .int x0), (2, .int x1), (3, .int x2)]) (st1 := [.ref 136]) (H1 := H6) (k1 := 0) (n1 := 0) (by with_unfolding_all rfl)) ?_
  refine xe_get (v := .ref 139) s7 rfl rfl (by decide) rfl ?_
  refine ex_s (am_nb (m := 8) (pc1 := 60) (ls1 := [(4, .int r4), (0, .ref 136), (1, .int x0), (2, .int x1), (3, .int x2)]) (st1 := [.int 0, .int r4, .int ((x1 - x0) + 1), .int x0, .ref 139]) (H1 := H6) (k1 := 0) (n1 := 0) (by with_unfolding_all rfl)) ?_
  obtain ⟨a13, e12, e⟩ := xb1_some e
  refine ex_cs0 (as := [.ref 139, .int x0, .int ((x1 - x0) + 1), .int r4, .int 0]) (rest := []) rfl (by decide) rfl rfl (by with_unfolding_all rfl) (by with_unfolding_all rfl) (tf108_slide s7 e12) (fun H10 s11 => ?_)
  refine ex_s (am_nb (m := 2) (pc1 := 65) (ls1 := [(4, .int r4), (0, .ref 136), (1, .int x0), (2, .int x1), (3, .int x2)]) (st1 := [.int 3, .ref 136]) (H1 := H10) (k1 := 0) (n1 := 0) (by with_unfolding_all rfl)) ?_
  obtain ⟨a14, ha14, e⟩ := xw_some e
  refine xe_put (w := 3) s11 rfl rfl (by decide) rfl rfl rfl rfl (fun H15 s16 => ?_)
  have s16 : xS h b T a14 H15 := by rw [ha14]; exact s16
  cases e
  exact ex_r (st_vret rfl rfl) s16

set_option maxRecDepth 100000 in
theorem tf206_index {sL : Nat} {sx : Nat → Int32} {h b N : Nat} {T : List am_C} {a' : xA} {a : xA} {H : am_H} (hS : xS h b T a H) (e : f206_index N h b a = some a') : am_E sL sx am_cs 206 0 [(0, .ref 136)] [] H none (fun H1 => xS h b T a' H1) := by
  unfold f206_index at e
  refine ex_s (am_nb (m := 1) (pc1 := 1) (ls1 := [(0, .ref 136)]) (st1 := [.ref 136]) (H1 := H) (k1 := 0) (n1 := 0) (by with_unfolding_all rfl)) ?_
  refine xe_get (v := .int (a 136 5)) hS rfl rfl (by decide) rfl ?_
  refine ex_s (am_nb (m := 1) (pc1 := 5) (ls1 := [(0, .ref 136)]) (st1 := [.ref 136, .int (a 136 5)]) (H1 := H) (k1 := 0) (n1 := 0) (by with_unfolding_all rfl)) ?_
  refine xe_get (v := .int (a 136 9)) hS rfl rfl (by decide) rfl ?_
  refine ex_s (st_icmp rfl) ?_
  by_cases c2 : (a 136 5) = (a 136 9)
  · have e := (if_pos c2).symm.trans e
    refine ex_pc (if_pos c2) ?_
    refine ex_s (am_nb (m := 2) (pc1 := 13) (ls1 := [(0, .ref 136)]) (st1 := [.ref 136, .ref 136]) (H1 := H) (k1 := 0) (n1 := 0) (by with_unfolding_all rfl)) ?_
    refine xe_get (v := .int (a 136 8)) hS rfl rfl (by decide) rfl ?_
    refine ex_s (am_nb (m := 1) (pc1 := 17) (ls1 := [(0, .ref 136)]) (st1 := [.ref 136, .int (a 136 8), .ref 136]) (H1 := H) (k1 := 0) (n1 := 0) (by with_unfolding_all rfl)) ?_
    refine xe_get (v := .int (a 136 9)) hS rfl rfl (by decide) rfl ?_
    refine ex_s (am_nb (m := 1) (pc1 := 21) (ls1 := [(0, .ref 136)]) (st1 := [.int (-1), .int (a 136 9), .int (a 136 8), .ref 136]) (H1 := H) (k1 := 0) (n1 := 0) (by with_unfolding_all rfl)) ?_
    obtain ⟨a6, e5, e⟩ := xb1_some e
    refine ex_cv0 (as := [.int (a 136 8), .int (a 136 9), .int (-1)]) (rest := []) rfl rfl rfl rfl (hS.obj rfl (by decide)) rfl (by with_unfolding_all rfl) (by with_unfolding_all rfl) (tf207_slideRows hS e5) (fun H3 s4 => ?_)
    refine ex_s (am_nb (m := 2) (pc1 := 26) (ls1 := [(0, .ref 136)]) (st1 := [.int 0, .ref 136]) (H1 := H3) (k1 := 0) (n1 := 0) (by with_unfolding_all rfl)) ?_
    obtain ⟨a7, ha7, e⟩ := xw_some e
    refine xe_put (w := 0) s4 rfl rfl (by decide) rfl rfl rfl rfl (fun H8 s9 => ?_)
    have s9 : xS h b T a7 H8 := by rw [ha7]; exact s9
    refine ex_s (am_nb (m := 1) (pc1 := 46) (ls1 := [(0, .ref 136)]) (st1 := []) (H1 := H8) (k1 := 0) (n1 := 0) (by with_unfolding_all rfl)) ?_
    cases e
    exact ex_r (st_vret rfl rfl) s9
  · have e := (if_neg c2).symm.trans e
    refine ex_pc (if_neg c2) ?_
    refine ex_s (am_nb (m := 2) (pc1 := 34) (ls1 := [(0, .ref 136)]) (st1 := [.ref 136, .ref 136]) (H1 := H) (k1 := 0) (n1 := 0) (by with_unfolding_all rfl)) ?_
    refine xe_get (v := .int (a 136 5)) hS rfl rfl (by decide) rfl ?_
    refine ex_s (am_nb (m := 3) (pc1 := 40) (ls1 := [(0, .ref 136)]) (st1 := [.ref 136, .int ((a 136 5) + 1), .ref 136]) (H1 := H) (k1 := 0) (n1 := 0) (by with_unfolding_all rfl)) ?_
    refine xe_get (v := .int (a 136 6)) hS rfl rfl (by decide) rfl ?_
    obtain ⟨a13, e12, e⟩ := xb1_some e
    refine ex_cv0 (as := [.int ((a 136 5) + 1), .int (a 136 6)]) (rest := []) rfl rfl rfl rfl (hS.obj rfl (by decide)) rfl (by with_unfolding_all rfl) (by with_unfolding_all rfl) (tf16_place hS e12) (fun H10 s11 => ?_)
    cases e
    exact ex_r (st_vret rfl rfl) s11

set_option maxRecDepth 100000 in
theorem tf208_here {sL : Nat} {sx : Nat → Int32} {h b N : Nat} {T : List am_C} {r : Int32} {a' : xA} {a : xA} {H : am_H} (hS : xS h b T a H) (e : f208_here N h b a = some (r, a')) : am_E sL sx am_cs 208 0 [(0, .ref 136)] [] H (some (.int r)) (fun H1 => xS h b T a' H1) := by
  unfold f208_here at e
  refine ex_s (am_nb (m := 1) (pc1 := 1) (ls1 := [(0, .ref 136)]) (st1 := [.ref 136]) (H1 := H) (k1 := 0) (n1 := 0) (by with_unfolding_all rfl)) ?_
  refine xe_get (v := .int (a 136 5)) hS rfl rfl (by decide) rfl ?_
  refine ex_s (am_nb (m := 1) (pc1 := 5) (ls1 := [(0, .ref 136)]) (st1 := [.ref 136, .int (a 136 5)]) (H1 := H) (k1 := 0) (n1 := 0) (by with_unfolding_all rfl)) ?_
  refine xe_get (v := .int (a 136 1)) hS rfl rfl (by decide) rfl ?_
  refine ex_s (am_nb (m := 2) (pc1 := 10) (ls1 := [(0, .ref 136)]) (st1 := [.ref 136, .int ((a 136 5) * (a 136 1))]) (H1 := H) (k1 := 0) (n1 := 0) (by with_unfolding_all rfl)) ?_
  refine xe_get (v := .int (a 136 6)) hS rfl rfl (by decide) rfl ?_
  refine ex_s (am_nb (m := 1) (pc1 := 14) (ls1 := [(0, .ref 136)]) (st1 := [.int (((a 136 5) * (a 136 1)) + (a 136 6))]) (H1 := H) (k1 := 0) (n1 := 0) (by with_unfolding_all rfl)) ?_
  cases e
  exact ex_r (st_iret rfl rfl rfl) hS

set_option maxRecDepth 100000 in
theorem tj205_102 {sL : Nat} {sx : Nat → Int32} {h b N : Nat} {T : List am_C} {a' : xA} {q2 : Int32} {t0 : Int32} {a : xA} {H : am_H} (hS : xS h b T a H) (e : j205_102 N h b q2 t0 a = some a') : am_E sL sx am_cs 205 102 [(0, .ref 136), (2, .int q2)] [.int t0, .ref 136] H none (fun H1 => xS h b T a' H1) := by
  unfold j205_102 at e
  obtain ⟨g29, e⟩ := xg_some e
  obtain ⟨a26, ha26, e⟩ := xw_some e
  refine xe_put (w := t0) hS rfl rfl (by decide) rfl rfl (xfit_z g29) rfl (fun H27 s28 => ?_)
  have s28 : xS h b T a26 H27 := by rw [ha26]; exact s28
  refine ex_s (am_nb (m := 1) (pc1 := 106) (ls1 := [(0, .ref 136), (2, .int q2)]) (st1 := [.ref 136]) (H1 := H27) (k1 := 0) (n1 := 0) (by with_unfolding_all rfl)) ?_
  refine xe_get (v := .int (a26 136 6)) s28 rfl rfl (by decide) rfl ?_
  refine ex_s (am_nb (m := 1) (pc1 := 110) (ls1 := [(0, .ref 136), (2, .int q2)]) (st1 := [.int q2, .int (a26 136 6)]) (H1 := H27) (k1 := 0) (n1 := 0) (by with_unfolding_all rfl)) ?_
  refine ex_s (st_icmp rfl) ?_
  by_cases c31 : q2 ≤ (a26 136 6)
  · have e := (if_pos c31).symm.trans e
    refine ex_pc (if_pos c31) ?_
    cases e
    exact ex_r (st_vret rfl rfl) s28
  · have e := (if_neg c31).symm.trans e
    refine ex_pc (if_neg c31) ?_
    refine ex_s (am_nb (m := 2) (pc1 := 115) (ls1 := [(0, .ref 136), (2, .int q2)]) (st1 := [.ref 136, .ref 136]) (H1 := H27) (k1 := 0) (n1 := 0) (by with_unfolding_all rfl)) ?_
    refine xe_get (v := .int (a26 136 6)) s28 rfl rfl (by decide) rfl ?_
    refine ex_s (am_nb (m := 2) (pc1 := 120) (ls1 := [(0, .ref 136), (2, .int q2)]) (st1 := [.int ((a26 136 6) + 1), .ref 136]) (H1 := H27) (k1 := 0) (n1 := 0) (by with_unfolding_all rfl)) ?_
    obtain ⟨a32, ha32, e⟩ := xw_some e
    refine xe_put (w := ((a26 136 6) + 1)) s28 rfl rfl (by decide) rfl rfl rfl rfl (fun H33 s34 => ?_)
    have s34 : xS h b T a32 H33 := by rw [ha32]; exact s34
    cases e
    exact ex_r (st_vret rfl rfl) s34

set_option maxRecDepth 100000 in
theorem tj205_101 {sL : Nat} {sx : Nat → Int32} {h b N : Nat} {T : List am_C} {a' : xA} {q2 : Int32} {a : xA} {H : am_H} (hS : xS h b T a H) (e : j205_101 N h b q2 a = some a') : am_E sL sx am_cs 205 101 [(0, .ref 136), (2, .int q2)] [.ref 136] H none (fun H1 => xS h b T a' H1) := by
  unfold j205_101 at e
  refine ex_s (am_nb (m := 1) (pc1 := 102) (ls1 := [(0, .ref 136), (2, .int q2)]) (st1 := [.int 0, .ref 136]) (H1 := H) (k1 := 0) (n1 := 0) (by with_unfolding_all rfl)) ?_
  exact le_E (l1 := [(0, .ref 136), (2, .int q2)]) ⟨rfl, rfl, trivial⟩ rfl (tj205_102  hS e)

set_option maxRecDepth 100000 in
theorem tj205_60 {sL : Nat} {sx : Nat → Int32} {h b N : Nat} {T : List am_C} {a' : xA} {q1 : Int32} {q2 : Int32} {a : xA} {H : am_H} (hS : xS h b T a H) (e : j205_60 N h b q1 q2 a = some a') : am_E sL sx am_cs 205 60 [(0, .ref 136), (1, .int q1), (2, .int q2)] [] H none (fun H1 => xS h b T a' H1) := by
  unfold j205_60 at e
  refine ex_s (am_nb (m := 1) (pc1 := 61) (ls1 := [(0, .ref 136), (1, .int q1), (2, .int q2)]) (st1 := [.ref 136]) (H1 := H) (k1 := 0) (n1 := 0) (by with_unfolding_all rfl)) ?_
  refine xe_get (v := .ref 138) hS rfl rfl (by decide) rfl ?_
  refine ex_s (am_nb (m := 1) (pc1 := 65) (ls1 := [(0, .ref 136), (1, .int q1), (2, .int q2)]) (st1 := [.ref 136, .ref 138]) (H1 := H) (k1 := 0) (n1 := 0) (by with_unfolding_all rfl)) ?_
  obtain ⟨r18, a19, e17, e⟩ := xb2_some e
  refine ex_cv1 (as := []) (rest := [.ref 138]) rfl rfl rfl rfl (hS.obj rfl (by decide)) rfl (by with_unfolding_all rfl) (by with_unfolding_all rfl) (tf208_here hS e17) (fun H15 s16 => ?_)
  refine ex_s (am_nb (m := 3) (pc1 := 73) (ls1 := [(0, .ref 136), (1, .int q1), (2, .int q2)]) (st1 := [.ref 136, .int 256, .int q1, .int r18, .ref 138]) (H1 := H15) (k1 := 0) (n1 := 0) (by with_unfolding_all rfl)) ?_
  refine xe_get (v := .int (a19 136 11)) s16 rfl rfl (by decide) rfl ?_
  refine ex_s (am_nb (m := 2) (pc1 := 78) (ls1 := [(0, .ref 136), (1, .int q1), (2, .int q2)]) (st1 := [.int (q1 + (256 * (a19 136 11))), .int r18, .ref 138]) (H1 := H15) (k1 := 0) (n1 := 0) (by with_unfolding_all rfl)) ?_
  obtain ⟨g23, e⟩ := xg_some e
  obtain ⟨a20, ha20, e⟩ := xw_some e
  refine xe_iast s16 rfl rfl g23 (fun H21 s22 => ?_)
  have s22 : xS h b T a20 H21 := by rw [ha20]; exact s22
  refine ex_s (am_nb (m := 2) (pc1 := 81) (ls1 := [(0, .ref 136), (1, .int q1), (2, .int q2)]) (st1 := [.ref 136, .ref 136]) (H1 := H21) (k1 := 0) (n1 := 0) (by with_unfolding_all rfl)) ?_
  refine xe_get (v := .int (a20 136 6)) s22 rfl rfl (by decide) rfl ?_
  refine ex_s (am_nb (m := 1) (pc1 := 85) (ls1 := [(0, .ref 136), (1, .int q1), (2, .int q2)]) (st1 := [.int q2, .int (a20 136 6), .ref 136]) (H1 := H21) (k1 := 0) (n1 := 0) (by with_unfolding_all rfl)) ?_
  refine ex_s (st_icmp rfl) ?_
  by_cases c25 : (a20 136 6) < q2
  · have e := (if_pos c25).symm.trans e
    refine ex_pc (if_pos c25) ?_
    exact le_E (l1 := [(0, .ref 136), (2, .int q2)]) ⟨rfl, rfl, trivial⟩ rfl (tj205_101  s22 e)
  · have e := (if_neg c25).symm.trans e
    refine ex_pc (if_neg c25) ?_
    refine ex_s (am_nb (m := 2) (pc1 := 91) (ls1 := [(0, .ref 136), (1, .int q1), (2, .int q2)]) (st1 := [.int 32, .ref 136, .ref 136]) (H1 := H21) (k1 := 0) (n1 := 0) (by with_unfolding_all rfl)) ?_
    obtain ⟨r38, a39, e37, e⟩ := xb2_some e
    refine ex_cv1 (as := [.int 32]) (rest := [.ref 136]) rfl rfl rfl rfl (s22.obj rfl (by decide)) rfl (by with_unfolding_all rfl) (by with_unfolding_all rfl) (tf197_has s22 e37) (fun H35 s36 => ?_)
    have kk : am_E sL sx am_cs 205 102 [(0, .ref 136), (1, .int q1), (2, .int q2)] [.int (if r38 = 0 then (0 : Int32) else (1 : Int32)), .ref 136] H35 none (fun H1 => xS h b T a' H1) := by
      obtain ⟨g44, e⟩ := xg_some e
      obtain ⟨a41, ha41, e⟩ := xw_some e
      refine xe_put (w := (if r38 = 0 then (0 : Int32) else (1 : Int32))) s36 rfl rfl (by decide) rfl rfl (xfit_z g44) rfl (fun H42 s43 => ?_)
      have s43 : xS h b T a41 H42 := by rw [ha41]; exact s43
      refine ex_s (am_nb (m := 1) (pc1 := 106) (ls1 := [(0, .ref 136), (1, .int q1), (2, .int q2)]) (st1 := [.ref 136]) (H1 := H42) (k1 := 0) (n1 := 0) (by with_unfolding_all rfl)) ?_
      refine xe_get (v := .int (a41 136 6)) s43 rfl rfl (by decide) rfl ?_
      refine ex_s (am_nb (m := 1) (pc1 := 110) (ls1 := [(0, .ref 136), (1, .int q1), (2, .int q2)]) (st1 := [.int q2, .int (a41 136 6)]) (H1 := H42) (k1 := 0) (n1 := 0) (by with_unfolding_all rfl)) ?_
      refine ex_s (st_icmp rfl) ?_
      by_cases c46 : q2 ≤ (a41 136 6)
      · have e := (if_pos c46).symm.trans e
        refine ex_pc (if_pos c46) ?_
        cases e
        exact ex_r (st_vret rfl rfl) s43
      · have e := (if_neg c46).symm.trans e
        refine ex_pc (if_neg c46) ?_
        refine ex_s (am_nb (m := 2) (pc1 := 115) (ls1 := [(0, .ref 136), (1, .int q1), (2, .int q2)]) (st1 := [.ref 136, .ref 136]) (H1 := H42) (k1 := 0) (n1 := 0) (by with_unfolding_all rfl)) ?_
        refine xe_get (v := .int (a41 136 6)) s43 rfl rfl (by decide) rfl ?_
        refine ex_s (am_nb (m := 2) (pc1 := 120) (ls1 := [(0, .ref 136), (1, .int q1), (2, .int q2)]) (st1 := [.int ((a41 136 6) + 1), .ref 136]) (H1 := H42) (k1 := 0) (n1 := 0) (by with_unfolding_all rfl)) ?_
        obtain ⟨a47, ha47, e⟩ := xw_some e
        refine xe_put (w := ((a41 136 6) + 1)) s43 rfl rfl (by decide) rfl rfl rfl rfl (fun H48 s49 => ?_)
        have s49 : xS h b T a47 H48 := by rw [ha47]; exact s49
        cases e
        exact ex_r (st_vret rfl rfl) s49
    refine ex_s (st_if rfl) ?_
    by_cases c40 : r38 = 0
    · refine ex_pc (if_pos c40) ?_
      refine ex_s (am_nb (m := 1) (pc1 := 102) (ls1 := [(0, .ref 136), (1, .int q1), (2, .int q2)]) (st1 := [.int 0, .ref 136]) (H1 := H35) (k1 := 0) (n1 := 0) (by with_unfolding_all rfl)) ?_
      rw [if_pos c40] at kk
      exact kk
    · refine ex_pc (if_neg c40) ?_
      refine ex_s (am_nb (m := 2) (pc1 := 102) (ls1 := [(0, .ref 136), (1, .int q1), (2, .int q2)]) (st1 := [.int 1, .ref 136]) (H1 := H35) (k1 := 0) (n1 := 0) (by with_unfolding_all rfl)) ?_
      rw [if_neg c40] at kk
      exact kk

set_option maxRecDepth 100000 in
theorem tj205_25 {sL : Nat} {sx : Nat → Int32} {h b N : Nat} {T : List am_C} {a' : xA} {q1 : Int32} {a : xA} {H : am_H} (hS : xS h b T a H) (e : j205_25 N h b q1 a = some a') : am_E sL sx am_cs 205 25 [(0, .ref 136), (1, .int q1)] [] H none (fun H1 => xS h b T a' H1) := by
  unfold j205_25 at e
  refine ex_s (am_nb (m := 1) (pc1 := 26) (ls1 := [(0, .ref 136), (1, .int q1)]) (st1 := [.ref 136]) (H1 := H) (k1 := 0) (n1 := 0) (by with_unfolding_all rfl)) ?_
  obtain ⟨r6, a7, e5, e⟩ := xb2_some e
  refine ex_cv1 (as := []) (rest := []) rfl rfl rfl rfl (hS.obj rfl (by decide)) rfl (by with_unfolding_all rfl) (by with_unfolding_all rfl) (tf17_last hS e5) (fun H3 s4 => ?_)
  refine ex_s (am_nb (m := 3) (pc1 := 32) (ls1 := [(2, .int r6), (0, .ref 136), (1, .int q1)]) (st1 := [.int 1, .ref 136]) (H1 := H3) (k1 := 0) (n1 := 0) (by with_unfolding_all rfl)) ?_
  obtain ⟨r11, a12, e10, e⟩ := xb2_some e
  refine ex_cv1 (as := [.int 1]) (rest := []) rfl rfl rfl rfl (s4.obj rfl (by decide)) rfl (by with_unfolding_all rfl) (by with_unfolding_all rfl) (tf197_has s4 e10) (fun H8 s9 => ?_)
  refine ex_s (st_if rfl) ?_
  by_cases c14 : r11 = 0
  · have e := (if_pos c14).symm.trans e
    refine ex_pc (if_pos c14) ?_
    exact le_E (l1 := [(0, .ref 136), (1, .int q1), (2, .int r6)]) ⟨rfl, rfl, rfl, trivial⟩ rfl (tj205_60  s9 e)
  · have e := (if_neg c14).symm.trans e
    refine ex_pc (if_neg c14) ?_
    refine ex_s (am_nb (m := 1) (pc1 := 39) (ls1 := [(2, .int r6), (0, .ref 136), (1, .int q1)]) (st1 := [.ref 136]) (H1 := H8) (k1 := 0) (n1 := 0) (by with_unfolding_all rfl)) ?_
    refine xe_get (v := .ref 138) s9 rfl rfl (by decide) rfl ?_
    refine ex_s (am_nb (m := 1) (pc1 := 43) (ls1 := [(2, .int r6), (0, .ref 136), (1, .int q1)]) (st1 := [.ref 136, .ref 138]) (H1 := H8) (k1 := 0) (n1 := 0) (by with_unfolding_all rfl)) ?_
    obtain ⟨r53, a54, e52, e⟩ := xb2_some e
    refine ex_cv1 (as := []) (rest := [.ref 138]) rfl rfl rfl rfl (s9.obj rfl (by decide)) rfl (by with_unfolding_all rfl) (by with_unfolding_all rfl) (tf208_here s9 e52) (fun H50 s51 => ?_)
    refine ex_s (am_nb (m := 2) (pc1 := 48) (ls1 := [(2, .int r6), (0, .ref 136), (1, .int q1)]) (st1 := [.ref 136, .int r6, .int r53, .ref 138]) (H1 := H50) (k1 := 0) (n1 := 0) (by with_unfolding_all rfl)) ?_
    refine xe_get (v := .int (a54 136 6)) s51 rfl rfl (by decide) rfl ?_
    refine ex_s (am_nb (m := 5) (pc1 := 57) (ls1 := [(2, .int r6), (0, .ref 136), (1, .int q1)]) (st1 := [.int 32, .int 1, .int ((r6 - (a54 136 6)) + 1), .int r53, .ref 138]) (H1 := H50) (k1 := 0) (n1 := 0) (by with_unfolding_all rfl)) ?_
    obtain ⟨a58, e57, e⟩ := xb1_some e
    refine ex_cs0 (as := [.ref 138, .int r53, .int ((r6 - (a54 136 6)) + 1), .int 1, .int 32]) (rest := []) rfl (by decide) rfl rfl (by with_unfolding_all rfl) (by with_unfolding_all rfl) (tf108_slide s51 e57) (fun H55 s56 => ?_)
    exact le_E (l1 := [(0, .ref 136), (1, .int q1), (2, .int r6)]) ⟨rfl, rfl, rfl, trivial⟩ rfl (tj205_60  s56 e)

set_option maxRecDepth 100000 in
theorem tf205_printSign {sL : Nat} {sx : Nat → Int32} {h b N : Nat} {T : List am_C} {a' : xA} {x0 : Int32} {a : xA} {H : am_H} (hS : xS h b T a H) (e : f205_printSign N h b x0 a = some a') : am_E sL sx am_cs 205 0 [(0, .ref 136), (1, .int x0)] [] H none (fun H1 => xS h b T a' H1) := by
  unfold f205_printSign at e
  refine ex_s (am_nb (m := 1) (pc1 := 1) (ls1 := [(0, .ref 136), (1, .int x0)]) (st1 := [.ref 136]) (H1 := H) (k1 := 0) (n1 := 0) (by with_unfolding_all rfl)) ?_
  refine xe_get (v := .int (a 136 7)) hS rfl rfl (by decide) rfl ?_
  refine ex_s (st_if rfl) ?_
  by_cases c2 : (a 136 7) = 0
  · have e := (if_pos c2).symm.trans e
    refine ex_pc (if_pos c2) ?_
    exact le_E (l1 := [(0, .ref 136), (1, .int x0)]) ⟨rfl, rfl, trivial⟩ rfl (tj205_25  hS e)
  · have e := (if_neg c2).symm.trans e
    refine ex_pc (if_neg c2) ?_
    refine ex_s (am_nb (m := 2) (pc1 := 10) (ls1 := [(0, .ref 136), (1, .int x0)]) (st1 := [.int 32, .ref 136]) (H1 := H) (k1 := 0) (n1 := 0) (by with_unfolding_all rfl)) ?_
    obtain ⟨r62, a63, e61, e⟩ := xb2_some e
    refine ex_cv1 (as := [.int 32]) (rest := []) rfl rfl rfl rfl (hS.obj rfl (by decide)) rfl (by with_unfolding_all rfl) (by with_unfolding_all rfl) (tf197_has hS e61) (fun H59 s60 => ?_)
    refine ex_s (st_if rfl) ?_
    by_cases c65 : r62 = 0
    · have e := (if_pos c65).symm.trans e
      refine ex_pc (if_pos c65) ?_
      exact le_E (l1 := [(0, .ref 136), (1, .int x0)]) ⟨rfl, rfl, trivial⟩ rfl (tj205_25  s60 e)
    · have e := (if_neg c65).symm.trans e
      refine ex_pc (if_neg c65) ?_
      refine ex_s (am_nb (m := 2) (pc1 := 18) (ls1 := [(0, .ref 136), (1, .int x0)]) (st1 := [.int 0, .ref 136]) (H1 := H59) (k1 := 0) (n1 := 0) (by with_unfolding_all rfl)) ?_
      obtain ⟨a66, ha66, e⟩ := xw_some e
      refine xe_put (w := 0) s60 rfl rfl (by decide) rfl rfl rfl rfl (fun H67 s68 => ?_)
      have s68 : xS h b T a66 H67 := by rw [ha66]; exact s68
      refine ex_s (am_nb (m := 1) (pc1 := 22) (ls1 := [(0, .ref 136), (1, .int x0)]) (st1 := [.ref 136]) (H1 := H67) (k1 := 0) (n1 := 0) (by with_unfolding_all rfl)) ?_
      obtain ⟨a72, e71, e⟩ := xb1_some e
      refine ex_cv0 (as := []) (rest := []) rfl rfl rfl rfl (s68.obj rfl (by decide)) rfl (by with_unfolding_all rfl) (by with_unfolding_all rfl) (tf206_index s68 e71) (fun H69 s70 => ?_)
      exact le_E (l1 := [(0, .ref 136), (1, .int x0)]) ⟨rfl, rfl, trivial⟩ rfl (tj205_25  s70 e)

set_option maxRecDepth 100000 in
theorem tl210_21 {sL : Nat} {sx : Nat → Int32} {h b N : Nat} {T : List am_C} {R : Option Value} {F : am_H → Prop} {w1 : Int32} {z : Nat × Int32 × xA} (k0 : z.1 = 0 → ∀ H2 : am_H, xS h b T z.2.2 H2 → am_E sL sx am_cs 210 41 [(0, .ref 136), (2, .int z.2.1)] [] H2 R F) : ∀ (n : Nat) (v2 : Int32) (a : xA) (H : am_H), xS h b T a H → l210_21 N h b w1 n v2 a = some z → am_E sL sx am_cs 210 21 [(0, .ref 136), (1, .int w1), (2, .int v2)] [] H R F := by
  intro n
  induction n with
  | zero =>
    intro v2 a H hS e
    cases e
  | succ n ih =>
    intro v2 a H hS e
    unfold l210_21 at e
    refine ex_s (am_nb (m := 2) (pc1 := 23) (ls1 := [(0, .ref 136), (1, .int w1), (2, .int v2)]) (st1 := [.int w1, .int v2]) (H1 := H) (k1 := 0) (n1 := 0) (by with_unfolding_all rfl)) ?_
    refine ex_s (st_icmp rfl) ?_
    by_cases c8 : w1 ≤ v2
    · have e := (if_pos c8).symm.trans e
      refine ex_pc (if_pos c8) ?_
      cases e
      exact le_E (l1 := [(0, .ref 136), (2, .int v2)]) ⟨rfl, rfl, trivial⟩ rfl (k0 rfl H hS)
    · have e := (if_neg c8).symm.trans e
      refine ex_pc (if_neg c8) ?_
      refine ex_s (am_nb (m := 1) (pc1 := 27) (ls1 := [(0, .ref 136), (1, .int w1), (2, .int v2)]) (st1 := [.ref 136]) (H1 := H) (k1 := 0) (n1 := 0) (by with_unfolding_all rfl)) ?_
      refine xe_get (v := .ref 140) hS rfl rfl (by decide) rfl ?_
      refine ex_s (am_nb (m := 1) (pc1 := 31) (ls1 := [(0, .ref 136), (1, .int w1), (2, .int v2)]) (st1 := [.int v2, .ref 140]) (H1 := H) (k1 := 0) (n1 := 0) (by with_unfolding_all rfl)) ?_
      obtain ⟨g9, e⟩ := xg_some e
      refine xe_zald hS rfl rfl g9 ?_
      refine ex_s (st_if rfl) ?_
      by_cases c10 : (a 140 (v2.toNatClampNeg)) = 0
      · have e := (if_pos c10).symm.trans e
        refine ex_pc (if_pos c10) ?_
        refine ex_s (am_nb (m := 2) (pc1 := 21) (ls1 := [(2, .int (v2 + 1)), (0, .ref 136), (1, .int w1)]) (st1 := []) (H1 := H) (k1 := 0) (n1 := 0) (by with_unfolding_all rfl)) ?_
        exact le_E (l1 := [(0, .ref 136), (1, .int w1), (2, .int (v2 + 1))]) ⟨rfl, rfl, rfl, trivial⟩ rfl (ih (v2 + 1) a H hS e)
      · have e := (if_neg c10).symm.trans e
        refine ex_pc (if_neg c10) ?_
        cases e
        exact le_E (l1 := [(0, .ref 136), (2, .int v2)]) ⟨rfl, rfl, trivial⟩ rfl (k0 rfl H hS)

set_option maxRecDepth 100000 in
theorem tj210_41 {sL : Nat} {sx : Nat → Int32} {h b N : Nat} {T : List am_C} {a' : xA} {q2 : Int32} {a : xA} {H : am_H} (hS : xS h b T a H) (e : j210_41 N h b q2 a = some a') : am_E sL sx am_cs 210 41 [(0, .ref 136), (2, .int q2)] [] H none (fun H1 => xS h b T a' H1) := by
  unfold j210_41 at e
  refine ex_s (am_nb (m := 2) (pc1 := 43) (ls1 := [(0, .ref 136), (2, .int q2)]) (st1 := [.ref 136, .ref 136]) (H1 := H) (k1 := 0) (n1 := 0) (by with_unfolding_all rfl)) ?_
  refine xe_get (v := .int (a 136 5)) hS rfl rfl (by decide) rfl ?_
  refine ex_s (am_nb (m := 1) (pc1 := 47) (ls1 := [(0, .ref 136), (2, .int q2)]) (st1 := [.int q2, .int (a 136 5), .ref 136]) (H1 := H) (k1 := 0) (n1 := 0) (by with_unfolding_all rfl)) ?_
  obtain ⟨a16, e15, e⟩ := xb1_some e
  refine ex_cv0 (as := [.int (a 136 5), .int q2]) (rest := []) rfl rfl rfl rfl (hS.obj rfl (by decide)) rfl (by with_unfolding_all rfl) (by with_unfolding_all rfl) (tf16_place hS e15) (fun H13 s14 => ?_)
  cases e
  exact ex_r (st_vret rfl rfl) s14

set_option maxRecDepth 100000 in
theorem tf210_goToNextStop {sL : Nat} {sx : Nat → Int32} {h b N : Nat} {T : List am_C} {a' : xA} {a : xA} {H : am_H} (hS : xS h b T a H) (e : f210_goToNextStop N h b a = some a') : am_E sL sx am_cs 210 0 [(0, .ref 136)] [] H none (fun H1 => xS h b T a' H1) := by
  unfold f210_goToNextStop at e
  refine ex_s (am_nb (m := 1) (pc1 := 1) (ls1 := [(0, .ref 136)]) (st1 := [.ref 136]) (H1 := H) (k1 := 0) (n1 := 0) (by with_unfolding_all rfl)) ?_
  obtain ⟨r4, a5, e3, e⟩ := xb2_some e
  refine ex_cv1 (as := []) (rest := []) rfl rfl rfl rfl (hS.obj rfl (by decide)) rfl (by with_unfolding_all rfl) (by with_unfolding_all rfl) (tf17_last hS e3) (fun H1 s2 => ?_)
  refine ex_s (am_nb (m := 2) (pc1 := 6) (ls1 := [(1, .int r4), (0, .ref 136)]) (st1 := [.ref 136]) (H1 := H1) (k1 := 0) (n1 := 0) (by with_unfolding_all rfl)) ?_
  refine xe_get (v := .int (a5 136 6)) s2 rfl rfl (by decide) rfl ?_
  refine ex_s (am_nb (m := 1) (pc1 := 10) (ls1 := [(1, .int r4), (0, .ref 136)]) (st1 := [.int r4, .int (a5 136 6)]) (H1 := H1) (k1 := 0) (n1 := 0) (by with_unfolding_all rfl)) ?_
  refine ex_s (st_icmp rfl) ?_
  by_cases c6 : (a5 136 6) < r4
  · have e := (if_pos c6).symm.trans e
    refine ex_pc (if_pos c6) ?_
    refine ex_s (am_nb (m := 1) (pc1 := 15) (ls1 := [(1, .int r4), (0, .ref 136)]) (st1 := [.ref 136]) (H1 := H1) (k1 := 0) (n1 := 0) (by with_unfolding_all rfl)) ?_
    refine xe_get (v := .int (a5 136 6)) s2 rfl rfl (by decide) rfl ?_
    refine ex_s (am_nb (m := 3) (pc1 := 21) (ls1 := [(2, .int ((a5 136 6) + 1)), (1, .int r4), (0, .ref 136)]) (st1 := []) (H1 := H1) (k1 := 0) (n1 := 0) (by with_unfolding_all rfl)) ?_
    obtain ⟨z11, e12, e⟩ := Option.bind_eq_some_iff.mp e
    refine le_E (l1 := [(0, .ref 136), (1, .int r4), (2, .int ((a5 136 6) + 1))]) ⟨rfl, rfl, rfl, trivial⟩ rfl (tl210_21 (z := z11)  (fun uz11_0 Hz110 sz110 => ?_) N ((a5 136 6) + 1) a5 H1 s2 e12)
    exact le_E (l1 := [(0, .ref 136), (2, .int z11.2.1)]) ⟨rfl, rfl, trivial⟩ rfl (tj210_41  sz110 e)
  · have e := (if_neg c6).symm.trans e
    refine ex_pc (if_neg c6) ?_
    cases e
    exact ex_r (st_vret rfl rfl) s2

set_option maxRecDepth 100000 in
theorem tj209_130 {sL : Nat} {sx : Nat → Int32} {h b N : Nat} {T : List am_C} {a' : xA} {a : xA} {H : am_H} (hS : xS h b T a H) (e : j209_130 N h b a = some a') : am_E sL sx am_cs 209 130 [(0, .ref 129)] [] H none (fun H1 => xS h b T a' H1) := by
  unfold j209_130 at e
  refine ex_s (am_nb (m := 1) (pc1 := 131) (ls1 := [(0, .ref 129)]) (st1 := [.ref 129]) (H1 := H) (k1 := 0) (n1 := 0) (by with_unfolding_all rfl)) ?_
  refine xe_get (v := .ref 136) hS rfl rfl (by decide) rfl ?_
  obtain ⟨a26, e25, e⟩ := xb1_some e
  refine ex_cv0 (as := []) (rest := []) rfl rfl rfl rfl (hS.obj rfl (by decide)) rfl (by with_unfolding_all rfl) (by with_unfolding_all rfl) (tf206_index hS e25) (fun H23 s24 => ?_)
  refine ex_s (am_nb (m := 1) (pc1 := 180) (ls1 := [(0, .ref 129)]) (st1 := []) (H1 := H23) (k1 := 0) (n1 := 0) (by with_unfolding_all rfl)) ?_
  cases e
  exact ex_r (st_vret rfl rfl) s24

set_option maxRecDepth 100000 in
theorem tf209_control {sL : Nat} {sx : Nat → Int32} {h b N : Nat} {T : List am_C} {a' : xA} {x0 : Int32} {a : xA} {H : am_H} (hS : xS h b T a H) (e : f209_control N h b x0 a = some a') : am_E sL sx am_cs 209 0 [(0, .ref 129), (1, .int x0)] [] H none (fun H1 => xS h b T a' H1) := by
  unfold f209_control at e
  refine ex_s (am_nb (m := 1) (pc1 := 1) (ls1 := [(0, .ref 129), (1, .int x0)]) (st1 := [.int x0]) (H1 := H) (k1 := 0) (n1 := 0) (by with_unfolding_all rfl)) ?_
  refine ex_s (st_tsw rfl) ?_
  by_cases c1 : x0 = 7
  · have e := (if_pos c1).symm.trans e
    refine ex_pc (pc1 := 52) (by rw [c1]; with_unfolding_all rfl) ?_
    refine ex_s (am_nb (m := 1) (pc1 := 53) (ls1 := [(0, .ref 129), (1, .int x0)]) (st1 := [.ref 129]) (H1 := H) (k1 := 0) (n1 := 0) (by with_unfolding_all rfl)) ?_
    refine xe_get (v := .ref 136) hS rfl rfl (by decide) rfl ?_
    refine ex_s (am_nb (m := 1) (pc1 := 57) (ls1 := [(0, .ref 129), (1, .int x0)]) (st1 := [.ref 136, .ref 136]) (H1 := H) (k1 := 0) (n1 := 0) (by with_unfolding_all rfl)) ?_
    refine xe_get (v := .int (a 136 15)) hS rfl rfl (by decide) rfl ?_
    refine ex_s (am_nb (m := 2) (pc1 := 62) (ls1 := [(0, .ref 129), (1, .int x0)]) (st1 := [.int ((a 136 15) + 1), .ref 136]) (H1 := H) (k1 := 0) (n1 := 0) (by with_unfolding_all rfl)) ?_
    obtain ⟨a2, ha2, e⟩ := xw_some e
    refine xe_put (w := ((a 136 15) + 1)) hS rfl rfl (by decide) rfl rfl rfl rfl (fun H3 s4 => ?_)
    have s4 : xS h b T a2 H3 := by rw [ha2]; exact s4
    refine ex_s (am_nb (m := 1) (pc1 := 180) (ls1 := [(0, .ref 129), (1, .int x0)]) (st1 := []) (H1 := H3) (k1 := 0) (n1 := 0) (by with_unfolding_all rfl)) ?_
    cases e
    exact ex_r (st_vret rfl rfl) s4
  · have e := (if_neg c1).symm.trans e
    by_cases c5 : x0 = 8
    · have e := (if_pos c5).symm.trans e
      refine ex_pc (pc1 := 68) (by rw [c5]; with_unfolding_all rfl) ?_
      refine ex_s (am_nb (m := 1) (pc1 := 69) (ls1 := [(0, .ref 129), (1, .int x0)]) (st1 := [.ref 129]) (H1 := H) (k1 := 0) (n1 := 0) (by with_unfolding_all rfl)) ?_
      refine xe_get (v := .ref 136) hS rfl rfl (by decide) rfl ?_
      refine ex_s (am_nb (m := 1) (pc1 := 73) (ls1 := [(0, .ref 129), (1, .int x0)]) (st1 := [.ref 129, .ref 136]) (H1 := H) (k1 := 0) (n1 := 0) (by with_unfolding_all rfl)) ?_
      refine xe_get (v := .ref 136) hS rfl rfl (by decide) rfl ?_
      refine xe_get (v := .int (a 136 5)) hS rfl rfl (by decide) rfl ?_
      refine ex_s (am_nb (m := 1) (pc1 := 80) (ls1 := [(0, .ref 129), (1, .int x0)]) (st1 := [.ref 129, .int (a 136 5), .ref 136]) (H1 := H) (k1 := 0) (n1 := 0) (by with_unfolding_all rfl)) ?_
      refine xe_get (v := .ref 136) hS rfl rfl (by decide) rfl ?_
      refine xe_get (v := .int (a 136 6)) hS rfl rfl (by decide) rfl ?_
      refine ex_s (am_nb (m := 2) (pc1 := 88) (ls1 := [(0, .ref 129), (1, .int x0)]) (st1 := [.int ((a 136 6) - 1), .int (a 136 5), .ref 136]) (H1 := H) (k1 := 0) (n1 := 0) (by with_unfolding_all rfl)) ?_
      obtain ⟨a9, e8, e⟩ := xb1_some e
      refine ex_cv0 (as := [.int (a 136 5), .int ((a 136 6) - 1)]) (rest := []) rfl rfl rfl rfl (hS.obj rfl (by decide)) rfl (by with_unfolding_all rfl) (by with_unfolding_all rfl) (tf16_place hS e8) (fun H6 s7 => ?_)
      refine ex_s (am_nb (m := 1) (pc1 := 180) (ls1 := [(0, .ref 129), (1, .int x0)]) (st1 := []) (H1 := H6) (k1 := 0) (n1 := 0) (by with_unfolding_all rfl)) ?_
      cases e
      exact ex_r (st_vret rfl rfl) s7
    · have e := (if_neg c5).symm.trans e
      by_cases c10 : x0 = 9
      · have e := (if_pos c10).symm.trans e
        refine ex_pc (pc1 := 94) (by rw [c10]; with_unfolding_all rfl) ?_
        refine ex_s (am_nb (m := 1) (pc1 := 95) (ls1 := [(0, .ref 129), (1, .int x0)]) (st1 := [.ref 129]) (H1 := H) (k1 := 0) (n1 := 0) (by with_unfolding_all rfl)) ?_
        refine xe_get (v := .ref 136) hS rfl rfl (by decide) rfl ?_
        obtain ⟨a14, e13, e⟩ := xb1_some e
        refine ex_cv0 (as := []) (rest := []) rfl rfl rfl rfl (hS.obj rfl (by decide)) rfl (by with_unfolding_all rfl) (by with_unfolding_all rfl) (tf210_goToNextStop hS e13) (fun H11 s12 => ?_)
        refine ex_s (am_nb (m := 1) (pc1 := 180) (ls1 := [(0, .ref 129), (1, .int x0)]) (st1 := []) (H1 := H11) (k1 := 0) (n1 := 0) (by with_unfolding_all rfl)) ?_
        cases e
        exact ex_r (st_vret rfl rfl) s12
      · have e := (if_neg c10).symm.trans e
        by_cases c15 : x0 = 10 ∨ x0 = 11 ∨ x0 = 12
        · have e := (if_pos c15).symm.trans e
          refine ex_pc (pc1 := 104) (by rcases c15 with c15 | c15 | c15 <;> (rw [c15]; with_unfolding_all rfl)) ?_
          refine ex_s (am_nb (m := 1) (pc1 := 105) (ls1 := [(0, .ref 129), (1, .int x0)]) (st1 := [.ref 129]) (H1 := H) (k1 := 0) (n1 := 0) (by with_unfolding_all rfl)) ?_
          refine xe_get (v := .ref 136) hS rfl rfl (by decide) rfl ?_
          refine ex_s (am_nb (m := 1) (pc1 := 109) (ls1 := [(0, .ref 129), (1, .int x0)]) (st1 := [.int 2, .ref 136]) (H1 := H) (k1 := 0) (n1 := 0) (by with_unfolding_all rfl)) ?_
          obtain ⟨r19, a20, e18, e⟩ := xb2_some e
          refine ex_cv1 (as := [.int 2]) (rest := []) rfl rfl rfl rfl (hS.obj rfl (by decide)) rfl (by with_unfolding_all rfl) (by with_unfolding_all rfl) (tf197_has hS e18) (fun H16 s17 => ?_)
          refine ex_s (st_if rfl) ?_
          by_cases c22 : r19 = 0
          · have e := (if_pos c22).symm.trans e
            refine ex_pc (if_pos c22) ?_
            exact le_E (l1 := [(0, .ref 129)]) ⟨rfl, trivial⟩ rfl (tj209_130  s17 e)
          · have e := (if_neg c22).symm.trans e
            refine ex_pc (if_neg c22) ?_
            refine ex_s (am_nb (m := 1) (pc1 := 116) (ls1 := [(0, .ref 129), (1, .int x0)]) (st1 := [.ref 129]) (H1 := H16) (k1 := 0) (n1 := 0) (by with_unfolding_all rfl)) ?_
            refine xe_get (v := .ref 136) s17 rfl rfl (by decide) rfl ?_
            refine ex_s (am_nb (m := 1) (pc1 := 120) (ls1 := [(0, .ref 129), (1, .int x0)]) (st1 := [.ref 129, .ref 136]) (H1 := H16) (k1 := 0) (n1 := 0) (by with_unfolding_all rfl)) ?_
            refine xe_get (v := .ref 136) s17 rfl rfl (by decide) rfl ?_
            refine xe_get (v := .int (a20 136 5)) s17 rfl rfl (by decide) rfl ?_
            refine ex_s (am_nb (m := 1) (pc1 := 127) (ls1 := [(0, .ref 129), (1, .int x0)]) (st1 := [.int 0, .int (a20 136 5), .ref 136]) (H1 := H16) (k1 := 0) (n1 := 0) (by with_unfolding_all rfl)) ?_
            obtain ⟨a30, e29, e⟩ := xb1_some e
            refine ex_cv0 (as := [.int (a20 136 5), .int 0]) (rest := []) rfl rfl rfl rfl (s17.obj rfl (by decide)) rfl (by with_unfolding_all rfl) (by with_unfolding_all rfl) (tf16_place s17 e29) (fun H27 s28 => ?_)
            exact le_E (l1 := [(0, .ref 129)]) ⟨rfl, trivial⟩ rfl (tj209_130  s28 e)
        · have e := (if_neg c15).symm.trans e
          by_cases c31 : x0 = 13
          · have e := (if_pos c31).symm.trans e
            refine ex_pc (pc1 := 140) (by rw [c31]; with_unfolding_all rfl) ?_
            refine ex_s (am_nb (m := 1) (pc1 := 141) (ls1 := [(0, .ref 129), (1, .int x0)]) (st1 := [.ref 129]) (H1 := H) (k1 := 0) (n1 := 0) (by with_unfolding_all rfl)) ?_
            refine xe_get (v := .ref 136) hS rfl rfl (by decide) rfl ?_
            refine ex_s (am_nb (m := 1) (pc1 := 145) (ls1 := [(0, .ref 129), (1, .int x0)]) (st1 := [.ref 129, .ref 136]) (H1 := H) (k1 := 0) (n1 := 0) (by with_unfolding_all rfl)) ?_
            refine xe_get (v := .ref 136) hS rfl rfl (by decide) rfl ?_
            refine xe_get (v := .int (a 136 5)) hS rfl rfl (by decide) rfl ?_
            refine ex_s (am_nb (m := 1) (pc1 := 152) (ls1 := [(0, .ref 129), (1, .int x0)]) (st1 := [.int 0, .int (a 136 5), .ref 136]) (H1 := H) (k1 := 0) (n1 := 0) (by with_unfolding_all rfl)) ?_
            obtain ⟨a35, e34, e⟩ := xb1_some e
            refine ex_cv0 (as := [.int (a 136 5), .int 0]) (rest := []) rfl rfl rfl rfl (hS.obj rfl (by decide)) rfl (by with_unfolding_all rfl) (by with_unfolding_all rfl) (tf16_place hS e34) (fun H32 s33 => ?_)
            refine ex_s (am_nb (m := 1) (pc1 := 180) (ls1 := [(0, .ref 129), (1, .int x0)]) (st1 := []) (H1 := H32) (k1 := 0) (n1 := 0) (by with_unfolding_all rfl)) ?_
            cases e
            exact ex_r (st_vret rfl rfl) s33
          · have e := (if_neg c31).symm.trans e
            by_cases c36 : x0 = 14
            · have e := (if_pos c36).symm.trans e
              refine ex_pc (pc1 := 158) (by rw [c36]; with_unfolding_all rfl) ?_
              refine ex_s (am_nb (m := 1) (pc1 := 159) (ls1 := [(0, .ref 129), (1, .int x0)]) (st1 := [.ref 129]) (H1 := H) (k1 := 0) (n1 := 0) (by with_unfolding_all rfl)) ?_
              refine xe_get (v := .ref 136) hS rfl rfl (by decide) rfl ?_
              refine ex_s (am_nb (m := 1) (pc1 := 163) (ls1 := [(0, .ref 129), (1, .int x0)]) (st1 := [.int 1, .ref 136]) (H1 := H) (k1 := 0) (n1 := 0) (by with_unfolding_all rfl)) ?_
              obtain ⟨a37, ha37, e⟩ := xw_some e
              refine xe_put (w := 1) hS rfl rfl (by decide) rfl rfl rfl rfl (fun H38 s39 => ?_)
              have s39 : xS h b T a37 H38 := by rw [ha37]; exact s39
              refine ex_s (am_nb (m := 1) (pc1 := 180) (ls1 := [(0, .ref 129), (1, .int x0)]) (st1 := []) (H1 := H38) (k1 := 0) (n1 := 0) (by with_unfolding_all rfl)) ?_
              cases e
              exact ex_r (st_vret rfl rfl) s39
            · have e := (if_neg c36).symm.trans e
              by_cases c40 : x0 = 15
              · have e := (if_pos c40).symm.trans e
                refine ex_pc (pc1 := 169) (by rw [c40]; with_unfolding_all rfl) ?_
                refine ex_s (am_nb (m := 1) (pc1 := 170) (ls1 := [(0, .ref 129), (1, .int x0)]) (st1 := [.ref 129]) (H1 := H) (k1 := 0) (n1 := 0) (by with_unfolding_all rfl)) ?_
                refine xe_get (v := .ref 136) hS rfl rfl (by decide) rfl ?_
                refine ex_s (am_nb (m := 1) (pc1 := 174) (ls1 := [(0, .ref 129), (1, .int x0)]) (st1 := [.int 0, .ref 136]) (H1 := H) (k1 := 0) (n1 := 0) (by with_unfolding_all rfl)) ?_
                obtain ⟨a41, ha41, e⟩ := xw_some e
                refine xe_put (w := 0) hS rfl rfl (by decide) rfl rfl rfl rfl (fun H42 s43 => ?_)
                have s43 : xS h b T a41 H42 := by rw [ha41]; exact s43
                refine ex_s (am_nb (m := 1) (pc1 := 180) (ls1 := [(0, .ref 129), (1, .int x0)]) (st1 := []) (H1 := H42) (k1 := 0) (n1 := 0) (by with_unfolding_all rfl)) ?_
                cases e
                exact ex_r (st_vret rfl rfl) s43
              · have e := (if_neg c40).symm.trans e
                refine ex_pc (pc1 := 180) (am_sw_n (sw_c (Or.inl c1) (sw_c (Or.inl c5) (sw_c (Or.inl c10) (sw_c (Or.inl (fun q => c15 (Or.inl q))) (sw_c (Or.inl (fun q => c15 (Or.inr (Or.inl q)))) (sw_c (Or.inl (fun q => c15 (Or.inr (Or.inr q)))) (sw_c (Or.inl c31) (sw_c (Or.inl c36) (sw_c (Or.inl c40) sw_o)))))))))) ?_
                cases e
                exact ex_r (st_vret rfl rfl) hS

set_option maxRecDepth 100000 in
theorem tj211_25 {sL : Nat} {sx : Nat → Int32} {h b N : Nat} {T : List am_C} {a' : xA} {q1 : Int32} {t0 : Int32} {a : xA} {H : am_H} (hS : xS h b T a H) (e : j211_25 N h b q1 t0 a = some a') : am_E sL sx am_cs 211 25 [(0, .ref 136), (1, .int q1)] [.int t0] H none (fun H1 => xS h b T a' H1) := by
  unfold j211_25 at e
  refine ex_s (am_nb (m := 3) (pc1 := 28) (ls1 := [(2, .int t0), (0, .ref 136), (1, .int q1)]) (st1 := [.int t0, .ref 136]) (H1 := H) (k1 := 0) (n1 := 0) (by with_unfolding_all rfl)) ?_
  have kk : am_E sL sx am_cs 211 40 [(2, .int t0), (0, .ref 136), (1, .int q1)] [.int (if t0 = 0 then (q1) else (q1 + 128)), .ref 136] H none (fun H1 => xS h b T a' H1) := by
    obtain ⟨a8, e7, e⟩ := xb1_some e
    refine ex_cv0 (as := [.int (if t0 = 0 then (q1) else (q1 + 128))]) (rest := []) rfl rfl rfl rfl (hS.obj rfl (by decide)) rfl (by with_unfolding_all rfl) (by with_unfolding_all rfl) (tf205_printSign hS e7) (fun H5 s6 => ?_)
    cases e
    exact ex_r (st_vret rfl rfl) s6
  refine ex_s (st_if rfl) ?_
  by_cases c4 : t0 = 0
  · refine ex_pc (if_pos c4) ?_
    refine ex_s (am_nb (m := 1) (pc1 := 40) (ls1 := [(2, .int t0), (0, .ref 136), (1, .int q1)]) (st1 := [.int q1, .ref 136]) (H1 := H) (k1 := 0) (n1 := 0) (by with_unfolding_all rfl)) ?_
    rw [if_pos c4] at kk
    exact kk
  · refine ex_pc (if_neg c4) ?_
    refine ex_s (am_nb (m := 4) (pc1 := 40) (ls1 := [(2, .int t0), (0, .ref 136), (1, .int q1)]) (st1 := [.int (q1 + 128), .ref 136]) (H1 := H) (k1 := 0) (n1 := 0) (by with_unfolding_all rfl)) ?_
    rw [if_neg c4] at kk
    exact kk

set_option maxRecDepth 100000 in
theorem tj211_24 {sL : Nat} {sx : Nat → Int32} {h b N : Nat} {T : List am_C} {a' : xA} {q1 : Int32} {a : xA} {H : am_H} (hS : xS h b T a H) (e : j211_24 N h b q1 a = some a') : am_E sL sx am_cs 211 24 [(0, .ref 136), (1, .int q1)] [] H none (fun H1 => xS h b T a' H1) := by
  unfold j211_24 at e
  refine ex_s (am_nb (m := 1) (pc1 := 25) (ls1 := [(0, .ref 136), (1, .int q1)]) (st1 := [.int 0]) (H1 := H) (k1 := 0) (n1 := 0) (by with_unfolding_all rfl)) ?_
  exact le_E (l1 := [(0, .ref 136), (1, .int q1)]) ⟨rfl, rfl, trivial⟩ rfl (tj211_25  hS e)

set_option maxRecDepth 100000 in
theorem tf211_print {sL : Nat} {sx : Nat → Int32} {h b N : Nat} {T : List am_C} {a' : xA} {x0 : Int32} {a : xA} {H : am_H} (hS : xS h b T a H) (e : f211_print N h b x0 a = some a') : am_E sL sx am_cs 211 0 [(0, .ref 136), (1, .int x0)] [] H none (fun H1 => xS h b T a' H1) := by
  unfold f211_print at e
  refine ex_s (am_nb (m := 1) (pc1 := 1) (ls1 := [(0, .ref 136), (1, .int x0)]) (st1 := [.ref 136]) (H1 := H) (k1 := 0) (n1 := 0) (by with_unfolding_all rfl)) ?_
  refine xe_get (v := .int (a 136 12)) hS rfl rfl (by decide) rfl ?_
  refine ex_s (am_nb (m := 1) (pc1 := 5) (ls1 := [(0, .ref 136), (1, .int x0)]) (st1 := [.ref 136, .int (a 136 12)]) (H1 := H) (k1 := 0) (n1 := 0) (by with_unfolding_all rfl)) ?_
  refine xe_get (v := .int (a 136 13)) hS rfl rfl (by decide) rfl ?_
  refine ex_s (am_nb (m := 3) (pc1 := 11) (ls1 := [(0, .ref 136), (1, .int x0)]) (st1 := [.int (((a 136 12) >>> ((a 136 13) &&& 31)) &&& 1)]) (H1 := H) (k1 := 0) (n1 := 0) (by with_unfolding_all rfl)) ?_
  refine ex_s (st_if rfl) ?_
  by_cases c3 : (((a 136 12) >>> ((a 136 13) &&& 31)) &&& 1) = 0
  · have e := (if_pos c3).symm.trans e
    refine ex_pc (if_pos c3) ?_
    exact le_E (l1 := [(0, .ref 136), (1, .int x0)]) ⟨rfl, rfl, trivial⟩ rfl (tj211_24  hS e)
  · have e := (if_neg c3).symm.trans e
    refine ex_pc (if_neg c3) ?_
    refine ex_s (am_nb (m := 2) (pc1 := 17) (ls1 := [(0, .ref 136), (1, .int x0)]) (st1 := [.int 95, .int x0]) (H1 := H) (k1 := 0) (n1 := 0) (by with_unfolding_all rfl)) ?_
    have kk : am_E sL sx am_cs 211 25 [(0, .ref 136), (1, .int x0)] [.int (if x0 < 95 then (0 : Int32) else (1 : Int32))] H none (fun H1 => xS h b T a' H1) := by
      refine ex_s (am_nb (m := 3) (pc1 := 28) (ls1 := [(2, .int (if x0 < 95 then (0 : Int32) else (1 : Int32))), (0, .ref 136), (1, .int x0)]) (st1 := [.int (if x0 < 95 then (0 : Int32) else (1 : Int32)), .ref 136]) (H1 := H) (k1 := 0) (n1 := 0) (by with_unfolding_all rfl)) ?_
      have kk : am_E sL sx am_cs 211 40 [(2, .int (if x0 < 95 then (0 : Int32) else (1 : Int32))), (0, .ref 136), (1, .int x0)] [.int (if (if x0 < 95 then (0 : Int32) else (1 : Int32)) = 0 then (x0) else (x0 + 128)), .ref 136] H none (fun H1 => xS h b T a' H1) := by
        obtain ⟨a14, e13, e⟩ := xb1_some e
        refine ex_cv0 (as := [.int (if (if x0 < 95 then (0 : Int32) else (1 : Int32)) = 0 then (x0) else (x0 + 128))]) (rest := []) rfl rfl rfl rfl (hS.obj rfl (by decide)) rfl (by with_unfolding_all rfl) (by with_unfolding_all rfl) (tf205_printSign hS e13) (fun H11 s12 => ?_)
        cases e
        exact ex_r (st_vret rfl rfl) s12
      refine ex_s (st_if rfl) ?_
      by_cases c10 : (if x0 < 95 then (0 : Int32) else (1 : Int32)) = 0
      · refine ex_pc (if_pos c10) ?_
        refine ex_s (am_nb (m := 1) (pc1 := 40) (ls1 := [(2, .int (if x0 < 95 then (0 : Int32) else (1 : Int32))), (0, .ref 136), (1, .int x0)]) (st1 := [.int x0, .ref 136]) (H1 := H) (k1 := 0) (n1 := 0) (by with_unfolding_all rfl)) ?_
        rw [if_pos c10] at kk
        exact kk
      · refine ex_pc (if_neg c10) ?_
        refine ex_s (am_nb (m := 4) (pc1 := 40) (ls1 := [(2, .int (if x0 < 95 then (0 : Int32) else (1 : Int32))), (0, .ref 136), (1, .int x0)]) (st1 := [.int (x0 + 128), .ref 136]) (H1 := H) (k1 := 0) (n1 := 0) (by with_unfolding_all rfl)) ?_
        rw [if_neg c10] at kk
        exact kk
    refine ex_s (st_icmp rfl) ?_
    by_cases c9 : x0 < 95
    · refine ex_pc (if_pos c9) ?_
      refine ex_s (am_nb (m := 1) (pc1 := 25) (ls1 := [(0, .ref 136), (1, .int x0)]) (st1 := [.int 0]) (H1 := H) (k1 := 0) (n1 := 0) (by with_unfolding_all rfl)) ?_
      rw [if_pos c9] at kk
      exact kk
    · refine ex_pc (if_neg c9) ?_
      refine ex_s (am_nb (m := 2) (pc1 := 25) (ls1 := [(0, .ref 136), (1, .int x0)]) (st1 := [.int 1]) (H1 := H) (k1 := 0) (n1 := 0) (by with_unfolding_all rfl)) ?_
      rw [if_neg c9] at kk
      exact kk

set_option maxRecDepth 100000 in
theorem tf214_beginSequence {sL : Nat} {sx : Nat → Int32} {h b N : Nat} {T : List am_C} {a' : xA} {a : xA} {H : am_H} (hS : xS h b T a H) (e : f214_beginSequence N h b a = some a') : am_E sL sx am_cs 214 0 [(0, .ref 129)] [] H none (fun H1 => xS h b T a' H1) := by
  unfold f214_beginSequence at e
  refine ex_s (am_nb (m := 2) (pc1 := 2) (ls1 := [(0, .ref 129)]) (st1 := [.int 3, .ref 129]) (H1 := H) (k1 := 0) (n1 := 0) (by with_unfolding_all rfl)) ?_
  obtain ⟨a1, ha1, e⟩ := xw_some e
  refine xe_put (w := 3) hS rfl rfl (by decide) rfl rfl rfl rfl (fun H2 s3 => ?_)
  have s3 : xS h b T a1 H2 := by rw [ha1]; exact s3
  refine ex_s (am_nb (m := 1) (pc1 := 6) (ls1 := [(0, .ref 129)]) (st1 := [.ref 129]) (H1 := H2) (k1 := 0) (n1 := 0) (by with_unfolding_all rfl)) ?_
  refine xe_get (v := .ref 135) s3 rfl rfl (by decide) rfl ?_
  refine ex_s (am_nb (m := 2) (pc1 := 11) (ls1 := [(0, .ref 129)]) (st1 := [.int 0, .int 0, .ref 135]) (H1 := H2) (k1 := 0) (n1 := 0) (by with_unfolding_all rfl)) ?_
  obtain ⟨a4, ha4, e⟩ := xw_some e
  refine xe_iast s3 rfl rfl (show ¬ ((0 : Int32) < 0 ∨ 8 ≤ ((0 : Int32)).toNatClampNeg) by decide) (fun H5 s6 => ?_)
  have s6 : xS h b T a4 H5 := by rw [ha4]; exact s6
  refine ex_s (am_nb (m := 2) (pc1 := 14) (ls1 := [(0, .ref 129)]) (st1 := [.int 1, .ref 129]) (H1 := H5) (k1 := 0) (n1 := 0) (by with_unfolding_all rfl)) ?_
  obtain ⟨a7, ha7, e⟩ := xw_some e
  refine xe_put (w := 1) s6 rfl rfl (by decide) rfl rfl rfl rfl (fun H8 s9 => ?_)
  have s9 : xS h b T a7 H8 := by rw [ha7]; exact s9
  refine ex_s (am_nb (m := 2) (pc1 := 19) (ls1 := [(0, .ref 129)]) (st1 := [.int 0, .ref 129]) (H1 := H8) (k1 := 0) (n1 := 0) (by with_unfolding_all rfl)) ?_
  obtain ⟨a10, ha10, e⟩ := xw_some e
  refine xe_put (w := 0) s9 rfl rfl (by decide) rfl rfl rfl rfl (fun H11 s12 => ?_)
  have s12 : xS h b T a10 H11 := by rw [ha10]; exact s12
  refine ex_s (am_nb (m := 2) (pc1 := 24) (ls1 := [(0, .ref 129)]) (st1 := [.int 1, .ref 129]) (H1 := H11) (k1 := 0) (n1 := 0) (by with_unfolding_all rfl)) ?_
  obtain ⟨a13, ha13, e⟩ := xw_some e
  refine xe_put (w := 1) s12 rfl rfl (by decide) rfl rfl rfl rfl (fun H14 s15 => ?_)
  have s15 : xS h b T a13 H14 := by rw [ha13]; exact s15
  cases e
  exact ex_r (st_vret rfl rfl) s15

set_option maxRecDepth 100000 in
theorem tf216_turn {sL : Nat} {sx : Nat → Int32} {h b N : Nat} {T : List am_C} {a' : xA} {x0 : Int32} {x1 : Int32} {a : xA} {H : am_H} (hS : xS h b T a H) (e : f216_turn N h b x0 x1 a = some a') : am_E sL sx am_cs 216 0 [(0, .ref 136), (1, .int x0), (2, .int x1)] [] H none (fun H1 => xS h b T a' H1) := by
  unfold f216_turn at e
  refine ex_s (am_nb (m := 2) (pc1 := 2) (ls1 := [(0, .ref 136), (1, .int x0), (2, .int x1)]) (st1 := [.int x1, .ref 136]) (H1 := H) (k1 := 0) (n1 := 0) (by with_unfolding_all rfl)) ?_
  have kk : am_E sL sx am_cs 216 22 [(0, .ref 136), (1, .int x0), (2, .int x1)] [.int (if x1 = 0 then ((a 136 10) &&& (x0 ^^^ (-1))) else ((a 136 10) ||| x0)), .ref 136] H none (fun H1 => xS h b T a' H1) := by
    obtain ⟨a2, ha2, e⟩ := xw_some e
    refine xe_put (w := (if x1 = 0 then ((a 136 10) &&& (x0 ^^^ (-1))) else ((a 136 10) ||| x0))) hS rfl rfl (by decide) rfl rfl rfl rfl (fun H3 s4 => ?_)
    have s4 : xS h b T a2 H3 := by rw [ha2]; exact s4
    cases e
    exact ex_r (st_vret rfl rfl) s4
  refine ex_s (st_if rfl) ?_
  by_cases c1 : x1 = 0
  · refine ex_pc (if_pos c1) ?_
    refine ex_s (am_nb (m := 1) (pc1 := 15) (ls1 := [(0, .ref 136), (1, .int x0), (2, .int x1)]) (st1 := [.ref 136, .ref 136]) (H1 := H) (k1 := 0) (n1 := 0) (by with_unfolding_all rfl)) ?_
    refine xe_get (v := .int (a 136 10)) hS rfl rfl (by decide) rfl ?_
    refine ex_s (am_nb (m := 4) (pc1 := 22) (ls1 := [(0, .ref 136), (1, .int x0), (2, .int x1)]) (st1 := [.int ((a 136 10) &&& (x0 ^^^ (-1))), .ref 136]) (H1 := H) (k1 := 0) (n1 := 0) (by with_unfolding_all rfl)) ?_
    rw [if_pos c1] at kk
    exact kk
  · refine ex_pc (if_neg c1) ?_
    refine ex_s (am_nb (m := 1) (pc1 := 6) (ls1 := [(0, .ref 136), (1, .int x0), (2, .int x1)]) (st1 := [.ref 136, .ref 136]) (H1 := H) (k1 := 0) (n1 := 0) (by with_unfolding_all rfl)) ?_
    refine xe_get (v := .int (a 136 10)) hS rfl rfl (by decide) rfl ?_
    refine ex_s (am_nb (m := 3) (pc1 := 22) (ls1 := [(0, .ref 136), (1, .int x0), (2, .int x1)]) (st1 := [.int ((a 136 10) ||| x0), .ref 136]) (H1 := H) (k1 := 0) (n1 := 0) (by with_unfolding_all rfl)) ?_
    rw [if_neg c1] at kk
    exact kk

set_option maxRecDepth 100000 in
theorem tf215_restore {sL : Nat} {sx : Nat → Int32} {h b N : Nat} {T : List am_C} {a' : xA} {a : xA} {H : am_H} (hS : xS h b T a H) (e : f215_restore N h b a = some a') : am_E sL sx am_cs 215 0 [(0, .ref 136)] [] H none (fun H1 => xS h b T a' H1) := by
  unfold f215_restore at e
  refine ex_s (am_nb (m := 2) (pc1 := 2) (ls1 := [(0, .ref 136)]) (st1 := [.ref 136, .ref 136]) (H1 := H) (k1 := 0) (n1 := 0) (by with_unfolding_all rfl)) ?_
  refine xe_get (v := .ref 137) hS rfl rfl (by decide) rfl ?_
  refine ex_s (am_nb (m := 1) (pc1 := 6) (ls1 := [(0, .ref 136)]) (st1 := [.int 2, .ref 137, .ref 136]) (H1 := H) (k1 := 0) (n1 := 0) (by with_unfolding_all rfl)) ?_
  refine xe_ialdc (v := a 137 2) hS rfl rfl (show ¬ ((2 : Int32) < 0 ∨ 6 ≤ ((2 : Int32)).toNatClampNeg) by decide) rfl ?_
  obtain ⟨a1, ha1, e⟩ := xw_some e
  refine xe_put (w := (a 137 2)) hS rfl rfl (by decide) rfl rfl rfl rfl (fun H2 s3 => ?_)
  have s3 : xS h b T a1 H2 := by rw [ha1]; exact s3
  refine ex_s (am_nb (m := 2) (pc1 := 12) (ls1 := [(0, .ref 136)]) (st1 := [.ref 136, .ref 136]) (H1 := H2) (k1 := 0) (n1 := 0) (by with_unfolding_all rfl)) ?_
  refine xe_get (v := .ref 137) s3 rfl rfl (by decide) rfl ?_
  refine ex_s (am_nb (m := 1) (pc1 := 16) (ls1 := [(0, .ref 136)]) (st1 := [.int 3, .ref 137, .ref 136]) (H1 := H2) (k1 := 0) (n1 := 0) (by with_unfolding_all rfl)) ?_
  refine xe_ialdc (v := a1 137 3) s3 rfl rfl (show ¬ ((3 : Int32) < 0 ∨ 6 ≤ ((3 : Int32)).toNatClampNeg) by decide) rfl ?_
  obtain ⟨a4, ha4, e⟩ := xw_some e
  refine xe_put (w := (a1 137 3)) s3 rfl rfl (by decide) rfl rfl rfl rfl (fun H5 s6 => ?_)
  have s6 : xS h b T a4 H5 := by rw [ha4]; exact s6
  refine ex_s (am_nb (m := 2) (pc1 := 22) (ls1 := [(0, .ref 136)]) (st1 := [.ref 136, .ref 136]) (H1 := H5) (k1 := 0) (n1 := 0) (by with_unfolding_all rfl)) ?_
  refine xe_get (v := .ref 137) s6 rfl rfl (by decide) rfl ?_
  refine ex_s (am_nb (m := 1) (pc1 := 26) (ls1 := [(0, .ref 136)]) (st1 := [.int 4, .ref 137, .ref 136]) (H1 := H5) (k1 := 0) (n1 := 0) (by with_unfolding_all rfl)) ?_
  refine xe_ialdc (v := a4 137 4) s6 rfl rfl (show ¬ ((4 : Int32) < 0 ∨ 6 ≤ ((4 : Int32)).toNatClampNeg) by decide) rfl ?_
  obtain ⟨a7, ha7, e⟩ := xw_some e
  refine xe_put (w := (a4 137 4)) s6 rfl rfl (by decide) rfl rfl rfl rfl (fun H8 s9 => ?_)
  have s9 : xS h b T a7 H8 := by rw [ha7]; exact s9
  refine ex_s (am_nb (m := 3) (pc1 := 34) (ls1 := [(0, .ref 136)]) (st1 := [.ref 136, .int 16, .ref 136]) (H1 := H8) (k1 := 0) (n1 := 0) (by with_unfolding_all rfl)) ?_
  refine xe_get (v := .ref 137) s9 rfl rfl (by decide) rfl ?_
  refine ex_s (am_nb (m := 1) (pc1 := 38) (ls1 := [(0, .ref 136)]) (st1 := [.int 5, .ref 137, .int 16, .ref 136]) (H1 := H8) (k1 := 0) (n1 := 0) (by with_unfolding_all rfl)) ?_
  refine xe_ialdc (v := a7 137 5) s9 rfl rfl (show ¬ ((5 : Int32) < 0 ∨ 6 ≤ ((5 : Int32)).toNatClampNeg) by decide) rfl ?_
  have kk : am_E sL sx am_cs 215 47 [(0, .ref 136)] [.int (if (a7 137 5) = 0 then (0 : Int32) else (1 : Int32)), .int 16, .ref 136] H8 none (fun H1 => xS h b T a' H1) := by
    obtain ⟨a14, e13, e⟩ := xb1_some e
    refine ex_cv0 (as := [.int 16, .int (if (a7 137 5) = 0 then (0 : Int32) else (1 : Int32))]) (rest := []) rfl rfl rfl rfl (s9.obj rfl (by decide)) rfl (by with_unfolding_all rfl) (by with_unfolding_all rfl) (tf216_turn s9 e13) (fun H11 s12 => ?_)
    refine ex_s (am_nb (m := 2) (pc1 := 52) (ls1 := [(0, .ref 136)]) (st1 := [.ref 136, .ref 136]) (H1 := H11) (k1 := 0) (n1 := 0) (by with_unfolding_all rfl)) ?_
    refine xe_get (v := .ref 137) s12 rfl rfl (by decide) rfl ?_
    refine ex_s (am_nb (m := 1) (pc1 := 56) (ls1 := [(0, .ref 136)]) (st1 := [.int 0, .ref 137, .ref 136]) (H1 := H11) (k1 := 0) (n1 := 0) (by with_unfolding_all rfl)) ?_
    refine xe_ialdc (v := a14 137 0) s12 rfl rfl (show ¬ ((0 : Int32) < 0 ∨ 6 ≤ ((0 : Int32)).toNatClampNeg) by decide) rfl ?_
    refine ex_s (am_nb (m := 1) (pc1 := 58) (ls1 := [(0, .ref 136)]) (st1 := [.ref 136, .int (a14 137 0), .ref 136]) (H1 := H11) (k1 := 0) (n1 := 0) (by with_unfolding_all rfl)) ?_
    refine xe_get (v := .ref 137) s12 rfl rfl (by decide) rfl ?_
    refine ex_s (am_nb (m := 1) (pc1 := 62) (ls1 := [(0, .ref 136)]) (st1 := [.int 1, .ref 137, .int (a14 137 0), .ref 136]) (H1 := H11) (k1 := 0) (n1 := 0) (by with_unfolding_all rfl)) ?_
    refine xe_ialdc (v := a14 137 1) s12 rfl rfl (show ¬ ((1 : Int32) < 0 ∨ 6 ≤ ((1 : Int32)).toNatClampNeg) by decide) rfl ?_
    obtain ⟨a18, e17, e⟩ := xb1_some e
    refine ex_cv0 (as := [.int (a14 137 0), .int (a14 137 1)]) (rest := []) rfl rfl rfl rfl (s12.obj rfl (by decide)) rfl (by with_unfolding_all rfl) (by with_unfolding_all rfl) (tf16_place s12 e17) (fun H15 s16 => ?_)
    cases e
    exact ex_r (st_vret rfl rfl) s16
  refine ex_s (st_if rfl) ?_
  by_cases c10 : (a7 137 5) = 0
  · refine ex_pc (if_pos c10) ?_
    refine ex_s (am_nb (m := 1) (pc1 := 47) (ls1 := [(0, .ref 136)]) (st1 := [.int 0, .int 16, .ref 136]) (H1 := H8) (k1 := 0) (n1 := 0) (by with_unfolding_all rfl)) ?_
    rw [if_pos c10] at kk
    exact kk
  · refine ex_pc (if_neg c10) ?_
    refine ex_s (am_nb (m := 2) (pc1 := 47) (ls1 := [(0, .ref 136)]) (st1 := [.int 1, .int 16, .ref 136]) (H1 := H8) (k1 := 0) (n1 := 0) (by with_unfolding_all rfl)) ?_
    rw [if_neg c10] at kk
    exact kk

set_option maxRecDepth 100000 in
theorem tf217_backIndex {sL : Nat} {sx : Nat → Int32} {h b N : Nat} {T : List am_C} {a' : xA} {a : xA} {H : am_H} (hS : xS h b T a H) (e : f217_backIndex N h b a = some a') : am_E sL sx am_cs 217 0 [(0, .ref 136)] [] H none (fun H1 => xS h b T a' H1) := by
  unfold f217_backIndex at e
  refine ex_s (am_nb (m := 1) (pc1 := 1) (ls1 := [(0, .ref 136)]) (st1 := [.ref 136]) (H1 := H) (k1 := 0) (n1 := 0) (by with_unfolding_all rfl)) ?_
  refine xe_get (v := .int (a 136 5)) hS rfl rfl (by decide) rfl ?_
  refine ex_s (am_nb (m := 1) (pc1 := 5) (ls1 := [(0, .ref 136)]) (st1 := [.ref 136, .int (a 136 5)]) (H1 := H) (k1 := 0) (n1 := 0) (by with_unfolding_all rfl)) ?_
  refine xe_get (v := .int (a 136 8)) hS rfl rfl (by decide) rfl ?_
  refine ex_s (st_icmp rfl) ?_
  by_cases c2 : (a 136 5) = (a 136 8)
  · have e := (if_pos c2).symm.trans e
    refine ex_pc (if_pos c2) ?_
    refine ex_s (am_nb (m := 2) (pc1 := 13) (ls1 := [(0, .ref 136)]) (st1 := [.ref 136, .ref 136]) (H1 := H) (k1 := 0) (n1 := 0) (by with_unfolding_all rfl)) ?_
    refine xe_get (v := .int (a 136 8)) hS rfl rfl (by decide) rfl ?_
    refine ex_s (am_nb (m := 1) (pc1 := 17) (ls1 := [(0, .ref 136)]) (st1 := [.ref 136, .int (a 136 8), .ref 136]) (H1 := H) (k1 := 0) (n1 := 0) (by with_unfolding_all rfl)) ?_
    refine xe_get (v := .int (a 136 9)) hS rfl rfl (by decide) rfl ?_
    refine ex_s (am_nb (m := 1) (pc1 := 21) (ls1 := [(0, .ref 136)]) (st1 := [.int 1, .int (a 136 9), .int (a 136 8), .ref 136]) (H1 := H) (k1 := 0) (n1 := 0) (by with_unfolding_all rfl)) ?_
    obtain ⟨a6, e5, e⟩ := xb1_some e
    refine ex_cv0 (as := [.int (a 136 8), .int (a 136 9), .int 1]) (rest := []) rfl rfl rfl rfl (hS.obj rfl (by decide)) rfl (by with_unfolding_all rfl) (by with_unfolding_all rfl) (tf207_slideRows hS e5) (fun H3 s4 => ?_)
    refine ex_s (am_nb (m := 2) (pc1 := 26) (ls1 := [(0, .ref 136)]) (st1 := [.int 0, .ref 136]) (H1 := H3) (k1 := 0) (n1 := 0) (by with_unfolding_all rfl)) ?_
    obtain ⟨a7, ha7, e⟩ := xw_some e
    refine xe_put (w := 0) s4 rfl rfl (by decide) rfl rfl rfl rfl (fun H8 s9 => ?_)
    have s9 : xS h b T a7 H8 := by rw [ha7]; exact s9
    refine ex_s (am_nb (m := 1) (pc1 := 46) (ls1 := [(0, .ref 136)]) (st1 := []) (H1 := H8) (k1 := 0) (n1 := 0) (by with_unfolding_all rfl)) ?_
    cases e
    exact ex_r (st_vret rfl rfl) s9
  · have e := (if_neg c2).symm.trans e
    refine ex_pc (if_neg c2) ?_
    refine ex_s (am_nb (m := 2) (pc1 := 34) (ls1 := [(0, .ref 136)]) (st1 := [.ref 136, .ref 136]) (H1 := H) (k1 := 0) (n1 := 0) (by with_unfolding_all rfl)) ?_
    refine xe_get (v := .int (a 136 5)) hS rfl rfl (by decide) rfl ?_
    refine ex_s (am_nb (m := 3) (pc1 := 40) (ls1 := [(0, .ref 136)]) (st1 := [.ref 136, .int ((a 136 5) - 1), .ref 136]) (H1 := H) (k1 := 0) (n1 := 0) (by with_unfolding_all rfl)) ?_
    refine xe_get (v := .int (a 136 6)) hS rfl rfl (by decide) rfl ?_
    obtain ⟨a13, e12, e⟩ := xb1_some e
    refine ex_cv0 (as := [.int ((a 136 5) - 1), .int (a 136 6)]) (rest := []) rfl rfl rfl rfl (hS.obj rfl (by decide)) rfl (by with_unfolding_all rfl) (by with_unfolding_all rfl) (tf16_place hS e12) (fun H10 s11 => ?_)
    cases e
    exact ex_r (st_vret rfl rfl) s11

set_option maxRecDepth 100000 in
theorem tf218_answerWhat {sL : Nat} {sx : Nat → Int32} {h b N : Nat} {T : List am_C} {a' : xA} {a : xA} {H : am_H} (hS : xS h b T a H) (e : f218_answerWhat N h b a = some a') : am_E sL sx am_cs 218 0 [(0, .ref 129)] [] H none (fun H1 => xS h b T a' H1) := by
  unfold f218_answerWhat at e
  refine ex_s (am_nb (m := 1) (pc1 := 1) (ls1 := [(0, .ref 129)]) (st1 := [.ref 129]) (H1 := H) (k1 := 0) (n1 := 0) (by with_unfolding_all rfl)) ?_
  refine xe_get (v := .ref 134) hS rfl rfl (by decide) rfl ?_
  refine ex_s (am_nb (m := 2) (pc1 := 7) (ls1 := [(0, .ref 129)]) (st1 := [.int 27, .int 0, .ref 134]) (H1 := H) (k1 := 0) (n1 := 0) (by with_unfolding_all rfl)) ?_
  obtain ⟨a1, ha1, e⟩ := xw_some e
  refine xe_iast hS rfl rfl (show ¬ ((0 : Int32) < 0 ∨ 32 ≤ ((0 : Int32)).toNatClampNeg) by decide) (fun H2 s3 => ?_)
  have s3 : xS h b T a1 H2 := by rw [ha1]; exact s3
  refine ex_s (am_nb (m := 1) (pc1 := 9) (ls1 := [(0, .ref 129)]) (st1 := [.ref 129]) (H1 := H2) (k1 := 0) (n1 := 0) (by with_unfolding_all rfl)) ?_
  refine xe_get (v := .ref 134) s3 rfl rfl (by decide) rfl ?_
  refine ex_s (am_nb (m := 2) (pc1 := 15) (ls1 := [(0, .ref 129)]) (st1 := [.int 91, .int 1, .ref 134]) (H1 := H2) (k1 := 0) (n1 := 0) (by with_unfolding_all rfl)) ?_
  obtain ⟨a4, ha4, e⟩ := xw_some e
  refine xe_iast s3 rfl rfl (show ¬ ((1 : Int32) < 0 ∨ 32 ≤ ((1 : Int32)).toNatClampNeg) by decide) (fun H5 s6 => ?_)
  have s6 : xS h b T a4 H5 := by rw [ha4]; exact s6
  refine ex_s (am_nb (m := 1) (pc1 := 17) (ls1 := [(0, .ref 129)]) (st1 := [.ref 129]) (H1 := H5) (k1 := 0) (n1 := 0) (by with_unfolding_all rfl)) ?_
  refine xe_get (v := .ref 134) s6 rfl rfl (by decide) rfl ?_
  refine ex_s (am_nb (m := 2) (pc1 := 23) (ls1 := [(0, .ref 129)]) (st1 := [.int 63, .int 2, .ref 134]) (H1 := H5) (k1 := 0) (n1 := 0) (by with_unfolding_all rfl)) ?_
  obtain ⟨a7, ha7, e⟩ := xw_some e
  refine xe_iast s6 rfl rfl (show ¬ ((2 : Int32) < 0 ∨ 32 ≤ ((2 : Int32)).toNatClampNeg) by decide) (fun H8 s9 => ?_)
  have s9 : xS h b T a7 H8 := by rw [ha7]; exact s9
  refine ex_s (am_nb (m := 1) (pc1 := 25) (ls1 := [(0, .ref 129)]) (st1 := [.ref 129]) (H1 := H8) (k1 := 0) (n1 := 0) (by with_unfolding_all rfl)) ?_
  refine xe_get (v := .ref 134) s9 rfl rfl (by decide) rfl ?_
  refine ex_s (am_nb (m := 2) (pc1 := 31) (ls1 := [(0, .ref 129)]) (st1 := [.int 49, .int 3, .ref 134]) (H1 := H8) (k1 := 0) (n1 := 0) (by with_unfolding_all rfl)) ?_
  obtain ⟨a10, ha10, e⟩ := xw_some e
  refine xe_iast s9 rfl rfl (show ¬ ((3 : Int32) < 0 ∨ 32 ≤ ((3 : Int32)).toNatClampNeg) by decide) (fun H11 s12 => ?_)
  have s12 : xS h b T a10 H11 := by rw [ha10]; exact s12
  refine ex_s (am_nb (m := 1) (pc1 := 33) (ls1 := [(0, .ref 129)]) (st1 := [.ref 129]) (H1 := H11) (k1 := 0) (n1 := 0) (by with_unfolding_all rfl)) ?_
  refine xe_get (v := .ref 134) s12 rfl rfl (by decide) rfl ?_
  refine ex_s (am_nb (m := 2) (pc1 := 39) (ls1 := [(0, .ref 129)]) (st1 := [.int 59, .int 4, .ref 134]) (H1 := H11) (k1 := 0) (n1 := 0) (by with_unfolding_all rfl)) ?_
  obtain ⟨a13, ha13, e⟩ := xw_some e
  refine xe_iast s12 rfl rfl (show ¬ ((4 : Int32) < 0 ∨ 32 ≤ ((4 : Int32)).toNatClampNeg) by decide) (fun H14 s15 => ?_)
  have s15 : xS h b T a13 H14 := by rw [ha13]; exact s15
  refine ex_s (am_nb (m := 1) (pc1 := 41) (ls1 := [(0, .ref 129)]) (st1 := [.ref 129]) (H1 := H14) (k1 := 0) (n1 := 0) (by with_unfolding_all rfl)) ?_
  refine xe_get (v := .ref 134) s15 rfl rfl (by decide) rfl ?_
  refine ex_s (am_nb (m := 2) (pc1 := 47) (ls1 := [(0, .ref 129)]) (st1 := [.int 50, .int 5, .ref 134]) (H1 := H14) (k1 := 0) (n1 := 0) (by with_unfolding_all rfl)) ?_
  obtain ⟨a16, ha16, e⟩ := xw_some e
  refine xe_iast s15 rfl rfl (show ¬ ((5 : Int32) < 0 ∨ 32 ≤ ((5 : Int32)).toNatClampNeg) by decide) (fun H17 s18 => ?_)
  have s18 : xS h b T a16 H17 := by rw [ha16]; exact s18
  refine ex_s (am_nb (m := 1) (pc1 := 49) (ls1 := [(0, .ref 129)]) (st1 := [.ref 129]) (H1 := H17) (k1 := 0) (n1 := 0) (by with_unfolding_all rfl)) ?_
  refine xe_get (v := .ref 134) s18 rfl rfl (by decide) rfl ?_
  refine ex_s (am_nb (m := 2) (pc1 := 56) (ls1 := [(0, .ref 129)]) (st1 := [.int 99, .int 6, .ref 134]) (H1 := H17) (k1 := 0) (n1 := 0) (by with_unfolding_all rfl)) ?_
  obtain ⟨a19, ha19, e⟩ := xw_some e
  refine xe_iast s18 rfl rfl (show ¬ ((6 : Int32) < 0 ∨ 32 ≤ ((6 : Int32)).toNatClampNeg) by decide) (fun H20 s21 => ?_)
  have s21 : xS h b T a19 H20 := by rw [ha19]; exact s21
  refine ex_s (am_nb (m := 1) (pc1 := 58) (ls1 := [(0, .ref 129)]) (st1 := [.ref 129]) (H1 := H20) (k1 := 0) (n1 := 0) (by with_unfolding_all rfl)) ?_
  refine xe_get (v := .ref 132) s21 rfl rfl (by decide) rfl ?_
  refine ex_s (am_nb (m := 1) (pc1 := 62) (ls1 := [(0, .ref 129)]) (st1 := [.ref 129, .ref 132]) (H1 := H20) (k1 := 0) (n1 := 0) (by with_unfolding_all rfl)) ?_
  refine xe_get (v := .ref 134) s21 rfl rfl (by decide) rfl ?_
  refine ex_s (am_nb (m := 1) (pc1 := 67) (ls1 := [(0, .ref 129)]) (st1 := [.int 7, .ref 134, .ref 132]) (H1 := H20) (k1 := 0) (n1 := 0) (by with_unfolding_all rfl)) ?_
  obtain ⟨r25, a26, e24, e⟩ := xb2_some e
  refine ex_cv1 (as := [.ref 134, .int 7]) (rest := []) rfl rfl rfl rfl (s21.obj rfl (by decide)) rfl (by with_unfolding_all rfl) (by with_unfolding_all rfl) (tf201_addWhole s21 e24) (fun H22 s23 => ?_)
  refine ex_s (am_nb (m := 1) (pc1 := 71) (ls1 := [(0, .ref 129)]) (st1 := []) (H1 := H22) (k1 := 0) (n1 := 0) (by with_unfolding_all rfl)) ?_
  cases e
  exact ex_r (st_vret rfl rfl) s23

set_option maxRecDepth 100000 in
theorem tf213_endEscape {sL : Nat} {sx : Nat → Int32} {h b N : Nat} {T : List am_C} {a' : xA} {x0 : Int32} {a : xA} {H : am_H} (hS : xS h b T a H) (e : f213_endEscape N h b x0 a = some a') : am_E sL sx am_cs 213 0 [(0, .ref 129), (1, .int x0)] [] H none (fun H1 => xS h b T a' H1) := by
  unfold f213_endEscape at e
  refine ex_s (am_nb (m := 1) (pc1 := 1) (ls1 := [(0, .ref 129), (1, .int x0)]) (st1 := [.int x0]) (H1 := H) (k1 := 0) (n1 := 0) (by with_unfolding_all rfl)) ?_
  refine ex_s (st_tsw rfl) ?_
  by_cases c1 : x0 = 55
  · have e := (if_pos c1).symm.trans e
    refine ex_pc (pc1 := 211) (by rw [c1]; with_unfolding_all rfl) ?_
    refine ex_s (am_nb (m := 1) (pc1 := 212) (ls1 := [(0, .ref 129), (1, .int x0)]) (st1 := [.ref 129]) (H1 := H) (k1 := 0) (n1 := 0) (by with_unfolding_all rfl)) ?_
    refine xe_get (v := .ref 136) hS rfl rfl (by decide) rfl ?_
    obtain ⟨a5, e4, e⟩ := xb1_some e
    refine ex_cv0 (as := []) (rest := []) rfl rfl rfl rfl (hS.obj rfl (by decide)) rfl (by with_unfolding_all rfl) (by with_unfolding_all rfl) (tf18_save hS e4) (fun H2 s3 => ?_)
    refine ex_s (am_nb (m := 1) (pc1 := 340) (ls1 := [(0, .ref 129), (1, .int x0)]) (st1 := []) (H1 := H2) (k1 := 0) (n1 := 0) (by with_unfolding_all rfl)) ?_
    cases e
    exact ex_r (st_vret rfl rfl) s3
  · have e := (if_neg c1).symm.trans e
    by_cases c6 : x0 = 56
    · have e := (if_pos c6).symm.trans e
      refine ex_pc (pc1 := 221) (by rw [c6]; with_unfolding_all rfl) ?_
      refine ex_s (am_nb (m := 1) (pc1 := 222) (ls1 := [(0, .ref 129), (1, .int x0)]) (st1 := [.ref 129]) (H1 := H) (k1 := 0) (n1 := 0) (by with_unfolding_all rfl)) ?_
      refine xe_get (v := .ref 136) hS rfl rfl (by decide) rfl ?_
      obtain ⟨a10, e9, e⟩ := xb1_some e
      refine ex_cv0 (as := []) (rest := []) rfl rfl rfl rfl (hS.obj rfl (by decide)) rfl (by with_unfolding_all rfl) (by with_unfolding_all rfl) (tf215_restore hS e9) (fun H7 s8 => ?_)
      refine ex_s (am_nb (m := 1) (pc1 := 340) (ls1 := [(0, .ref 129), (1, .int x0)]) (st1 := []) (H1 := H7) (k1 := 0) (n1 := 0) (by with_unfolding_all rfl)) ?_
      cases e
      exact ex_r (st_vret rfl rfl) s8
    · have e := (if_neg c6).symm.trans e
      by_cases c11 : x0 = 61
      · have e := (if_pos c11).symm.trans e
        refine ex_pc (pc1 := 312) (by rw [c11]; with_unfolding_all rfl) ?_
        refine ex_s (am_nb (m := 1) (pc1 := 313) (ls1 := [(0, .ref 129), (1, .int x0)]) (st1 := [.ref 129]) (H1 := H) (k1 := 0) (n1 := 0) (by with_unfolding_all rfl)) ?_
        refine xe_get (v := .ref 136) hS rfl rfl (by decide) rfl ?_
        refine ex_s (am_nb (m := 2) (pc1 := 320) (ls1 := [(0, .ref 129), (1, .int x0)]) (st1 := [.int 1, .int 128, .ref 136]) (H1 := H) (k1 := 0) (n1 := 0) (by with_unfolding_all rfl)) ?_
        obtain ⟨a15, e14, e⟩ := xb1_some e
        refine ex_cv0 (as := [.int 128, .int 1]) (rest := []) rfl rfl rfl rfl (hS.obj rfl (by decide)) rfl (by with_unfolding_all rfl) (by with_unfolding_all rfl) (tf216_turn hS e14) (fun H12 s13 => ?_)
        refine ex_s (am_nb (m := 1) (pc1 := 340) (ls1 := [(0, .ref 129), (1, .int x0)]) (st1 := []) (H1 := H12) (k1 := 0) (n1 := 0) (by with_unfolding_all rfl)) ?_
        cases e
        exact ex_r (st_vret rfl rfl) s13
      · have e := (if_neg c11).symm.trans e
        by_cases c16 : x0 = 62
        · have e := (if_pos c16).symm.trans e
          refine ex_pc (pc1 := 326) (by rw [c16]; with_unfolding_all rfl) ?_
          refine ex_s (am_nb (m := 1) (pc1 := 327) (ls1 := [(0, .ref 129), (1, .int x0)]) (st1 := [.ref 129]) (H1 := H) (k1 := 0) (n1 := 0) (by with_unfolding_all rfl)) ?_
          refine xe_get (v := .ref 136) hS rfl rfl (by decide) rfl ?_
          refine ex_s (am_nb (m := 2) (pc1 := 334) (ls1 := [(0, .ref 129), (1, .int x0)]) (st1 := [.int 0, .int 128, .ref 136]) (H1 := H) (k1 := 0) (n1 := 0) (by with_unfolding_all rfl)) ?_
          obtain ⟨a20, e19, e⟩ := xb1_some e
          refine ex_cv0 (as := [.int 128, .int 0]) (rest := []) rfl rfl rfl rfl (hS.obj rfl (by decide)) rfl (by with_unfolding_all rfl) (by with_unfolding_all rfl) (tf216_turn hS e19) (fun H17 s18 => ?_)
          refine ex_s (am_nb (m := 1) (pc1 := 340) (ls1 := [(0, .ref 129), (1, .int x0)]) (st1 := []) (H1 := H17) (k1 := 0) (n1 := 0) (by with_unfolding_all rfl)) ?_
          cases e
          exact ex_r (st_vret rfl rfl) s18
        · have e := (if_neg c16).symm.trans e
          by_cases c21 : x0 = 68
          · have e := (if_pos c21).symm.trans e
            refine ex_pc (pc1 := 231) (by rw [c21]; with_unfolding_all rfl) ?_
            refine ex_s (am_nb (m := 1) (pc1 := 232) (ls1 := [(0, .ref 129), (1, .int x0)]) (st1 := [.ref 129]) (H1 := H) (k1 := 0) (n1 := 0) (by with_unfolding_all rfl)) ?_
            refine xe_get (v := .ref 136) hS rfl rfl (by decide) rfl ?_
            obtain ⟨a25, e24, e⟩ := xb1_some e
            refine ex_cv0 (as := []) (rest := []) rfl rfl rfl rfl (hS.obj rfl (by decide)) rfl (by with_unfolding_all rfl) (by with_unfolding_all rfl) (tf206_index hS e24) (fun H22 s23 => ?_)
            refine ex_s (am_nb (m := 1) (pc1 := 340) (ls1 := [(0, .ref 129), (1, .int x0)]) (st1 := []) (H1 := H22) (k1 := 0) (n1 := 0) (by with_unfolding_all rfl)) ?_
            cases e
            exact ex_r (st_vret rfl rfl) s23
          · have e := (if_neg c21).symm.trans e
            by_cases c26 : x0 = 69
            · have e := (if_pos c26).symm.trans e
              refine ex_pc (pc1 := 241) (by rw [c26]; with_unfolding_all rfl) ?_
              refine ex_s (am_nb (m := 1) (pc1 := 242) (ls1 := [(0, .ref 129), (1, .int x0)]) (st1 := [.ref 129]) (H1 := H) (k1 := 0) (n1 := 0) (by with_unfolding_all rfl)) ?_
              refine xe_get (v := .ref 136) hS rfl rfl (by decide) rfl ?_
              refine ex_s (am_nb (m := 1) (pc1 := 246) (ls1 := [(0, .ref 129), (1, .int x0)]) (st1 := [.ref 129, .ref 136]) (H1 := H) (k1 := 0) (n1 := 0) (by with_unfolding_all rfl)) ?_
              refine xe_get (v := .ref 136) hS rfl rfl (by decide) rfl ?_
              refine xe_get (v := .int (a 136 5)) hS rfl rfl (by decide) rfl ?_
              refine ex_s (am_nb (m := 1) (pc1 := 253) (ls1 := [(0, .ref 129), (1, .int x0)]) (st1 := [.int 0, .int (a 136 5), .ref 136]) (H1 := H) (k1 := 0) (n1 := 0) (by with_unfolding_all rfl)) ?_
              obtain ⟨a30, e29, e⟩ := xb1_some e
              refine ex_cv0 (as := [.int (a 136 5), .int 0]) (rest := []) rfl rfl rfl rfl (hS.obj rfl (by decide)) rfl (by with_unfolding_all rfl) (by with_unfolding_all rfl) (tf16_place hS e29) (fun H27 s28 => ?_)
              refine ex_s (am_nb (m := 1) (pc1 := 257) (ls1 := [(0, .ref 129), (1, .int x0)]) (st1 := [.ref 129]) (H1 := H27) (k1 := 0) (n1 := 0) (by with_unfolding_all rfl)) ?_
              refine xe_get (v := .ref 136) s28 rfl rfl (by decide) rfl ?_
              obtain ⟨a34, e33, e⟩ := xb1_some e
              refine ex_cv0 (as := []) (rest := []) rfl rfl rfl rfl (s28.obj rfl (by decide)) rfl (by with_unfolding_all rfl) (by with_unfolding_all rfl) (tf206_index s28 e33) (fun H31 s32 => ?_)
              refine ex_s (am_nb (m := 1) (pc1 := 340) (ls1 := [(0, .ref 129), (1, .int x0)]) (st1 := []) (H1 := H31) (k1 := 0) (n1 := 0) (by with_unfolding_all rfl)) ?_
              cases e
              exact ex_r (st_vret rfl rfl) s32
            · have e := (if_neg c26).symm.trans e
              by_cases c35 : x0 = 72
              · have e := (if_pos c35).symm.trans e
                refine ex_pc (pc1 := 276) (by rw [c35]; with_unfolding_all rfl) ?_
                refine ex_s (am_nb (m := 1) (pc1 := 277) (ls1 := [(0, .ref 129), (1, .int x0)]) (st1 := [.ref 129]) (H1 := H) (k1 := 0) (n1 := 0) (by with_unfolding_all rfl)) ?_
                refine xe_get (v := .ref 136) hS rfl rfl (by decide) rfl ?_
                refine xe_get (v := .ref 140) hS rfl rfl (by decide) rfl ?_
                refine ex_s (am_nb (m := 1) (pc1 := 284) (ls1 := [(0, .ref 129), (1, .int x0)]) (st1 := [.ref 129, .ref 140]) (H1 := H) (k1 := 0) (n1 := 0) (by with_unfolding_all rfl)) ?_
                refine xe_get (v := .ref 136) hS rfl rfl (by decide) rfl ?_
                refine xe_get (v := .int (a 136 6)) hS rfl rfl (by decide) rfl ?_
                refine ex_s (am_nb (m := 1) (pc1 := 291) (ls1 := [(0, .ref 129), (1, .int x0)]) (st1 := [.int 1, .int (a 136 6), .ref 140]) (H1 := H) (k1 := 0) (n1 := 0) (by with_unfolding_all rfl)) ?_
                obtain ⟨g39, e⟩ := xg_some e
                obtain ⟨a36, ha36, e⟩ := xw_some e
                refine xe_zast hS rfl rfl g39 (fun H37 s38 => ?_)
                have s38 : xS h b T a36 H37 := by rw [ha36]; exact s38
                refine ex_s (am_nb (m := 1) (pc1 := 340) (ls1 := [(0, .ref 129), (1, .int x0)]) (st1 := []) (H1 := H37) (k1 := 0) (n1 := 0) (by with_unfolding_all rfl)) ?_
                cases e
                exact ex_r (st_vret rfl rfl) s38
              · have e := (if_neg c35).symm.trans e
                by_cases c40 : x0 = 77
                · have e := (if_pos c40).symm.trans e
                  refine ex_pc (pc1 := 266) (by rw [c40]; with_unfolding_all rfl) ?_
                  refine ex_s (am_nb (m := 1) (pc1 := 267) (ls1 := [(0, .ref 129), (1, .int x0)]) (st1 := [.ref 129]) (H1 := H) (k1 := 0) (n1 := 0) (by with_unfolding_all rfl)) ?_
                  refine xe_get (v := .ref 136) hS rfl rfl (by decide) rfl ?_
                  obtain ⟨a44, e43, e⟩ := xb1_some e
                  refine ex_cv0 (as := []) (rest := []) rfl rfl rfl rfl (hS.obj rfl (by decide)) rfl (by with_unfolding_all rfl) (by with_unfolding_all rfl) (tf217_backIndex hS e43) (fun H41 s42 => ?_)
                  refine ex_s (am_nb (m := 1) (pc1 := 340) (ls1 := [(0, .ref 129), (1, .int x0)]) (st1 := []) (H1 := H41) (k1 := 0) (n1 := 0) (by with_unfolding_all rfl)) ?_
                  cases e
                  exact ex_r (st_vret rfl rfl) s42
                · have e := (if_neg c40).symm.trans e
                  by_cases c45 : x0 = 80 ∨ x0 = 88 ∨ x0 = 93 ∨ x0 = 94 ∨ x0 = 95
                  · have e := (if_pos c45).symm.trans e
                    refine ex_pc (pc1 := 203) (by rcases c45 with c45 | c45 | c45 | c45 | c45 <;> (rw [c45]; with_unfolding_all rfl)) ?_
                    refine ex_s (am_nb (m := 2) (pc1 := 205) (ls1 := [(0, .ref 129), (1, .int x0)]) (st1 := [.int 5, .ref 129]) (H1 := H) (k1 := 0) (n1 := 0) (by with_unfolding_all rfl)) ?_
                    obtain ⟨a46, ha46, e⟩ := xw_some e
                    refine xe_put (w := 5) hS rfl rfl (by decide) rfl rfl rfl rfl (fun H47 s48 => ?_)
                    have s48 : xS h b T a46 H47 := by rw [ha46]; exact s48
                    refine ex_s (am_nb (m := 1) (pc1 := 340) (ls1 := [(0, .ref 129), (1, .int x0)]) (st1 := []) (H1 := H47) (k1 := 0) (n1 := 0) (by with_unfolding_all rfl)) ?_
                    cases e
                    exact ex_r (st_vret rfl rfl) s48
                  · have e := (if_neg c45).symm.trans e
                    by_cases c49 : x0 = 90
                    · have e := (if_pos c49).symm.trans e
                      refine ex_pc (pc1 := 295) (by rw [c49]; with_unfolding_all rfl) ?_
                      refine ex_s (am_nb (m := 1) (pc1 := 296) (ls1 := [(0, .ref 129), (1, .int x0)]) (st1 := [.ref 129]) (H1 := H) (k1 := 0) (n1 := 0) (by with_unfolding_all rfl)) ?_
                      obtain ⟨a53, e52, e⟩ := xb1_some e
                      refine ex_cv0 (as := []) (rest := []) rfl rfl rfl rfl (hS.obj rfl (by decide)) rfl (by with_unfolding_all rfl) (by with_unfolding_all rfl) (tf218_answerWhat hS e52) (fun H50 s51 => ?_)
                      refine ex_s (am_nb (m := 1) (pc1 := 340) (ls1 := [(0, .ref 129), (1, .int x0)]) (st1 := []) (H1 := H50) (k1 := 0) (n1 := 0) (by with_unfolding_all rfl)) ?_
                      cases e
                      exact ex_r (st_vret rfl rfl) s51
                    · have e := (if_neg c49).symm.trans e
                      by_cases c54 : x0 = 91
                      · have e := (if_pos c54).symm.trans e
                        refine ex_pc (pc1 := 196) (by rw [c54]; with_unfolding_all rfl) ?_
                        refine ex_s (am_nb (m := 1) (pc1 := 197) (ls1 := [(0, .ref 129), (1, .int x0)]) (st1 := [.ref 129]) (H1 := H) (k1 := 0) (n1 := 0) (by with_unfolding_all rfl)) ?_
                        obtain ⟨a58, e57, e⟩ := xb1_some e
                        refine ex_cv0 (as := []) (rest := []) rfl rfl rfl rfl (hS.obj rfl (by decide)) rfl (by with_unfolding_all rfl) (by with_unfolding_all rfl) (tf214_beginSequence hS e57) (fun H55 s56 => ?_)
                        refine ex_s (am_nb (m := 1) (pc1 := 340) (ls1 := [(0, .ref 129), (1, .int x0)]) (st1 := []) (H1 := H55) (k1 := 0) (n1 := 0) (by with_unfolding_all rfl)) ?_
                        cases e
                        exact ex_r (st_vret rfl rfl) s56
                      · have e := (if_neg c54).symm.trans e
                        by_cases c59 : x0 = 99
                        · have e := (if_pos c59).symm.trans e
                          refine ex_pc (pc1 := 302) (by rw [c59]; with_unfolding_all rfl) ?_
                          refine ex_s (am_nb (m := 1) (pc1 := 303) (ls1 := [(0, .ref 129), (1, .int x0)]) (st1 := [.ref 129]) (H1 := H) (k1 := 0) (n1 := 0) (by with_unfolding_all rfl)) ?_
                          refine xe_get (v := .ref 136) hS rfl rfl (by decide) rfl ?_
                          obtain ⟨a63, e62, e⟩ := xb1_some e
                          refine ex_cv0 (as := []) (rest := []) rfl rfl rfl rfl (hS.obj rfl (by decide)) rfl (by with_unfolding_all rfl) (by with_unfolding_all rfl) (tf13_reset hS e62) (fun H60 s61 => ?_)
                          refine ex_s (am_nb (m := 1) (pc1 := 340) (ls1 := [(0, .ref 129), (1, .int x0)]) (st1 := []) (H1 := H60) (k1 := 0) (n1 := 0) (by with_unfolding_all rfl)) ?_
                          cases e
                          exact ex_r (st_vret rfl rfl) s61
                        · have e := (if_neg c59).symm.trans e
                          refine ex_pc (pc1 := 340) (am_sw_n (sw_c (Or.inl c1) (sw_c (Or.inl c6) (sw_c (Or.inr rfl) (sw_c (Or.inr rfl) (sw_c (Or.inr rfl) (sw_c (Or.inr rfl) (sw_c (Or.inl c11) (sw_c (Or.inl c16) (sw_c (Or.inr rfl) (sw_c (Or.inr rfl) (sw_c (Or.inr rfl) (sw_c (Or.inr rfl) (sw_c (Or.inr rfl) (sw_c (Or.inl c21) (sw_c (Or.inl c26) (sw_c (Or.inr rfl) (sw_c (Or.inr rfl) (sw_c (Or.inl c35) (sw_c (Or.inr rfl) (sw_c (Or.inr rfl) (sw_c (Or.inr rfl) (sw_c (Or.inr rfl) (sw_c (Or.inl c40) (sw_c (Or.inr rfl) (sw_c (Or.inr rfl) (sw_c (Or.inl (fun q => c45 (Or.inl q))) (sw_c (Or.inr rfl) (sw_c (Or.inr rfl) (sw_c (Or.inr rfl) (sw_c (Or.inr rfl) (sw_c (Or.inr rfl) (sw_c (Or.inr rfl) (sw_c (Or.inr rfl) (sw_c (Or.inl (fun q => c45 (Or.inr (Or.inl q)))) (sw_c (Or.inr rfl) (sw_c (Or.inl c49) (sw_c (Or.inl c54) (sw_c (Or.inr rfl) (sw_c (Or.inl (fun q => c45 (Or.inr (Or.inr (Or.inl q))))) (sw_c (Or.inl (fun q => c45 (Or.inr (Or.inr (Or.inr (Or.inl q)))))) (sw_c (Or.inl (fun q => c45 (Or.inr (Or.inr (Or.inr (Or.inr q)))))) (sw_c (Or.inr rfl) (sw_c (Or.inr rfl) (sw_c (Or.inr rfl) (sw_c (Or.inl c59) sw_o)))))))))))))))))))))))))))))))))))))))))))))) ?_
                          cases e
                          exact ex_r (st_vret rfl rfl) hS

set_option maxRecDepth 100000 in
theorem tf220_setWidth {sL : Nat} {sx : Nat → Int32} {h b N : Nat} {T : List am_C} {a' : xA} {x0 : Int32} {a : xA} {H : am_H} (hS : xS h b T a H) (e : f220_setWidth N h b x0 a = some a') : am_E sL sx am_cs 220 0 [(0, .ref 136), (1, .int x0)] [] H none (fun H1 => xS h b T a' H1) := by
  unfold f220_setWidth at e
  refine ex_s (am_nb (m := 1) (pc1 := 1) (ls1 := [(0, .ref 136), (1, .int x0)]) (st1 := [.ref 136]) (H1 := H) (k1 := 0) (n1 := 0) (by with_unfolding_all rfl)) ?_
  refine xe_get (v := .ref 139) hS rfl rfl (by decide) rfl ?_
  refine ex_s (am_nb (m := 1) (pc1 := 5) (ls1 := [(0, .ref 136), (1, .int x0)]) (st1 := [.ref 136, .ref 139]) (H1 := H) (k1 := 0) (n1 := 0) (by with_unfolding_all rfl)) ?_
  refine xe_get (v := .int (a 136 5)) hS rfl rfl (by decide) rfl ?_
  refine ex_s (am_nb (m := 1) (pc1 := 9) (ls1 := [(0, .ref 136), (1, .int x0)]) (st1 := [.int x0, .int (a 136 5), .ref 139]) (H1 := H) (k1 := 0) (n1 := 0) (by with_unfolding_all rfl)) ?_
  obtain ⟨g4, e⟩ := xg_some e
  obtain ⟨a1, ha1, e⟩ := xw_some e
  refine xe_iast hS rfl rfl g4 (fun H2 s3 => ?_)
  have s3 : xS h b T a1 H2 := by rw [ha1]; exact s3
  refine ex_s (am_nb (m := 1) (pc1 := 11) (ls1 := [(0, .ref 136), (1, .int x0)]) (st1 := [.ref 136]) (H1 := H2) (k1 := 0) (n1 := 0) (by with_unfolding_all rfl)) ?_
  obtain ⟨r8, a9, e7, e⟩ := xb2_some e
  refine ex_cv1 (as := []) (rest := []) rfl rfl rfl rfl (s3.obj rfl (by decide)) rfl (by with_unfolding_all rfl) (by with_unfolding_all rfl) (tf17_last s3 e7) (fun H5 s6 => ?_)
  refine ex_s (am_nb (m := 2) (pc1 := 16) (ls1 := [(2, .int r8), (0, .ref 136), (1, .int x0)]) (st1 := [.ref 136]) (H1 := H5) (k1 := 0) (n1 := 0) (by with_unfolding_all rfl)) ?_
  refine xe_get (v := .ref 138) s6 rfl rfl (by decide) rfl ?_
  refine ex_s (am_nb (m := 1) (pc1 := 20) (ls1 := [(2, .int r8), (0, .ref 136), (1, .int x0)]) (st1 := [.ref 136, .ref 138]) (H1 := H5) (k1 := 0) (n1 := 0) (by with_unfolding_all rfl)) ?_
  refine xe_get (v := .int (a9 136 5)) s6 rfl rfl (by decide) rfl ?_
  refine ex_s (am_nb (m := 1) (pc1 := 24) (ls1 := [(2, .int r8), (0, .ref 136), (1, .int x0)]) (st1 := [.ref 136, .int (a9 136 5), .ref 138]) (H1 := H5) (k1 := 0) (n1 := 0) (by with_unfolding_all rfl)) ?_
  refine xe_get (v := .int (a9 136 1)) s6 rfl rfl (by decide) rfl ?_
  refine ex_s (am_nb (m := 6) (pc1 := 33) (ls1 := [(2, .int r8), (0, .ref 136), (1, .int x0)]) (st1 := [.ref 136, .int ((((a9 136 5) * (a9 136 1)) + r8) + 1), .ref 138]) (H1 := H5) (k1 := 0) (n1 := 0) (by with_unfolding_all rfl)) ?_
  refine xe_get (v := .int (a9 136 5)) s6 rfl rfl (by decide) rfl ?_
  refine ex_s (am_nb (m := 3) (pc1 := 39) (ls1 := [(2, .int r8), (0, .ref 136), (1, .int x0)]) (st1 := [.ref 136, .int ((a9 136 5) + 1), .int ((((a9 136 5) * (a9 136 1)) + r8) + 1), .ref 138]) (H1 := H5) (k1 := 0) (n1 := 0) (by with_unfolding_all rfl)) ?_
  refine xe_get (v := .int (a9 136 1)) s6 rfl rfl (by decide) rfl ?_
  refine ex_s (am_nb (m := 2) (pc1 := 45) (ls1 := [(2, .int r8), (0, .ref 136), (1, .int x0)]) (st1 := [.int 32, .int (((a9 136 5) + 1) * (a9 136 1)), .int ((((a9 136 5) * (a9 136 1)) + r8) + 1), .ref 138]) (H1 := H5) (k1 := 0) (n1 := 0) (by with_unfolding_all rfl)) ?_
  obtain ⟨a13, e12, e⟩ := xb1_some e
  refine ex_cs0 (as := [.ref 138, .int ((((a9 136 5) * (a9 136 1)) + r8) + 1), .int (((a9 136 5) + 1) * (a9 136 1)), .int 32]) (rest := []) rfl (by decide) rfl rfl (by with_unfolding_all rfl) (by with_unfolding_all rfl) (tf14_fill s6 e12) (fun H10 s11 => ?_)
  refine ex_s (am_nb (m := 1) (pc1 := 49) (ls1 := [(2, .int r8), (0, .ref 136), (1, .int x0)]) (st1 := [.ref 136]) (H1 := H10) (k1 := 0) (n1 := 0) (by with_unfolding_all rfl)) ?_
  refine xe_get (v := .int (a13 136 6)) s11 rfl rfl (by decide) rfl ?_
  refine ex_s (am_nb (m := 1) (pc1 := 53) (ls1 := [(2, .int r8), (0, .ref 136), (1, .int x0)]) (st1 := [.int r8, .int (a13 136 6)]) (H1 := H10) (k1 := 0) (n1 := 0) (by with_unfolding_all rfl)) ?_
  refine ex_s (st_icmp rfl) ?_
  by_cases c15 : (a13 136 6) ≤ r8
  · have e := (if_pos c15).symm.trans e
    refine ex_pc (if_pos c15) ?_
    cases e
    exact ex_r (st_vret rfl rfl) s11
  · have e := (if_neg c15).symm.trans e
    refine ex_pc (if_neg c15) ?_
    refine ex_s (am_nb (m := 2) (pc1 := 58) (ls1 := [(2, .int r8), (0, .ref 136), (1, .int x0)]) (st1 := [.ref 136, .ref 136]) (H1 := H10) (k1 := 0) (n1 := 0) (by with_unfolding_all rfl)) ?_
    refine xe_get (v := .int (a13 136 5)) s11 rfl rfl (by decide) rfl ?_
    refine ex_s (am_nb (m := 1) (pc1 := 62) (ls1 := [(2, .int r8), (0, .ref 136), (1, .int x0)]) (st1 := [.int r8, .int (a13 136 5), .ref 136]) (H1 := H10) (k1 := 0) (n1 := 0) (by with_unfolding_all rfl)) ?_
    obtain ⟨a19, e18, e⟩ := xb1_some e
    refine ex_cv0 (as := [.int (a13 136 5), .int r8]) (rest := []) rfl rfl rfl rfl (s11.obj rfl (by decide)) rfl (by with_unfolding_all rfl) (by with_unfolding_all rfl) (tf16_place s11 e18) (fun H16 s17 => ?_)
    cases e
    exact ex_r (st_vret rfl rfl) s17
