/-! The program does what the functions say. -/
set_option maxRecDepth 100000 in
theorem tj331_214 {sL : Nat} {sx : Nat → Int32} {h b N : Nat} {T : List am_C} {r : Int32} {a' : xA} {a : xA} {H : am_H} (hS : xS h b T a H) (e : j331_214 N h b a = some (r, a')) : am_E sL sx am_cs 331 214 [(0, .ref 157)] [] H (some (.int r)) (fun H1 => xS h b T a' H1) := by
  unfold j331_214 at e
  refine ex_s (am_nb (m := 1) (pc1 := 215) (ls1 := [(0, .ref 157)]) (st1 := [.ref 157]) (H1 := H) (k1 := 0) (n1 := 0) (by with_unfolding_all rfl)) ?_
  refine xe_get (v := .int (a 157 49)) hS rfl rfl (by decide) rfl ?_
  refine ex_s (am_nb (m := 1) (pc1 := 221) (ls1 := [(0, .ref 157)]) (st1 := [.int 6000, .int (a 157 49)]) (H1 := H) (k1 := 0) (n1 := 0) (by with_unfolding_all rfl)) ?_
  refine ex_s (st_icmp rfl) ?_
  by_cases c69 : 6000 < (a 157 49)
  · have e := (if_pos c69).symm.trans e
    refine ex_pc (if_pos c69) ?_
    refine ex_s (am_nb (m := 1) (pc1 := 240) (ls1 := [(0, .ref 157)]) (st1 := [.int (-1)]) (H1 := H) (k1 := 0) (n1 := 0) (by with_unfolding_all rfl)) ?_
    cases e
    exact ex_r (st_iret rfl rfl rfl) hS
  · have e := (if_neg c69).symm.trans e
    refine ex_pc (if_neg c69) ?_
    refine ex_s (am_nb (m := 1) (pc1 := 225) (ls1 := [(0, .ref 157)]) (st1 := [.ref 157]) (H1 := H) (k1 := 0) (n1 := 0) (by with_unfolding_all rfl)) ?_
    refine xe_get (v := .int (a 157 56)) hS rfl rfl (by decide) rfl ?_
    refine ex_s (am_nb (m := 1) (pc1 := 229) (ls1 := [(0, .ref 157)]) (st1 := [.ref 157, .int (a 157 56)]) (H1 := H) (k1 := 0) (n1 := 0) (by with_unfolding_all rfl)) ?_
    refine xe_get (v := .int (a 157 49)) hS rfl rfl (by decide) rfl ?_
    refine ex_s (am_nb (m := 2) (pc1 := 236) (ls1 := [(0, .ref 157)]) (st1 := [.int 8000, .int ((a 157 56) + (a 157 49))]) (H1 := H) (k1 := 0) (n1 := 0) (by with_unfolding_all rfl)) ?_
    refine ex_s (st_icmp rfl) ?_
    by_cases c70 : ((a 157 56) + (a 157 49)) ≤ 8000
    · have e := (if_pos c70).symm.trans e
      refine ex_pc (if_pos c70) ?_
      refine ex_s (am_nb (m := 2) (pc1 := 243) (ls1 := [(0, .ref 157)]) (st1 := [.int 0, .ref 157]) (H1 := H) (k1 := 0) (n1 := 0) (by with_unfolding_all rfl)) ?_
      obtain ⟨a71, ha71, e⟩ := xw_some e
      refine xe_put (w := 0) hS rfl rfl (by decide) rfl rfl rfl rfl (fun H72 s73 => ?_)
      have s73 : xS h b T a71 H72 := by rw [ha71]; exact s73
      refine ex_s (am_nb (m := 2) (pc1 := 248) (ls1 := [(0, .ref 157)]) (st1 := [.int 0, .ref 157]) (H1 := H72) (k1 := 0) (n1 := 0) (by with_unfolding_all rfl)) ?_
      obtain ⟨a74, ha74, e⟩ := xw_some e
      refine xe_put (w := 0) s73 rfl rfl (by decide) rfl rfl rfl rfl (fun H75 s76 => ?_)
      have s76 : xS h b T a74 H75 := by rw [ha74]; exact s76
      refine ex_s (am_nb (m := 2) (pc1 := 253) (ls1 := [(1, .int 0), (0, .ref 157)]) (st1 := []) (H1 := H75) (k1 := 0) (n1 := 0) (by with_unfolding_all rfl)) ?_
      obtain ⟨z82, e83, e⟩ := Option.bind_eq_some_iff.mp e
      refine le_E (l1 := [(0, .ref 157), (1, .int 0)]) ⟨rfl, rfl, trivial⟩ rfl (tl331_253 (z := z82)  (fun uz82_0 Hz820 sz820 => ?_) N 0 a74 H75 s76 e83)
      refine ex_s (am_nb (m := 2) (pc1 := 280) (ls1 := [(0, .ref 157)]) (st1 := [.ref 157, .ref 157]) (H1 := Hz820) (k1 := 0) (n1 := 0) (by with_unfolding_all rfl)) ?_
      refine xe_get (v := .int (z82.2 157 51)) sz820 rfl rfl (by decide) rfl ?_
      obtain ⟨a84, ha84, e⟩ := xw_some e
      refine xe_put (w := (z82.2 157 51)) sz820 rfl rfl (by decide) rfl rfl rfl rfl (fun H85 s86 => ?_)
      have s86 : xS h b T a84 H85 := by rw [ha84]; exact s86
      refine ex_s (am_nb (m := 2) (pc1 := 288) (ls1 := [(0, .ref 157)]) (st1 := [.ref 157, .ref 157]) (H1 := H85) (k1 := 0) (n1 := 0) (by with_unfolding_all rfl)) ?_
      refine xe_get (v := .int (a84 157 52)) s86 rfl rfl (by decide) rfl ?_
      obtain ⟨a87, ha87, e⟩ := xw_some e
      refine xe_put (w := (a84 157 52)) s86 rfl rfl (by decide) rfl rfl rfl rfl (fun H88 s89 => ?_)
      have s89 : xS h b T a87 H88 := by rw [ha87]; exact s89
      refine ex_s (am_nb (m := 2) (pc1 := 296) (ls1 := [(0, .ref 157)]) (st1 := [.ref 157, .ref 157]) (H1 := H88) (k1 := 0) (n1 := 0) (by with_unfolding_all rfl)) ?_
      refine xe_get (v := .int (a87 157 53)) s89 rfl rfl (by decide) rfl ?_
      obtain ⟨a90, ha90, e⟩ := xw_some e
      refine xe_put (w := (a87 157 53)) s89 rfl rfl (by decide) rfl rfl rfl rfl (fun H91 s92 => ?_)
      have s92 : xS h b T a90 H91 := by rw [ha90]; exact s92
      refine ex_s (am_nb (m := 2) (pc1 := 304) (ls1 := [(1, .int 0), (0, .ref 157)]) (st1 := []) (H1 := H91) (k1 := 0) (n1 := 0) (by with_unfolding_all rfl)) ?_
      obtain ⟨z100, e101, e⟩ := Option.bind_eq_some_iff.mp e
      refine le_E (l1 := [(0, .ref 157), (1, .int 0)]) ⟨rfl, rfl, trivial⟩ rfl (tl331_304 (z := z100)  (fun uz100_0 Hz1000 sz1000 => ?_) N 0 a90 H91 s92 e101)
      refine ex_s (am_nb (m := 1) (pc1 := 330) (ls1 := [(0, .ref 157)]) (st1 := [.ref 157]) (H1 := Hz1000) (k1 := 0) (n1 := 0) (by with_unfolding_all rfl)) ?_
      refine xe_get (v := .int (z100.2 157 49)) sz1000 rfl rfl (by decide) rfl ?_
      cases e
      exact ex_r (st_iret rfl rfl rfl) sz1000
    · have e := (if_neg c70).symm.trans e
      refine ex_pc (if_neg c70) ?_
      refine ex_s (am_nb (m := 1) (pc1 := 240) (ls1 := [(0, .ref 157)]) (st1 := [.int (-1)]) (H1 := H) (k1 := 0) (n1 := 0) (by with_unfolding_all rfl)) ?_
      cases e
      exact ex_r (st_iret rfl rfl rfl) hS

set_option maxRecDepth 100000 in
theorem tj331_187 {sL : Nat} {sx : Nat → Int32} {h b N : Nat} {T : List am_C} {r : Int32} {a' : xA} {a : xA} {H : am_H} (hS : xS h b T a H) (e : j331_187 N h b a = some (r, a')) : am_E sL sx am_cs 331 187 [(0, .ref 157)] [] H (some (.int r)) (fun H1 => xS h b T a' H1) := by
  unfold j331_187 at e
  refine ex_s (am_nb (m := 1) (pc1 := 188) (ls1 := [(0, .ref 157)]) (st1 := [.ref 157]) (H1 := H) (k1 := 0) (n1 := 0) (by with_unfolding_all rfl)) ?_
  refine xe_get (v := .int (a 157 49)) hS rfl rfl (by decide) rfl ?_
  refine ex_s (am_nb (m := 1) (pc1 := 194) (ls1 := [(0, .ref 157)]) (st1 := [.int 6000, .int (a 157 49)]) (H1 := H) (k1 := 0) (n1 := 0) (by with_unfolding_all rfl)) ?_
  refine ex_s (st_icmp rfl) ?_
  by_cases c66 : 6000 < (a 157 49)
  · have e := (if_pos c66).symm.trans e
    refine ex_pc (if_pos c66) ?_
    exact le_E (l1 := [(0, .ref 157)]) ⟨rfl, trivial⟩ rfl (tj331_214  hS e)
  · have e := (if_neg c66).symm.trans e
    refine ex_pc (if_neg c66) ?_
    refine ex_s (am_nb (m := 2) (pc1 := 199) (ls1 := [(0, .ref 157)]) (st1 := [.int 0, .ref 157]) (H1 := H) (k1 := 0) (n1 := 0) (by with_unfolding_all rfl)) ?_
    obtain ⟨a105, e104, e⟩ := xb1_some e
    refine ex_cv0 (as := [.int 0]) (rest := []) rfl rfl rfl rfl (hS.obj rfl (by decide)) rfl (by with_unfolding_all rfl) (by with_unfolding_all rfl) (tf350_dresses hS e104) (fun H102 s103 => ?_)
    refine ex_s (am_nb (m := 2) (pc1 := 204) (ls1 := [(0, .ref 157)]) (st1 := [.ref 157, .ref 157]) (H1 := H102) (k1 := 0) (n1 := 0) (by with_unfolding_all rfl)) ?_
    refine xe_get (v := .int (a105 157 30)) s103 rfl rfl (by decide) rfl ?_
    refine ex_s (am_nb (m := 1) (pc1 := 208) (ls1 := [(0, .ref 157)]) (st1 := [.ref 157, .int (a105 157 30), .ref 157]) (H1 := H102) (k1 := 0) (n1 := 0) (by with_unfolding_all rfl)) ?_
    refine xe_get (v := .int (a105 157 31)) s103 rfl rfl (by decide) rfl ?_
    obtain ⟨a109, e108, e⟩ := xb1_some e
    refine ex_cv0 (as := [.int (a105 157 30), .int (a105 157 31)]) (rest := []) rfl rfl rfl rfl (s103.obj rfl (by decide)) rfl (by with_unfolding_all rfl) (by with_unfolding_all rfl) (tf340_motion s103 e108) (fun H106 s107 => ?_)
    exact le_E (l1 := [(0, .ref 157)]) ⟨rfl, trivial⟩ rfl (tj331_214  s107 e)

set_option maxRecDepth 100000 in
theorem tj331_152 {sL : Nat} {sx : Nat → Int32} {h b N : Nat} {T : List am_C} {r : Int32} {a' : xA} {a : xA} {H : am_H} (hS : xS h b T a H) (e : j331_152 N h b a = some (r, a')) : am_E sL sx am_cs 331 152 [(0, .ref 157)] [] H (some (.int r)) (fun H1 => xS h b T a' H1) := by
  unfold j331_152 at e
  refine ex_s (am_nb (m := 1) (pc1 := 153) (ls1 := [(0, .ref 157)]) (st1 := [.ref 157]) (H1 := H) (k1 := 0) (n1 := 0) (by with_unfolding_all rfl)) ?_
  obtain ⟨a54, e53, e⟩ := xb1_some e
  refine ex_cv0 (as := []) (rest := []) rfl rfl rfl rfl (hS.obj rfl (by decide)) rfl (by with_unfolding_all rfl) (by with_unfolding_all rfl) (tf336_rolls hS e53) (fun H51 s52 => ?_)
  refine ex_s (am_nb (m := 2) (pc1 := 158) (ls1 := [(1, .int 0), (0, .ref 157)]) (st1 := []) (H1 := H51) (k1 := 0) (n1 := 0) (by with_unfolding_all rfl)) ?_
  obtain ⟨z63, e64, e⟩ := Option.bind_eq_some_iff.mp e
  refine le_E (l1 := [(0, .ref 157), (1, .int 0)]) ⟨rfl, rfl, trivial⟩ rfl (tl331_158 (z := z63)  (fun uz63_0 Hz630 sz630 => ?_) N 0 a54 H51 s52 e64)
  exact le_E (l1 := [(0, .ref 157)]) ⟨rfl, trivial⟩ rfl (tj331_187  sz630 e)

set_option maxRecDepth 100000 in
theorem tj331_141 {sL : Nat} {sx : Nat → Int32} {h b N : Nat} {T : List am_C} {r : Int32} {a' : xA} {a : xA} {H : am_H} (hS : xS h b T a H) (e : j331_141 N h b a = some (r, a')) : am_E sL sx am_cs 331 141 [(0, .ref 157)] [] H (some (.int r)) (fun H1 => xS h b T a' H1) := by
  unfold j331_141 at e
  refine ex_s (am_nb (m := 1) (pc1 := 142) (ls1 := [(0, .ref 157)]) (st1 := [.ref 157]) (H1 := H) (k1 := 0) (n1 := 0) (by with_unfolding_all rfl)) ?_
  refine xe_get (v := .int (a 157 35)) hS rfl rfl (by decide) rfl ?_
  refine ex_s (st_if rfl) ?_
  by_cases c50 : (a 157 35) = 0
  · have e := (if_pos c50).symm.trans e
    refine ex_pc (if_pos c50) ?_
    exact le_E (l1 := [(0, .ref 157)]) ⟨rfl, trivial⟩ rfl (tj331_152  hS e)
  · have e := (if_neg c50).symm.trans e
    refine ex_pc (if_neg c50) ?_
    refine ex_s (am_nb (m := 1) (pc1 := 149) (ls1 := [(0, .ref 157)]) (st1 := [.ref 157]) (H1 := H) (k1 := 0) (n1 := 0) (by with_unfolding_all rfl)) ?_
    obtain ⟨a113, e112, e⟩ := xb1_some e
    refine ex_cv0 (as := []) (rest := []) rfl rfl rfl rfl (hS.obj rfl (by decide)) rfl (by with_unfolding_all rfl) (by with_unfolding_all rfl) (tf335_begins hS e112) (fun H110 s111 => ?_)
    exact le_E (l1 := [(0, .ref 157)]) ⟨rfl, trivial⟩ rfl (tj331_152  s111 e)

set_option maxRecDepth 100000 in
theorem tf331_update {sL : Nat} {sx : Nat → Int32} {h b N : Nat} {T : List am_C} {r : Int32} {a' : xA} {a : xA} {H : am_H} (hS : xS h b T a H) (e : f331_update N h b a = some (r, a')) : am_E sL sx am_cs 331 0 [(0, .ref 157)] [] H (some (.int r)) (fun H1 => xS h b T a' H1) := by
  unfold f331_update at e
  refine ex_s (am_nb (m := 2) (pc1 := 2) (ls1 := [(0, .ref 157)]) (st1 := [.int 0, .ref 157]) (H1 := H) (k1 := 0) (n1 := 0) (by with_unfolding_all rfl)) ?_
  obtain ⟨a1, ha1, e⟩ := xw_some e
  refine xe_put (w := 0) hS rfl rfl (by decide) rfl rfl rfl rfl (fun H2 s3 => ?_)
  have s3 : xS h b T a1 H2 := by rw [ha1]; exact s3
  refine ex_s (am_nb (m := 1) (pc1 := 6) (ls1 := [(0, .ref 157)]) (st1 := [.ref 157]) (H1 := H2) (k1 := 0) (n1 := 0) (by with_unfolding_all rfl)) ?_
  refine xe_get (v := .int (a1 157 21)) s3 rfl rfl (by decide) rfl ?_
  refine ex_s (am_nb (m := 1) (pc1 := 10) (ls1 := [(0, .ref 157)]) (st1 := [.int (-1), .int (a1 157 21)]) (H1 := H2) (k1 := 0) (n1 := 0) (by with_unfolding_all rfl)) ?_
  refine ex_s (st_icmp rfl) ?_
  by_cases c4 : (a1 157 21) = (-1)
  · have e := (if_pos c4).symm.trans e
    refine ex_pc (if_pos c4) ?_
    refine ex_s (am_nb (m := 1) (pc1 := 14) (ls1 := [(0, .ref 157)]) (st1 := [.int (-1)]) (H1 := H2) (k1 := 0) (n1 := 0) (by with_unfolding_all rfl)) ?_
    cases e
    exact ex_r (st_iret rfl rfl rfl) s3
  · have e := (if_neg c4).symm.trans e
    refine ex_pc (if_neg c4) ?_
    refine ex_s (am_nb (m := 2) (pc1 := 17) (ls1 := [(0, .ref 157)]) (st1 := [.int 0, .ref 157]) (H1 := H2) (k1 := 0) (n1 := 0) (by with_unfolding_all rfl)) ?_
    obtain ⟨a5, ha5, e⟩ := xw_some e
    refine xe_put (w := 0) s3 rfl rfl (by decide) rfl rfl rfl rfl (fun H6 s7 => ?_)
    have s7 : xS h b T a5 H6 := by rw [ha5]; exact s7
    refine ex_s (am_nb (m := 2) (pc1 := 22) (ls1 := [(0, .ref 157)]) (st1 := [.int 0, .ref 157]) (H1 := H6) (k1 := 0) (n1 := 0) (by with_unfolding_all rfl)) ?_
    obtain ⟨a8, ha8, e⟩ := xw_some e
    refine xe_put (w := 0) s7 rfl rfl (by decide) rfl rfl rfl rfl (fun H9 s10 => ?_)
    have s10 : xS h b T a8 H9 := by rw [ha8]; exact s10
    refine ex_s (am_nb (m := 2) (pc1 := 27) (ls1 := [(1, .int 0), (0, .ref 157)]) (st1 := []) (H1 := H9) (k1 := 0) (n1 := 0) (by with_unfolding_all rfl)) ?_
    obtain ⟨z29, e30, e⟩ := Option.bind_eq_some_iff.mp e
    refine le_E (l1 := [(0, .ref 157), (1, .int 0)]) ⟨rfl, rfl, trivial⟩ rfl (tl331_27 (z := z29)  (fun uz29_0 Hz290 sz290 => ?_) N 0 a8 H9 s10 e30)
    refine ex_s (am_nb (m := 2) (pc1 := 76) (ls1 := [(1, .int 0), (0, .ref 157)]) (st1 := []) (H1 := Hz290) (k1 := 0) (n1 := 0) (by with_unfolding_all rfl)) ?_
    obtain ⟨z36, e37, e⟩ := Option.bind_eq_some_iff.mp e
    refine le_E (l1 := [(0, .ref 157), (1, .int 0)]) ⟨rfl, rfl, trivial⟩ rfl (tl331_76 (z := z36)  (fun uz36_0 Hz360 sz360 => ?_) N 0 z29.2 Hz290 sz290 e37)
    refine ex_s (am_nb (m := 2) (pc1 := 103) (ls1 := [(0, .ref 157)]) (st1 := [.ref 157, .ref 157]) (H1 := Hz360) (k1 := 0) (n1 := 0) (by with_unfolding_all rfl)) ?_
    refine xe_get (v := .int (z36.2 157 32)) sz360 rfl rfl (by decide) rfl ?_
    obtain ⟨a38, ha38, e⟩ := xw_some e
    refine xe_put (w := (z36.2 157 32)) sz360 rfl rfl (by decide) rfl rfl rfl rfl (fun H39 s40 => ?_)
    have s40 : xS h b T a38 H39 := by rw [ha38]; exact s40
    refine ex_s (am_nb (m := 2) (pc1 := 111) (ls1 := [(0, .ref 157)]) (st1 := [.ref 157, .ref 157]) (H1 := H39) (k1 := 0) (n1 := 0) (by with_unfolding_all rfl)) ?_
    refine xe_get (v := .int (a38 157 33)) s40 rfl rfl (by decide) rfl ?_
    obtain ⟨a41, ha41, e⟩ := xw_some e
    refine xe_put (w := (a38 157 33)) s40 rfl rfl (by decide) rfl rfl rfl rfl (fun H42 s43 => ?_)
    have s43 : xS h b T a41 H42 := by rw [ha41]; exact s43
    refine ex_s (am_nb (m := 2) (pc1 := 119) (ls1 := [(0, .ref 157)]) (st1 := [.ref 157, .ref 157]) (H1 := H42) (k1 := 0) (n1 := 0) (by with_unfolding_all rfl)) ?_
    refine xe_get (v := .int (a41 157 34)) s43 rfl rfl (by decide) rfl ?_
    obtain ⟨a44, ha44, e⟩ := xw_some e
    refine xe_put (w := (a41 157 34)) s43 rfl rfl (by decide) rfl rfl rfl rfl (fun H45 s46 => ?_)
    have s46 : xS h b T a44 H45 := by rw [ha44]; exact s46
    refine ex_s (am_nb (m := 1) (pc1 := 126) (ls1 := [(0, .ref 157)]) (st1 := [.ref 157]) (H1 := H45) (k1 := 0) (n1 := 0) (by with_unfolding_all rfl)) ?_
    refine xe_get (v := .int (a44 157 36)) s46 rfl rfl (by decide) rfl ?_
    refine ex_s (st_if rfl) ?_
    by_cases c48 : (a44 157 36) = 0
    · have e := (if_pos c48).symm.trans e
      refine ex_pc (if_pos c48) ?_
      exact le_E (l1 := [(0, .ref 157)]) ⟨rfl, trivial⟩ rfl (tj331_141  s46 e)
    · have e := (if_neg c48).symm.trans e
      refine ex_pc (if_neg c48) ?_
      refine ex_s (am_nb (m := 5) (pc1 := 138) (ls1 := [(0, .ref 157)]) (st1 := [.int 1, .int 0, .int 0, .int 6, .ref 157]) (H1 := H45) (k1 := 0) (n1 := 0) (by with_unfolding_all rfl)) ?_
      obtain ⟨a117, e116, e⟩ := xb1_some e
      refine ex_cv0 (as := [.int 6, .int 0, .int 0, .int 1]) (rest := []) rfl rfl rfl rfl (s46.obj rfl (by decide)) rfl (by with_unfolding_all rfl) (by with_unfolding_all rfl) (tf332_typeAll s46 e116) (fun H114 s115 => ?_)
      exact le_E (l1 := [(0, .ref 157)]) ⟨rfl, trivial⟩ rfl (tj331_141  s115 e)

set_option maxRecDepth 100000 in
theorem tf354_keep {sL : Nat} {sx : Nat → Int32} {h b N : Nat} {T : List am_C} {a' : xA} {x0 : Int32} {a : xA} {H : am_H} (hS : xS h b T a H) (e : f354_keep N h b x0 a = some a') : am_E sL sx am_cs 354 0 [(0, .ref 157), (1, .int x0)] [] H none (fun H1 => xS h b T a' H1) := by
  unfold f354_keep at e
  refine ex_s (am_nb (m := 1) (pc1 := 1) (ls1 := [(0, .ref 157), (1, .int x0)]) (st1 := [.ref 157]) (H1 := H) (k1 := 0) (n1 := 0) (by with_unfolding_all rfl)) ?_
  refine xe_get (v := .ref 186) hS rfl rfl (by decide) rfl ?_
  refine ex_s (am_nb (m := 1) (pc1 := 5) (ls1 := [(0, .ref 157), (1, .int x0)]) (st1 := [.ref 157, .ref 186]) (H1 := H) (k1 := 0) (n1 := 0) (by with_unfolding_all rfl)) ?_
  refine xe_get (v := .int (a 157 67)) hS rfl rfl (by decide) rfl ?_
  refine ex_s (am_nb (m := 1) (pc1 := 9) (ls1 := [(0, .ref 157), (1, .int x0)]) (st1 := [.int x0, .int (a 157 67), .ref 186]) (H1 := H) (k1 := 0) (n1 := 0) (by with_unfolding_all rfl)) ?_
  obtain ⟨g4, e⟩ := xg_some e
  obtain ⟨a1, ha1, e⟩ := xw_some e
  refine xe_iast hS rfl rfl g4 (fun H2 s3 => ?_)
  have s3 : xS h b T a1 H2 := by rw [ha1]; exact s3
  refine ex_s (am_nb (m := 2) (pc1 := 12) (ls1 := [(0, .ref 157), (1, .int x0)]) (st1 := [.ref 157, .ref 157]) (H1 := H2) (k1 := 0) (n1 := 0) (by with_unfolding_all rfl)) ?_
  refine xe_get (v := .int (a1 157 67)) s3 rfl rfl (by decide) rfl ?_
  refine ex_s (am_nb (m := 2) (pc1 := 17) (ls1 := [(0, .ref 157), (1, .int x0)]) (st1 := [.int ((a1 157 67) + 1), .ref 157]) (H1 := H2) (k1 := 0) (n1 := 0) (by with_unfolding_all rfl)) ?_
  obtain ⟨a5, ha5, e⟩ := xw_some e
  refine xe_put (w := ((a1 157 67) + 1)) s3 rfl rfl (by decide) rfl rfl rfl rfl (fun H6 s7 => ?_)
  have s7 : xS h b T a5 H6 := by rw [ha5]; exact s7
  cases e
  exact ex_r (st_vret rfl rfl) s7

set_option maxRecDepth 100000 in
theorem tl353_33 {sL : Nat} {sx : Nat → Int32} {h b N : Nat} {T : List am_C} {R : Option Value} {F : am_H → Prop} {w2 : Int32} {z : Nat × xA} (k0 : z.1 = 0 → ∀ H2 : am_H, xS h b T z.2 H2 → am_E sL sx am_cs 353 71 [(0, .ref 157), (2, .int w2)] [] H2 R F) : ∀ (n : Nat) (v3 : Int32) (a : xA) (H : am_H), xS h b T a H → l353_33 N h b w2 n v3 a = some z → am_E sL sx am_cs 353 33 [(0, .ref 157), (2, .int w2), (3, .int v3)] [] H R F := by
  intro n
  induction n with
  | zero =>
    intro v3 a H hS e
    cases e
  | succ n ih =>
    intro v3 a H hS e
    unfold l353_33 at e
    refine ex_s (am_nb (m := 2) (pc1 := 35) (ls1 := [(0, .ref 157), (2, .int w2), (3, .int v3)]) (st1 := [.ref 157, .int v3]) (H1 := H) (k1 := 0) (n1 := 0) (by with_unfolding_all rfl)) ?_
    refine xe_get (v := .int (a 157 65)) hS rfl rfl (by decide) rfl ?_
    refine ex_s (st_icmp rfl) ?_
    by_cases c14 : (a 157 65) ≤ v3
    · have e := (if_pos c14).symm.trans e
      refine ex_pc (if_pos c14) ?_
      cases e
      exact le_E (l1 := [(0, .ref 157), (2, .int w2)]) ⟨rfl, rfl, trivial⟩ rfl (k0 rfl H hS)
    · have e := (if_neg c14).symm.trans e
      refine ex_pc (if_neg c14) ?_
      refine ex_s (am_nb (m := 1) (pc1 := 42) (ls1 := [(0, .ref 157), (2, .int w2), (3, .int v3)]) (st1 := [.ref 157]) (H1 := H) (k1 := 0) (n1 := 0) (by with_unfolding_all rfl)) ?_
      refine xe_get (v := .int (a 157 67)) hS rfl rfl (by decide) rfl ?_
      refine ex_s (am_nb (m := 1) (pc1 := 48) (ls1 := [(0, .ref 157), (2, .int w2), (3, .int v3)]) (st1 := [.int 300, .int (a 157 67)]) (H1 := H) (k1 := 0) (n1 := 0) (by with_unfolding_all rfl)) ?_
      refine ex_s (st_icmp rfl) ?_
      by_cases c15 : 300 ≤ (a 157 67)
      · have e := (if_pos c15).symm.trans e
        refine ex_pc (if_pos c15) ?_
        cases e
        exact le_E (l1 := [(0, .ref 157), (2, .int w2)]) ⟨rfl, rfl, trivial⟩ rfl (k0 rfl H hS)
      · have e := (if_neg c15).symm.trans e
        refine ex_pc (if_neg c15) ?_
        refine ex_s (am_nb (m := 2) (pc1 := 53) (ls1 := [(0, .ref 157), (2, .int w2), (3, .int v3)]) (st1 := [.ref 157, .ref 157]) (H1 := H) (k1 := 0) (n1 := 0) (by with_unfolding_all rfl)) ?_
        refine xe_get (v := .ref 185) hS rfl rfl (by decide) rfl ?_
        refine ex_s (am_nb (m := 1) (pc1 := 57) (ls1 := [(0, .ref 157), (2, .int w2), (3, .int v3)]) (st1 := [.int v3, .ref 185, .ref 157]) (H1 := H) (k1 := 0) (n1 := 0) (by with_unfolding_all rfl)) ?_
        obtain ⟨g16, e⟩ := xg_some e
        refine xe_bald hS rfl rfl g16 ?_
        refine ex_s (am_nb (m := 2) (pc1 := 62) (ls1 := [(0, .ref 157), (2, .int w2), (3, .int v3)]) (st1 := [.int ((a 185 (v3.toNatClampNeg)) &&& 255), .ref 157]) (H1 := H) (k1 := 0) (n1 := 0) (by with_unfolding_all rfl)) ?_
        obtain ⟨a20, e19, e⟩ := xb1_some e
        refine ex_cv0 (as := [.int ((a 185 (v3.toNatClampNeg)) &&& 255)]) (rest := []) rfl rfl rfl rfl (hS.obj rfl (by decide)) rfl (by with_unfolding_all rfl) (by with_unfolding_all rfl) (tf354_keep hS e19) (fun H17 s18 => ?_)
        refine ex_s (am_nb (m := 2) (pc1 := 33) (ls1 := [(3, .int (v3 + 1)), (0, .ref 157), (2, .int w2)]) (st1 := []) (H1 := H17) (k1 := 0) (n1 := 0) (by with_unfolding_all rfl)) ?_
        exact le_E (l1 := [(0, .ref 157), (2, .int w2), (3, .int (v3 + 1))]) ⟨rfl, rfl, rfl, trivial⟩ rfl (ih (v3 + 1) a20 H17 s18 e)

set_option maxRecDepth 100000 in
theorem tj353_71 {sL : Nat} {sx : Nat → Int32} {h b N : Nat} {T : List am_C} {r : Int32} {a' : xA} {q2 : Int32} {a : xA} {H : am_H} (hS : xS h b T a H) (e : j353_71 N h b q2 a = some (r, a')) : am_E sL sx am_cs 353 71 [(0, .ref 157), (2, .int q2)] [] H (some (.int r)) (fun H1 => xS h b T a' H1) := by
  unfold j353_71 at e
  refine ex_s (am_nb (m := 2) (pc1 := 73) (ls1 := [(0, .ref 157), (2, .int q2)]) (st1 := [.int 0, .ref 157]) (H1 := H) (k1 := 0) (n1 := 0) (by with_unfolding_all rfl)) ?_
  obtain ⟨a23, ha23, e⟩ := xw_some e
  refine xe_put (w := 0) hS rfl rfl (by decide) rfl rfl rfl rfl (fun H24 s25 => ?_)
  have s25 : xS h b T a23 H24 := by rw [ha23]; exact s25
  refine ex_s (am_nb (m := 2) (pc1 := 78) (ls1 := [(0, .ref 157), (2, .int q2)]) (st1 := [.int 0, .ref 157]) (H1 := H24) (k1 := 0) (n1 := 0) (by with_unfolding_all rfl)) ?_
  obtain ⟨a26, ha26, e⟩ := xw_some e
  refine xe_put (w := 0) s25 rfl rfl (by decide) rfl rfl rfl rfl (fun H27 s28 => ?_)
  have s28 : xS h b T a26 H27 := by rw [ha26]; exact s28
  refine ex_s (am_nb (m := 1) (pc1 := 82) (ls1 := [(0, .ref 157), (2, .int q2)]) (st1 := [.int q2]) (H1 := H27) (k1 := 0) (n1 := 0) (by with_unfolding_all rfl)) ?_
  cases e
  exact ex_r (st_iret rfl rfl rfl) s28

set_option maxRecDepth 100000 in
theorem tf353_flags {sL : Nat} {sx : Nat → Int32} {h b N : Nat} {T : List am_C} {r : Int32} {a' : xA} {x0 : Int32} {a : xA} {H : am_H} (hS : xS h b T a H) (e : f353_flags N h b x0 a = some (r, a')) : am_E sL sx am_cs 353 0 [(0, .ref 157), (1, .int x0)] [] H (some (.int r)) (fun H1 => xS h b T a' H1) := by
  unfold f353_flags at e
  refine ex_s (am_nb (m := 2) (pc1 := 2) (ls1 := [(0, .ref 157), (1, .int x0)]) (st1 := [.int 0, .ref 157]) (H1 := H) (k1 := 0) (n1 := 0) (by with_unfolding_all rfl)) ?_
  obtain ⟨a1, ha1, e⟩ := xw_some e
  refine xe_put (w := 0) hS rfl rfl (by decide) rfl rfl rfl rfl (fun H2 s3 => ?_)
  have s3 : xS h b T a1 H2 := by rw [ha1]; exact s3
  refine ex_s (am_nb (m := 1) (pc1 := 6) (ls1 := [(0, .ref 157), (1, .int x0)]) (st1 := [.ref 157]) (H1 := H2) (k1 := 0) (n1 := 0) (by with_unfolding_all rfl)) ?_
  refine xe_get (v := .int (a1 157 58)) s3 rfl rfl (by decide) rfl ?_
  refine ex_s (am_nb (m := 5) (pc1 := 16) (ls1 := [(2, .int (a1 157 58)), (0, .ref 157), (1, .int x0)]) (st1 := [.int (x0 &&& 255), .ref 157]) (H1 := H2) (k1 := 0) (n1 := 0) (by with_unfolding_all rfl)) ?_
  obtain ⟨a4, ha4, e⟩ := xw_some e
  refine xe_put (w := (x0 &&& 255)) s3 rfl rfl (by decide) rfl rfl rfl rfl (fun H5 s6 => ?_)
  have s6 : xS h b T a4 H5 := by rw [ha4]; exact s6
  refine ex_s (am_nb (m := 3) (pc1 := 22) (ls1 := [(2, .int (a1 157 58)), (0, .ref 157), (1, .int x0)]) (st1 := [.int ((a1 157 58) &&& 1)]) (H1 := H5) (k1 := 0) (n1 := 0) (by with_unfolding_all rfl)) ?_
  refine ex_s (st_if rfl) ?_
  by_cases c9 : ((a1 157 58) &&& 1) = 0
  · have e := (if_pos c9).symm.trans e
    refine ex_pc (if_pos c9) ?_
    refine ex_s (am_nb (m := 1) (pc1 := 82) (ls1 := [(2, .int (a1 157 58)), (0, .ref 157), (1, .int x0)]) (st1 := [.int (a1 157 58)]) (H1 := H5) (k1 := 0) (n1 := 0) (by with_unfolding_all rfl)) ?_
    cases e
    exact ex_r (st_iret rfl rfl rfl) s6
  · have e := (if_neg c9).symm.trans e
    refine ex_pc (if_neg c9) ?_
    refine ex_s (am_nb (m := 3) (pc1 := 28) (ls1 := [(2, .int (a1 157 58)), (0, .ref 157), (1, .int x0)]) (st1 := [.int (x0 &&& 1)]) (H1 := H5) (k1 := 0) (n1 := 0) (by with_unfolding_all rfl)) ?_
    refine ex_s (st_if rfl) ?_
    by_cases c11 : (x0 &&& 1) = 0
    · have e := (if_pos c11).symm.trans e
      refine ex_pc (if_pos c11) ?_
      refine ex_s (am_nb (m := 2) (pc1 := 33) (ls1 := [(3, .int 0), (2, .int (a1 157 58)), (0, .ref 157), (1, .int x0)]) (st1 := []) (H1 := H5) (k1 := 0) (n1 := 0) (by with_unfolding_all rfl)) ?_
      obtain ⟨z21, e22, e⟩ := Option.bind_eq_some_iff.mp e
      refine le_E (l1 := [(0, .ref 157), (2, .int (a1 157 58)), (3, .int 0)]) ⟨rfl, rfl, rfl, trivial⟩ rfl (tl353_33 (z := z21)  (fun uz21_0 Hz210 sz210 => ?_) N 0 a4 H5 s6 e22)
      exact le_E (l1 := [(0, .ref 157), (2, .int (a1 157 58))]) ⟨rfl, rfl, trivial⟩ rfl (tj353_71  sz210 e)
    · have e := (if_neg c11).symm.trans e
      refine ex_pc (if_neg c11) ?_
      refine ex_s (am_nb (m := 1) (pc1 := 82) (ls1 := [(2, .int (a1 157 58)), (0, .ref 157), (1, .int x0)]) (st1 := [.int (a1 157 58)]) (H1 := H5) (k1 := 0) (n1 := 0) (by with_unfolding_all rfl)) ?_
      cases e
      exact ex_r (st_iret rfl rfl rfl) s6

set_option maxRecDepth 100000 in
theorem tf358_flag {sL : Nat} {sx : Nat → Int32} {h b N : Nat} {T : List am_C} {r : Int32} {a' : xA} {x0 : Int32} {a : xA} {H : am_H} (hS : xS h b T a H) (e : f358_flag N h b x0 a = some (r, a')) : am_E sL sx am_cs 358 0 [(0, .ref 157), (1, .int x0)] [] H (some (.int r)) (fun H1 => xS h b T a' H1) := by
  unfold f358_flag at e
  refine ex_s (am_nb (m := 1) (pc1 := 1) (ls1 := [(0, .ref 157), (1, .int x0)]) (st1 := [.ref 157]) (H1 := H) (k1 := 0) (n1 := 0) (by with_unfolding_all rfl)) ?_
  refine xe_get (v := .int (a 157 58)) hS rfl rfl (by decide) rfl ?_
  refine ex_s (am_nb (m := 2) (pc1 := 6) (ls1 := [(0, .ref 157), (1, .int x0)]) (st1 := [.int ((a 157 58) &&& x0)]) (H1 := H) (k1 := 0) (n1 := 0) (by with_unfolding_all rfl)) ?_
  have kk : am_E sL sx am_cs 358 14 [(0, .ref 157), (1, .int x0)] [.int (if ((a 157 58) &&& x0) = 0 then (0 : Int32) else (1 : Int32))] H (some (.int r)) (fun H1 => xS h b T a' H1) := by
    obtain ⟨g2, e⟩ := xg_some e
    cases e
    exact ex_r (st_iret rfl rfl (xnar_z g2)) hS
  refine ex_s (st_if rfl) ?_
  by_cases c1 : ((a 157 58) &&& x0) = 0
  · refine ex_pc (if_pos c1) ?_
    refine ex_s (am_nb (m := 1) (pc1 := 14) (ls1 := [(0, .ref 157), (1, .int x0)]) (st1 := [.int 0]) (H1 := H) (k1 := 0) (n1 := 0) (by with_unfolding_all rfl)) ?_
    rw [if_pos c1] at kk
    exact kk
  · refine ex_pc (if_neg c1) ?_
    refine ex_s (am_nb (m := 2) (pc1 := 14) (ls1 := [(0, .ref 157), (1, .int x0)]) (st1 := [.int 1]) (H1 := H) (k1 := 0) (n1 := 0) (by with_unfolding_all rfl)) ?_
    rw [if_neg c1] at kk
    exact kk

set_option maxRecDepth 100000 in
theorem tf357_moved {sL : Nat} {sx : Nat → Int32} {h b N : Nat} {T : List am_C} {r : Int32} {a' : xA} {x0 : Int32} {x1 : Int32} {a : xA} {H : am_H} (hS : xS h b T a H) (e : f357_moved N h b x0 x1 a = some (r, a')) : am_E sL sx am_cs 357 0 [(0, .ref 157), (1, .int x0), (2, .int x1)] [] H (some (.int r)) (fun H1 => xS h b T a' H1) := by
  unfold f357_moved at e
  refine ex_s (am_nb (m := 2) (pc1 := 3) (ls1 := [(0, .ref 157), (1, .int x0), (2, .int x1)]) (st1 := [.int 13, .int x1]) (H1 := H) (k1 := 0) (n1 := 0) (by with_unfolding_all rfl)) ?_
  refine ex_s (st_icmp rfl) ?_
  by_cases c1 : x1 = 13
  · have e := (if_pos c1).symm.trans e
    refine ex_pc (if_pos c1) ?_
    refine ex_s (am_nb (m := 1) (pc1 := 7) (ls1 := [(0, .ref 157), (1, .int x0), (2, .int x1)]) (st1 := [.int 0]) (H1 := H) (k1 := 0) (n1 := 0) (by with_unfolding_all rfl)) ?_
    cases e
    exact ex_r (st_iret rfl rfl rfl) hS
  · have e := (if_neg c1).symm.trans e
    refine ex_pc (if_neg c1) ?_
    refine ex_s (am_nb (m := 2) (pc1 := 11) (ls1 := [(0, .ref 157), (1, .int x0), (2, .int x1)]) (st1 := [.int 10, .int x1]) (H1 := H) (k1 := 0) (n1 := 0) (by with_unfolding_all rfl)) ?_
    refine ex_s (st_icmp rfl) ?_
    by_cases c2 : x1 = 10
    · have e := (if_pos c2).symm.trans e
      refine ex_pc (if_pos c2) ?_
      refine ex_s (am_nb (m := 2) (pc1 := 17) (ls1 := [(0, .ref 157), (1, .int x0), (2, .int x1)]) (st1 := [.int 16, .ref 157]) (H1 := H) (k1 := 0) (n1 := 0) (by with_unfolding_all rfl)) ?_
      obtain ⟨r6, a7, e5, e⟩ := xb2_some e
      refine ex_cv1 (as := [.int 16]) (rest := []) rfl rfl rfl rfl (hS.obj rfl (by decide)) rfl (by with_unfolding_all rfl) (by with_unfolding_all rfl) (tf358_flag hS e5) (fun H3 s4 => ?_)
      have kk : am_E sL sx am_cs 357 28 [(0, .ref 157), (1, .int x0), (2, .int x1)] [.int (if r6 = 0 then (x0) else (0 : Int32))] H3 (some (.int r)) (fun H1 => xS h b T a' H1) := by
        cases e
        exact ex_r (st_iret rfl rfl rfl) s4
      refine ex_s (st_if rfl) ?_
      by_cases c8 : r6 = 0
      · refine ex_pc (if_pos c8) ?_
        refine ex_s (am_nb (m := 1) (pc1 := 28) (ls1 := [(0, .ref 157), (1, .int x0), (2, .int x1)]) (st1 := [.int x0]) (H1 := H3) (k1 := 0) (n1 := 0) (by with_unfolding_all rfl)) ?_
        rw [if_pos c8] at kk
        exact kk
      · refine ex_pc (if_neg c8) ?_
        refine ex_s (am_nb (m := 2) (pc1 := 28) (ls1 := [(0, .ref 157), (1, .int x0), (2, .int x1)]) (st1 := [.int 0]) (H1 := H3) (k1 := 0) (n1 := 0) (by with_unfolding_all rfl)) ?_
        rw [if_neg c8] at kk
        exact kk
    · have e := (if_neg c2).symm.trans e
      refine ex_pc (if_neg c2) ?_
      refine ex_s (am_nb (m := 2) (pc1 := 32) (ls1 := [(0, .ref 157), (1, .int x0), (2, .int x1)]) (st1 := [.int 8, .int x1]) (H1 := H) (k1 := 0) (n1 := 0) (by with_unfolding_all rfl)) ?_
      refine ex_s (st_icmp rfl) ?_
      by_cases c9 : x1 = 8
      · have e := (if_pos c9).symm.trans e
        refine ex_pc (if_pos c9) ?_
        refine ex_s (am_nb (m := 5) (pc1 := 42) (ls1 := [(0, .ref 157), (1, .int x0), (2, .int x1)]) (st1 := [.int (xmax 0 (x0 - 1))]) (H1 := H) (k1 := 0) (n1 := 0) (by with_unfolding_all rfl)) ?_
        cases e
        exact ex_r (st_iret rfl rfl rfl) hS
      · have e := (if_neg c9).symm.trans e
        refine ex_pc (if_neg c9) ?_
        refine ex_s (am_nb (m := 2) (pc1 := 46) (ls1 := [(0, .ref 157), (1, .int x0), (2, .int x1)]) (st1 := [.int 9, .int x1]) (H1 := H) (k1 := 0) (n1 := 0) (by with_unfolding_all rfl)) ?_
        refine ex_s (st_icmp rfl) ?_
        by_cases c10 : x1 = 9
        · have e := (if_pos c10).symm.trans e
          refine ex_pc (if_pos c10) ?_
          refine ex_s (am_nb (m := 9) (pc1 := 65) (ls1 := [(0, .ref 157), (1, .int x0), (2, .int x1)]) (st1 := [.int (xmin 10000 (((x0 / 8) * 8) + 8))]) (H1 := H) (k1 := 0) (n1 := 0) (by with_unfolding_all rfl)) ?_
          cases e
          exact ex_r (st_iret rfl rfl rfl) hS
        · have e := (if_neg c10).symm.trans e
          refine ex_pc (if_neg c10) ?_
          refine ex_s (am_nb (m := 2) (pc1 := 69) (ls1 := [(0, .ref 157), (1, .int x0), (2, .int x1)]) (st1 := [.int 32, .int x1]) (H1 := H) (k1 := 0) (n1 := 0) (by with_unfolding_all rfl)) ?_
          refine ex_s (st_icmp rfl) ?_
          by_cases c13 : x1 < 32
          · have e := (if_pos c13).symm.trans e
            refine ex_pc (if_pos c13) ?_
            refine ex_s (am_nb (m := 1) (pc1 := 91) (ls1 := [(0, .ref 157), (1, .int x0), (2, .int x1)]) (st1 := [.int x0]) (H1 := H) (k1 := 0) (n1 := 0) (by with_unfolding_all rfl)) ?_
            cases e
            exact ex_r (st_iret rfl rfl rfl) hS
          · have e := (if_neg c13).symm.trans e
            refine ex_pc (if_neg c13) ?_
            refine ex_s (am_nb (m := 2) (pc1 := 75) (ls1 := [(0, .ref 157), (1, .int x0), (2, .int x1)]) (st1 := [.int 126, .int x1]) (H1 := H) (k1 := 0) (n1 := 0) (by with_unfolding_all rfl)) ?_
            refine ex_s (st_icmp rfl) ?_
            by_cases c15 : 126 < x1
            · have e := (if_pos c15).symm.trans e
              refine ex_pc (if_pos c15) ?_
              refine ex_s (am_nb (m := 1) (pc1 := 91) (ls1 := [(0, .ref 157), (1, .int x0), (2, .int x1)]) (st1 := [.int x0]) (H1 := H) (k1 := 0) (n1 := 0) (by with_unfolding_all rfl)) ?_
              cases e
              exact ex_r (st_iret rfl rfl rfl) hS
            · have e := (if_neg c15).symm.trans e
              refine ex_pc (if_neg c15) ?_
              refine ex_s (am_nb (m := 6) (pc1 := 91) (ls1 := [(0, .ref 157), (1, .int x0), (2, .int x1)]) (st1 := [.int (xmin 10000 (x0 + 1))]) (H1 := H) (k1 := 0) (n1 := 0) (by with_unfolding_all rfl)) ?_
              cases e
              exact ex_r (st_iret rfl rfl rfl) hS

set_option maxRecDepth 100000 in
theorem tj356_109 {sL : Nat} {sx : Nat → Int32} {h b N : Nat} {T : List am_C} {r : Int32} {a' : xA} {q2 : Int32} {q3 : Int32} {a : xA} {H : am_H} (hS : xS h b T a H) (e : j356_109 N h b q2 q3 a = some (r, a')) : am_E sL sx am_cs 356 109 [(0, .ref 157), (2, .int q2), (3, .int q3)] [] H (some (.int r)) (fun H1 => xS h b T a' H1) := by
  unfold j356_109 at e
  refine ex_s (am_nb (m := 2) (pc1 := 111) (ls1 := [(0, .ref 157), (2, .int q2), (3, .int q3)]) (st1 := [.int q3, .ref 157]) (H1 := H) (k1 := 0) (n1 := 0) (by with_unfolding_all rfl)) ?_
  obtain ⟨a28, ha28, e⟩ := xw_some e
  refine xe_put (w := q3) hS rfl rfl (by decide) rfl rfl rfl rfl (fun H29 s30 => ?_)
  have s30 : xS h b T a28 H29 := by rw [ha28]; exact s30
  refine ex_s (am_nb (m := 1) (pc1 := 115) (ls1 := [(0, .ref 157), (2, .int q2), (3, .int q3)]) (st1 := [.int q2]) (H1 := H29) (k1 := 0) (n1 := 0) (by with_unfolding_all rfl)) ?_
  cases e
  exact ex_r (st_iret rfl rfl rfl) s30

set_option maxRecDepth 100000 in
theorem tj356_103 {sL : Nat} {sx : Nat → Int32} {h b N : Nat} {T : List am_C} {r : Int32} {a' : xA} {q1 : Int32} {q3 : Int32} {a : xA} {H : am_H} (hS : xS h b T a H) (e : j356_103 N h b q1 q3 a = some (r, a')) : am_E sL sx am_cs 356 103 [(0, .ref 157), (1, .int q1), (3, .int q3)] [] H (some (.int r)) (fun H1 => xS h b T a' H1) := by
  unfold j356_103 at e
  refine ex_s (am_nb (m := 2) (pc1 := 105) (ls1 := [(0, .ref 157), (1, .int q1), (3, .int q3)]) (st1 := [.int q1, .ref 157]) (H1 := H) (k1 := 0) (n1 := 0) (by with_unfolding_all rfl)) ?_
  obtain ⟨r26, a27, e25, e⟩ := xb2_some e
  refine ex_cv1 (as := [.int q1]) (rest := []) rfl rfl rfl rfl (hS.obj rfl (by decide)) rfl (by with_unfolding_all rfl) (by with_unfolding_all rfl) (tf352_queue hS e25) (fun H23 s24 => ?_)
  refine ex_s (am_nb (m := 1) (pc1 := 109) (ls1 := [(2, .int r26), (0, .ref 157), (1, .int q1), (3, .int q3)]) (st1 := []) (H1 := H23) (k1 := 0) (n1 := 0) (by with_unfolding_all rfl)) ?_
  exact le_E (l1 := [(0, .ref 157), (2, .int r26), (3, .int q3)]) ⟨rfl, rfl, rfl, trivial⟩ rfl (tj356_109  s24 e)

set_option maxRecDepth 100000 in
theorem tl356_80 {sL : Nat} {sx : Nat → Int32} {h b N : Nat} {T : List am_C} {R : Option Value} {F : am_H → Prop} {w3 : Int32} {z : Nat × Int32 × xA} (k0 : z.1 = 0 → ∀ H2 : am_H, xS h b T z.2.2 H2 → am_E sL sx am_cs 356 100 [(0, .ref 157), (2, .int z.2.1), (3, .int w3)] [] H2 R F) : ∀ (n : Nat) (v2 : Int32) (v4 : Int32) (a : xA) (H : am_H), xS h b T a H → l356_80 N h b w3 n v2 v4 a = some z → am_E sL sx am_cs 356 80 [(0, .ref 157), (2, .int v2), (3, .int w3), (4, .int v4)] [] H R F := by
  intro n
  induction n with
  | zero =>
    intro v2 v4 a H hS e
    cases e
  | succ n ih =>
    intro v2 v4 a H hS e
    unfold l356_80 at e
    refine ex_s (am_nb (m := 1) (pc1 := 82) (ls1 := [(0, .ref 157), (2, .int v2), (3, .int w3), (4, .int v4)]) (st1 := [.int v4]) (H1 := H) (k1 := 0) (n1 := 0) (by with_unfolding_all rfl)) ?_
    refine ex_s (st_if rfl) ?_
    by_cases c31 : v4 ≤ 0
    · have e := (if_pos c31).symm.trans e
      refine ex_pc (if_pos c31) ?_
      cases e
      exact le_E (l1 := [(0, .ref 157), (2, .int v2), (3, .int w3)]) ⟨rfl, rfl, rfl, trivial⟩ rfl (k0 rfl H hS)
    · have e := (if_neg c31).symm.trans e
      refine ex_pc (if_neg c31) ?_
      refine ex_s (am_nb (m := 3) (pc1 := 89) (ls1 := [(0, .ref 157), (2, .int v2), (3, .int w3), (4, .int v4)]) (st1 := [.int 32, .ref 157, .int v2]) (H1 := H) (k1 := 0) (n1 := 0) (by with_unfolding_all rfl)) ?_
      obtain ⟨r35, a36, e34, e⟩ := xb2_some e
      refine ex_cv1 (as := [.int 32]) (rest := [.int v2]) rfl rfl rfl rfl (hS.obj rfl (by decide)) rfl (by with_unfolding_all rfl) (by with_unfolding_all rfl) (tf352_queue hS e34) (fun H32 s33 => ?_)
      refine ex_s (am_nb (m := 4) (pc1 := 80) (ls1 := [(4, .int (v4 + (-1))), (2, .int (v2 + r35)), (0, .ref 157), (3, .int w3)]) (st1 := []) (H1 := H32) (k1 := 0) (n1 := 0) (by with_unfolding_all rfl)) ?_
      exact le_E (l1 := [(0, .ref 157), (2, .int (v2 + r35)), (3, .int w3), (4, .int (v4 + (-1)))]) ⟨rfl, rfl, rfl, rfl, trivial⟩ rfl (ih (v2 + r35) (v4 + (-1)) a36 H32 s33 e)

set_option maxRecDepth 100000 in
theorem tj356_44 {sL : Nat} {sx : Nat → Int32} {h b N : Nat} {T : List am_C} {r : Int32} {a' : xA} {q1 : Int32} {q2 : Int32} {q3 : Int32} {a : xA} {H : am_H} (hS : xS h b T a H) (e : j356_44 N h b q1 q2 q3 a = some (r, a')) : am_E sL sx am_cs 356 44 [(0, .ref 157), (1, .int q1), (2, .int q2), (3, .int q3)] [] H (some (.int r)) (fun H1 => xS h b T a' H1) := by
  unfold j356_44 at e
  refine ex_s (am_nb (m := 2) (pc1 := 47) (ls1 := [(0, .ref 157), (1, .int q1), (2, .int q2), (3, .int q3)]) (st1 := [.int 9, .int q1]) (H1 := H) (k1 := 0) (n1 := 0) (by with_unfolding_all rfl)) ?_
  refine ex_s (st_icmp rfl) ?_
  by_cases c15 : q1 = 9
  · have e := (if_pos c15).symm.trans e
    refine ex_pc (if_pos c15) ?_
    refine ex_s (am_nb (m := 2) (pc1 := 54) (ls1 := [(0, .ref 157), (1, .int q1), (2, .int q2), (3, .int q3)]) (st1 := [.int 128, .ref 157]) (H1 := H) (k1 := 0) (n1 := 0) (by with_unfolding_all rfl)) ?_
    obtain ⟨r19, a20, e18, e⟩ := xb2_some e
    refine ex_cv1 (as := [.int 128]) (rest := []) rfl rfl rfl rfl (hS.obj rfl (by decide)) rfl (by with_unfolding_all rfl) (by with_unfolding_all rfl) (tf358_flag hS e18) (fun H16 s17 => ?_)
    refine ex_s (st_if rfl) ?_
    by_cases c22 : r19 = 0
    · have e := (if_pos c22).symm.trans e
      refine ex_pc (if_pos c22) ?_
      exact le_E (l1 := [(0, .ref 157), (1, .int q1), (3, .int q3)]) ⟨rfl, rfl, rfl, trivial⟩ rfl (tj356_103  s17 e)
    · have e := (if_neg c22).symm.trans e
      refine ex_pc (if_neg c22) ?_
      refine ex_s (am_nb (m := 1) (pc1 := 61) (ls1 := [(0, .ref 157), (1, .int q1), (2, .int q2), (3, .int q3)]) (st1 := [.ref 157]) (H1 := H16) (k1 := 0) (n1 := 0) (by with_unfolding_all rfl)) ?_
      refine xe_get (v := .int (a20 157 59)) s17 rfl rfl (by decide) rfl ?_
      refine ex_s (am_nb (m := 7) (pc1 := 74) (ls1 := [(0, .ref 157), (1, .int q1), (2, .int q2), (3, .int q3)]) (st1 := [.ref 157, .int ((((a20 157 59) / 8) * 8) + 8)]) (H1 := H16) (k1 := 0) (n1 := 0) (by with_unfolding_all rfl)) ?_
      refine xe_get (v := .int (a20 157 59)) s17 rfl rfl (by decide) rfl ?_
      refine ex_s (am_nb (m := 2) (pc1 := 80) (ls1 := [(4, .int (((((a20 157 59) / 8) * 8) + 8) - (a20 157 59))), (0, .ref 157), (1, .int q1), (2, .int q2), (3, .int q3)]) (st1 := []) (H1 := H16) (k1 := 0) (n1 := 0) (by with_unfolding_all rfl)) ?_
      obtain ⟨z37, e38, e⟩ := Option.bind_eq_some_iff.mp e
      refine le_E (l1 := [(0, .ref 157), (2, .int q2), (3, .int q3), (4, .int (((((a20 157 59) / 8) * 8) + 8) - (a20 157 59)))]) ⟨rfl, rfl, rfl, rfl, trivial⟩ rfl (tl356_80 (z := z37)  (fun uz37_0 Hz370 sz370 => ?_) N q2 (((((a20 157 59) / 8) * 8) + 8) - (a20 157 59)) a20 H16 s17 e38)
      refine ex_s (am_nb (m := 1) (pc1 := 109) (ls1 := [(0, .ref 157), (2, .int z37.2.1), (3, .int q3)]) (st1 := []) (H1 := Hz370) (k1 := 0) (n1 := 0) (by with_unfolding_all rfl)) ?_
      exact le_E (l1 := [(0, .ref 157), (2, .int z37.2.1), (3, .int q3)]) ⟨rfl, rfl, rfl, trivial⟩ rfl (tj356_109  sz370 e)
  · have e := (if_neg c15).symm.trans e
    refine ex_pc (if_neg c15) ?_
    exact le_E (l1 := [(0, .ref 157), (1, .int q1), (3, .int q3)]) ⟨rfl, rfl, rfl, trivial⟩ rfl (tj356_103  hS e)

set_option maxRecDepth 100000 in
theorem tf356_putOne {sL : Nat} {sx : Nat → Int32} {h b N : Nat} {T : List am_C} {r : Int32} {a' : xA} {x0 : Int32} {a : xA} {H : am_H} (hS : xS h b T a H) (e : f356_putOne N h b x0 a = some (r, a')) : am_E sL sx am_cs 356 0 [(0, .ref 157), (1, .int x0)] [] H (some (.int r)) (fun H1 => xS h b T a' H1) := by
  unfold f356_putOne at e
  refine ex_s (am_nb (m := 4) (pc1 := 4) (ls1 := [(2, .int 0), (0, .ref 157), (1, .int x0)]) (st1 := [.ref 157, .ref 157]) (H1 := H) (k1 := 0) (n1 := 0) (by with_unfolding_all rfl)) ?_
  refine xe_get (v := .int (a 157 59)) hS rfl rfl (by decide) rfl ?_
  refine ex_s (am_nb (m := 1) (pc1 := 8) (ls1 := [(2, .int 0), (0, .ref 157), (1, .int x0)]) (st1 := [.int x0, .int (a 157 59), .ref 157]) (H1 := H) (k1 := 0) (n1 := 0) (by with_unfolding_all rfl)) ?_
  obtain ⟨r4, a5, e3, e⟩ := xb2_some e
  refine ex_cv1 (as := [.int (a 157 59), .int x0]) (rest := []) rfl rfl rfl rfl (hS.obj rfl (by decide)) rfl (by with_unfolding_all rfl) (by with_unfolding_all rfl) (tf357_moved hS e3) (fun H1 s2 => ?_)
  refine ex_s (am_nb (m := 3) (pc1 := 15) (ls1 := [(3, .int r4), (2, .int 0), (0, .ref 157), (1, .int x0)]) (st1 := [.int 10, .int x0]) (H1 := H1) (k1 := 0) (n1 := 0) (by with_unfolding_all rfl)) ?_
  refine ex_s (st_icmp rfl) ?_
  by_cases c7 : x0 = 10
  · have e := (if_pos c7).symm.trans e
    refine ex_pc (if_pos c7) ?_
    refine ex_s (am_nb (m := 2) (pc1 := 21) (ls1 := [(3, .int r4), (2, .int 0), (0, .ref 157), (1, .int x0)]) (st1 := [.int 16, .ref 157]) (H1 := H1) (k1 := 0) (n1 := 0) (by with_unfolding_all rfl)) ?_
    obtain ⟨r11, a12, e10, e⟩ := xb2_some e
    refine ex_cv1 (as := [.int 16]) (rest := []) rfl rfl rfl rfl (s2.obj rfl (by decide)) rfl (by with_unfolding_all rfl) (by with_unfolding_all rfl) (tf358_flag s2 e10) (fun H8 s9 => ?_)
    refine ex_s (st_if rfl) ?_
    by_cases c13 : r11 = 0
    · have e := (if_pos c13).symm.trans e
      refine ex_pc (if_pos c13) ?_
      exact le_E (l1 := [(0, .ref 157), (1, .int x0), (2, .int 0), (3, .int r4)]) ⟨rfl, rfl, rfl, rfl, trivial⟩ rfl (tj356_44  s9 e)
    · have e := (if_neg c13).symm.trans e
      refine ex_pc (if_neg c13) ?_
      refine ex_s (am_nb (m := 2) (pc1 := 30) (ls1 := [(3, .int r4), (2, .int 0), (0, .ref 157), (1, .int x0)]) (st1 := [.int 13, .ref 157]) (H1 := H8) (k1 := 0) (n1 := 0) (by with_unfolding_all rfl)) ?_
      obtain ⟨r42, a43, e41, e⟩ := xb2_some e
      refine ex_cv1 (as := [.int 13]) (rest := []) rfl rfl rfl rfl (s9.obj rfl (by decide)) rfl (by with_unfolding_all rfl) (by with_unfolding_all rfl) (tf352_queue s9 e41) (fun H39 s40 => ?_)
      refine ex_s (am_nb (m := 2) (pc1 := 36) (ls1 := [(3, .int r4), (2, .int 0), (0, .ref 157), (1, .int x0)]) (st1 := [.int 10, .ref 157, .int r42]) (H1 := H39) (k1 := 0) (n1 := 0) (by with_unfolding_all rfl)) ?_
      obtain ⟨r47, a48, e46, e⟩ := xb2_some e
      refine ex_cv1 (as := [.int 10]) (rest := [.int r42]) rfl rfl rfl rfl (s40.obj rfl (by decide)) rfl (by with_unfolding_all rfl) (by with_unfolding_all rfl) (tf352_queue s40 e46) (fun H44 s45 => ?_)
      refine ex_s (am_nb (m := 3) (pc1 := 109) (ls1 := [(2, .int (r42 + r47)), (3, .int r4), (0, .ref 157), (1, .int x0)]) (st1 := []) (H1 := H44) (k1 := 0) (n1 := 0) (by with_unfolding_all rfl)) ?_
      exact le_E (l1 := [(0, .ref 157), (2, .int (r42 + r47)), (3, .int r4)]) ⟨rfl, rfl, rfl, trivial⟩ rfl (tj356_109  s45 e)
  · have e := (if_neg c7).symm.trans e
    refine ex_pc (if_neg c7) ?_
    exact le_E (l1 := [(0, .ref 157), (1, .int x0), (2, .int 0), (3, .int r4)]) ⟨rfl, rfl, rfl, rfl, trivial⟩ rfl (tj356_44  s2 e)

set_option maxRecDepth 100000 in
theorem tl355_19 {sL : Nat} {sx : Nat → Int32} {h b N : Nat} {T : List am_C} {R : Option Value} {F : am_H → Prop} {w1 : Int32} {z : Nat × Int32 × xA} (k0 : z.1 = 0 → ∀ H2 : am_H, xS h b T z.2.2 H2 → am_E sL sx am_cs 355 47 [(2, .int z.2.1)] [] H2 R F) : ∀ (n : Nat) (v2 : Int32) (v3 : Int32) (a : xA) (H : am_H), xS h b T a H → l355_19 N h b w1 n v2 v3 a = some z → am_E sL sx am_cs 355 19 [(0, .ref 157), (1, .int w1), (2, .int v2), (3, .int v3)] [] H R F := by
  intro n
  induction n with
  | zero =>
    intro v2 v3 a H hS e
    cases e
  | succ n ih =>
    intro v2 v3 a H hS e
    unfold l355_19 at e
    refine ex_s (am_nb (m := 2) (pc1 := 21) (ls1 := [(0, .ref 157), (1, .int w1), (2, .int v2), (3, .int v3)]) (st1 := [.int w1, .int v3]) (H1 := H) (k1 := 0) (n1 := 0) (by with_unfolding_all rfl)) ?_
    refine ex_s (st_icmp rfl) ?_
    by_cases c7 : w1 ≤ v3
    · have e := (if_pos c7).symm.trans e
      refine ex_pc (if_pos c7) ?_
      cases e
      exact le_E (l1 := [(2, .int v2)]) ⟨rfl, trivial⟩ rfl (k0 rfl H hS)
    · have e := (if_neg c7).symm.trans e
      refine ex_pc (if_neg c7) ?_
      refine ex_s (am_nb (m := 3) (pc1 := 27) (ls1 := [(0, .ref 157), (1, .int w1), (2, .int v2), (3, .int v3)]) (st1 := [.ref 157, .ref 157, .int v2]) (H1 := H) (k1 := 0) (n1 := 0) (by with_unfolding_all rfl)) ?_
      refine xe_get (v := .ref 158) hS rfl rfl (by decide) rfl ?_
      refine ex_s (am_nb (m := 1) (pc1 := 31) (ls1 := [(0, .ref 157), (1, .int w1), (2, .int v2), (3, .int v3)]) (st1 := [.int v3, .ref 158, .ref 157, .int v2]) (H1 := H) (k1 := 0) (n1 := 0) (by with_unfolding_all rfl)) ?_
      obtain ⟨g8, e⟩ := xg_some e
      refine xe_bald hS rfl rfl g8 ?_
      refine ex_s (am_nb (m := 2) (pc1 := 36) (ls1 := [(0, .ref 157), (1, .int w1), (2, .int v2), (3, .int v3)]) (st1 := [.int ((a 158 (v3.toNatClampNeg)) &&& 255), .ref 157, .int v2]) (H1 := H) (k1 := 0) (n1 := 0) (by with_unfolding_all rfl)) ?_
      obtain ⟨r12, a13, e11, e⟩ := xb2_some e
      refine ex_cv1 (as := [.int ((a 158 (v3.toNatClampNeg)) &&& 255)]) (rest := [.int v2]) rfl rfl rfl rfl (hS.obj rfl (by decide)) rfl (by with_unfolding_all rfl) (by with_unfolding_all rfl) (tf356_putOne hS e11) (fun H9 s10 => ?_)
      refine ex_s (am_nb (m := 4) (pc1 := 19) (ls1 := [(3, .int (v3 + 1)), (2, .int (v2 + r12)), (0, .ref 157), (1, .int w1)]) (st1 := []) (H1 := H9) (k1 := 0) (n1 := 0) (by with_unfolding_all rfl)) ?_
      exact le_E (l1 := [(0, .ref 157), (1, .int w1), (2, .int (v2 + r12)), (3, .int (v3 + 1))]) ⟨rfl, rfl, rfl, rfl, trivial⟩ rfl (ih (v2 + r12) (v3 + 1) a13 H9 s10 e)

set_option maxRecDepth 100000 in
theorem tf355_write {sL : Nat} {sx : Nat → Int32} {h b N : Nat} {T : List am_C} {r : Int32} {a' : xA} {a : xA} {H : am_H} (hS : xS h b T a H) (e : f355_write N h b a = some (r, a')) : am_E sL sx am_cs 355 0 [(0, .ref 157)] [] H (some (.int r)) (fun H1 => xS h b T a' H1) := by
  unfold f355_write at e
  refine ex_s (am_nb (m := 2) (pc1 := 2) (ls1 := [(0, .ref 157)]) (st1 := [.int 0, .ref 157]) (H1 := H) (k1 := 0) (n1 := 0) (by with_unfolding_all rfl)) ?_
  obtain ⟨a1, ha1, e⟩ := xw_some e
  refine xe_put (w := 0) hS rfl rfl (by decide) rfl rfl rfl rfl (fun H2 s3 => ?_)
  have s3 : xS h b T a1 H2 := by rw [ha1]; exact s3
  refine ex_s (am_nb (m := 1) (pc1 := 6) (ls1 := [(0, .ref 157)]) (st1 := [.ref 157]) (H1 := H2) (k1 := 0) (n1 := 0) (by with_unfolding_all rfl)) ?_
  refine xe_get (v := .int (a1 157 2)) s3 rfl rfl (by decide) rfl ?_
  refine ex_s (am_nb (m := 3) (pc1 := 12) (ls1 := [(1, .int (a1 157 2)), (0, .ref 157)]) (st1 := [.int 0, .ref 157]) (H1 := H2) (k1 := 0) (n1 := 0) (by with_unfolding_all rfl)) ?_
  obtain ⟨a4, ha4, e⟩ := xw_some e
  refine xe_put (w := 0) s3 rfl rfl (by decide) rfl rfl rfl rfl (fun H5 s6 => ?_)
  have s6 : xS h b T a4 H5 := by rw [ha4]; exact s6
  refine ex_s (am_nb (m := 4) (pc1 := 19) (ls1 := [(3, .int 0), (2, .int 0), (1, .int (a1 157 2)), (0, .ref 157)]) (st1 := []) (H1 := H5) (k1 := 0) (n1 := 0) (by with_unfolding_all rfl)) ?_
  obtain ⟨z14, e15, e⟩ := Option.bind_eq_some_iff.mp e
  refine le_E (l1 := [(0, .ref 157), (1, .int (a1 157 2)), (2, .int 0), (3, .int 0)]) ⟨rfl, rfl, rfl, rfl, trivial⟩ rfl (tl355_19 (z := z14)  (fun uz14_0 Hz140 sz140 => ?_) N 0 0 a4 H5 s6 e15)
  refine ex_s (am_nb (m := 1) (pc1 := 48) (ls1 := [(2, .int z14.2.1)]) (st1 := [.int z14.2.1]) (H1 := Hz140) (k1 := 0) (n1 := 0) (by with_unfolding_all rfl)) ?_
  cases e
  exact ex_r (st_iret rfl rfl rfl) sz140

set_option maxRecDepth 100000 in
theorem tj359_152 {sL : Nat} {sx : Nat → Int32} {h b N : Nat} {T : List am_C} {R : Option Value} {F : am_H → Prop} {w1 : Int32} {z : Nat × Int32 × Int32 × xA} {rc : Int32 → Int32 → xA → Option (Nat × Int32 × Int32 × xA)} (k0 : z.1 = 0 → ∀ H2 : am_H, xS h b T z.2.2.2 H2 → am_E sL sx am_cs 359 158 [(0, .ref 157), (2, .int z.2.1), (3, .int z.2.2.1)] [] H2 R F) (ih : ∀ (v2 : Int32) (v3 : Int32) (a : xA) (H : am_H), xS h b T a H → rc v2 v3 a = some z → am_E sL sx am_cs 359 111 [(0, .ref 157), (1, .int w1), (2, .int v2), (3, .int v3)] [] H R F) {q2 : Int32} {q3 : Int32} {a : xA} {H : am_H} (hS : xS h b T a H) (e : j359_152 N h b rc w1 q2 q3 a = some z) : am_E sL sx am_cs 359 152 [(0, .ref 157), (1, .int w1), (2, .int q2), (3, .int q3)] [] H R F := by
  unfold j359_152 at e
  refine ex_s (am_nb (m := 2) (pc1 := 111) (ls1 := [(2, .int (q2 + 1)), (0, .ref 157), (1, .int w1), (3, .int q3)]) (st1 := []) (H1 := H) (k1 := 0) (n1 := 0) (by with_unfolding_all rfl)) ?_
  exact le_E (l1 := [(0, .ref 157), (1, .int w1), (2, .int (q2 + 1)), (3, .int q3)]) ⟨rfl, rfl, rfl, rfl, trivial⟩ rfl (ih (q2 + 1) q3 a H hS e)

set_option maxRecDepth 100000 in
theorem tl359_111 {sL : Nat} {sx : Nat → Int32} {h b N : Nat} {T : List am_C} {R : Option Value} {F : am_H → Prop} {w1 : Int32} {z : Nat × Int32 × Int32 × xA} (k0 : z.1 = 0 → ∀ H2 : am_H, xS h b T z.2.2.2 H2 → am_E sL sx am_cs 359 158 [(0, .ref 157), (2, .int z.2.1), (3, .int z.2.2.1)] [] H2 R F) : ∀ (n : Nat) (v2 : Int32) (v3 : Int32) (a : xA) (H : am_H), xS h b T a H → l359_111 N h b w1 n v2 v3 a = some z → am_E sL sx am_cs 359 111 [(0, .ref 157), (1, .int w1), (2, .int v2), (3, .int v3)] [] H R F := by
  intro n
  induction n with
  | zero =>
    intro v2 v3 a H hS e
    cases e
  | succ n ih =>
    intro v2 v3 a H hS e
    unfold l359_111 at e
    refine ex_s (am_nb (m := 2) (pc1 := 113) (ls1 := [(0, .ref 157), (1, .int w1), (2, .int v2), (3, .int v3)]) (st1 := [.ref 157, .int v2]) (H1 := H) (k1 := 0) (n1 := 0) (by with_unfolding_all rfl)) ?_
    refine xe_get (v := .int (a 157 67)) hS rfl rfl (by decide) rfl ?_
    refine ex_s (st_icmp rfl) ?_
    by_cases c20 : (a 157 67) ≤ v2
    · have e := (if_pos c20).symm.trans e
      refine ex_pc (if_pos c20) ?_
      cases e
      exact le_E (l1 := [(0, .ref 157), (2, .int v2), (3, .int v3)]) ⟨rfl, rfl, rfl, trivial⟩ rfl (k0 rfl H hS)
    · have e := (if_neg c20).symm.trans e
      refine ex_pc (if_neg c20) ?_
      refine ex_s (am_nb (m := 2) (pc1 := 121) (ls1 := [(0, .ref 157), (1, .int w1), (2, .int v2), (3, .int v3)]) (st1 := [.int w1, .int v3]) (H1 := H) (k1 := 0) (n1 := 0) (by with_unfolding_all rfl)) ?_
      refine ex_s (st_icmp rfl) ?_
      by_cases c21 : w1 ≤ v3
      · have e := (if_pos c21).symm.trans e
        refine ex_pc (if_pos c21) ?_
        cases e
        exact le_E (l1 := [(0, .ref 157), (2, .int v2), (3, .int v3)]) ⟨rfl, rfl, rfl, trivial⟩ rfl (k0 rfl H hS)
      · have e := (if_neg c21).symm.trans e
        refine ex_pc (if_neg c21) ?_
        refine ex_s (am_nb (m := 1) (pc1 := 125) (ls1 := [(0, .ref 157), (1, .int w1), (2, .int v2), (3, .int v3)]) (st1 := [.ref 157]) (H1 := H) (k1 := 0) (n1 := 0) (by with_unfolding_all rfl)) ?_
        refine xe_get (v := .ref 186) hS rfl rfl (by decide) rfl ?_
        refine ex_s (am_nb (m := 1) (pc1 := 129) (ls1 := [(0, .ref 157), (1, .int w1), (2, .int v2), (3, .int v3)]) (st1 := [.int v2, .ref 186]) (H1 := H) (k1 := 0) (n1 := 0) (by with_unfolding_all rfl)) ?_
        obtain ⟨g22, e⟩ := xg_some e
        refine xe_iald hS rfl rfl g22 ?_
        refine ex_s (am_nb (m := 1) (pc1 := 133) (ls1 := [(0, .ref 157), (1, .int w1), (2, .int v2), (3, .int v3)]) (st1 := [.int 256, .int (a 186 (v2.toNatClampNeg))]) (H1 := H) (k1 := 0) (n1 := 0) (by with_unfolding_all rfl)) ?_
        refine ex_s (st_icmp rfl) ?_
        by_cases c24 : (a 186 (v2.toNatClampNeg)) = 256
        · have e := (if_pos c24).symm.trans e
          refine ex_pc (if_pos c24) ?_
          exact le_E (l1 := [(0, .ref 157), (1, .int w1), (2, .int v2), (3, .int v3)]) ⟨rfl, rfl, rfl, rfl, trivial⟩ rfl (tj359_152 k0 ih  hS e)
        · have e := (if_neg c24).symm.trans e
          refine ex_pc (if_neg c24) ?_
          refine ex_s (am_nb (m := 1) (pc1 := 137) (ls1 := [(0, .ref 157), (1, .int w1), (2, .int v2), (3, .int v3)]) (st1 := [.ref 157]) (H1 := H) (k1 := 0) (n1 := 0) (by with_unfolding_all rfl)) ?_
          refine xe_get (v := .ref 159) hS rfl rfl (by decide) rfl ?_
          refine ex_s (am_nb (m := 2) (pc1 := 142) (ls1 := [(0, .ref 157), (1, .int w1), (2, .int v2), (3, .int v3)]) (st1 := [.ref 157, .int v3, .ref 159]) (H1 := H) (k1 := 0) (n1 := 0) (by with_unfolding_all rfl)) ?_
          refine xe_get (v := .ref 186) hS rfl rfl (by decide) rfl ?_
          refine ex_s (am_nb (m := 1) (pc1 := 146) (ls1 := [(0, .ref 157), (1, .int w1), (2, .int v2), (3, .int v3)]) (st1 := [.int v2, .ref 186, .int v3, .ref 159]) (H1 := H) (k1 := 0) (n1 := 0) (by with_unfolding_all rfl)) ?_
          refine xe_iald hS rfl rfl g22 ?_
          refine ex_s (am_nb (m := 1) (pc1 := 148) (ls1 := [(0, .ref 157), (1, .int w1), (2, .int v2), (3, .int v3)]) (st1 := [.int ((a 186 (v2.toNatClampNeg)).toInt8.toInt32), .int v3, .ref 159]) (H1 := H) (k1 := 0) (n1 := 0) (by with_unfolding_all rfl)) ?_
          obtain ⟨g28, e⟩ := xg_some e
          obtain ⟨a25, ha25, e⟩ := xw_some e
          refine xe_bast hS rfl rfl g28 (fun H26 s27 => ?_)
          have s27 : xS h b T a25 H26 := by rw [ha25]; exact s27
          refine ex_s (am_nb (m := 1) (pc1 := 152) (ls1 := [(3, .int (v3 + 1)), (0, .ref 157), (1, .int w1), (2, .int v2)]) (st1 := []) (H1 := H26) (k1 := 0) (n1 := 0) (by with_unfolding_all rfl)) ?_
          exact le_E (l1 := [(0, .ref 157), (1, .int w1), (2, .int v2), (3, .int (v3 + 1))]) ⟨rfl, rfl, rfl, rfl, trivial⟩ rfl (tj359_152 k0 ih  s27 e)

set_option maxRecDepth 100000 in
theorem tl359_161 {sL : Nat} {sx : Nat → Int32} {h b N : Nat} {T : List am_C} {R : Option Value} {F : am_H → Prop} {w2 : Int32} {w3 : Int32} {z : Nat × xA} (k0 : z.1 = 0 → ∀ H2 : am_H, xS h b T z.2 H2 → am_E sL sx am_cs 359 192 [(0, .ref 157), (2, .int w2), (3, .int w3)] [] H2 R F) : ∀ (n : Nat) (v4 : Int32) (a : xA) (H : am_H), xS h b T a H → l359_161 N h b w2 w3 n v4 a = some z → am_E sL sx am_cs 359 161 [(0, .ref 157), (2, .int w2), (3, .int w3), (4, .int v4)] [] H R F := by
  intro n
  induction n with
  | zero =>
    intro v4 a H hS e
    cases e
  | succ n ih =>
    intro v4 a H hS e
    unfold l359_161 at e
    refine ex_s (am_nb (m := 2) (pc1 := 164) (ls1 := [(0, .ref 157), (2, .int w2), (3, .int w3), (4, .int v4)]) (st1 := [.ref 157, .int v4]) (H1 := H) (k1 := 0) (n1 := 0) (by with_unfolding_all rfl)) ?_
    refine xe_get (v := .int (a 157 67)) hS rfl rfl (by decide) rfl ?_
    refine ex_s (st_icmp rfl) ?_
    by_cases c31 : (a 157 67) ≤ v4
    · have e := (if_pos c31).symm.trans e
      refine ex_pc (if_pos c31) ?_
      cases e
      exact le_E (l1 := [(0, .ref 157), (2, .int w2), (3, .int w3)]) ⟨rfl, rfl, rfl, trivial⟩ rfl (k0 rfl H hS)
    · have e := (if_neg c31).symm.trans e
      refine ex_pc (if_neg c31) ?_
      refine ex_s (am_nb (m := 1) (pc1 := 171) (ls1 := [(0, .ref 157), (2, .int w2), (3, .int w3), (4, .int v4)]) (st1 := [.ref 157]) (H1 := H) (k1 := 0) (n1 := 0) (by with_unfolding_all rfl)) ?_
      refine xe_get (v := .ref 186) hS rfl rfl (by decide) rfl ?_
      refine ex_s (am_nb (m := 4) (pc1 := 179) (ls1 := [(0, .ref 157), (2, .int w2), (3, .int w3), (4, .int v4)]) (st1 := [.ref 157, .int (v4 - w2), .ref 186]) (H1 := H) (k1 := 0) (n1 := 0) (by with_unfolding_all rfl)) ?_
      refine xe_get (v := .ref 186) hS rfl rfl (by decide) rfl ?_
      refine ex_s (am_nb (m := 1) (pc1 := 184) (ls1 := [(0, .ref 157), (2, .int w2), (3, .int w3), (4, .int v4)]) (st1 := [.int v4, .ref 186, .int (v4 - w2), .ref 186]) (H1 := H) (k1 := 0) (n1 := 0) (by with_unfolding_all rfl)) ?_
      obtain ⟨g32, e⟩ := xg_some e
      refine xe_iald hS rfl rfl g32 ?_
      obtain ⟨g36, e⟩ := xg_some e
      obtain ⟨a33, ha33, e⟩ := xw_some e
      refine xe_iast hS rfl rfl g36 (fun H34 s35 => ?_)
      have s35 : xS h b T a33 H34 := by rw [ha33]; exact s35
      refine ex_s (am_nb (m := 2) (pc1 := 161) (ls1 := [(4, .int (v4 + 1)), (0, .ref 157), (2, .int w2), (3, .int w3)]) (st1 := []) (H1 := H34) (k1 := 0) (n1 := 0) (by with_unfolding_all rfl)) ?_
      exact le_E (l1 := [(0, .ref 157), (2, .int w2), (3, .int w3), (4, .int (v4 + 1))]) ⟨rfl, rfl, rfl, rfl, trivial⟩ rfl (ih (v4 + 1) a33 H34 s35 e)

set_option maxRecDepth 100000 in
theorem tj359_158 {sL : Nat} {sx : Nat → Int32} {h b N : Nat} {T : List am_C} {r : Int32} {a' : xA} {q2 : Int32} {q3 : Int32} {a : xA} {H : am_H} (hS : xS h b T a H) (e : j359_158 N h b q2 q3 a = some (r, a')) : am_E sL sx am_cs 359 158 [(0, .ref 157), (2, .int q2), (3, .int q3)] [] H (some (.int r)) (fun H1 => xS h b T a' H1) := by
  unfold j359_158 at e
  refine ex_s (am_nb (m := 2) (pc1 := 161) (ls1 := [(4, .int q2), (0, .ref 157), (2, .int q2), (3, .int q3)]) (st1 := []) (H1 := H) (k1 := 0) (n1 := 0) (by with_unfolding_all rfl)) ?_
  obtain ⟨z37, e38, e⟩ := Option.bind_eq_some_iff.mp e
  refine le_E (l1 := [(0, .ref 157), (2, .int q2), (3, .int q3), (4, .int q2)]) ⟨rfl, rfl, rfl, rfl, trivial⟩ rfl (tl359_161 (z := z37)  (fun uz37_0 Hz370 sz370 => ?_) N q2 a H hS e38)
  refine ex_s (am_nb (m := 2) (pc1 := 194) (ls1 := [(0, .ref 157), (2, .int q2), (3, .int q3)]) (st1 := [.ref 157, .ref 157]) (H1 := Hz370) (k1 := 0) (n1 := 0) (by with_unfolding_all rfl)) ?_
  refine xe_get (v := .int (z37.2 157 67)) sz370 rfl rfl (by decide) rfl ?_
  refine ex_s (am_nb (m := 2) (pc1 := 199) (ls1 := [(0, .ref 157), (2, .int q2), (3, .int q3)]) (st1 := [.int ((z37.2 157 67) - q2), .ref 157]) (H1 := Hz370) (k1 := 0) (n1 := 0) (by with_unfolding_all rfl)) ?_
  obtain ⟨a39, ha39, e⟩ := xw_some e
  refine xe_put (w := ((z37.2 157 67) - q2)) sz370 rfl rfl (by decide) rfl rfl rfl rfl (fun H40 s41 => ?_)
  have s41 : xS h b T a39 H40 := by rw [ha39]; exact s41
  refine ex_s (am_nb (m := 2) (pc1 := 204) (ls1 := [(0, .ref 157), (2, .int q2), (3, .int q3)]) (st1 := [.int q3, .ref 157]) (H1 := H40) (k1 := 0) (n1 := 0) (by with_unfolding_all rfl)) ?_
  obtain ⟨a42, ha42, e⟩ := xw_some e
  refine xe_put (w := q3) s41 rfl rfl (by decide) rfl rfl rfl rfl (fun H43 s44 => ?_)
  have s44 : xS h b T a42 H43 := by rw [ha42]; exact s44
  refine ex_s (am_nb (m := 1) (pc1 := 208) (ls1 := [(0, .ref 157), (2, .int q2), (3, .int q3)]) (st1 := [.int q3]) (H1 := H43) (k1 := 0) (n1 := 0) (by with_unfolding_all rfl)) ?_
  cases e
  exact ex_r (st_iret rfl rfl rfl) s44

set_option maxRecDepth 100000 in
theorem tl359_38 {sL : Nat} {sx : Nat → Int32} {h b N : Nat} {T : List am_C} {R : Option Value} {F : am_H → Prop} {w1 : Int32} {z : Nat × Int32 × Int32 × xA} (k0 : z.1 = 0 → ∀ H2 : am_H, xS h b T z.2.2.2 H2 → am_E sL sx am_cs 359 85 [(0, .ref 157), (2, .int z.2.1), (3, .int z.2.2.1)] [] H2 R F) : ∀ (n : Nat) (v2 : Int32) (v3 : Int32) (a : xA) (H : am_H), xS h b T a H → l359_38 N h b w1 n v2 v3 a = some z → am_E sL sx am_cs 359 38 [(0, .ref 157), (1, .int w1), (2, .int v2), (3, .int v3)] [] H R F := by
  intro n
  induction n with
  | zero =>
    intro v2 v3 a H hS e
    cases e
  | succ n ih =>
    intro v2 v3 a H hS e
    unfold l359_38 at e
    refine ex_s (am_nb (m := 2) (pc1 := 40) (ls1 := [(0, .ref 157), (1, .int w1), (2, .int v2), (3, .int v3)]) (st1 := [.ref 157, .int v2]) (H1 := H) (k1 := 0) (n1 := 0) (by with_unfolding_all rfl)) ?_
    refine xe_get (v := .int (a 157 67)) hS rfl rfl (by decide) rfl ?_
    refine ex_s (st_icmp rfl) ?_
    by_cases c47 : (a 157 67) ≤ v2
    · have e := (if_pos c47).symm.trans e
      refine ex_pc (if_pos c47) ?_
      cases e
      exact le_E (l1 := [(0, .ref 157), (2, .int v2), (3, .int v3)]) ⟨rfl, rfl, rfl, trivial⟩ rfl (k0 rfl H hS)
    · have e := (if_neg c47).symm.trans e
      refine ex_pc (if_neg c47) ?_
      refine ex_s (am_nb (m := 2) (pc1 := 48) (ls1 := [(0, .ref 157), (1, .int w1), (2, .int v2), (3, .int v3)]) (st1 := [.int w1, .int v3]) (H1 := H) (k1 := 0) (n1 := 0) (by with_unfolding_all rfl)) ?_
      refine ex_s (st_icmp rfl) ?_
      by_cases c49 : w1 ≤ v3
      · have e := (if_pos c49).symm.trans e
        refine ex_pc (if_pos c49) ?_
        cases e
        exact le_E (l1 := [(0, .ref 157), (2, .int v2), (3, .int v3)]) ⟨rfl, rfl, rfl, trivial⟩ rfl (k0 rfl H hS)
      · have e := (if_neg c49).symm.trans e
        refine ex_pc (if_neg c49) ?_
        refine ex_s (am_nb (m := 1) (pc1 := 52) (ls1 := [(0, .ref 157), (1, .int w1), (2, .int v2), (3, .int v3)]) (st1 := [.ref 157]) (H1 := H) (k1 := 0) (n1 := 0) (by with_unfolding_all rfl)) ?_
        refine xe_get (v := .ref 186) hS rfl rfl (by decide) rfl ?_
        refine ex_s (am_nb (m := 1) (pc1 := 56) (ls1 := [(0, .ref 157), (1, .int w1), (2, .int v2), (3, .int v3)]) (st1 := [.int v2, .ref 186]) (H1 := H) (k1 := 0) (n1 := 0) (by with_unfolding_all rfl)) ?_
        obtain ⟨g50, e⟩ := xg_some e
        refine xe_iald hS rfl rfl g50 ?_
        refine ex_s (am_nb (m := 1) (pc1 := 60) (ls1 := [(0, .ref 157), (1, .int w1), (2, .int v2), (3, .int v3)]) (st1 := [.int 256, .int (a 186 (v2.toNatClampNeg))]) (H1 := H) (k1 := 0) (n1 := 0) (by with_unfolding_all rfl)) ?_
        refine ex_s (st_icmp rfl) ?_
        by_cases c51 : (a 186 (v2.toNatClampNeg)) = 256
        · have e := (if_pos c51).symm.trans e
          refine ex_pc (if_pos c51) ?_
          cases e
          exact le_E (l1 := [(0, .ref 157), (2, .int v2), (3, .int v3)]) ⟨rfl, rfl, rfl, trivial⟩ rfl (k0 rfl H hS)
        · have e := (if_neg c51).symm.trans e
          refine ex_pc (if_neg c51) ?_
          refine ex_s (am_nb (m := 1) (pc1 := 64) (ls1 := [(0, .ref 157), (1, .int w1), (2, .int v2), (3, .int v3)]) (st1 := [.ref 157]) (H1 := H) (k1 := 0) (n1 := 0) (by with_unfolding_all rfl)) ?_
          refine xe_get (v := .ref 159) hS rfl rfl (by decide) rfl ?_
          refine ex_s (am_nb (m := 2) (pc1 := 69) (ls1 := [(0, .ref 157), (1, .int w1), (2, .int v2), (3, .int v3)]) (st1 := [.ref 157, .int v3, .ref 159]) (H1 := H) (k1 := 0) (n1 := 0) (by with_unfolding_all rfl)) ?_
          refine xe_get (v := .ref 186) hS rfl rfl (by decide) rfl ?_
          refine ex_s (am_nb (m := 1) (pc1 := 73) (ls1 := [(0, .ref 157), (1, .int w1), (2, .int v2), (3, .int v3)]) (st1 := [.int v2, .ref 186, .int v3, .ref 159]) (H1 := H) (k1 := 0) (n1 := 0) (by with_unfolding_all rfl)) ?_
          refine xe_iald hS rfl rfl g50 ?_
          refine ex_s (am_nb (m := 1) (pc1 := 75) (ls1 := [(0, .ref 157), (1, .int w1), (2, .int v2), (3, .int v3)]) (st1 := [.int ((a 186 (v2.toNatClampNeg)).toInt8.toInt32), .int v3, .ref 159]) (H1 := H) (k1 := 0) (n1 := 0) (by with_unfolding_all rfl)) ?_
          obtain ⟨g55, e⟩ := xg_some e
          obtain ⟨a52, ha52, e⟩ := xw_some e
          refine xe_bast hS rfl rfl g55 (fun H53 s54 => ?_)
          have s54 : xS h b T a52 H53 := by rw [ha52]; exact s54
          refine ex_s (am_nb (m := 3) (pc1 := 38) (ls1 := [(2, .int (v2 + 1)), (3, .int (v3 + 1)), (0, .ref 157), (1, .int w1)]) (st1 := []) (H1 := H53) (k1 := 0) (n1 := 0) (by with_unfolding_all rfl)) ?_
          exact le_E (l1 := [(0, .ref 157), (1, .int w1), (2, .int (v2 + 1)), (3, .int (v3 + 1))]) ⟨rfl, rfl, rfl, rfl, trivial⟩ rfl (ih (v2 + 1) (v3 + 1) a52 H53 s54 e)

set_option maxRecDepth 100000 in
theorem tj359_85 {sL : Nat} {sx : Nat → Int32} {h b N : Nat} {T : List am_C} {r : Int32} {a' : xA} {q2 : Int32} {q3 : Int32} {a : xA} {H : am_H} (hS : xS h b T a H) (e : j359_85 N h b q2 q3 a = some (r, a')) : am_E sL sx am_cs 359 85 [(0, .ref 157), (2, .int q2), (3, .int q3)] [] H (some (.int r)) (fun H1 => xS h b T a' H1) := by
  unfold j359_85 at e
  refine ex_s (am_nb (m := 2) (pc1 := 87) (ls1 := [(0, .ref 157), (2, .int q2), (3, .int q3)]) (st1 := [.ref 157, .int q2]) (H1 := H) (k1 := 0) (n1 := 0) (by with_unfolding_all rfl)) ?_
  refine xe_get (v := .int (a 157 67)) hS rfl rfl (by decide) rfl ?_
  refine ex_s (st_icmp rfl) ?_
  by_cases c58 : (a 157 67) ≤ q2
  · have e := (if_pos c58).symm.trans e
    refine ex_pc (if_pos c58) ?_
    exact le_E (l1 := [(0, .ref 157), (2, .int q2), (3, .int q3)]) ⟨rfl, rfl, rfl, trivial⟩ rfl (tj359_158  hS e)
  · have e := (if_neg c58).symm.trans e
    refine ex_pc (if_neg c58) ?_
    refine ex_s (am_nb (m := 1) (pc1 := 94) (ls1 := [(0, .ref 157), (2, .int q2), (3, .int q3)]) (st1 := [.ref 157]) (H1 := H) (k1 := 0) (n1 := 0) (by with_unfolding_all rfl)) ?_
    refine xe_get (v := .ref 186) hS rfl rfl (by decide) rfl ?_
    refine ex_s (am_nb (m := 1) (pc1 := 98) (ls1 := [(0, .ref 157), (2, .int q2), (3, .int q3)]) (st1 := [.int q2, .ref 186]) (H1 := H) (k1 := 0) (n1 := 0) (by with_unfolding_all rfl)) ?_
    obtain ⟨g59, e⟩ := xg_some e
    refine xe_iald hS rfl rfl g59 ?_
    refine ex_s (am_nb (m := 1) (pc1 := 102) (ls1 := [(0, .ref 157), (2, .int q2), (3, .int q3)]) (st1 := [.int 256, .int (a 186 (q2.toNatClampNeg))]) (H1 := H) (k1 := 0) (n1 := 0) (by with_unfolding_all rfl)) ?_
    refine ex_s (st_icmp rfl) ?_
    by_cases c61 : (a 186 (q2.toNatClampNeg)) = 256
    · have e := (if_pos c61).symm.trans e
      refine ex_pc (if_pos c61) ?_
      refine ex_s (am_nb (m := 2) (pc1 := 158) (ls1 := [(2, .int (q2 + 1)), (0, .ref 157), (3, .int q3)]) (st1 := []) (H1 := H) (k1 := 0) (n1 := 0) (by with_unfolding_all rfl)) ?_
      exact le_E (l1 := [(0, .ref 157), (2, .int (q2 + 1)), (3, .int q3)]) ⟨rfl, rfl, rfl, trivial⟩ rfl (tj359_158  hS e)
    · have e := (if_neg c61).symm.trans e
      refine ex_pc (if_neg c61) ?_
      exact le_E (l1 := [(0, .ref 157), (2, .int q2), (3, .int q3)]) ⟨rfl, rfl, rfl, trivial⟩ rfl (tj359_158  hS e)

set_option maxRecDepth 100000 in
theorem tf359_read {sL : Nat} {sx : Nat → Int32} {h b N : Nat} {T : List am_C} {r : Int32} {a' : xA} {x0 : Int32} {a : xA} {H : am_H} (hS : xS h b T a H) (e : f359_read N h b x0 a = some (r, a')) : am_E sL sx am_cs 359 0 [(0, .ref 157), (1, .int x0)] [] H (some (.int r)) (fun H1 => xS h b T a' H1) := by
  unfold f359_read at e
  refine ex_s (am_nb (m := 2) (pc1 := 2) (ls1 := [(0, .ref 157), (1, .int x0)]) (st1 := [.int 0, .ref 157]) (H1 := H) (k1 := 0) (n1 := 0) (by with_unfolding_all rfl)) ?_
  obtain ⟨a1, ha1, e⟩ := xw_some e
  refine xe_put (w := 0) hS rfl rfl (by decide) rfl rfl rfl rfl (fun H2 s3 => ?_)
  have s3 : xS h b T a1 H2 := by rw [ha1]; exact s3
  refine ex_s (am_nb (m := 2) (pc1 := 7) (ls1 := [(0, .ref 157), (1, .int x0)]) (st1 := [.int 1, .int x0]) (H1 := H2) (k1 := 0) (n1 := 0) (by with_unfolding_all rfl)) ?_
  refine ex_s (st_icmp rfl) ?_
  by_cases c7 : x0 < 1
  · have e := (if_pos c7).symm.trans e
    refine ex_pc (if_pos c7) ?_
    refine ex_s (am_nb (m := 1) (pc1 := 25) (ls1 := [(0, .ref 157), (1, .int x0)]) (st1 := [.int (-1)]) (H1 := H2) (k1 := 0) (n1 := 0) (by with_unfolding_all rfl)) ?_
    cases e
    exact ex_r (st_iret rfl rfl rfl) s3
  · have e := (if_neg c7).symm.trans e
    refine ex_pc (if_neg c7) ?_
    refine ex_s (am_nb (m := 2) (pc1 := 14) (ls1 := [(0, .ref 157), (1, .int x0)]) (st1 := [.int 300, .int x0]) (H1 := H2) (k1 := 0) (n1 := 0) (by with_unfolding_all rfl)) ?_
    refine ex_s (st_icmp rfl) ?_
    by_cases c10 : 300 < x0
    · have e := (if_pos c10).symm.trans e
      refine ex_pc (if_pos c10) ?_
      refine ex_s (am_nb (m := 1) (pc1 := 25) (ls1 := [(0, .ref 157), (1, .int x0)]) (st1 := [.int (-1)]) (H1 := H2) (k1 := 0) (n1 := 0) (by with_unfolding_all rfl)) ?_
      cases e
      exact ex_r (st_iret rfl rfl rfl) s3
    · have e := (if_neg c10).symm.trans e
      refine ex_pc (if_neg c10) ?_
      refine ex_s (am_nb (m := 1) (pc1 := 18) (ls1 := [(0, .ref 157), (1, .int x0)]) (st1 := [.ref 157]) (H1 := H2) (k1 := 0) (n1 := 0) (by with_unfolding_all rfl)) ?_
      refine xe_get (v := .int (a1 157 67)) s3 rfl rfl (by decide) rfl ?_
      refine ex_s (st_if rfl) ?_
      by_cases c11 : (a1 157 67) = 0
      · have e := (if_pos c11).symm.trans e
        refine ex_pc (if_pos c11) ?_
        refine ex_s (am_nb (m := 1) (pc1 := 25) (ls1 := [(0, .ref 157), (1, .int x0)]) (st1 := [.int (-1)]) (H1 := H2) (k1 := 0) (n1 := 0) (by with_unfolding_all rfl)) ?_
        cases e
        exact ex_r (st_iret rfl rfl rfl) s3
      · have e := (if_neg c11).symm.trans e
        refine ex_pc (if_neg c11) ?_
        refine ex_s (am_nb (m := 6) (pc1 := 32) (ls1 := [(3, .int 0), (2, .int 0), (0, .ref 157), (1, .int x0)]) (st1 := [.int 1, .ref 157]) (H1 := H2) (k1 := 0) (n1 := 0) (by with_unfolding_all rfl)) ?_
        obtain ⟨r15, a16, e14, e⟩ := xb2_some e
        refine ex_cv1 (as := [.int 1]) (rest := []) rfl rfl rfl rfl (s3.obj rfl (by decide)) rfl (by with_unfolding_all rfl) (by with_unfolding_all rfl) (tf358_flag s3 e14) (fun H12 s13 => ?_)
        refine ex_s (st_if rfl) ?_
        by_cases c17 : r15 = 0
        · have e := (if_pos c17).symm.trans e
          refine ex_pc (if_pos c17) ?_
          obtain ⟨z29, e30, e⟩ := Option.bind_eq_some_iff.mp e
          refine le_E (l1 := [(0, .ref 157), (1, .int x0), (2, .int 0), (3, .int 0)]) ⟨rfl, rfl, rfl, rfl, trivial⟩ rfl (tl359_111 (z := z29)  (fun uz29_0 Hz290 sz290 => ?_) N 0 0 a16 H12 s13 e30)
          exact le_E (l1 := [(0, .ref 157), (2, .int z29.2.1), (3, .int z29.2.2.1)]) ⟨rfl, rfl, rfl, trivial⟩ rfl (tj359_158  sz290 e)
        · have e := (if_neg c17).symm.trans e
          refine ex_pc (if_neg c17) ?_
          obtain ⟨z56, e57, e⟩ := Option.bind_eq_some_iff.mp e
          refine le_E (l1 := [(0, .ref 157), (1, .int x0), (2, .int 0), (3, .int 0)]) ⟨rfl, rfl, rfl, rfl, trivial⟩ rfl (tl359_38 (z := z56)  (fun uz56_0 Hz560 sz560 => ?_) N 0 0 a16 H12 s13 e57)
          exact le_E (l1 := [(0, .ref 157), (2, .int z56.2.1), (3, .int z56.2.2.1)]) ⟨rfl, rfl, rfl, trivial⟩ rfl (tj359_85  sz560 e)

set_option maxRecDepth 100000 in
theorem tf363_mode {sL : Nat} {sx : Nat → Int32} {h b N : Nat} {T : List am_C} {r : Int32} {a' : xA} {x0 : Int32} {a : xA} {H : am_H} (hS : xS h b T a H) (e : f363_mode N h b x0 a = some (r, a')) : am_E sL sx am_cs 363 0 [(0, .ref 157), (1, .int x0)] [] H (some (.int r)) (fun H1 => xS h b T a' H1) := by
  unfold f363_mode at e
  refine ex_s (am_nb (m := 1) (pc1 := 1) (ls1 := [(0, .ref 157), (1, .int x0)]) (st1 := [.ref 157]) (H1 := H) (k1 := 0) (n1 := 0) (by with_unfolding_all rfl)) ?_
  refine xe_get (v := .int (a 157 98)) hS rfl rfl (by decide) rfl ?_
  refine ex_s (am_nb (m := 2) (pc1 := 6) (ls1 := [(0, .ref 157), (1, .int x0)]) (st1 := [.int ((a 157 98) &&& x0)]) (H1 := H) (k1 := 0) (n1 := 0) (by with_unfolding_all rfl)) ?_
  have kk : am_E sL sx am_cs 363 14 [(0, .ref 157), (1, .int x0)] [.int (if ((a 157 98) &&& x0) = 0 then (0 : Int32) else (1 : Int32))] H (some (.int r)) (fun H1 => xS h b T a' H1) := by
    obtain ⟨g2, e⟩ := xg_some e
    cases e
    exact ex_r (st_iret rfl rfl (xnar_z g2)) hS
  refine ex_s (st_if rfl) ?_
  by_cases c1 : ((a 157 98) &&& x0) = 0
  · refine ex_pc (if_pos c1) ?_
    refine ex_s (am_nb (m := 1) (pc1 := 14) (ls1 := [(0, .ref 157), (1, .int x0)]) (st1 := [.int 0]) (H1 := H) (k1 := 0) (n1 := 0) (by with_unfolding_all rfl)) ?_
    rw [if_pos c1] at kk
    exact kk
  · refine ex_pc (if_neg c1) ?_
    refine ex_s (am_nb (m := 2) (pc1 := 14) (ls1 := [(0, .ref 157), (1, .int x0)]) (st1 := [.int 1]) (H1 := H) (k1 := 0) (n1 := 0) (by with_unfolding_all rfl)) ?_
    rw [if_neg c1] at kk
    exact kk

set_option maxRecDepth 100000 in
theorem tf362_saves {sL : Nat} {sx : Nat → Int32} {h b N : Nat} {T : List am_C} {a' : xA} {a : xA} {H : am_H} (hS : xS h b T a H) (e : f362_saves N h b a = some a') : am_E sL sx am_cs 362 0 [(0, .ref 157)] [] H none (fun H1 => xS h b T a' H1) := by
  unfold f362_saves at e
  refine ex_s (am_nb (m := 2) (pc1 := 2) (ls1 := [(0, .ref 157)]) (st1 := [.ref 157, .ref 157]) (H1 := H) (k1 := 0) (n1 := 0) (by with_unfolding_all rfl)) ?_
  refine xe_get (v := .int (a 157 93)) hS rfl rfl (by decide) rfl ?_
  obtain ⟨a1, ha1, e⟩ := xw_some e
  refine xe_put (w := (a 157 93)) hS rfl rfl (by decide) rfl rfl rfl rfl (fun H2 s3 => ?_)
  have s3 : xS h b T a1 H2 := by rw [ha1]; exact s3
  refine ex_s (am_nb (m := 2) (pc1 := 10) (ls1 := [(0, .ref 157)]) (st1 := [.ref 157, .ref 157]) (H1 := H2) (k1 := 0) (n1 := 0) (by with_unfolding_all rfl)) ?_
  refine xe_get (v := .int (a1 157 94)) s3 rfl rfl (by decide) rfl ?_
  obtain ⟨a4, ha4, e⟩ := xw_some e
  refine xe_put (w := (a1 157 94)) s3 rfl rfl (by decide) rfl rfl rfl rfl (fun H5 s6 => ?_)
  have s6 : xS h b T a4 H5 := by rw [ha4]; exact s6
  refine ex_s (am_nb (m := 2) (pc1 := 18) (ls1 := [(0, .ref 157)]) (st1 := [.ref 157, .ref 157]) (H1 := H5) (k1 := 0) (n1 := 0) (by with_unfolding_all rfl)) ?_
  refine xe_get (v := .int (a4 157 97)) s6 rfl rfl (by decide) rfl ?_
  obtain ⟨a7, ha7, e⟩ := xw_some e
  refine xe_put (w := (a4 157 97)) s6 rfl rfl (by decide) rfl rfl rfl rfl (fun H8 s9 => ?_)
  have s9 : xS h b T a7 H8 := by rw [ha7]; exact s9
  refine ex_s (am_nb (m := 2) (pc1 := 26) (ls1 := [(0, .ref 157)]) (st1 := [.ref 157, .ref 157]) (H1 := H8) (k1 := 0) (n1 := 0) (by with_unfolding_all rfl)) ?_
  refine xe_get (v := .int (a7 157 109)) s9 rfl rfl (by decide) rfl ?_
  obtain ⟨g13, e⟩ := xg_some e
  obtain ⟨a10, ha10, e⟩ := xw_some e
  refine xe_put (w := (a7 157 109)) s9 rfl rfl (by decide) rfl rfl (xfit_z g13) rfl (fun H11 s12 => ?_)
  have s12 : xS h b T a10 H11 := by rw [ha10]; exact s12
  refine ex_s (am_nb (m := 2) (pc1 := 34) (ls1 := [(0, .ref 157)]) (st1 := [.ref 157, .ref 157]) (H1 := H11) (k1 := 0) (n1 := 0) (by with_unfolding_all rfl)) ?_
  refine xe_get (v := .int (a10 157 110)) s12 rfl rfl (by decide) rfl ?_
  obtain ⟨g17, e⟩ := xg_some e
  obtain ⟨a14, ha14, e⟩ := xw_some e
  refine xe_put (w := (a10 157 110)) s12 rfl rfl (by decide) rfl rfl (xfit_z g17) rfl (fun H15 s16 => ?_)
  have s16 : xS h b T a14 H15 := by rw [ha14]; exact s16
  refine ex_s (am_nb (m := 2) (pc1 := 42) (ls1 := [(0, .ref 157)]) (st1 := [.ref 157, .ref 157]) (H1 := H15) (k1 := 0) (n1 := 0) (by with_unfolding_all rfl)) ?_
  refine xe_get (v := .int (a14 157 103)) s16 rfl rfl (by decide) rfl ?_
  obtain ⟨a18, ha18, e⟩ := xw_some e
  refine xe_put (w := (a14 157 103)) s16 rfl rfl (by decide) rfl rfl rfl rfl (fun H19 s20 => ?_)
  have s20 : xS h b T a18 H19 := by rw [ha18]; exact s20
  refine ex_s (am_nb (m := 3) (pc1 := 52) (ls1 := [(0, .ref 157)]) (st1 := [.int 16, .ref 157, .ref 157]) (H1 := H19) (k1 := 0) (n1 := 0) (by with_unfolding_all rfl)) ?_
  obtain ⟨r24, a25, e23, e⟩ := xb2_some e
  refine ex_cv1 (as := [.int 16]) (rest := [.ref 157]) rfl rfl rfl rfl (s20.obj rfl (by decide)) rfl (by with_unfolding_all rfl) (by with_unfolding_all rfl) (tf363_mode s20 e23) (fun H21 s22 => ?_)
  obtain ⟨g29, e⟩ := xg_some e
  obtain ⟨a26, ha26, e⟩ := xw_some e
  refine xe_put (w := r24) s22 rfl rfl (by decide) rfl rfl (xfit_z g29) rfl (fun H27 s28 => ?_)
  have s28 : xS h b T a26 H27 := by rw [ha26]; exact s28
  cases e
  exact ex_r (st_vret rfl rfl) s28

set_option maxRecDepth 100000 in
theorem tl361_2 {sL : Nat} {sx : Nat → Int32} {h b N : Nat} {T : List am_C} {R : Option Value} {F : am_H → Prop} {z : Nat × xA} (k0 : z.1 = 0 → ∀ H2 : am_H, xS h b T z.2 H2 → am_E sL sx am_cs 361 23 [(0, .ref 157)] [] H2 R F) : ∀ (n : Nat) (v1 : Int32) (a : xA) (H : am_H), xS h b T a H → l361_2 N h b n v1 a = some z → am_E sL sx am_cs 361 2 [(0, .ref 157), (1, .int v1)] [] H R F := by
  intro n
  induction n with
  | zero =>
    intro v1 a H hS e
    cases e
  | succ n ih =>
    intro v1 a H hS e
    unfold l361_2 at e
    refine ex_s (am_nb (m := 2) (pc1 := 6) (ls1 := [(0, .ref 157), (1, .int v1)]) (st1 := [.int 1920, .int v1]) (H1 := H) (k1 := 0) (n1 := 0) (by with_unfolding_all rfl)) ?_
    refine ex_s (st_icmp rfl) ?_
    by_cases c1 : 1920 ≤ v1
    · have e := (if_pos c1).symm.trans e
      refine ex_pc (if_pos c1) ?_
      cases e
      exact le_E (l1 := [(0, .ref 157)]) ⟨rfl, trivial⟩ rfl (k0 rfl H hS)
    · have e := (if_neg c1).symm.trans e
      refine ex_pc (if_neg c1) ?_
      refine ex_s (am_nb (m := 1) (pc1 := 10) (ls1 := [(0, .ref 157), (1, .int v1)]) (st1 := [.ref 157]) (H1 := H) (k1 := 0) (n1 := 0) (by with_unfolding_all rfl)) ?_
      refine xe_get (v := .ref 190) hS rfl rfl (by decide) rfl ?_
      refine ex_s (am_nb (m := 2) (pc1 := 16) (ls1 := [(0, .ref 157), (1, .int v1)]) (st1 := [.int 32, .int v1, .ref 190]) (H1 := H) (k1 := 0) (n1 := 0) (by with_unfolding_all rfl)) ?_
      obtain ⟨g5, e⟩ := xg_some e
      obtain ⟨a2, ha2, e⟩ := xw_some e
      refine xe_iast hS rfl rfl g5 (fun H3 s4 => ?_)
      have s4 : xS h b T a2 H3 := by rw [ha2]; exact s4
      refine ex_s (am_nb (m := 2) (pc1 := 2) (ls1 := [(1, .int (v1 + 1)), (0, .ref 157)]) (st1 := []) (H1 := H3) (k1 := 0) (n1 := 0) (by with_unfolding_all rfl)) ?_
      exact le_E (l1 := [(0, .ref 157), (1, .int (v1 + 1))]) ⟨rfl, rfl, trivial⟩ rfl (ih (v1 + 1) a2 H3 s4 e)

set_option maxRecDepth 100000 in
theorem tl361_25 {sL : Nat} {sx : Nat → Int32} {h b N : Nat} {T : List am_C} {R : Option Value} {F : am_H → Prop} {z : Nat × xA} (k0 : z.1 = 0 → ∀ H2 : am_H, xS h b T z.2 H2 → am_E sL sx am_cs 361 44 [(0, .ref 157)] [] H2 R F) : ∀ (n : Nat) (v1 : Int32) (a : xA) (H : am_H), xS h b T a H → l361_25 N h b n v1 a = some z → am_E sL sx am_cs 361 25 [(0, .ref 157), (1, .int v1)] [] H R F := by
  intro n
  induction n with
  | zero =>
    intro v1 a H hS e
    cases e
  | succ n ih =>
    intro v1 a H hS e
    unfold l361_25 at e
    refine ex_s (am_nb (m := 2) (pc1 := 28) (ls1 := [(0, .ref 157), (1, .int v1)]) (st1 := [.int 24, .int v1]) (H1 := H) (k1 := 0) (n1 := 0) (by with_unfolding_all rfl)) ?_
    refine ex_s (st_icmp rfl) ?_
    by_cases c8 : 24 ≤ v1
    · have e := (if_pos c8).symm.trans e
      refine ex_pc (if_pos c8) ?_
      cases e
      exact le_E (l1 := [(0, .ref 157)]) ⟨rfl, trivial⟩ rfl (k0 rfl H hS)
    · have e := (if_neg c8).symm.trans e
      refine ex_pc (if_neg c8) ?_
      refine ex_s (am_nb (m := 1) (pc1 := 32) (ls1 := [(0, .ref 157), (1, .int v1)]) (st1 := [.ref 157]) (H1 := H) (k1 := 0) (n1 := 0) (by with_unfolding_all rfl)) ?_
      refine xe_get (v := .ref 191) hS rfl rfl (by decide) rfl ?_
      refine ex_s (am_nb (m := 2) (pc1 := 37) (ls1 := [(0, .ref 157), (1, .int v1)]) (st1 := [.int 0, .int v1, .ref 191]) (H1 := H) (k1 := 0) (n1 := 0) (by with_unfolding_all rfl)) ?_
      obtain ⟨g12, e⟩ := xg_some e
      obtain ⟨a9, ha9, e⟩ := xw_some e
      refine xe_iast hS rfl rfl g12 (fun H10 s11 => ?_)
      have s11 : xS h b T a9 H10 := by rw [ha9]; exact s11
      refine ex_s (am_nb (m := 2) (pc1 := 25) (ls1 := [(1, .int (v1 + 1)), (0, .ref 157)]) (st1 := []) (H1 := H10) (k1 := 0) (n1 := 0) (by with_unfolding_all rfl)) ?_
      exact le_E (l1 := [(0, .ref 157), (1, .int (v1 + 1))]) ⟨rfl, rfl, trivial⟩ rfl (ih (v1 + 1) a9 H10 s11 e)

set_option maxRecDepth 100000 in
theorem tj361_73 {sL : Nat} {sx : Nat → Int32} {h b N : Nat} {T : List am_C} {R : Option Value} {F : am_H → Prop} {z : Nat × xA} {rc : Int32 → xA → Option (Nat × xA)} (k0 : z.1 = 0 → ∀ H2 : am_H, xS h b T z.2 H2 → am_E sL sx am_cs 361 80 [(0, .ref 157)] [] H2 R F) (ih : ∀ (v1 : Int32) (a : xA) (H : am_H), xS h b T a H → rc v1 a = some z → am_E sL sx am_cs 361 46 [(0, .ref 157), (1, .int v1)] [] H R F) {q1 : Int32} {t0 : Int32} {t1 : Int32} {a : xA} {H : am_H} (hS : xS h b T a H) (e : j361_73 N h b rc q1 t0 t1 a = some z) : am_E sL sx am_cs 361 73 [(0, .ref 157), (1, .int q1)] [.int t0, .int t1, .ref 192] H R F := by
  unfold j361_73 at e
  obtain ⟨g21, e⟩ := xg_some e
  obtain ⟨a18, ha18, e⟩ := xw_some e
  refine xe_zast hS rfl rfl g21 (fun H19 s20 => ?_)
  have s20 : xS h b T a18 H19 := by rw [ha18]; exact s20
  refine ex_s (am_nb (m := 2) (pc1 := 46) (ls1 := [(1, .int (q1 + 1)), (0, .ref 157)]) (st1 := []) (H1 := H19) (k1 := 0) (n1 := 0) (by with_unfolding_all rfl)) ?_
  exact le_E (l1 := [(0, .ref 157), (1, .int (q1 + 1))]) ⟨rfl, rfl, trivial⟩ rfl (ih (q1 + 1) a18 H19 s20 e)

set_option maxRecDepth 100000 in
theorem tj361_72 {sL : Nat} {sx : Nat → Int32} {h b N : Nat} {T : List am_C} {R : Option Value} {F : am_H → Prop} {z : Nat × xA} {rc : Int32 → xA → Option (Nat × xA)} (k0 : z.1 = 0 → ∀ H2 : am_H, xS h b T z.2 H2 → am_E sL sx am_cs 361 80 [(0, .ref 157)] [] H2 R F) (ih : ∀ (v1 : Int32) (a : xA) (H : am_H), xS h b T a H → rc v1 a = some z → am_E sL sx am_cs 361 46 [(0, .ref 157), (1, .int v1)] [] H R F) {q1 : Int32} {t0 : Int32} {a : xA} {H : am_H} (hS : xS h b T a H) (e : j361_72 N h b rc q1 t0 a = some z) : am_E sL sx am_cs 361 72 [(0, .ref 157), (1, .int q1)] [.int t0, .ref 192] H R F := by
  unfold j361_72 at e
  refine ex_s (am_nb (m := 1) (pc1 := 73) (ls1 := [(0, .ref 157), (1, .int q1)]) (st1 := [.int 0, .int t0, .ref 192]) (H1 := H) (k1 := 0) (n1 := 0) (by with_unfolding_all rfl)) ?_
  exact le_E (l1 := [(0, .ref 157), (1, .int q1)]) ⟨rfl, rfl, trivial⟩ rfl (tj361_73 k0 ih  hS e)

set_option maxRecDepth 100000 in
theorem tl361_46 {sL : Nat} {sx : Nat → Int32} {h b N : Nat} {T : List am_C} {R : Option Value} {F : am_H → Prop} {z : Nat × xA} (k0 : z.1 = 0 → ∀ H2 : am_H, xS h b T z.2 H2 → am_E sL sx am_cs 361 80 [(0, .ref 157)] [] H2 R F) : ∀ (n : Nat) (v1 : Int32) (a : xA) (H : am_H), xS h b T a H → l361_46 N h b n v1 a = some z → am_E sL sx am_cs 361 46 [(0, .ref 157), (1, .int v1)] [] H R F := by
  intro n
  induction n with
  | zero =>
    intro v1 a H hS e
    cases e
  | succ n ih =>
    intro v1 a H hS e
    unfold l361_46 at e
    refine ex_s (am_nb (m := 2) (pc1 := 49) (ls1 := [(0, .ref 157), (1, .int v1)]) (st1 := [.int 80, .int v1]) (H1 := H) (k1 := 0) (n1 := 0) (by with_unfolding_all rfl)) ?_
    refine ex_s (st_icmp rfl) ?_
    by_cases c15 : 80 ≤ v1
    · have e := (if_pos c15).symm.trans e
      refine ex_pc (if_pos c15) ?_
      cases e
      exact le_E (l1 := [(0, .ref 157)]) ⟨rfl, trivial⟩ rfl (k0 rfl H hS)
    · have e := (if_neg c15).symm.trans e
      refine ex_pc (if_neg c15) ?_
      refine ex_s (am_nb (m := 1) (pc1 := 53) (ls1 := [(0, .ref 157), (1, .int v1)]) (st1 := [.ref 157]) (H1 := H) (k1 := 0) (n1 := 0) (by with_unfolding_all rfl)) ?_
      refine xe_get (v := .ref 192) hS rfl rfl (by decide) rfl ?_
      refine ex_s (am_nb (m := 2) (pc1 := 58) (ls1 := [(0, .ref 157), (1, .int v1)]) (st1 := [.int v1, .int v1, .ref 192]) (H1 := H) (k1 := 0) (n1 := 0) (by with_unfolding_all rfl)) ?_
      refine ex_s (st_if rfl) ?_
      by_cases c17 : v1 ≤ 0
      · have e := (if_pos c17).symm.trans e
        refine ex_pc (if_pos c17) ?_
        exact le_E (l1 := [(0, .ref 157), (1, .int v1)]) ⟨rfl, rfl, trivial⟩ rfl (tj361_72 k0 ih  hS e)
      · have e := (if_neg c17).symm.trans e
        refine ex_pc (if_neg c17) ?_
        refine ex_s (am_nb (m := 3) (pc1 := 65) (ls1 := [(0, .ref 157), (1, .int v1)]) (st1 := [.int (v1 - v1 / 8 * 8), .int v1, .ref 192]) (H1 := H) (k1 := 0) (n1 := 0) (by with_unfolding_all rfl)) ?_
        have kk : am_E sL sx am_cs 361 73 [(0, .ref 157), (1, .int v1)] [.int (if (v1 - v1 / 8 * 8) = 0 then (1 : Int32) else (0 : Int32)), .int v1, .ref 192] H R F := by
          obtain ⟨g26, e⟩ := xg_some e
          obtain ⟨a23, ha23, e⟩ := xw_some e
          refine xe_zast hS rfl rfl g26 (fun H24 s25 => ?_)
          have s25 : xS h b T a23 H24 := by rw [ha23]; exact s25
          refine ex_s (am_nb (m := 2) (pc1 := 46) (ls1 := [(1, .int (v1 + 1)), (0, .ref 157)]) (st1 := []) (H1 := H24) (k1 := 0) (n1 := 0) (by with_unfolding_all rfl)) ?_
          exact le_E (l1 := [(0, .ref 157), (1, .int (v1 + 1))]) ⟨rfl, rfl, trivial⟩ rfl (ih (v1 + 1) a23 H24 s25 e)
        refine ex_s (st_if rfl) ?_
        by_cases c22 : (v1 - v1 / 8 * 8) = 0
        · refine ex_pc (if_pos c22) ?_
          refine ex_s (am_nb (m := 2) (pc1 := 73) (ls1 := [(0, .ref 157), (1, .int v1)]) (st1 := [.int 1, .int v1, .ref 192]) (H1 := H) (k1 := 0) (n1 := 0) (by with_unfolding_all rfl)) ?_
          rw [if_pos c22] at kk
          exact kk
        · refine ex_pc (if_neg c22) ?_
          refine ex_s (am_nb (m := 1) (pc1 := 73) (ls1 := [(0, .ref 157), (1, .int v1)]) (st1 := [.int 0, .int v1, .ref 192]) (H1 := H) (k1 := 0) (n1 := 0) (by with_unfolding_all rfl)) ?_
          rw [if_neg c22] at kk
          exact kk

set_option maxRecDepth 100000 in
theorem tf361_anew {sL : Nat} {sx : Nat → Int32} {h b N : Nat} {T : List am_C} {a' : xA} {a : xA} {H : am_H} (hS : xS h b T a H) (e : f361_anew N h b a = some a') : am_E sL sx am_cs 361 0 [(0, .ref 157)] [] H none (fun H1 => xS h b T a' H1) := by
  unfold f361_anew at e
  refine ex_s (am_nb (m := 2) (pc1 := 2) (ls1 := [(1, .int 0), (0, .ref 157)]) (st1 := []) (H1 := H) (k1 := 0) (n1 := 0) (by with_unfolding_all rfl)) ?_
  obtain ⟨z6, e7, e⟩ := Option.bind_eq_some_iff.mp e
  refine le_E (l1 := [(0, .ref 157), (1, .int 0)]) ⟨rfl, rfl, trivial⟩ rfl (tl361_2 (z := z6)  (fun uz6_0 Hz60 sz60 => ?_) N 0 a H hS e7)
  refine ex_s (am_nb (m := 2) (pc1 := 25) (ls1 := [(1, .int 0), (0, .ref 157)]) (st1 := []) (H1 := Hz60) (k1 := 0) (n1 := 0) (by with_unfolding_all rfl)) ?_
  obtain ⟨z13, e14, e⟩ := Option.bind_eq_some_iff.mp e
  refine le_E (l1 := [(0, .ref 157), (1, .int 0)]) ⟨rfl, rfl, trivial⟩ rfl (tl361_25 (z := z13)  (fun uz13_0 Hz130 sz130 => ?_) N 0 z6.2 Hz60 sz60 e14)
  refine ex_s (am_nb (m := 2) (pc1 := 46) (ls1 := [(1, .int 0), (0, .ref 157)]) (st1 := []) (H1 := Hz130) (k1 := 0) (n1 := 0) (by with_unfolding_all rfl)) ?_
  obtain ⟨z27, e28, e⟩ := Option.bind_eq_some_iff.mp e
  refine le_E (l1 := [(0, .ref 157), (1, .int 0)]) ⟨rfl, rfl, trivial⟩ rfl (tl361_46 (z := z27)  (fun uz27_0 Hz270 sz270 => ?_) N 0 z13.2 Hz130 sz130 e28)
  refine ex_s (am_nb (m := 2) (pc1 := 82) (ls1 := [(0, .ref 157)]) (st1 := [.int 0, .ref 157]) (H1 := Hz270) (k1 := 0) (n1 := 0) (by with_unfolding_all rfl)) ?_
  obtain ⟨a29, ha29, e⟩ := xw_some e
  refine xe_put (w := 0) sz270 rfl rfl (by decide) rfl rfl rfl rfl (fun H30 s31 => ?_)
  have s31 : xS h b T a29 H30 := by rw [ha29]; exact s31
  refine ex_s (am_nb (m := 2) (pc1 := 87) (ls1 := [(0, .ref 157)]) (st1 := [.int 0, .ref 157]) (H1 := H30) (k1 := 0) (n1 := 0) (by with_unfolding_all rfl)) ?_
  obtain ⟨a32, ha32, e⟩ := xw_some e
  refine xe_put (w := 0) s31 rfl rfl (by decide) rfl rfl rfl rfl (fun H33 s34 => ?_)
  have s34 : xS h b T a32 H33 := by rw [ha32]; exact s34
  refine ex_s (am_nb (m := 2) (pc1 := 92) (ls1 := [(0, .ref 157)]) (st1 := [.int 0, .ref 157]) (H1 := H33) (k1 := 0) (n1 := 0) (by with_unfolding_all rfl)) ?_
  obtain ⟨a35, ha35, e⟩ := xw_some e
  refine xe_put (w := 0) s34 rfl rfl (by decide) rfl rfl rfl rfl (fun H36 s37 => ?_)
  have s37 : xS h b T a35 H36 := by rw [ha35]; exact s37
  refine ex_s (am_nb (m := 2) (pc1 := 97) (ls1 := [(0, .ref 157)]) (st1 := [.int 0, .ref 157]) (H1 := H36) (k1 := 0) (n1 := 0) (by with_unfolding_all rfl)) ?_
  obtain ⟨a38, ha38, e⟩ := xw_some e
  refine xe_put (w := 0) s37 rfl rfl (by decide) rfl rfl rfl rfl (fun H39 s40 => ?_)
  have s40 : xS h b T a38 H39 := by rw [ha38]; exact s40
  refine ex_s (am_nb (m := 2) (pc1 := 102) (ls1 := [(0, .ref 157)]) (st1 := [.ref 157, .ref 157]) (H1 := H39) (k1 := 0) (n1 := 0) (by with_unfolding_all rfl)) ?_
  refine xe_get (v := .int (a38 157 68)) s40 rfl rfl (by decide) rfl ?_
  refine ex_s (am_nb (m := 2) (pc1 := 107) (ls1 := [(0, .ref 157)]) (st1 := [.int ((a38 157 68) - 1), .ref 157]) (H1 := H39) (k1 := 0) (n1 := 0) (by with_unfolding_all rfl)) ?_
  obtain ⟨a41, ha41, e⟩ := xw_some e
  refine xe_put (w := ((a38 157 68) - 1)) s40 rfl rfl (by decide) rfl rfl rfl rfl (fun H42 s43 => ?_)
  have s43 : xS h b T a41 H42 := by rw [ha41]; exact s43
  refine ex_s (am_nb (m := 2) (pc1 := 113) (ls1 := [(0, .ref 157)]) (st1 := [.int 96, .ref 157]) (H1 := H42) (k1 := 0) (n1 := 0) (by with_unfolding_all rfl)) ?_
  obtain ⟨a44, ha44, e⟩ := xw_some e
  refine xe_put (w := 96) s43 rfl rfl (by decide) rfl rfl rfl rfl (fun H45 s46 => ?_)
  have s46 : xS h b T a44 H45 := by rw [ha44]; exact s46
  refine ex_s (am_nb (m := 2) (pc1 := 118) (ls1 := [(0, .ref 157)]) (st1 := [.int 0, .ref 157]) (H1 := H45) (k1 := 0) (n1 := 0) (by with_unfolding_all rfl)) ?_
  obtain ⟨a47, ha47, e⟩ := xw_some e
  refine xe_put (w := 0) s46 rfl rfl (by decide) rfl rfl rfl rfl (fun H48 s49 => ?_)
  have s49 : xS h b T a47 H48 := by rw [ha47]; exact s49
  refine ex_s (am_nb (m := 2) (pc1 := 123) (ls1 := [(0, .ref 157)]) (st1 := [.int 0, .ref 157]) (H1 := H48) (k1 := 0) (n1 := 0) (by with_unfolding_all rfl)) ?_
  obtain ⟨a50, ha50, e⟩ := xw_some e
  refine xe_put (w := 0) s49 rfl rfl (by decide) rfl rfl rfl rfl (fun H51 s52 => ?_)
  have s52 : xS h b T a50 H51 := by rw [ha50]; exact s52
  refine ex_s (am_nb (m := 2) (pc1 := 128) (ls1 := [(0, .ref 157)]) (st1 := [.int 0, .ref 157]) (H1 := H51) (k1 := 0) (n1 := 0) (by with_unfolding_all rfl)) ?_
  obtain ⟨a53, ha53, e⟩ := xw_some e
  refine xe_put (w := 0) s52 rfl rfl (by decide) rfl rfl rfl rfl (fun H54 s55 => ?_)
  have s55 : xS h b T a53 H54 := by rw [ha53]; exact s55
  refine ex_s (am_nb (m := 2) (pc1 := 133) (ls1 := [(0, .ref 157)]) (st1 := [.int 0, .ref 157]) (H1 := H54) (k1 := 0) (n1 := 0) (by with_unfolding_all rfl)) ?_
  obtain ⟨a56, ha56, e⟩ := xw_some e
  refine xe_put (w := 0) s55 rfl rfl (by decide) rfl rfl rfl rfl (fun H57 s58 => ?_)
  have s58 : xS h b T a56 H57 := by rw [ha56]; exact s58
  refine ex_s (am_nb (m := 2) (pc1 := 138) (ls1 := [(0, .ref 157)]) (st1 := [.int 0, .ref 157]) (H1 := H57) (k1 := 0) (n1 := 0) (by with_unfolding_all rfl)) ?_
  obtain ⟨a59, ha59, e⟩ := xw_some e
  refine xe_put (w := 0) s58 rfl rfl (by decide) rfl rfl rfl rfl (fun H60 s61 => ?_)
  have s61 : xS h b T a59 H60 := by rw [ha59]; exact s61
  refine ex_s (am_nb (m := 1) (pc1 := 142) (ls1 := [(0, .ref 157)]) (st1 := [.ref 157]) (H1 := H60) (k1 := 0) (n1 := 0) (by with_unfolding_all rfl)) ?_
  obtain ⟨a65, e64, e⟩ := xb1_some e
  refine ex_cv0 (as := []) (rest := []) rfl rfl rfl rfl (s61.obj rfl (by decide)) rfl (by with_unfolding_all rfl) (by with_unfolding_all rfl) (tf362_saves s61 e64) (fun H62 s63 => ?_)
  cases e
  exact ex_r (st_vret rfl rfl) s63

set_option maxRecDepth 100000 in
theorem tj364_27 {sL : Nat} {sx : Nat → Int32} {h b N : Nat} {T : List am_C} {r : Int32} {a' : xA} {q1 : Int32} {a : xA} {H : am_H} (hS : xS h b T a H) (e : j364_27 N h b q1 a = some (r, a')) : am_E sL sx am_cs 364 27 [(0, .ref 157), (1, .int q1)] [] H (some (.int r)) (fun H1 => xS h b T a' H1) := by
  unfold j364_27 at e
  refine ex_s (am_nb (m := 2) (pc1 := 29) (ls1 := [(0, .ref 157), (1, .int q1)]) (st1 := [.int 1, .int q1]) (H1 := H) (k1 := 0) (n1 := 0) (by with_unfolding_all rfl)) ?_
  refine ex_s (st_icmp rfl) ?_
  by_cases c13 : q1 = 1
  · have e := (if_pos c13).symm.trans e
    refine ex_pc (if_pos c13) ?_
    refine ex_s (am_nb (m := 1) (pc1 := 33) (ls1 := [(0, .ref 157), (1, .int q1)]) (st1 := [.ref 157]) (H1 := H) (k1 := 0) (n1 := 0) (by with_unfolding_all rfl)) ?_
    refine xe_get (v := .int (a 157 75)) hS rfl rfl (by decide) rfl ?_
    refine ex_s (am_nb (m := 1) (pc1 := 37) (ls1 := [(0, .ref 157), (1, .int q1)]) (st1 := [.int (-1), .int (a 157 75)]) (H1 := H) (k1 := 0) (n1 := 0) (by with_unfolding_all rfl)) ?_
    refine ex_s (st_icmp rfl) ?_
    by_cases c14 : (a 157 75) = (-1)
    · have e := (if_pos c14).symm.trans e
      refine ex_pc (if_pos c14) ?_
      refine ex_s (am_nb (m := 1) (pc1 := 51) (ls1 := [(0, .ref 157), (1, .int q1)]) (st1 := [.int 0]) (H1 := H) (k1 := 0) (n1 := 0) (by with_unfolding_all rfl)) ?_
      cases e
      exact ex_r (st_iret rfl rfl rfl) hS
    · have e := (if_neg c14).symm.trans e
      refine ex_pc (if_neg c14) ?_
      refine ex_s (am_nb (m := 2) (pc1 := 44) (ls1 := [(0, .ref 157), (1, .int q1)]) (st1 := [.int 256, .ref 157]) (H1 := H) (k1 := 0) (n1 := 0) (by with_unfolding_all rfl)) ?_
      obtain ⟨a15, ha15, e⟩ := xw_some e
      refine xe_put (w := 256) hS rfl rfl (by decide) rfl rfl rfl rfl (fun H16 s17 => ?_)
      have s17 : xS h b T a15 H16 := by rw [ha15]; exact s17
      refine ex_s (am_nb (m := 2) (pc1 := 53) (ls1 := [(0, .ref 157), (1, .int q1)]) (st1 := [.int 1]) (H1 := H16) (k1 := 0) (n1 := 0) (by with_unfolding_all rfl)) ?_
      cases e
      exact ex_r (st_iret rfl rfl rfl) s17
  · have e := (if_neg c13).symm.trans e
    refine ex_pc (if_neg c13) ?_
    refine ex_s (am_nb (m := 1) (pc1 := 51) (ls1 := [(0, .ref 157), (1, .int q1)]) (st1 := [.int 0]) (H1 := H) (k1 := 0) (n1 := 0) (by with_unfolding_all rfl)) ?_
    cases e
    exact ex_r (st_iret rfl rfl rfl) hS

set_option maxRecDepth 100000 in
theorem tf364_spoil {sL : Nat} {sx : Nat → Int32} {h b N : Nat} {T : List am_C} {r : Int32} {a' : xA} {x0 : Int32} {a : xA} {H : am_H} (hS : xS h b T a H) (e : f364_spoil N h b x0 a = some (r, a')) : am_E sL sx am_cs 364 0 [(0, .ref 157), (1, .int x0)] [] H (some (.int r)) (fun H1 => xS h b T a' H1) := by
  unfold f364_spoil at e
  refine ex_s (am_nb (m := 2) (pc1 := 2) (ls1 := [(0, .ref 157), (1, .int x0)]) (st1 := [.int 0, .ref 157]) (H1 := H) (k1 := 0) (n1 := 0) (by with_unfolding_all rfl)) ?_
  obtain ⟨a1, ha1, e⟩ := xw_some e
  refine xe_put (w := 0) hS rfl rfl (by decide) rfl rfl rfl rfl (fun H2 s3 => ?_)
  have s3 : xS h b T a1 H2 := by rw [ha1]; exact s3
  refine ex_s (am_nb (m := 1) (pc1 := 6) (ls1 := [(0, .ref 157), (1, .int x0)]) (st1 := [.int x0]) (H1 := H2) (k1 := 0) (n1 := 0) (by with_unfolding_all rfl)) ?_
  refine ex_s (st_if rfl) ?_
  by_cases c6 : x0 = 0
  · have e := (if_pos c6).symm.trans e
    refine ex_pc (if_pos c6) ?_
    refine ex_s (am_nb (m := 1) (pc1 := 10) (ls1 := [(0, .ref 157), (1, .int x0)]) (st1 := [.ref 157]) (H1 := H2) (k1 := 0) (n1 := 0) (by with_unfolding_all rfl)) ?_
    refine xe_get (v := .int (a1 157 74)) s3 rfl rfl (by decide) rfl ?_
    refine ex_s (am_nb (m := 1) (pc1 := 14) (ls1 := [(0, .ref 157), (1, .int x0)]) (st1 := [.int (-1), .int (a1 157 74)]) (H1 := H2) (k1 := 0) (n1 := 0) (by with_unfolding_all rfl)) ?_
    refine ex_s (st_icmp rfl) ?_
    by_cases c10 : (a1 157 74) = (-1)
    · have e := (if_pos c10).symm.trans e
      refine ex_pc (if_pos c10) ?_
      exact le_E (l1 := [(0, .ref 157), (1, .int x0)]) ⟨rfl, rfl, trivial⟩ rfl (tj364_27  s3 e)
    · have e := (if_neg c10).symm.trans e
      refine ex_pc (if_neg c10) ?_
      refine ex_s (am_nb (m := 2) (pc1 := 21) (ls1 := [(0, .ref 157), (1, .int x0)]) (st1 := [.int 256, .ref 157]) (H1 := H2) (k1 := 0) (n1 := 0) (by with_unfolding_all rfl)) ?_
      obtain ⟨a18, ha18, e⟩ := xw_some e
      refine xe_put (w := 256) s3 rfl rfl (by decide) rfl rfl rfl rfl (fun H19 s20 => ?_)
      have s20 : xS h b T a18 H19 := by rw [ha18]; exact s20
      refine ex_s (am_nb (m := 2) (pc1 := 53) (ls1 := [(0, .ref 157), (1, .int x0)]) (st1 := [.int 1]) (H1 := H19) (k1 := 0) (n1 := 0) (by with_unfolding_all rfl)) ?_
      cases e
      exact ex_r (st_iret rfl rfl rfl) s20
  · have e := (if_neg c6).symm.trans e
    refine ex_pc (if_neg c6) ?_
    exact le_E (l1 := [(0, .ref 157), (1, .int x0)]) ⟨rfl, rfl, trivial⟩ rfl (tj364_27  s3 e)

set_option maxRecDepth 100000 in
theorem tj367_12 {sL : Nat} {sx : Nat → Int32} {h b N : Nat} {T : List am_C} {a' : xA} {q1 : Int32} {a : xA} {H : am_H} (hS : xS h b T a H) (e : j367_12 N h b q1 a = some a') : am_E sL sx am_cs 367 12 [(0, .ref 157), (1, .int q1)] [] H none (fun H1 => xS h b T a' H1) := by
  unfold j367_12 at e
  refine ex_s (am_nb (m := 3) (pc1 := 16) (ls1 := [(0, .ref 157), (1, .int q1)]) (st1 := [.int 19, .int q1, .ref 157]) (H1 := H) (k1 := 0) (n1 := 0) (by with_unfolding_all rfl)) ?_
  have kk : am_E sL sx am_cs 367 24 [(0, .ref 157), (1, .int q1)] [.int (if q1 = 19 then (1 : Int32) else (0 : Int32)), .ref 157] H none (fun H1 => xS h b T a' H1) := by
    obtain ⟨g9, e⟩ := xg_some e
    obtain ⟨a6, ha6, e⟩ := xw_some e
    refine xe_put (w := (if q1 = 19 then (1 : Int32) else (0 : Int32))) hS rfl rfl (by decide) rfl rfl (xfit_z g9) rfl (fun H7 s8 => ?_)
    have s8 : xS h b T a6 H7 := by rw [ha6]; exact s8
    cases e
    exact ex_r (st_vret rfl rfl) s8
  refine ex_s (st_icmp rfl) ?_
  by_cases c5 : q1 = 19
  · refine ex_pc (if_pos c5) ?_
    refine ex_s (am_nb (m := 2) (pc1 := 24) (ls1 := [(0, .ref 157), (1, .int q1)]) (st1 := [.int 1, .ref 157]) (H1 := H) (k1 := 0) (n1 := 0) (by with_unfolding_all rfl)) ?_
    rw [if_pos c5] at kk
    exact kk
  · refine ex_pc (if_neg c5) ?_
    refine ex_s (am_nb (m := 1) (pc1 := 24) (ls1 := [(0, .ref 157), (1, .int q1)]) (st1 := [.int 0, .ref 157]) (H1 := H) (k1 := 0) (n1 := 0) (by with_unfolding_all rfl)) ?_
    rw [if_neg c5] at kk
    exact kk

set_option maxRecDepth 100000 in
theorem tj367_90 {sL : Nat} {sx : Nat → Int32} {h b N : Nat} {T : List am_C} {a' : xA} {t0 : Int32} {a : xA} {H : am_H} (hS : xS h b T a H) (e : j367_90 N h b t0 a = some a') : am_E sL sx am_cs 367 90 [] [.int t0, .ref 157] H none (fun H1 => xS h b T a' H1) := by
  unfold j367_90 at e
  obtain ⟨g33, e⟩ := xg_some e
  obtain ⟨a30, ha30, e⟩ := xw_some e
  refine xe_put (w := t0) hS rfl rfl (by decide) rfl rfl (xfit_z g33) rfl (fun H31 s32 => ?_)
  have s32 : xS h b T a30 H31 := by rw [ha30]; exact s32
  cases e
  exact ex_r (st_vret rfl rfl) s32

set_option maxRecDepth 100000 in
theorem tj367_85 {sL : Nat} {sx : Nat → Int32} {h b N : Nat} {T : List am_C} {a' : xA} {a : xA} {H : am_H} (hS : xS h b T a H) (e : j367_85 N h b a = some a') : am_E sL sx am_cs 367 85 [] [.ref 157] H none (fun H1 => xS h b T a' H1) := by
  unfold j367_85 at e
  refine ex_s (am_nb (m := 2) (pc1 := 90) (ls1 := []) (st1 := [.int 1, .ref 157]) (H1 := H) (k1 := 0) (n1 := 0) (by with_unfolding_all rfl)) ?_
  exact le_E (l1 := []) trivial rfl (tj367_90  hS e)

set_option maxRecDepth 100000 in
theorem tf367_arrives {sL : Nat} {sx : Nat → Int32} {h b N : Nat} {T : List am_C} {a' : xA} {x0 : Int32} {a : xA} {H : am_H} (hS : xS h b T a H) (e : f367_arrives N h b x0 a = some a') : am_E sL sx am_cs 367 0 [(0, .ref 157), (1, .int x0)] [] H none (fun H1 => xS h b T a' H1) := by
  unfold f367_arrives at e
  refine ex_s (am_nb (m := 2) (pc1 := 3) (ls1 := [(0, .ref 157), (1, .int x0)]) (st1 := [.int 19, .int x0]) (H1 := H) (k1 := 0) (n1 := 0) (by with_unfolding_all rfl)) ?_
  refine ex_s (st_icmp rfl) ?_
  by_cases c4 : x0 = 19
  · have e := (if_pos c4).symm.trans e
    refine ex_pc (if_pos c4) ?_
    exact le_E (l1 := [(0, .ref 157), (1, .int x0)]) ⟨rfl, rfl, trivial⟩ rfl (tj367_12  hS e)
  · have e := (if_neg c4).symm.trans e
    refine ex_pc (if_neg c4) ?_
    refine ex_s (am_nb (m := 2) (pc1 := 9) (ls1 := [(0, .ref 157), (1, .int x0)]) (st1 := [.int 17, .int x0]) (H1 := H) (k1 := 0) (n1 := 0) (by with_unfolding_all rfl)) ?_
    refine ex_s (st_icmp rfl) ?_
    by_cases c10 : x0 = 17
    · have e := (if_pos c10).symm.trans e
      refine ex_pc (if_pos c10) ?_
      exact le_E (l1 := [(0, .ref 157), (1, .int x0)]) ⟨rfl, rfl, trivial⟩ rfl (tj367_12  hS e)
    · have e := (if_neg c10).symm.trans e
      refine ex_pc (if_neg c10) ?_
      refine ex_s (am_nb (m := 1) (pc1 := 29) (ls1 := [(0, .ref 157), (1, .int x0)]) (st1 := [.ref 157]) (H1 := H) (k1 := 0) (n1 := 0) (by with_unfolding_all rfl)) ?_
      refine xe_get (v := .int (a 157 79)) hS rfl rfl (by decide) rfl ?_
      refine ex_s (am_nb (m := 1) (pc1 := 34) (ls1 := [(0, .ref 157), (1, .int x0)]) (st1 := [.int 64, .int (a 157 79)]) (H1 := H) (k1 := 0) (n1 := 0) (by with_unfolding_all rfl)) ?_
      refine ex_s (st_icmp rfl) ?_
      by_cases c11 : (a 157 79) = 64
      · have e := (if_pos c11).symm.trans e
        refine ex_pc (if_pos c11) ?_
        refine ex_s (am_nb (m := 2) (pc1 := 39) (ls1 := [(0, .ref 157), (1, .int x0)]) (st1 := [.ref 157, .ref 157]) (H1 := H) (k1 := 0) (n1 := 0) (by with_unfolding_all rfl)) ?_
        refine xe_get (v := .int (a 157 80)) hS rfl rfl (by decide) rfl ?_
        refine ex_s (am_nb (m := 2) (pc1 := 44) (ls1 := [(0, .ref 157), (1, .int x0)]) (st1 := [.int ((a 157 80) + 1), .ref 157]) (H1 := H) (k1 := 0) (n1 := 0) (by with_unfolding_all rfl)) ?_
        obtain ⟨a12, ha12, e⟩ := xw_some e
        refine xe_put (w := ((a 157 80) + 1)) hS rfl rfl (by decide) rfl rfl rfl rfl (fun H13 s14 => ?_)
        have s14 : xS h b T a12 H13 := by rw [ha12]; exact s14
        cases e
        exact ex_r (st_vret rfl rfl) s14
      · have e := (if_neg c11).symm.trans e
        refine ex_pc (if_neg c11) ?_
        refine ex_s (am_nb (m := 1) (pc1 := 49) (ls1 := [(0, .ref 157), (1, .int x0)]) (st1 := [.ref 157]) (H1 := H) (k1 := 0) (n1 := 0) (by with_unfolding_all rfl)) ?_
        refine xe_get (v := .ref 187) hS rfl rfl (by decide) rfl ?_
        refine ex_s (am_nb (m := 1) (pc1 := 53) (ls1 := [(0, .ref 157), (1, .int x0)]) (st1 := [.ref 157, .ref 187]) (H1 := H) (k1 := 0) (n1 := 0) (by with_unfolding_all rfl)) ?_
        refine xe_get (v := .int (a 157 79)) hS rfl rfl (by decide) rfl ?_
        refine ex_s (am_nb (m := 1) (pc1 := 57) (ls1 := [(0, .ref 157), (1, .int x0)]) (st1 := [.int x0, .int (a 157 79), .ref 187]) (H1 := H) (k1 := 0) (n1 := 0) (by with_unfolding_all rfl)) ?_
        obtain ⟨g18, e⟩ := xg_some e
        obtain ⟨a15, ha15, e⟩ := xw_some e
        refine xe_iast hS rfl rfl g18 (fun H16 s17 => ?_)
        have s17 : xS h b T a15 H16 := by rw [ha15]; exact s17
        refine ex_s (am_nb (m := 2) (pc1 := 60) (ls1 := [(0, .ref 157), (1, .int x0)]) (st1 := [.ref 157, .ref 157]) (H1 := H16) (k1 := 0) (n1 := 0) (by with_unfolding_all rfl)) ?_
        refine xe_get (v := .int (a15 157 79)) s17 rfl rfl (by decide) rfl ?_
        refine ex_s (am_nb (m := 2) (pc1 := 65) (ls1 := [(0, .ref 157), (1, .int x0)]) (st1 := [.int ((a15 157 79) + 1), .ref 157]) (H1 := H16) (k1 := 0) (n1 := 0) (by with_unfolding_all rfl)) ?_
        obtain ⟨a19, ha19, e⟩ := xw_some e
        refine xe_put (w := ((a15 157 79) + 1)) s17 rfl rfl (by decide) rfl rfl rfl rfl (fun H20 s21 => ?_)
        have s21 : xS h b T a19 H20 := by rw [ha19]; exact s21
        refine ex_s (am_nb (m := 2) (pc1 := 70) (ls1 := [(0, .ref 157), (1, .int x0)]) (st1 := [.ref 157, .ref 157]) (H1 := H20) (k1 := 0) (n1 := 0) (by with_unfolding_all rfl)) ?_
        refine xe_get (v := .int (a19 157 83)) s21 rfl rfl (by decide) rfl ?_
        refine ex_s (st_if rfl) ?_
        by_cases c24 : (a19 157 83) = 0
        · have e := (if_pos c24).symm.trans e
          refine ex_pc (if_pos c24) ?_
          refine ex_s (am_nb (m := 1) (pc1 := 77) (ls1 := [(0, .ref 157), (1, .int x0)]) (st1 := [.ref 157, .ref 157]) (H1 := H20) (k1 := 0) (n1 := 0) (by with_unfolding_all rfl)) ?_
          refine xe_get (v := .int (a19 157 79)) s21 rfl rfl (by decide) rfl ?_
          refine ex_s (am_nb (m := 1) (pc1 := 82) (ls1 := [(0, .ref 157), (1, .int x0)]) (st1 := [.int 48, .int (a19 157 79), .ref 157]) (H1 := H20) (k1 := 0) (n1 := 0) (by with_unfolding_all rfl)) ?_
          have kk : am_E sL sx am_cs 367 90 [(0, .ref 157), (1, .int x0)] [.int (if (a19 157 79) < 48 then (0 : Int32) else (1 : Int32)), .ref 157] H20 none (fun H1 => xS h b T a' H1) := by
            obtain ⟨g29, e⟩ := xg_some e
            obtain ⟨a26, ha26, e⟩ := xw_some e
            refine xe_put (w := (if (a19 157 79) < 48 then (0 : Int32) else (1 : Int32))) s21 rfl rfl (by decide) rfl rfl (xfit_z g29) rfl (fun H27 s28 => ?_)
            have s28 : xS h b T a26 H27 := by rw [ha26]; exact s28
            cases e
            exact ex_r (st_vret rfl rfl) s28
          refine ex_s (st_icmp rfl) ?_
          by_cases c25 : (a19 157 79) < 48
          · refine ex_pc (if_pos c25) ?_
            refine ex_s (am_nb (m := 1) (pc1 := 90) (ls1 := [(0, .ref 157), (1, .int x0)]) (st1 := [.int 0, .ref 157]) (H1 := H20) (k1 := 0) (n1 := 0) (by with_unfolding_all rfl)) ?_
            rw [if_pos c25] at kk
            exact kk
          · refine ex_pc (if_neg c25) ?_
            refine ex_s (am_nb (m := 2) (pc1 := 90) (ls1 := [(0, .ref 157), (1, .int x0)]) (st1 := [.int 1, .ref 157]) (H1 := H20) (k1 := 0) (n1 := 0) (by with_unfolding_all rfl)) ?_
            rw [if_neg c25] at kk
            exact kk
        · have e := (if_neg c24).symm.trans e
          refine ex_pc (if_neg c24) ?_
          exact le_E (l1 := []) trivial rfl (tj367_85  s21 e)

set_option maxRecDepth 100000 in
theorem tj371_24 {sL : Nat} {sx : Nat → Int32} {h b N : Nat} {T : List am_C} {r : Int32} {a' : xA} {a : xA} {H : am_H} (hS : xS h b T a H) (e : j371_24 N h b a = some (r, a')) : am_E sL sx am_cs 371 24 [] [] H (some (.int r)) (fun H1 => xS h b T a' H1) := by
  unfold j371_24 at e
  refine ex_s (am_nb (m := 2) (pc1 := 29) (ls1 := []) (st1 := [.int 1]) (H1 := H) (k1 := 0) (n1 := 0) (by with_unfolding_all rfl)) ?_
  cases e
  exact ex_r (st_iret rfl rfl rfl) hS

set_option maxRecDepth 100000 in
theorem tf371_isPlain {sL : Nat} {sx : Nat → Int32} {h b N : Nat} {T : List am_C} {r : Int32} {a' : xA} {x0 : Int32} {a : xA} {H : am_H} (hS : xS h b T a H) (e : f371_isPlain N h b x0 a = some (r, a')) : am_E sL sx am_cs 371 0 [(0, .int x0)] [] H (some (.int r)) (fun H1 => xS h b T a' H1) := by
  unfold f371_isPlain at e
  refine ex_s (am_nb (m := 2) (pc1 := 3) (ls1 := [(0, .int x0)]) (st1 := [.int 9, .int x0]) (H1 := H) (k1 := 0) (n1 := 0) (by with_unfolding_all rfl)) ?_
  refine ex_s (st_icmp rfl) ?_
  by_cases c4 : x0 = 9
  · have e := (if_pos c4).symm.trans e
    refine ex_pc (if_pos c4) ?_
    exact le_E (l1 := []) trivial rfl (tj371_24  hS e)
  · have e := (if_neg c4).symm.trans e
    refine ex_pc (if_neg c4) ?_
    refine ex_s (am_nb (m := 2) (pc1 := 9) (ls1 := [(0, .int x0)]) (st1 := [.int 10, .int x0]) (H1 := H) (k1 := 0) (n1 := 0) (by with_unfolding_all rfl)) ?_
    refine ex_s (st_icmp rfl) ?_
    by_cases c7 : x0 = 10
    · have e := (if_pos c7).symm.trans e
      refine ex_pc (if_pos c7) ?_
      exact le_E (l1 := []) trivial rfl (tj371_24  hS e)
    · have e := (if_neg c7).symm.trans e
      refine ex_pc (if_neg c7) ?_
      refine ex_s (am_nb (m := 2) (pc1 := 15) (ls1 := [(0, .int x0)]) (st1 := [.int 32, .int x0]) (H1 := H) (k1 := 0) (n1 := 0) (by with_unfolding_all rfl)) ?_
      refine ex_s (st_icmp rfl) ?_
      by_cases c10 : x0 < 32
      · have e := (if_pos c10).symm.trans e
        refine ex_pc (if_pos c10) ?_
        refine ex_s (am_nb (m := 1) (pc1 := 29) (ls1 := [(0, .int x0)]) (st1 := [.int 0]) (H1 := H) (k1 := 0) (n1 := 0) (by with_unfolding_all rfl)) ?_
        cases e
        exact ex_r (st_iret rfl rfl rfl) hS
      · have e := (if_neg c10).symm.trans e
        refine ex_pc (if_neg c10) ?_
        refine ex_s (am_nb (m := 2) (pc1 := 21) (ls1 := [(0, .int x0)]) (st1 := [.int 126, .int x0]) (H1 := H) (k1 := 0) (n1 := 0) (by with_unfolding_all rfl)) ?_
        have kk : am_E sL sx am_cs 371 29 [(0, .int x0)] [.int (if 126 < x0 then (0 : Int32) else (1 : Int32))] H (some (.int r)) (fun H1 => xS h b T a' H1) := by
          obtain ⟨g12, e⟩ := xg_some e
          cases e
          exact ex_r (st_iret rfl rfl (xnar_z g12)) hS
        refine ex_s (st_icmp rfl) ?_
        by_cases c11 : 126 < x0
        · refine ex_pc (if_pos c11) ?_
          refine ex_s (am_nb (m := 1) (pc1 := 29) (ls1 := [(0, .int x0)]) (st1 := [.int 0]) (H1 := H) (k1 := 0) (n1 := 0) (by with_unfolding_all rfl)) ?_
          rw [if_pos c11] at kk
          exact kk
        · refine ex_pc (if_neg c11) ?_
          refine ex_s (am_nb (m := 2) (pc1 := 29) (ls1 := [(0, .int x0)]) (st1 := [.int 1]) (H1 := H) (k1 := 0) (n1 := 0) (by with_unfolding_all rfl)) ?_
          rw [if_neg c11] at kk
          exact kk

set_option maxRecDepth 100000 in
theorem tf370_echo {sL : Nat} {sx : Nat → Int32} {h b N : Nat} {T : List am_C} {a' : xA} {x0 : Int32} {a : xA} {H : am_H} (hS : xS h b T a H) (e : f370_echo N h b x0 a = some a') : am_E sL sx am_cs 370 0 [(0, .ref 157), (1, .int x0)] [] H none (fun H1 => xS h b T a' H1) := by
  unfold f370_echo at e
  refine ex_s (am_nb (m := 2) (pc1 := 2) (ls1 := [(0, .ref 157), (1, .int x0)]) (st1 := [.int 2, .ref 157]) (H1 := H) (k1 := 0) (n1 := 0) (by with_unfolding_all rfl)) ?_
  obtain ⟨r4, a5, e3, e⟩ := xb2_some e
  refine ex_cv1 (as := [.int 2]) (rest := []) rfl rfl rfl rfl (hS.obj rfl (by decide)) rfl (by with_unfolding_all rfl) (by with_unfolding_all rfl) (tf358_flag hS e3) (fun H1 s2 => ?_)
  refine ex_s (st_if rfl) ?_
  by_cases c6 : r4 = 0
  · have e := (if_pos c6).symm.trans e
    refine ex_pc (if_pos c6) ?_
    cases e
    exact ex_r (st_vret rfl rfl) s2
  · have e := (if_neg c6).symm.trans e
    refine ex_pc (if_neg c6) ?_
    refine ex_s (am_nb (m := 1) (pc1 := 10) (ls1 := [(0, .ref 157), (1, .int x0)]) (st1 := [.int x0]) (H1 := H1) (k1 := 0) (n1 := 0) (by with_unfolding_all rfl)) ?_
    obtain ⟨r10, a11, e9, e⟩ := xb2_some e
    refine ex_cs1 (as := [.int x0]) (rest := []) rfl (by decide) rfl rfl (by with_unfolding_all rfl) (by with_unfolding_all rfl) (tf371_isPlain s2 e9) (fun H7 s8 => ?_)
    refine ex_s (st_if rfl) ?_
    by_cases c12 : r10 = 0
    · have e := (if_pos c12).symm.trans e
      refine ex_pc (if_pos c12) ?_
      refine ex_s (am_nb (m := 2) (pc1 := 26) (ls1 := [(0, .ref 157), (1, .int x0)]) (st1 := [.int 94, .ref 157]) (H1 := H7) (k1 := 0) (n1 := 0) (by with_unfolding_all rfl)) ?_
      obtain ⟨r16, a17, e15, e⟩ := xb2_some e
      refine ex_cv1 (as := [.int 94]) (rest := []) rfl rfl rfl rfl (s8.obj rfl (by decide)) rfl (by with_unfolding_all rfl) (by with_unfolding_all rfl) (tf356_putOne s8 e15) (fun H13 s14 => ?_)
      refine ex_s (am_nb (m := 5) (pc1 := 35) (ls1 := [(0, .ref 157), (1, .int x0)]) (st1 := [.int (x0 ^^^ 64), .ref 157]) (H1 := H13) (k1 := 0) (n1 := 0) (by with_unfolding_all rfl)) ?_
      obtain ⟨r21, a22, e20, e⟩ := xb2_some e
      refine ex_cv1 (as := [.int (x0 ^^^ 64)]) (rest := []) rfl rfl rfl rfl (s14.obj rfl (by decide)) rfl (by with_unfolding_all rfl) (by with_unfolding_all rfl) (tf356_putOne s14 e20) (fun H18 s19 => ?_)
      refine ex_s (am_nb (m := 1) (pc1 := 39) (ls1 := [(0, .ref 157), (1, .int x0)]) (st1 := []) (H1 := H18) (k1 := 0) (n1 := 0) (by with_unfolding_all rfl)) ?_
      cases e
      exact ex_r (st_vret rfl rfl) s19
    · have e := (if_neg c12).symm.trans e
      refine ex_pc (if_neg c12) ?_
      refine ex_s (am_nb (m := 2) (pc1 := 18) (ls1 := [(0, .ref 157), (1, .int x0)]) (st1 := [.int x0, .ref 157]) (H1 := H7) (k1 := 0) (n1 := 0) (by with_unfolding_all rfl)) ?_
      obtain ⟨r26, a27, e25, e⟩ := xb2_some e
      refine ex_cv1 (as := [.int x0]) (rest := []) rfl rfl rfl rfl (s8.obj rfl (by decide)) rfl (by with_unfolding_all rfl) (by with_unfolding_all rfl) (tf356_putOne s8 e25) (fun H23 s24 => ?_)
      refine ex_s (am_nb (m := 1) (pc1 := 22) (ls1 := [(0, .ref 157), (1, .int x0)]) (st1 := []) (H1 := H23) (k1 := 0) (n1 := 0) (by with_unfolding_all rfl)) ?_
      cases e
      exact ex_r (st_vret rfl rfl) s24

set_option maxRecDepth 100000 in
theorem tj369_105 {sL : Nat} {sx : Nat → Int32} {h b N : Nat} {T : List am_C} {a' : xA} {q1 : Int32} {a : xA} {H : am_H} (hS : xS h b T a H) (e : j369_105 N h b q1 a = some a') : am_E sL sx am_cs 369 105 [(0, .ref 157), (1, .int q1)] [] H none (fun H1 => xS h b T a' H1) := by
  unfold j369_105 at e
  refine ex_s (am_nb (m := 2) (pc1 := 107) (ls1 := [(0, .ref 157), (1, .int q1)]) (st1 := [.int q1, .ref 157]) (H1 := H) (k1 := 0) (n1 := 0) (by with_unfolding_all rfl)) ?_
  obtain ⟨a29, e28, e⟩ := xb1_some e
  refine ex_cv0 (as := [.int q1]) (rest := []) rfl rfl rfl rfl (hS.obj rfl (by decide)) rfl (by with_unfolding_all rfl) (by with_unfolding_all rfl) (tf370_echo hS e28) (fun H26 s27 => ?_)
  cases e
  exact ex_r (st_vret rfl rfl) s27

set_option maxRecDepth 100000 in
theorem tj369_76 {sL : Nat} {sx : Nat → Int32} {h b N : Nat} {T : List am_C} {a' : xA} {q1 : Int32} {a : xA} {H : am_H} (hS : xS h b T a H) (e : j369_76 N h b q1 a = some a') : am_E sL sx am_cs 369 76 [(0, .ref 157), (1, .int q1)] [] H none (fun H1 => xS h b T a' H1) := by
  unfold j369_76 at e
  refine ex_s (am_nb (m := 1) (pc1 := 77) (ls1 := [(0, .ref 157), (1, .int q1)]) (st1 := [.ref 157]) (H1 := H) (k1 := 0) (n1 := 0) (by with_unfolding_all rfl)) ?_
  refine xe_get (v := .ref 185) hS rfl rfl (by decide) rfl ?_
  refine ex_s (am_nb (m := 1) (pc1 := 81) (ls1 := [(0, .ref 157), (1, .int q1)]) (st1 := [.ref 157, .ref 185]) (H1 := H) (k1 := 0) (n1 := 0) (by with_unfolding_all rfl)) ?_
  refine xe_get (v := .int (a 157 65)) hS rfl rfl (by decide) rfl ?_
  refine ex_s (am_nb (m := 2) (pc1 := 86) (ls1 := [(0, .ref 157), (1, .int q1)]) (st1 := [.int q1.toInt8.toInt32, .int (a 157 65), .ref 185]) (H1 := H) (k1 := 0) (n1 := 0) (by with_unfolding_all rfl)) ?_
  obtain ⟨g38, e⟩ := xg_some e
  obtain ⟨a35, ha35, e⟩ := xw_some e
  refine xe_bast hS rfl rfl g38 (fun H36 s37 => ?_)
  have s37 : xS h b T a35 H36 := by rw [ha35]; exact s37
  refine ex_s (am_nb (m := 2) (pc1 := 89) (ls1 := [(0, .ref 157), (1, .int q1)]) (st1 := [.ref 157, .ref 157]) (H1 := H36) (k1 := 0) (n1 := 0) (by with_unfolding_all rfl)) ?_
  refine xe_get (v := .int (a35 157 65)) s37 rfl rfl (by decide) rfl ?_
  refine ex_s (am_nb (m := 2) (pc1 := 94) (ls1 := [(0, .ref 157), (1, .int q1)]) (st1 := [.int ((a35 157 65) + 1), .ref 157]) (H1 := H36) (k1 := 0) (n1 := 0) (by with_unfolding_all rfl)) ?_
  obtain ⟨a39, ha39, e⟩ := xw_some e
  refine xe_put (w := ((a35 157 65) + 1)) s37 rfl rfl (by decide) rfl rfl rfl rfl (fun H40 s41 => ?_)
  have s41 : xS h b T a39 H40 := by rw [ha39]; exact s41
  refine ex_s (am_nb (m := 1) (pc1 := 105) (ls1 := [(0, .ref 157), (1, .int q1)]) (st1 := []) (H1 := H40) (k1 := 0) (n1 := 0) (by with_unfolding_all rfl)) ?_
  exact le_E (l1 := [(0, .ref 157), (1, .int q1)]) ⟨rfl, rfl, trivial⟩ rfl (tj369_105  s41 e)

set_option maxRecDepth 100000 in
theorem tf369_taken {sL : Nat} {sx : Nat → Int32} {h b N : Nat} {T : List am_C} {a' : xA} {x0 : Int32} {a : xA} {H : am_H} (hS : xS h b T a H) (e : f369_taken N h b x0 a = some a') : am_E sL sx am_cs 369 0 [(0, .ref 157), (1, .int x0)] [] H none (fun H1 => xS h b T a' H1) := by
  unfold f369_taken at e
  refine ex_s (am_nb (m := 2) (pc1 := 2) (ls1 := [(0, .ref 157), (1, .int x0)]) (st1 := [.int 1, .ref 157]) (H1 := H) (k1 := 0) (n1 := 0) (by with_unfolding_all rfl)) ?_
  obtain ⟨r4, a5, e3, e⟩ := xb2_some e
  refine ex_cv1 (as := [.int 1]) (rest := []) rfl rfl rfl rfl (hS.obj rfl (by decide)) rfl (by with_unfolding_all rfl) (by with_unfolding_all rfl) (tf358_flag hS e3) (fun H1 s2 => ?_)
  have kk : am_E sL sx am_cs 369 40 [(0, .ref 157), (1, .int x0)] [.int (if r4 = 0 then (if 300 ≤ (a5 157 67) then (0 : Int32) else (1 : Int32)) else (if 100 ≤ (a5 157 65) then (0 : Int32) else (1 : Int32)))] H1 none (fun H1 => xS h b T a' H1) := by
    refine ex_s (am_nb (m := 2) (pc1 := 42) (ls1 := [(2, .int (if r4 = 0 then (if 300 ≤ (a5 157 67) then (0 : Int32) else (1 : Int32)) else (if 100 ≤ (a5 157 65) then (0 : Int32) else (1 : Int32)))), (0, .ref 157), (1, .int x0)]) (st1 := [.int (if r4 = 0 then (if 300 ≤ (a5 157 67) then (0 : Int32) else (1 : Int32)) else (if 100 ≤ (a5 157 65) then (0 : Int32) else (1 : Int32)))]) (H1 := H1) (k1 := 0) (n1 := 0) (by with_unfolding_all rfl)) ?_
    refine ex_s (st_if rfl) ?_
    by_cases c9 : (if r4 = 0 then (if 300 ≤ (a5 157 67) then (0 : Int32) else (1 : Int32)) else (if 100 ≤ (a5 157 65) then (0 : Int32) else (1 : Int32))) = 0
    · have e := (if_pos c9).symm.trans e
      refine ex_pc (if_pos c9) ?_
      refine ex_s (am_nb (m := 2) (pc1 := 48) (ls1 := [(2, .int (if r4 = 0 then (if 300 ≤ (a5 157 67) then (0 : Int32) else (1 : Int32)) else (if 100 ≤ (a5 157 65) then (0 : Int32) else (1 : Int32)))), (0, .ref 157), (1, .int x0)]) (st1 := [.int 7, .ref 157]) (H1 := H1) (k1 := 0) (n1 := 0) (by with_unfolding_all rfl)) ?_
      obtain ⟨r13, a14, e12, e⟩ := xb2_some e
      refine ex_cv1 (as := [.int 7]) (rest := []) rfl rfl rfl rfl (s2.obj rfl (by decide)) rfl (by with_unfolding_all rfl) (by with_unfolding_all rfl) (tf356_putOne s2 e12) (fun H10 s11 => ?_)
      refine ex_s (am_nb (m := 1) (pc1 := 52) (ls1 := [(2, .int (if r4 = 0 then (if 300 ≤ (a5 157 67) then (0 : Int32) else (1 : Int32)) else (if 100 ≤ (a5 157 65) then (0 : Int32) else (1 : Int32)))), (0, .ref 157), (1, .int x0)]) (st1 := []) (H1 := H10) (k1 := 0) (n1 := 0) (by with_unfolding_all rfl)) ?_
      cases e
      exact ex_r (st_vret rfl rfl) s11
    · have e := (if_neg c9).symm.trans e
      refine ex_pc (if_neg c9) ?_
      refine ex_s (am_nb (m := 2) (pc1 := 55) (ls1 := [(2, .int (if r4 = 0 then (if 300 ≤ (a5 157 67) then (0 : Int32) else (1 : Int32)) else (if 100 ≤ (a5 157 65) then (0 : Int32) else (1 : Int32)))), (0, .ref 157), (1, .int x0)]) (st1 := [.int 1, .ref 157]) (H1 := H1) (k1 := 0) (n1 := 0) (by with_unfolding_all rfl)) ?_
      obtain ⟨r18, a19, e17, e⟩ := xb2_some e
      refine ex_cv1 (as := [.int 1]) (rest := []) rfl rfl rfl rfl (s2.obj rfl (by decide)) rfl (by with_unfolding_all rfl) (by with_unfolding_all rfl) (tf358_flag s2 e17) (fun H15 s16 => ?_)
      refine ex_s (st_if rfl) ?_
      by_cases c21 : r18 = 0
      · have e := (if_pos c21).symm.trans e
        refine ex_pc (if_pos c21) ?_
        refine ex_s (am_nb (m := 2) (pc1 := 102) (ls1 := [(2, .int (if r4 = 0 then (if 300 ≤ (a5 157 67) then (0 : Int32) else (1 : Int32)) else (if 100 ≤ (a5 157 65) then (0 : Int32) else (1 : Int32)))), (0, .ref 157), (1, .int x0)]) (st1 := [.int x0, .ref 157]) (H1 := H15) (k1 := 0) (n1 := 0) (by with_unfolding_all rfl)) ?_
        obtain ⟨a25, e24, e⟩ := xb1_some e
        refine ex_cv0 (as := [.int x0]) (rest := []) rfl rfl rfl rfl (s16.obj rfl (by decide)) rfl (by with_unfolding_all rfl) (by with_unfolding_all rfl) (tf354_keep s16 e24) (fun H22 s23 => ?_)
        exact le_E (l1 := [(0, .ref 157), (1, .int x0)]) ⟨rfl, rfl, trivial⟩ rfl (tj369_105  s23 e)
      · have e := (if_neg c21).symm.trans e
        refine ex_pc (if_neg c21) ?_
        refine ex_s (am_nb (m := 1) (pc1 := 62) (ls1 := [(2, .int (if r4 = 0 then (if 300 ≤ (a5 157 67) then (0 : Int32) else (1 : Int32)) else (if 100 ≤ (a5 157 65) then (0 : Int32) else (1 : Int32)))), (0, .ref 157), (1, .int x0)]) (st1 := [.ref 157]) (H1 := H15) (k1 := 0) (n1 := 0) (by with_unfolding_all rfl)) ?_
        refine xe_get (v := .int (a19 157 65)) s16 rfl rfl (by decide) rfl ?_
        refine ex_s (st_if rfl) ?_
        by_cases c31 : (a19 157 65) = 0
        · have e := (if_pos c31).symm.trans e
          refine ex_pc (if_pos c31) ?_
          refine ex_s (am_nb (m := 2) (pc1 := 70) (ls1 := [(2, .int (if r4 = 0 then (if 300 ≤ (a5 157 67) then (0 : Int32) else (1 : Int32)) else (if 100 ≤ (a5 157 65) then (0 : Int32) else (1 : Int32)))), (0, .ref 157), (1, .int x0)]) (st1 := [.ref 157, .ref 157]) (H1 := H15) (k1 := 0) (n1 := 0) (by with_unfolding_all rfl)) ?_
          refine xe_get (v := .int (a19 157 59)) s16 rfl rfl (by decide) rfl ?_
          obtain ⟨a32, ha32, e⟩ := xw_some e
          refine xe_put (w := (a19 157 59)) s16 rfl rfl (by decide) rfl rfl rfl rfl (fun H33 s34 => ?_)
          have s34 : xS h b T a32 H33 := by rw [ha32]; exact s34
          exact le_E (l1 := [(0, .ref 157), (1, .int x0)]) ⟨rfl, rfl, trivial⟩ rfl (tj369_76  s34 e)
        · have e := (if_neg c31).symm.trans e
          refine ex_pc (if_neg c31) ?_
          exact le_E (l1 := [(0, .ref 157), (1, .int x0)]) ⟨rfl, rfl, trivial⟩ rfl (tj369_76  s16 e)
  refine ex_s (st_if rfl) ?_
  by_cases c6 : r4 = 0
  · refine ex_pc (if_pos c6) ?_
    refine ex_s (am_nb (m := 1) (pc1 := 26) (ls1 := [(0, .ref 157), (1, .int x0)]) (st1 := [.ref 157]) (H1 := H1) (k1 := 0) (n1 := 0) (by with_unfolding_all rfl)) ?_
    refine xe_get (v := .int (a5 157 67)) s2 rfl rfl (by decide) rfl ?_
    refine ex_s (am_nb (m := 1) (pc1 := 32) (ls1 := [(0, .ref 157), (1, .int x0)]) (st1 := [.int 300, .int (a5 157 67)]) (H1 := H1) (k1 := 0) (n1 := 0) (by with_unfolding_all rfl)) ?_
    refine ex_s (st_icmp rfl) ?_
    by_cases c7 : 300 ≤ (a5 157 67)
    · refine ex_pc (if_pos c7) ?_
      refine ex_s (am_nb (m := 1) (pc1 := 40) (ls1 := [(0, .ref 157), (1, .int x0)]) (st1 := [.int 0]) (H1 := H1) (k1 := 0) (n1 := 0) (by with_unfolding_all rfl)) ?_
      rw [if_pos c6, if_pos c7] at kk
      exact kk
    · refine ex_pc (if_neg c7) ?_
      refine ex_s (am_nb (m := 2) (pc1 := 40) (ls1 := [(0, .ref 157), (1, .int x0)]) (st1 := [.int 1]) (H1 := H1) (k1 := 0) (n1 := 0) (by with_unfolding_all rfl)) ?_
      rw [if_pos c6, if_neg c7] at kk
      exact kk
  · refine ex_pc (if_neg c6) ?_
    refine ex_s (am_nb (m := 1) (pc1 := 9) (ls1 := [(0, .ref 157), (1, .int x0)]) (st1 := [.ref 157]) (H1 := H1) (k1 := 0) (n1 := 0) (by with_unfolding_all rfl)) ?_
    refine xe_get (v := .int (a5 157 65)) s2 rfl rfl (by decide) rfl ?_
    refine ex_s (am_nb (m := 1) (pc1 := 14) (ls1 := [(0, .ref 157), (1, .int x0)]) (st1 := [.int 100, .int (a5 157 65)]) (H1 := H1) (k1 := 0) (n1 := 0) (by with_unfolding_all rfl)) ?_
    refine ex_s (st_icmp rfl) ?_
    by_cases c8 : 100 ≤ (a5 157 65)
    · refine ex_pc (if_pos c8) ?_
      refine ex_s (am_nb (m := 2) (pc1 := 40) (ls1 := [(0, .ref 157), (1, .int x0)]) (st1 := [.int 0]) (H1 := H1) (k1 := 0) (n1 := 0) (by with_unfolding_all rfl)) ?_
      rw [if_neg c6, if_pos c8] at kk
      exact kk
    · refine ex_pc (if_neg c8) ?_
      refine ex_s (am_nb (m := 2) (pc1 := 40) (ls1 := [(0, .ref 157), (1, .int x0)]) (st1 := [.int 1]) (H1 := H1) (k1 := 0) (n1 := 0) (by with_unfolding_all rfl)) ?_
      rw [if_neg c6, if_neg c8] at kk
      exact kk

set_option maxRecDepth 100000 in
theorem tf372_signal {sL : Nat} {sx : Nat → Int32} {h b N : Nat} {T : List am_C} {a' : xA} {a : xA} {H : am_H} (hS : xS h b T a H) (e : f372_signal N h b a = some a') : am_E sL sx am_cs 372 0 [(0, .ref 157)] [] H none (fun H1 => xS h b T a' H1) := by
  unfold f372_signal at e
  refine ex_s (am_nb (m := 2) (pc1 := 2) (ls1 := [(0, .ref 157)]) (st1 := [.ref 157, .ref 157]) (H1 := H) (k1 := 0) (n1 := 0) (by with_unfolding_all rfl)) ?_
  refine xe_get (v := .int (a 157 61)) hS rfl rfl (by decide) rfl ?_
  refine ex_s (am_nb (m := 2) (pc1 := 7) (ls1 := [(0, .ref 157)]) (st1 := [.int ((a 157 61) + 1), .ref 157]) (H1 := H) (k1 := 0) (n1 := 0) (by with_unfolding_all rfl)) ?_
  obtain ⟨a1, ha1, e⟩ := xw_some e
  refine xe_put (w := ((a 157 61) + 1)) hS rfl rfl (by decide) rfl rfl rfl rfl (fun H2 s3 => ?_)
  have s3 : xS h b T a1 H2 := by rw [ha1]; exact s3
  refine ex_s (am_nb (m := 2) (pc1 := 12) (ls1 := [(0, .ref 157)]) (st1 := [.int 0, .ref 157]) (H1 := H2) (k1 := 0) (n1 := 0) (by with_unfolding_all rfl)) ?_
  obtain ⟨a4, ha4, e⟩ := xw_some e
  refine xe_put (w := 0) s3 rfl rfl (by decide) rfl rfl rfl rfl (fun H5 s6 => ?_)
  have s6 : xS h b T a4 H5 := by rw [ha4]; exact s6
  refine ex_s (am_nb (m := 2) (pc1 := 17) (ls1 := [(0, .ref 157)]) (st1 := [.int 0, .ref 157]) (H1 := H5) (k1 := 0) (n1 := 0) (by with_unfolding_all rfl)) ?_
  obtain ⟨a7, ha7, e⟩ := xw_some e
  refine xe_put (w := 0) s6 rfl rfl (by decide) rfl rfl rfl rfl (fun H8 s9 => ?_)
  have s9 : xS h b T a7 H8 := by rw [ha7]; exact s9
  refine ex_s (am_nb (m := 2) (pc1 := 22) (ls1 := [(0, .ref 157)]) (st1 := [.int 0, .ref 157]) (H1 := H8) (k1 := 0) (n1 := 0) (by with_unfolding_all rfl)) ?_
  obtain ⟨a10, ha10, e⟩ := xw_some e
  refine xe_put (w := 0) s9 rfl rfl (by decide) rfl rfl rfl rfl (fun H11 s12 => ?_)
  have s12 : xS h b T a10 H11 := by rw [ha10]; exact s12
  refine ex_s (am_nb (m := 2) (pc1 := 27) (ls1 := [(0, .ref 157)]) (st1 := [.int 0, .ref 157]) (H1 := H11) (k1 := 0) (n1 := 0) (by with_unfolding_all rfl)) ?_
  obtain ⟨a13, ha13, e⟩ := xw_some e
  refine xe_put (w := 0) s12 rfl rfl (by decide) rfl rfl rfl rfl (fun H14 s15 => ?_)
  have s15 : xS h b T a13 H14 := by rw [ha13]; exact s15
  refine ex_s (am_nb (m := 2) (pc1 := 32) (ls1 := [(0, .ref 157)]) (st1 := [.int 0, .ref 157]) (H1 := H14) (k1 := 0) (n1 := 0) (by with_unfolding_all rfl)) ?_
  obtain ⟨a16, ha16, e⟩ := xw_some e
  refine xe_put (w := 0) s15 rfl rfl (by decide) rfl rfl rfl rfl (fun H17 s18 => ?_)
  have s18 : xS h b T a16 H17 := by rw [ha16]; exact s18
  refine ex_s (am_nb (m := 2) (pc1 := 37) (ls1 := [(0, .ref 157)]) (st1 := [.int 2, .ref 157]) (H1 := H17) (k1 := 0) (n1 := 0) (by with_unfolding_all rfl)) ?_
  obtain ⟨r22, a23, e21, e⟩ := xb2_some e
  refine ex_cv1 (as := [.int 2]) (rest := []) rfl rfl rfl rfl (s18.obj rfl (by decide)) rfl (by with_unfolding_all rfl) (by with_unfolding_all rfl) (tf358_flag s18 e21) (fun H19 s20 => ?_)
  refine ex_s (st_if rfl) ?_
  by_cases c24 : r22 = 0
  · have e := (if_pos c24).symm.trans e
    refine ex_pc (if_pos c24) ?_
    cases e
    exact ex_r (st_vret rfl rfl) s20
  · have e := (if_neg c24).symm.trans e
    refine ex_pc (if_neg c24) ?_
    refine ex_s (am_nb (m := 2) (pc1 := 47) (ls1 := [(0, .ref 157)]) (st1 := [.int 94, .ref 157]) (H1 := H19) (k1 := 0) (n1 := 0) (by with_unfolding_all rfl)) ?_
    obtain ⟨r28, a29, e27, e⟩ := xb2_some e
    refine ex_cv1 (as := [.int 94]) (rest := []) rfl rfl rfl rfl (s20.obj rfl (by decide)) rfl (by with_unfolding_all rfl) (by with_unfolding_all rfl) (tf356_putOne s20 e27) (fun H25 s26 => ?_)
    refine ex_s (am_nb (m := 3) (pc1 := 54) (ls1 := [(0, .ref 157)]) (st1 := [.int 67, .ref 157]) (H1 := H25) (k1 := 0) (n1 := 0) (by with_unfolding_all rfl)) ?_
    obtain ⟨r33, a34, e32, e⟩ := xb2_some e
    refine ex_cv1 (as := [.int 67]) (rest := []) rfl rfl rfl rfl (s26.obj rfl (by decide)) rfl (by with_unfolding_all rfl) (by with_unfolding_all rfl) (tf356_putOne s26 e32) (fun H30 s31 => ?_)
    refine ex_s (am_nb (m := 3) (pc1 := 61) (ls1 := [(0, .ref 157)]) (st1 := [.int 10, .ref 157]) (H1 := H30) (k1 := 0) (n1 := 0) (by with_unfolding_all rfl)) ?_
    obtain ⟨r38, a39, e37, e⟩ := xb2_some e
    refine ex_cv1 (as := [.int 10]) (rest := []) rfl rfl rfl rfl (s31.obj rfl (by decide)) rfl (by with_unfolding_all rfl) (by with_unfolding_all rfl) (tf356_putOne s31 e37) (fun H35 s36 => ?_)
    refine ex_s (am_nb (m := 1) (pc1 := 65) (ls1 := [(0, .ref 157)]) (st1 := []) (H1 := H35) (k1 := 0) (n1 := 0) (by with_unfolding_all rfl)) ?_
    cases e
    exact ex_r (st_vret rfl rfl) s36

set_option maxRecDepth 100000 in
theorem tj375_57 {sL : Nat} {sx : Nat → Int32} {h b N : Nat} {T : List am_C} {R : Option Value} {F : am_H → Prop} {z : Nat × Int32 × xA} {rc : Int32 → Int32 → xA → Option (Nat × Int32 × xA)} (k0 : z.1 = 0 → ∀ H2 : am_H, xS h b T z.2.2 H2 → am_E sL sx am_cs 375 64 [(1, .int z.2.1)] [] H2 R F) (ih : ∀ (v1 : Int32) (v2 : Int32) (a : xA) (H : am_H), xS h b T a H → rc v1 v2 a = some z → am_E sL sx am_cs 375 7 [(0, .ref 157), (1, .int v1), (2, .int v2)] [] H R F) {q2 : Int32} {t0 : Int32} {a : xA} {H : am_H} (hS : xS h b T a H) (e : j375_57 N h b rc q2 t0 a = some z) : am_E sL sx am_cs 375 57 [(0, .ref 157), (2, .int q2)] [.int t0] H R F := by
  unfold j375_57 at e
  refine ex_s (am_nb (m := 3) (pc1 := 7) (ls1 := [(2, .int (q2 + 1)), (1, .int t0), (0, .ref 157)]) (st1 := []) (H1 := H) (k1 := 0) (n1 := 0) (by with_unfolding_all rfl)) ?_
  exact le_E (l1 := [(0, .ref 157), (1, .int t0), (2, .int (q2 + 1))]) ⟨rfl, rfl, rfl, trivial⟩ rfl (ih t0 (q2 + 1) a H hS e)

set_option maxRecDepth 100000 in
theorem tl375_7 {sL : Nat} {sx : Nat → Int32} {h b N : Nat} {T : List am_C} {R : Option Value} {F : am_H → Prop} {z : Nat × Int32 × xA} (k0 : z.1 = 0 → ∀ H2 : am_H, xS h b T z.2.2 H2 → am_E sL sx am_cs 375 64 [(1, .int z.2.1)] [] H2 R F) : ∀ (n : Nat) (v1 : Int32) (v2 : Int32) (a : xA) (H : am_H), xS h b T a H → l375_7 N h b n v1 v2 a = some z → am_E sL sx am_cs 375 7 [(0, .ref 157), (1, .int v1), (2, .int v2)] [] H R F := by
  intro n
  induction n with
  | zero =>
    intro v1 v2 a H hS e
    cases e
  | succ n ih =>
    intro v1 v2 a H hS e
    unfold l375_7 at e
    refine ex_s (am_nb (m := 2) (pc1 := 9) (ls1 := [(0, .ref 157), (1, .int v1), (2, .int v2)]) (st1 := [.ref 157, .int v2]) (H1 := H) (k1 := 0) (n1 := 0) (by with_unfolding_all rfl)) ?_
    refine xe_get (v := .int (a 157 65)) hS rfl rfl (by decide) rfl ?_
    refine ex_s (st_icmp rfl) ?_
    by_cases c1 : (a 157 65) ≤ v2
    · have e := (if_pos c1).symm.trans e
      refine ex_pc (if_pos c1) ?_
      cases e
      exact le_E (l1 := [(1, .int v1)]) ⟨rfl, trivial⟩ rfl (k0 rfl H hS)
    · have e := (if_neg c1).symm.trans e
      refine ex_pc (if_neg c1) ?_
      refine ex_s (am_nb (m := 1) (pc1 := 16) (ls1 := [(0, .ref 157), (1, .int v1), (2, .int v2)]) (st1 := [.ref 157]) (H1 := H) (k1 := 0) (n1 := 0) (by with_unfolding_all rfl)) ?_
      refine xe_get (v := .ref 185) hS rfl rfl (by decide) rfl ?_
      refine ex_s (am_nb (m := 1) (pc1 := 20) (ls1 := [(0, .ref 157), (1, .int v1), (2, .int v2)]) (st1 := [.int v2, .ref 185]) (H1 := H) (k1 := 0) (n1 := 0) (by with_unfolding_all rfl)) ?_
      obtain ⟨g2, e⟩ := xg_some e
      refine xe_bald hS rfl rfl g2 ?_
      refine ex_s (am_nb (m := 4) (pc1 := 27) (ls1 := [(3, .int ((a 185 (v2.toNatClampNeg)) &&& 255)), (0, .ref 157), (1, .int v1), (2, .int v2)]) (st1 := [.int ((a 185 (v2.toNatClampNeg)) &&& 255)]) (H1 := H) (k1 := 0) (n1 := 0) (by with_unfolding_all rfl)) ?_
      obtain ⟨r6, a7, e5, e⟩ := xb2_some e
      refine ex_cs1 (as := [.int ((a 185 (v2.toNatClampNeg)) &&& 255)]) (rest := []) rfl (by decide) rfl rfl (by with_unfolding_all rfl) (by with_unfolding_all rfl) (tf371_isPlain hS e5) (fun H3 s4 => ?_)
      refine ex_s (st_if rfl) ?_
      by_cases c9 : r6 = 0
      · have e := (if_pos c9).symm.trans e
        refine ex_pc (if_pos c9) ?_
        refine ex_s (am_nb (m := 4) (pc1 := 47) (ls1 := [(3, .int ((a 185 (v2.toNatClampNeg)) &&& 255)), (0, .ref 157), (1, .int v1), (2, .int v2)]) (st1 := [.int 94, .int v1, .ref 157, .ref 157]) (H1 := H3) (k1 := 0) (n1 := 0) (by with_unfolding_all rfl)) ?_
        obtain ⟨r13, a14, e12, e⟩ := xb2_some e
        refine ex_cv1 (as := [.int v1, .int 94]) (rest := [.ref 157]) rfl rfl rfl rfl (s4.obj rfl (by decide)) rfl (by with_unfolding_all rfl) (by with_unfolding_all rfl) (tf357_moved s4 e12) (fun H10 s11 => ?_)
        refine ex_s (am_nb (m := 3) (pc1 := 54) (ls1 := [(3, .int ((a 185 (v2.toNatClampNeg)) &&& 255)), (0, .ref 157), (1, .int v1), (2, .int v2)]) (st1 := [.int (((a 185 (v2.toNatClampNeg)) &&& 255) ^^^ 64), .int r13, .ref 157]) (H1 := H10) (k1 := 0) (n1 := 0) (by with_unfolding_all rfl)) ?_
        obtain ⟨r18, a19, e17, e⟩ := xb2_some e
        refine ex_cv1 (as := [.int r13, .int (((a 185 (v2.toNatClampNeg)) &&& 255) ^^^ 64)]) (rest := []) rfl rfl rfl rfl (s11.obj rfl (by decide)) rfl (by with_unfolding_all rfl) (by with_unfolding_all rfl) (tf357_moved s11 e17) (fun H15 s16 => ?_)
        exact le_E (l1 := [(0, .ref 157), (2, .int v2)]) ⟨rfl, rfl, trivial⟩ rfl (tj375_57 k0 ih  s16 e)
      · have e := (if_neg c9).symm.trans e
        refine ex_pc (if_neg c9) ?_
        refine ex_s (am_nb (m := 3) (pc1 := 36) (ls1 := [(3, .int ((a 185 (v2.toNatClampNeg)) &&& 255)), (0, .ref 157), (1, .int v1), (2, .int v2)]) (st1 := [.int ((a 185 (v2.toNatClampNeg)) &&& 255), .int v1, .ref 157]) (H1 := H3) (k1 := 0) (n1 := 0) (by with_unfolding_all rfl)) ?_
        obtain ⟨r23, a24, e22, e⟩ := xb2_some e
        refine ex_cv1 (as := [.int v1, .int ((a 185 (v2.toNatClampNeg)) &&& 255)]) (rest := []) rfl rfl rfl rfl (s4.obj rfl (by decide)) rfl (by with_unfolding_all rfl) (by with_unfolding_all rfl) (tf357_moved s4 e22) (fun H20 s21 => ?_)
        refine ex_s (am_nb (m := 1) (pc1 := 57) (ls1 := [(3, .int ((a 185 (v2.toNatClampNeg)) &&& 255)), (0, .ref 157), (1, .int v1), (2, .int v2)]) (st1 := [.int r23]) (H1 := H20) (k1 := 0) (n1 := 0) (by with_unfolding_all rfl)) ?_
        exact le_E (l1 := [(0, .ref 157), (2, .int v2)]) ⟨rfl, rfl, trivial⟩ rfl (tj375_57 k0 ih  s21 e)

set_option maxRecDepth 100000 in
theorem tf375_reached {sL : Nat} {sx : Nat → Int32} {h b N : Nat} {T : List am_C} {r : Int32} {a' : xA} {a : xA} {H : am_H} (hS : xS h b T a H) (e : f375_reached N h b a = some (r, a')) : am_E sL sx am_cs 375 0 [(0, .ref 157)] [] H (some (.int r)) (fun H1 => xS h b T a' H1) := by
  unfold f375_reached at e
  refine ex_s (am_nb (m := 1) (pc1 := 1) (ls1 := [(0, .ref 157)]) (st1 := [.ref 157]) (H1 := H) (k1 := 0) (n1 := 0) (by with_unfolding_all rfl)) ?_
  refine xe_get (v := .int (a 157 60)) hS rfl rfl (by decide) rfl ?_
  refine ex_s (am_nb (m := 3) (pc1 := 7) (ls1 := [(2, .int 0), (1, .int (a 157 60)), (0, .ref 157)]) (st1 := []) (H1 := H) (k1 := 0) (n1 := 0) (by with_unfolding_all rfl)) ?_
  obtain ⟨z25, e26, e⟩ := Option.bind_eq_some_iff.mp e
  refine le_E (l1 := [(0, .ref 157), (1, .int (a 157 60)), (2, .int 0)]) ⟨rfl, rfl, rfl, trivial⟩ rfl (tl375_7 (z := z25)  (fun uz25_0 Hz250 sz250 => ?_) N (a 157 60) 0 a H hS e26)
  refine ex_s (am_nb (m := 1) (pc1 := 65) (ls1 := [(1, .int z25.2.1)]) (st1 := [.int z25.2.1]) (H1 := Hz250) (k1 := 0) (n1 := 0) (by with_unfolding_all rfl)) ?_
  cases e
  exact ex_r (st_iret rfl rfl rfl) sz250

set_option maxRecDepth 100000 in
theorem tl374_65 {sL : Nat} {sx : Nat → Int32} {h b N : Nat} {T : List am_C} {R : Option Value} {F : am_H → Prop} {w2 : Int32} {z : Nat × xA} (k0 : z.1 = 0 → ∀ H2 : am_H, xS h b T z.2 H2 → am_E sL sx am_cs 374 83 [] [] H2 R F) : ∀ (n : Nat) (v3 : Int32) (a : xA) (H : am_H), xS h b T a H → l374_65 N h b w2 n v3 a = some z → am_E sL sx am_cs 374 65 [(0, .ref 157), (2, .int w2), (3, .int v3)] [] H R F := by
  intro n
  induction n with
  | zero =>
    intro v3 a H hS e
    cases e
  | succ n ih =>
    intro v3 a H hS e
    unfold l374_65 at e
    refine ex_s (am_nb (m := 2) (pc1 := 67) (ls1 := [(0, .ref 157), (2, .int w2), (3, .int v3)]) (st1 := [.int w2, .int v3]) (H1 := H) (k1 := 0) (n1 := 0) (by with_unfolding_all rfl)) ?_
    refine ex_s (st_icmp rfl) ?_
    by_cases c28 : w2 ≤ v3
    · have e := (if_pos c28).symm.trans e
      refine ex_pc (if_pos c28) ?_
      cases e
      exact le_E (l1 := []) trivial rfl (k0 rfl H hS)
    · have e := (if_neg c28).symm.trans e
      refine ex_pc (if_neg c28) ?_
      refine ex_s (am_nb (m := 2) (pc1 := 73) (ls1 := [(0, .ref 157), (2, .int w2), (3, .int v3)]) (st1 := [.int 8, .ref 157]) (H1 := H) (k1 := 0) (n1 := 0) (by with_unfolding_all rfl)) ?_
      obtain ⟨r32, a33, e31, e⟩ := xb2_some e
      refine ex_cv1 (as := [.int 8]) (rest := []) rfl rfl rfl rfl (hS.obj rfl (by decide)) rfl (by with_unfolding_all rfl) (by with_unfolding_all rfl) (tf356_putOne hS e31) (fun H29 s30 => ?_)
      refine ex_s (am_nb (m := 3) (pc1 := 65) (ls1 := [(3, .int (v3 + 1)), (0, .ref 157), (2, .int w2)]) (st1 := []) (H1 := H29) (k1 := 0) (n1 := 0) (by with_unfolding_all rfl)) ?_
      exact le_E (l1 := [(0, .ref 157), (2, .int w2), (3, .int (v3 + 1))]) ⟨rfl, rfl, rfl, trivial⟩ rfl (ih (v3 + 1) a33 H29 s30 e)

set_option maxRecDepth 100000 in
theorem tl374_104 {sL : Nat} {sx : Nat → Int32} {h b N : Nat} {T : List am_C} {R : Option Value} {F : am_H → Prop} {w2 : Int32} {z : Nat × xA} (k0 : z.1 = 0 → ∀ H2 : am_H, xS h b T z.2 H2 → am_E sL sx am_cs 374 136 [] [] H2 R F) : ∀ (n : Nat) (v3 : Int32) (a : xA) (H : am_H), xS h b T a H → l374_104 N h b w2 n v3 a = some z → am_E sL sx am_cs 374 104 [(0, .ref 157), (2, .int w2), (3, .int v3)] [] H R F := by
  intro n
  induction n with
  | zero =>
    intro v3 a H hS e
    cases e
  | succ n ih =>
    intro v3 a H hS e
    unfold l374_104 at e
    refine ex_s (am_nb (m := 2) (pc1 := 106) (ls1 := [(0, .ref 157), (2, .int w2), (3, .int v3)]) (st1 := [.int w2, .int v3]) (H1 := H) (k1 := 0) (n1 := 0) (by with_unfolding_all rfl)) ?_
    refine ex_s (st_icmp rfl) ?_
    by_cases c39 : w2 ≤ v3
    · have e := (if_pos c39).symm.trans e
      refine ex_pc (if_pos c39) ?_
      cases e
      exact le_E (l1 := []) trivial rfl (k0 rfl H hS)
    · have e := (if_neg c39).symm.trans e
      refine ex_pc (if_neg c39) ?_
      refine ex_s (am_nb (m := 2) (pc1 := 112) (ls1 := [(0, .ref 157), (2, .int w2), (3, .int v3)]) (st1 := [.int 8, .ref 157]) (H1 := H) (k1 := 0) (n1 := 0) (by with_unfolding_all rfl)) ?_
      obtain ⟨r43, a44, e42, e⟩ := xb2_some e
      refine ex_cv1 (as := [.int 8]) (rest := []) rfl rfl rfl rfl (hS.obj rfl (by decide)) rfl (by with_unfolding_all rfl) (by with_unfolding_all rfl) (tf356_putOne hS e42) (fun H40 s41 => ?_)
      refine ex_s (am_nb (m := 3) (pc1 := 119) (ls1 := [(0, .ref 157), (2, .int w2), (3, .int v3)]) (st1 := [.int 32, .ref 157]) (H1 := H40) (k1 := 0) (n1 := 0) (by with_unfolding_all rfl)) ?_
      obtain ⟨r48, a49, e47, e⟩ := xb2_some e
      refine ex_cv1 (as := [.int 32]) (rest := []) rfl rfl rfl rfl (s41.obj rfl (by decide)) rfl (by with_unfolding_all rfl) (by with_unfolding_all rfl) (tf356_putOne s41 e47) (fun H45 s46 => ?_)
      refine ex_s (am_nb (m := 3) (pc1 := 126) (ls1 := [(0, .ref 157), (2, .int w2), (3, .int v3)]) (st1 := [.int 8, .ref 157]) (H1 := H45) (k1 := 0) (n1 := 0) (by with_unfolding_all rfl)) ?_
      obtain ⟨r53, a54, e52, e⟩ := xb2_some e
      refine ex_cv1 (as := [.int 8]) (rest := []) rfl rfl rfl rfl (s46.obj rfl (by decide)) rfl (by with_unfolding_all rfl) (by with_unfolding_all rfl) (tf356_putOne s46 e52) (fun H50 s51 => ?_)
      refine ex_s (am_nb (m := 3) (pc1 := 104) (ls1 := [(3, .int (v3 + 1)), (0, .ref 157), (2, .int w2)]) (st1 := []) (H1 := H50) (k1 := 0) (n1 := 0) (by with_unfolding_all rfl)) ?_
      exact le_E (l1 := [(0, .ref 157), (2, .int w2), (3, .int (v3 + 1))]) ⟨rfl, rfl, rfl, trivial⟩ rfl (ih (v3 + 1) a54 H50 s51 e)

set_option maxRecDepth 100000 in
theorem tj374_101 {sL : Nat} {sx : Nat → Int32} {h b N : Nat} {T : List am_C} {a' : xA} {t0 : Int32} {a : xA} {H : am_H} (hS : xS h b T a H) (e : j374_101 N h b t0 a = some a') : am_E sL sx am_cs 374 101 [(0, .ref 157)] [.int t0] H none (fun H1 => xS h b T a' H1) := by
  unfold j374_101 at e
  refine ex_s (am_nb (m := 3) (pc1 := 104) (ls1 := [(3, .int 0), (2, .int t0), (0, .ref 157)]) (st1 := []) (H1 := H) (k1 := 0) (n1 := 0) (by with_unfolding_all rfl)) ?_
  obtain ⟨z55, e56, e⟩ := Option.bind_eq_some_iff.mp e
  refine le_E (l1 := [(0, .ref 157), (2, .int t0), (3, .int 0)]) ⟨rfl, rfl, rfl, trivial⟩ rfl (tl374_104 (z := z55)  (fun uz55_0 Hz550 sz550 => ?_) N 0 a H hS e56)
  cases e
  exact ex_r (st_vret rfl rfl) sz550

set_option maxRecDepth 100000 in
theorem tj374_100 {sL : Nat} {sx : Nat → Int32} {h b N : Nat} {T : List am_C} {a' : xA} {a : xA} {H : am_H} (hS : xS h b T a H) (e : j374_100 N h b a = some a') : am_E sL sx am_cs 374 100 [(0, .ref 157)] [] H none (fun H1 => xS h b T a' H1) := by
  unfold j374_100 at e
  refine ex_s (am_nb (m := 1) (pc1 := 101) (ls1 := [(0, .ref 157)]) (st1 := [.int 2]) (H1 := H) (k1 := 0) (n1 := 0) (by with_unfolding_all rfl)) ?_
  exact le_E (l1 := [(0, .ref 157)]) ⟨rfl, trivial⟩ rfl (tj374_101  hS e)

set_option maxRecDepth 100000 in
theorem tf374_rub {sL : Nat} {sx : Nat → Int32} {h b N : Nat} {T : List am_C} {a' : xA} {a : xA} {H : am_H} (hS : xS h b T a H) (e : f374_rub N h b a = some a') : am_E sL sx am_cs 374 0 [(0, .ref 157)] [] H none (fun H1 => xS h b T a' H1) := by
  unfold f374_rub at e
  refine ex_s (am_nb (m := 2) (pc1 := 2) (ls1 := [(0, .ref 157)]) (st1 := [.ref 157, .ref 157]) (H1 := H) (k1 := 0) (n1 := 0) (by with_unfolding_all rfl)) ?_
  refine xe_get (v := .int (a 157 65)) hS rfl rfl (by decide) rfl ?_
  refine ex_s (am_nb (m := 2) (pc1 := 7) (ls1 := [(0, .ref 157)]) (st1 := [.int ((a 157 65) - 1), .ref 157]) (H1 := H) (k1 := 0) (n1 := 0) (by with_unfolding_all rfl)) ?_
  obtain ⟨a1, ha1, e⟩ := xw_some e
  refine xe_put (w := ((a 157 65) - 1)) hS rfl rfl (by decide) rfl rfl rfl rfl (fun H2 s3 => ?_)
  have s3 : xS h b T a1 H2 := by rw [ha1]; exact s3
  refine ex_s (am_nb (m := 1) (pc1 := 11) (ls1 := [(0, .ref 157)]) (st1 := [.ref 157]) (H1 := H2) (k1 := 0) (n1 := 0) (by with_unfolding_all rfl)) ?_
  refine xe_get (v := .ref 185) s3 rfl rfl (by decide) rfl ?_
  refine ex_s (am_nb (m := 1) (pc1 := 15) (ls1 := [(0, .ref 157)]) (st1 := [.ref 157, .ref 185]) (H1 := H2) (k1 := 0) (n1 := 0) (by with_unfolding_all rfl)) ?_
  refine xe_get (v := .int (a1 157 65)) s3 rfl rfl (by decide) rfl ?_
  obtain ⟨g4, e⟩ := xg_some e
  refine xe_bald s3 rfl rfl g4 ?_
  refine ex_s (am_nb (m := 5) (pc1 := 26) (ls1 := [(1, .int ((a1 185 ((a1 157 65).toNatClampNeg)) &&& 255)), (0, .ref 157)]) (st1 := [.int 2, .ref 157]) (H1 := H2) (k1 := 0) (n1 := 0) (by with_unfolding_all rfl)) ?_
  obtain ⟨r8, a9, e7, e⟩ := xb2_some e
  refine ex_cv1 (as := [.int 2]) (rest := []) rfl rfl rfl rfl (s3.obj rfl (by decide)) rfl (by with_unfolding_all rfl) (by with_unfolding_all rfl) (tf358_flag s3 e7) (fun H5 s6 => ?_)
  refine ex_s (st_if rfl) ?_
  by_cases c11 : r8 = 0
  · have e := (if_pos c11).symm.trans e
    refine ex_pc (if_pos c11) ?_
    cases e
    exact ex_r (st_vret rfl rfl) s6
  · have e := (if_neg c11).symm.trans e
    refine ex_pc (if_neg c11) ?_
    refine ex_s (am_nb (m := 2) (pc1 := 34) (ls1 := [(1, .int ((a1 185 ((a1 157 65).toNatClampNeg)) &&& 255)), (0, .ref 157)]) (st1 := [.int 4, .ref 157]) (H1 := H5) (k1 := 0) (n1 := 0) (by with_unfolding_all rfl)) ?_
    obtain ⟨r15, a16, e14, e⟩ := xb2_some e
    refine ex_cv1 (as := [.int 4]) (rest := []) rfl rfl rfl rfl (s6.obj rfl (by decide)) rfl (by with_unfolding_all rfl) (by with_unfolding_all rfl) (tf358_flag s6 e14) (fun H12 s13 => ?_)
    refine ex_s (st_if rfl) ?_
    by_cases c20 : r15 = 0
    · have e := (if_pos c20).symm.trans e
      refine ex_pc (if_pos c20) ?_
      cases e
      exact ex_r (st_vret rfl rfl) s13
    · have e := (if_neg c20).symm.trans e
      refine ex_pc (if_neg c20) ?_
      refine ex_s (am_nb (m := 2) (pc1 := 43) (ls1 := [(1, .int ((a1 185 ((a1 157 65).toNatClampNeg)) &&& 255)), (0, .ref 157)]) (st1 := [.int 10, .int ((a1 185 ((a1 157 65).toNatClampNeg)) &&& 255)]) (H1 := H12) (k1 := 0) (n1 := 0) (by with_unfolding_all rfl)) ?_
      refine ex_s (st_icmp rfl) ?_
      by_cases c21 : ((a1 185 ((a1 157 65).toNatClampNeg)) &&& 255) = 10
      · have e := (if_pos c21).symm.trans e
        refine ex_pc (if_pos c21) ?_
        cases e
        exact ex_r (st_vret rfl rfl) s13
      · have e := (if_neg c21).symm.trans e
        refine ex_pc (if_neg c21) ?_
        refine ex_s (am_nb (m := 2) (pc1 := 50) (ls1 := [(1, .int ((a1 185 ((a1 157 65).toNatClampNeg)) &&& 255)), (0, .ref 157)]) (st1 := [.int 9, .int ((a1 185 ((a1 157 65).toNatClampNeg)) &&& 255)]) (H1 := H12) (k1 := 0) (n1 := 0) (by with_unfolding_all rfl)) ?_
        refine ex_s (st_icmp rfl) ?_
        by_cases c22 : ((a1 185 ((a1 157 65).toNatClampNeg)) &&& 255) = 9
        · have e := (if_pos c22).symm.trans e
          refine ex_pc (if_pos c22) ?_
          refine ex_s (am_nb (m := 1) (pc1 := 54) (ls1 := [(1, .int ((a1 185 ((a1 157 65).toNatClampNeg)) &&& 255)), (0, .ref 157)]) (st1 := [.ref 157]) (H1 := H12) (k1 := 0) (n1 := 0) (by with_unfolding_all rfl)) ?_
          refine xe_get (v := .int (a16 157 59)) s13 rfl rfl (by decide) rfl ?_
          refine ex_s (am_nb (m := 1) (pc1 := 58) (ls1 := [(1, .int ((a1 185 ((a1 157 65).toNatClampNeg)) &&& 255)), (0, .ref 157)]) (st1 := [.ref 157, .int (a16 157 59)]) (H1 := H12) (k1 := 0) (n1 := 0) (by with_unfolding_all rfl)) ?_
          obtain ⟨r26, a27, e25, e⟩ := xb2_some e
          refine ex_cv1 (as := []) (rest := [.int (a16 157 59)]) rfl rfl rfl rfl (s13.obj rfl (by decide)) rfl (by with_unfolding_all rfl) (by with_unfolding_all rfl) (tf375_reached s13 e25) (fun H23 s24 => ?_)
          refine ex_s (am_nb (m := 4) (pc1 := 65) (ls1 := [(3, .int 0), (2, .int ((a16 157 59) - r26)), (1, .int ((a1 185 ((a1 157 65).toNatClampNeg)) &&& 255)), (0, .ref 157)]) (st1 := []) (H1 := H23) (k1 := 0) (n1 := 0) (by with_unfolding_all rfl)) ?_
          obtain ⟨z34, e35, e⟩ := Option.bind_eq_some_iff.mp e
          refine le_E (l1 := [(0, .ref 157), (2, .int ((a16 157 59) - r26)), (3, .int 0)]) ⟨rfl, rfl, rfl, trivial⟩ rfl (tl374_65 (z := z34)  (fun uz34_0 Hz340 sz340 => ?_) N 0 a27 H23 s24 e35)
          cases e
          exact ex_r (st_vret rfl rfl) sz340
        · have e := (if_neg c22).symm.trans e
          refine ex_pc (if_neg c22) ?_
          refine ex_s (am_nb (m := 2) (pc1 := 87) (ls1 := [(1, .int ((a1 185 ((a1 157 65).toNatClampNeg)) &&& 255)), (0, .ref 157)]) (st1 := [.int 32, .int ((a1 185 ((a1 157 65).toNatClampNeg)) &&& 255)]) (H1 := H12) (k1 := 0) (n1 := 0) (by with_unfolding_all rfl)) ?_
          refine ex_s (st_icmp rfl) ?_
          by_cases c38 : ((a1 185 ((a1 157 65).toNatClampNeg)) &&& 255) < 32
          · have e := (if_pos c38).symm.trans e
            refine ex_pc (if_pos c38) ?_
            exact le_E (l1 := [(0, .ref 157)]) ⟨rfl, trivial⟩ rfl (tj374_100  s13 e)
          · have e := (if_neg c38).symm.trans e
            refine ex_pc (if_neg c38) ?_
            refine ex_s (am_nb (m := 2) (pc1 := 93) (ls1 := [(1, .int ((a1 185 ((a1 157 65).toNatClampNeg)) &&& 255)), (0, .ref 157)]) (st1 := [.int 126, .int ((a1 185 ((a1 157 65).toNatClampNeg)) &&& 255)]) (H1 := H12) (k1 := 0) (n1 := 0) (by with_unfolding_all rfl)) ?_
            have kk : am_E sL sx am_cs 374 101 [(1, .int ((a1 185 ((a1 157 65).toNatClampNeg)) &&& 255)), (0, .ref 157)] [.int (if 126 < ((a1 185 ((a1 157 65).toNatClampNeg)) &&& 255) then (2 : Int32) else (1 : Int32))] H12 none (fun H1 => xS h b T a' H1) := by
              refine ex_s (am_nb (m := 3) (pc1 := 104) (ls1 := [(3, .int 0), (2, .int (if 126 < ((a1 185 ((a1 157 65).toNatClampNeg)) &&& 255) then (2 : Int32) else (1 : Int32))), (1, .int ((a1 185 ((a1 157 65).toNatClampNeg)) &&& 255)), (0, .ref 157)]) (st1 := []) (H1 := H12) (k1 := 0) (n1 := 0) (by with_unfolding_all rfl)) ?_
              obtain ⟨z58, e59, e⟩ := Option.bind_eq_some_iff.mp e
              refine le_E (l1 := [(0, .ref 157), (2, .int (if 126 < ((a1 185 ((a1 157 65).toNatClampNeg)) &&& 255) then (2 : Int32) else (1 : Int32))), (3, .int 0)]) ⟨rfl, rfl, rfl, trivial⟩ rfl (tl374_104 (z := z58)  (fun uz58_0 Hz580 sz580 => ?_) N 0 a16 H12 s13 e59)
              cases e
              exact ex_r (st_vret rfl rfl) sz580
            refine ex_s (st_icmp rfl) ?_
            by_cases c57 : 126 < ((a1 185 ((a1 157 65).toNatClampNeg)) &&& 255)
            · refine ex_pc (if_pos c57) ?_
              refine ex_s (am_nb (m := 1) (pc1 := 101) (ls1 := [(1, .int ((a1 185 ((a1 157 65).toNatClampNeg)) &&& 255)), (0, .ref 157)]) (st1 := [.int 2]) (H1 := H12) (k1 := 0) (n1 := 0) (by with_unfolding_all rfl)) ?_
              rw [if_pos c57] at kk
              exact kk
            · refine ex_pc (if_neg c57) ?_
              refine ex_s (am_nb (m := 2) (pc1 := 101) (ls1 := [(1, .int ((a1 185 ((a1 157 65).toNatClampNeg)) &&& 255)), (0, .ref 157)]) (st1 := [.int 1]) (H1 := H12) (k1 := 0) (n1 := 0) (by with_unfolding_all rfl)) ?_
              rw [if_neg c57] at kk
              exact kk

set_option maxRecDepth 100000 in
theorem tl376_37 {sL : Nat} {sx : Nat → Int32} {h b N : Nat} {T : List am_C} {R : Option Value} {F : am_H → Prop} {w1 : Int32} {z : Nat × xA} (k0 : z.1 = 0 → ∀ H2 : am_H, xS h b T z.2 H2 → am_E sL sx am_cs 376 65 [(0, .ref 157), (1, .int w1)] [] H2 R F) : ∀ (n : Nat) (v3 : Int32) (a : xA) (H : am_H), xS h b T a H → l376_37 N h b w1 n v3 a = some z → am_E sL sx am_cs 376 37 [(0, .ref 157), (1, .int w1), (3, .int v3)] [] H R F := by
  intro n
  induction n with
  | zero =>
    intro v3 a H hS e
    cases e
  | succ n ih =>
    intro v3 a H hS e
    unfold l376_37 at e
    refine ex_s (am_nb (m := 2) (pc1 := 39) (ls1 := [(0, .ref 157), (1, .int w1), (3, .int v3)]) (st1 := [.ref 157, .int v3]) (H1 := H) (k1 := 0) (n1 := 0) (by with_unfolding_all rfl)) ?_
    refine xe_get (v := .int (a 157 65)) hS rfl rfl (by decide) rfl ?_
    refine ex_s (st_icmp rfl) ?_
    by_cases c3 : (a 157 65) ≤ v3
    · have e := (if_pos c3).symm.trans e
      refine ex_pc (if_pos c3) ?_
      cases e
      exact le_E (l1 := [(0, .ref 157), (1, .int w1)]) ⟨rfl, rfl, trivial⟩ rfl (k0 rfl H hS)
    · have e := (if_neg c3).symm.trans e
      refine ex_pc (if_neg c3) ?_
      refine ex_s (am_nb (m := 2) (pc1 := 47) (ls1 := [(0, .ref 157), (1, .int w1), (3, .int v3)]) (st1 := [.ref 157, .ref 157]) (H1 := H) (k1 := 0) (n1 := 0) (by with_unfolding_all rfl)) ?_
      refine xe_get (v := .ref 185) hS rfl rfl (by decide) rfl ?_
      refine ex_s (am_nb (m := 1) (pc1 := 51) (ls1 := [(0, .ref 157), (1, .int w1), (3, .int v3)]) (st1 := [.int v3, .ref 185, .ref 157]) (H1 := H) (k1 := 0) (n1 := 0) (by with_unfolding_all rfl)) ?_
      obtain ⟨g4, e⟩ := xg_some e
      refine xe_bald hS rfl rfl g4 ?_
      refine ex_s (am_nb (m := 2) (pc1 := 56) (ls1 := [(0, .ref 157), (1, .int w1), (3, .int v3)]) (st1 := [.int ((a 185 (v3.toNatClampNeg)) &&& 255), .ref 157]) (H1 := H) (k1 := 0) (n1 := 0) (by with_unfolding_all rfl)) ?_
      obtain ⟨a8, e7, e⟩ := xb1_some e
      refine ex_cv0 (as := [.int ((a 185 (v3.toNatClampNeg)) &&& 255)]) (rest := []) rfl rfl rfl rfl (hS.obj rfl (by decide)) rfl (by with_unfolding_all rfl) (by with_unfolding_all rfl) (tf354_keep hS e7) (fun H5 s6 => ?_)
      refine ex_s (am_nb (m := 2) (pc1 := 37) (ls1 := [(3, .int (v3 + 1)), (0, .ref 157), (1, .int w1)]) (st1 := []) (H1 := H5) (k1 := 0) (n1 := 0) (by with_unfolding_all rfl)) ?_
      exact le_E (l1 := [(0, .ref 157), (1, .int w1), (3, .int (v3 + 1))]) ⟨rfl, rfl, rfl, trivial⟩ rfl (ih (v3 + 1) a8 H5 s6 e)

set_option maxRecDepth 100000 in
theorem tj376_75 {sL : Nat} {sx : Nat → Int32} {h b N : Nat} {T : List am_C} {a' : xA} {q1 : Int32} {a : xA} {H : am_H} (hS : xS h b T a H) (e : j376_75 N h b q1 a = some a') : am_E sL sx am_cs 376 75 [(0, .ref 157), (1, .int q1)] [] H none (fun H1 => xS h b T a' H1) := by
  unfold j376_75 at e
  refine ex_s (am_nb (m := 2) (pc1 := 79) (ls1 := [(0, .ref 157), (1, .int q1)]) (st1 := [.int 256, .ref 157]) (H1 := H) (k1 := 0) (n1 := 0) (by with_unfolding_all rfl)) ?_
  obtain ⟨a16, e15, e⟩ := xb1_some e
  refine ex_cv0 (as := [.int 256]) (rest := []) rfl rfl rfl rfl (hS.obj rfl (by decide)) rfl (by with_unfolding_all rfl) (by with_unfolding_all rfl) (tf354_keep hS e15) (fun H13 s14 => ?_)
  refine ex_s (am_nb (m := 2) (pc1 := 84) (ls1 := [(0, .ref 157), (1, .int q1)]) (st1 := [.int 0, .ref 157]) (H1 := H13) (k1 := 0) (n1 := 0) (by with_unfolding_all rfl)) ?_
  obtain ⟨a17, ha17, e⟩ := xw_some e
  refine xe_put (w := 0) s14 rfl rfl (by decide) rfl rfl rfl rfl (fun H18 s19 => ?_)
  have s19 : xS h b T a17 H18 := by rw [ha17]; exact s19
  refine ex_s (am_nb (m := 1) (pc1 := 88) (ls1 := [(0, .ref 157), (1, .int q1)]) (st1 := [.int q1]) (H1 := H18) (k1 := 0) (n1 := 0) (by with_unfolding_all rfl)) ?_
  refine ex_s (st_if rfl) ?_
  by_cases c21 : q1 = 0
  · have e := (if_pos c21).symm.trans e
    refine ex_pc (if_pos c21) ?_
    cases e
    exact ex_r (st_vret rfl rfl) s19
  · have e := (if_neg c21).symm.trans e
    refine ex_pc (if_neg c21) ?_
    refine ex_s (am_nb (m := 2) (pc1 := 93) (ls1 := [(0, .ref 157), (1, .int q1)]) (st1 := [.int 2, .ref 157]) (H1 := H18) (k1 := 0) (n1 := 0) (by with_unfolding_all rfl)) ?_
    obtain ⟨r25, a26, e24, e⟩ := xb2_some e
    refine ex_cv1 (as := [.int 2]) (rest := []) rfl rfl rfl rfl (s19.obj rfl (by decide)) rfl (by with_unfolding_all rfl) (by with_unfolding_all rfl) (tf358_flag s19 e24) (fun H22 s23 => ?_)
    refine ex_s (st_if rfl) ?_
    by_cases c28 : r25 = 0
    · have e := (if_pos c28).symm.trans e
      refine ex_pc (if_pos c28) ?_
      cases e
      exact ex_r (st_vret rfl rfl) s23
    · have e := (if_neg c28).symm.trans e
      refine ex_pc (if_neg c28) ?_
      refine ex_s (am_nb (m := 2) (pc1 := 102) (ls1 := [(0, .ref 157), (1, .int q1)]) (st1 := [.int 10, .ref 157]) (H1 := H22) (k1 := 0) (n1 := 0) (by with_unfolding_all rfl)) ?_
      obtain ⟨r32, a33, e31, e⟩ := xb2_some e
      refine ex_cv1 (as := [.int 10]) (rest := []) rfl rfl rfl rfl (s23.obj rfl (by decide)) rfl (by with_unfolding_all rfl) (by with_unfolding_all rfl) (tf356_putOne s23 e31) (fun H29 s30 => ?_)
      refine ex_s (am_nb (m := 1) (pc1 := 106) (ls1 := [(0, .ref 157), (1, .int q1)]) (st1 := []) (H1 := H29) (k1 := 0) (n1 := 0) (by with_unfolding_all rfl)) ?_
      cases e
      exact ex_r (st_vret rfl rfl) s30

set_option maxRecDepth 100000 in
theorem tf376_ended {sL : Nat} {sx : Nat → Int32} {h b N : Nat} {T : List am_C} {a' : xA} {x0 : Int32} {a : xA} {H : am_H} (hS : xS h b T a H) (e : f376_ended N h b x0 a = some a') : am_E sL sx am_cs 376 0 [(0, .ref 157), (1, .int x0)] [] H none (fun H1 => xS h b T a' H1) := by
  unfold f376_ended at e
  refine ex_s (am_nb (m := 1) (pc1 := 1) (ls1 := [(0, .ref 157), (1, .int x0)]) (st1 := [.ref 157]) (H1 := H) (k1 := 0) (n1 := 0) (by with_unfolding_all rfl)) ?_
  refine xe_get (v := .int (a 157 65)) hS rfl rfl (by decide) rfl ?_
  refine ex_s (am_nb (m := 1) (pc1 := 5) (ls1 := [(0, .ref 157), (1, .int x0)]) (st1 := [.int x0, .int (a 157 65)]) (H1 := H) (k1 := 0) (n1 := 0) (by with_unfolding_all rfl)) ?_
  have kk : am_E sL sx am_cs 376 13 [(0, .ref 157), (1, .int x0)] [.int (if x0 = 0 then (1 : Int32) else (2 : Int32)), .int (a 157 65)] H none (fun H1 => xS h b T a' H1) := by
    refine ex_s (am_nb (m := 3) (pc1 := 16) (ls1 := [(2, .int ((a 157 65) + (if x0 = 0 then (1 : Int32) else (2 : Int32)))), (0, .ref 157), (1, .int x0)]) (st1 := [.ref 157]) (H1 := H) (k1 := 0) (n1 := 0) (by with_unfolding_all rfl)) ?_
    refine xe_get (v := .int (a 157 67)) hS rfl rfl (by decide) rfl ?_
    refine ex_s (am_nb (m := 3) (pc1 := 24) (ls1 := [(2, .int ((a 157 65) + (if x0 = 0 then (1 : Int32) else (2 : Int32)))), (0, .ref 157), (1, .int x0)]) (st1 := [.int 300, .int ((a 157 67) + ((a 157 65) + (if x0 = 0 then (1 : Int32) else (2 : Int32))))]) (H1 := H) (k1 := 0) (n1 := 0) (by with_unfolding_all rfl)) ?_
    refine ex_s (st_icmp rfl) ?_
    by_cases c2 : ((a 157 67) + ((a 157 65) + (if x0 = 0 then (1 : Int32) else (2 : Int32)))) ≤ 300
    · have e := (if_pos c2).symm.trans e
      refine ex_pc (if_pos c2) ?_
      refine ex_s (am_nb (m := 2) (pc1 := 37) (ls1 := [(3, .int 0), (2, .int ((a 157 65) + (if x0 = 0 then (1 : Int32) else (2 : Int32)))), (0, .ref 157), (1, .int x0)]) (st1 := []) (H1 := H) (k1 := 0) (n1 := 0) (by with_unfolding_all rfl)) ?_
      obtain ⟨z9, e10, e⟩ := Option.bind_eq_some_iff.mp e
      refine le_E (l1 := [(0, .ref 157), (1, .int x0), (3, .int 0)]) ⟨rfl, rfl, rfl, trivial⟩ rfl (tl376_37 (z := z9)  (fun uz9_0 Hz90 sz90 => ?_) N 0 a H hS e10)
      refine ex_s (am_nb (m := 1) (pc1 := 66) (ls1 := [(0, .ref 157), (1, .int x0)]) (st1 := [.int x0]) (H1 := Hz90) (k1 := 0) (n1 := 0) (by with_unfolding_all rfl)) ?_
      refine ex_s (st_if rfl) ?_
      by_cases c12 : x0 = 0
      · have e := (if_pos c12).symm.trans e
        refine ex_pc (if_pos c12) ?_
        exact le_E (l1 := [(0, .ref 157), (1, .int x0)]) ⟨rfl, rfl, trivial⟩ rfl (tj376_75  sz90 e)
      · have e := (if_neg c12).symm.trans e
        refine ex_pc (if_neg c12) ?_
        refine ex_s (am_nb (m := 2) (pc1 := 72) (ls1 := [(0, .ref 157), (1, .int x0)]) (st1 := [.int 10, .ref 157]) (H1 := Hz90) (k1 := 0) (n1 := 0) (by with_unfolding_all rfl)) ?_
        obtain ⟨a37, e36, e⟩ := xb1_some e
        refine ex_cv0 (as := [.int 10]) (rest := []) rfl rfl rfl rfl (sz90.obj rfl (by decide)) rfl (by with_unfolding_all rfl) (by with_unfolding_all rfl) (tf354_keep sz90 e36) (fun H34 s35 => ?_)
        exact le_E (l1 := [(0, .ref 157), (1, .int x0)]) ⟨rfl, rfl, trivial⟩ rfl (tj376_75  s35 e)
    · have e := (if_neg c2).symm.trans e
      refine ex_pc (if_neg c2) ?_
      refine ex_s (am_nb (m := 2) (pc1 := 30) (ls1 := [(2, .int ((a 157 65) + (if x0 = 0 then (1 : Int32) else (2 : Int32)))), (0, .ref 157), (1, .int x0)]) (st1 := [.int 7, .ref 157]) (H1 := H) (k1 := 0) (n1 := 0) (by with_unfolding_all rfl)) ?_
      obtain ⟨r41, a42, e40, e⟩ := xb2_some e
      refine ex_cv1 (as := [.int 7]) (rest := []) rfl rfl rfl rfl (hS.obj rfl (by decide)) rfl (by with_unfolding_all rfl) (by with_unfolding_all rfl) (tf356_putOne hS e40) (fun H38 s39 => ?_)
      refine ex_s (am_nb (m := 1) (pc1 := 34) (ls1 := [(2, .int ((a 157 65) + (if x0 = 0 then (1 : Int32) else (2 : Int32)))), (0, .ref 157), (1, .int x0)]) (st1 := []) (H1 := H38) (k1 := 0) (n1 := 0) (by with_unfolding_all rfl)) ?_
      cases e
      exact ex_r (st_vret rfl rfl) s39
  refine ex_s (st_if rfl) ?_
  by_cases c1 : x0 = 0
  · refine ex_pc (if_pos c1) ?_
    refine ex_s (am_nb (m := 1) (pc1 := 13) (ls1 := [(0, .ref 157), (1, .int x0)]) (st1 := [.int 1, .int (a 157 65)]) (H1 := H) (k1 := 0) (n1 := 0) (by with_unfolding_all rfl)) ?_
    rw [if_pos c1] at kk
    exact kk
  · refine ex_pc (if_neg c1) ?_
    refine ex_s (am_nb (m := 2) (pc1 := 13) (ls1 := [(0, .ref 157), (1, .int x0)]) (st1 := [.int 2, .int (a 157 65)]) (H1 := H) (k1 := 0) (n1 := 0) (by with_unfolding_all rfl)) ?_
    rw [if_neg c1] at kk
    exact kk

set_option maxRecDepth 100000 in
theorem tl373_238 {sL : Nat} {sx : Nat → Int32} {h b N : Nat} {T : List am_C} {R : Option Value} {F : am_H → Prop} {z : Nat × xA} (k0 : z.1 = 0 → ∀ H2 : am_H, xS h b T z.2 H2 → am_E sL sx am_cs 373 266 [] [] H2 R F) : ∀ (n : Nat) (v2 : Int32) (a : xA) (H : am_H), xS h b T a H → l373_238 N h b n v2 a = some z → am_E sL sx am_cs 373 238 [(0, .ref 157), (2, .int v2)] [] H R F := by
  intro n
  induction n with
  | zero =>
    intro v2 a H hS e
    cases e
  | succ n ih =>
    intro v2 a H hS e
    unfold l373_238 at e
    refine ex_s (am_nb (m := 2) (pc1 := 240) (ls1 := [(0, .ref 157), (2, .int v2)]) (st1 := [.ref 157, .int v2]) (H1 := H) (k1 := 0) (n1 := 0) (by with_unfolding_all rfl)) ?_
    refine xe_get (v := .int (a 157 65)) hS rfl rfl (by decide) rfl ?_
    refine ex_s (st_icmp rfl) ?_
    by_cases c42 : (a 157 65) ≤ v2
    · have e := (if_pos c42).symm.trans e
      refine ex_pc (if_pos c42) ?_
      cases e
      exact le_E (l1 := []) trivial rfl (k0 rfl H hS)
    · have e := (if_neg c42).symm.trans e
      refine ex_pc (if_neg c42) ?_
      refine ex_s (am_nb (m := 2) (pc1 := 248) (ls1 := [(0, .ref 157), (2, .int v2)]) (st1 := [.ref 157, .ref 157]) (H1 := H) (k1 := 0) (n1 := 0) (by with_unfolding_all rfl)) ?_
      refine xe_get (v := .ref 185) hS rfl rfl (by decide) rfl ?_
      refine ex_s (am_nb (m := 1) (pc1 := 252) (ls1 := [(0, .ref 157), (2, .int v2)]) (st1 := [.int v2, .ref 185, .ref 157]) (H1 := H) (k1 := 0) (n1 := 0) (by with_unfolding_all rfl)) ?_
      obtain ⟨g43, e⟩ := xg_some e
      refine xe_bald hS rfl rfl g43 ?_
      refine ex_s (am_nb (m := 2) (pc1 := 257) (ls1 := [(0, .ref 157), (2, .int v2)]) (st1 := [.int ((a 185 (v2.toNatClampNeg)) &&& 255), .ref 157]) (H1 := H) (k1 := 0) (n1 := 0) (by with_unfolding_all rfl)) ?_
      obtain ⟨a47, e46, e⟩ := xb1_some e
      refine ex_cv0 (as := [.int ((a 185 (v2.toNatClampNeg)) &&& 255)]) (rest := []) rfl rfl rfl rfl (hS.obj rfl (by decide)) rfl (by with_unfolding_all rfl) (by with_unfolding_all rfl) (tf370_echo hS e46) (fun H44 s45 => ?_)
      refine ex_s (am_nb (m := 2) (pc1 := 238) (ls1 := [(2, .int (v2 + 1)), (0, .ref 157)]) (st1 := []) (H1 := H44) (k1 := 0) (n1 := 0) (by with_unfolding_all rfl)) ?_
      exact le_E (l1 := [(0, .ref 157), (2, .int (v2 + 1))]) ⟨rfl, rfl, trivial⟩ rfl (ih (v2 + 1) a47 H44 s45 e)

set_option maxRecDepth 100000 in
theorem tl373_182 {sL : Nat} {sx : Nat → Int32} {h b N : Nat} {T : List am_C} {R : Option Value} {F : am_H → Prop} {z : Nat × xA} (k0 : z.1 = 0 → ∀ H2 : am_H, xS h b T z.2 H2 → am_E sL sx am_cs 373 290 [] [] H2 R F) : ∀ (n : Nat) (a : xA) (H : am_H), xS h b T a H → l373_182 N h b n a = some z → am_E sL sx am_cs 373 182 [(0, .ref 157)] [] H R F := by
  intro n
  induction n with
  | zero =>
    intro a H hS e
    cases e
  | succ n ih =>
    intro a H hS e
    unfold l373_182 at e
    refine ex_s (am_nb (m := 1) (pc1 := 183) (ls1 := [(0, .ref 157)]) (st1 := [.ref 157]) (H1 := H) (k1 := 0) (n1 := 0) (by with_unfolding_all rfl)) ?_
    refine xe_get (v := .int (a 157 65)) hS rfl rfl (by decide) rfl ?_
    refine ex_s (st_if rfl) ?_
    by_cases c51 : (a 157 65) ≤ 0
    · have e := (if_pos c51).symm.trans e
      refine ex_pc (if_pos c51) ?_
      cases e
      exact le_E (l1 := []) trivial rfl (k0 rfl H hS)
    · have e := (if_neg c51).symm.trans e
      refine ex_pc (if_neg c51) ?_
      refine ex_s (am_nb (m := 1) (pc1 := 190) (ls1 := [(0, .ref 157)]) (st1 := [.ref 157]) (H1 := H) (k1 := 0) (n1 := 0) (by with_unfolding_all rfl)) ?_
      obtain ⟨a55, e54, e⟩ := xb1_some e
      refine ex_cv0 (as := []) (rest := []) rfl rfl rfl rfl (hS.obj rfl (by decide)) rfl (by with_unfolding_all rfl) (by with_unfolding_all rfl) (tf374_rub hS e54) (fun H52 s53 => ?_)
      refine ex_s (am_nb (m := 1) (pc1 := 182) (ls1 := [(0, .ref 157)]) (st1 := []) (H1 := H52) (k1 := 0) (n1 := 0) (by with_unfolding_all rfl)) ?_
      exact le_E (l1 := [(0, .ref 157)]) ⟨rfl, trivial⟩ rfl (ih a55 H52 s53 e)

set_option maxRecDepth 100000 in
theorem tl373_120 {sL : Nat} {sx : Nat → Int32} {h b N : Nat} {T : List am_C} {R : Option Value} {F : am_H → Prop} {z : Nat × xA} (k0 : z.1 = 0 → ∀ H2 : am_H, xS h b T z.2 H2 → am_E sL sx am_cs 373 151 [(0, .ref 157)] [] H2 R F) : ∀ (n : Nat) (a : xA) (H : am_H), xS h b T a H → l373_120 N h b n a = some z → am_E sL sx am_cs 373 120 [(0, .ref 157)] [] H R F := by
  intro n
  induction n with
  | zero =>
    intro a H hS e
    cases e
  | succ n ih =>
    intro a H hS e
    unfold l373_120 at e
    refine ex_s (am_nb (m := 1) (pc1 := 121) (ls1 := [(0, .ref 157)]) (st1 := [.ref 157]) (H1 := H) (k1 := 0) (n1 := 0) (by with_unfolding_all rfl)) ?_
    refine xe_get (v := .int (a 157 65)) hS rfl rfl (by decide) rfl ?_
    refine ex_s (st_if rfl) ?_
    by_cases c79 : (a 157 65) ≤ 0
    · have e := (if_pos c79).symm.trans e
      refine ex_pc (if_pos c79) ?_
      cases e
      exact le_E (l1 := [(0, .ref 157)]) ⟨rfl, trivial⟩ rfl (k0 rfl H hS)
    · have e := (if_neg c79).symm.trans e
      refine ex_pc (if_neg c79) ?_
      refine ex_s (am_nb (m := 1) (pc1 := 128) (ls1 := [(0, .ref 157)]) (st1 := [.ref 157]) (H1 := H) (k1 := 0) (n1 := 0) (by with_unfolding_all rfl)) ?_
      refine xe_get (v := .ref 185) hS rfl rfl (by decide) rfl ?_
      refine ex_s (am_nb (m := 1) (pc1 := 132) (ls1 := [(0, .ref 157)]) (st1 := [.ref 157, .ref 185]) (H1 := H) (k1 := 0) (n1 := 0) (by with_unfolding_all rfl)) ?_
      refine xe_get (v := .int (a 157 65)) hS rfl rfl (by decide) rfl ?_
      refine ex_s (am_nb (m := 2) (pc1 := 137) (ls1 := [(0, .ref 157)]) (st1 := [.int ((a 157 65) - 1), .ref 185]) (H1 := H) (k1 := 0) (n1 := 0) (by with_unfolding_all rfl)) ?_
      obtain ⟨g80, e⟩ := xg_some e
      refine xe_bald hS rfl rfl g80 ?_
      obtain ⟨r84, a85, e83, e⟩ := xb2_some e
      refine ex_cs1 (as := [.int (a 185 (((a 157 65) - 1).toNatClampNeg))]) (rest := []) rfl (by decide) rfl rfl (by with_unfolding_all rfl) (by with_unfolding_all rfl) (tf267_isBlank hS e83) (fun H81 s82 => ?_)
      refine ex_s (st_if rfl) ?_
      by_cases c86 : r84 = 0
      · have e := (if_pos c86).symm.trans e
        refine ex_pc (if_pos c86) ?_
        cases e
        exact le_E (l1 := [(0, .ref 157)]) ⟨rfl, trivial⟩ rfl (k0 rfl H81 s82)
      · have e := (if_neg c86).symm.trans e
        refine ex_pc (if_neg c86) ?_
        refine ex_s (am_nb (m := 1) (pc1 := 145) (ls1 := [(0, .ref 157)]) (st1 := [.ref 157]) (H1 := H81) (k1 := 0) (n1 := 0) (by with_unfolding_all rfl)) ?_
        obtain ⟨a90, e89, e⟩ := xb1_some e
        refine ex_cv0 (as := []) (rest := []) rfl rfl rfl rfl (s82.obj rfl (by decide)) rfl (by with_unfolding_all rfl) (by with_unfolding_all rfl) (tf374_rub s82 e89) (fun H87 s88 => ?_)
        refine ex_s (am_nb (m := 1) (pc1 := 120) (ls1 := [(0, .ref 157)]) (st1 := []) (H1 := H87) (k1 := 0) (n1 := 0) (by with_unfolding_all rfl)) ?_
        exact le_E (l1 := [(0, .ref 157)]) ⟨rfl, trivial⟩ rfl (ih a90 H87 s88 e)
