/-! The program does what the functions say. -/
set_option maxRecDepth 100000 in
theorem tf162_has {sL : Nat} {sx : Nat → Int32} {h b N : Nat} {T : List am_C} {r : Int32} {a' : xA} {x0 : Int32} {a : xA} {H : am_H} (hS : xS h b T a H) (e : f162_has N h b x0 a = some (r, a')) : am_E sL sx am_cs 162 0 [(0, .ref 116), (1, .int x0)] [] H (some (.int r)) (fun H1 => xS h b T a' H1) := by
  unfold f162_has at e
  refine ex_s (am_nb (m := 1) (pc1 := 1) (ls1 := [(0, .ref 116), (1, .int x0)]) (st1 := [.ref 116]) (H1 := H) (k1 := 0) (n1 := 0) (by with_unfolding_all rfl)) ?_
  refine xe_get (v := .int (a 116 3)) hS rfl rfl (by decide) rfl ?_
  refine ex_s (am_nb (m := 2) (pc1 := 6) (ls1 := [(0, .ref 116), (1, .int x0)]) (st1 := [.int ((a 116 3) &&& x0)]) (H1 := H) (k1 := 0) (n1 := 0) (by with_unfolding_all rfl)) ?_
  have kk : am_E sL sx am_cs 162 14 [(0, .ref 116), (1, .int x0)] [.int (if ((a 116 3) &&& x0) = 0 then (0 : Int32) else (1 : Int32))] H (some (.int r)) (fun H1 => xS h b T a' H1) := by
    obtain ⟨g2, e⟩ := xg_some e
    cases e
    exact ex_r (st_iret rfl rfl (xnar_z g2)) hS
  refine ex_s (st_if rfl) ?_
  by_cases c1 : ((a 116 3) &&& x0) = 0
  · refine ex_pc (if_pos c1) ?_
    refine ex_s (am_nb (m := 1) (pc1 := 14) (ls1 := [(0, .ref 116), (1, .int x0)]) (st1 := [.int 0]) (H1 := H) (k1 := 0) (n1 := 0) (by with_unfolding_all rfl)) ?_
    rw [if_pos c1] at kk
    exact kk
  · refine ex_pc (if_neg c1) ?_
    refine ex_s (am_nb (m := 2) (pc1 := 14) (ls1 := [(0, .ref 116), (1, .int x0)]) (st1 := [.int 1]) (H1 := H) (k1 := 0) (n1 := 0) (by with_unfolding_all rfl)) ?_
    rw [if_neg c1] at kk
    exact kk

set_option maxRecDepth 100000 in
theorem tf163_size {sL : Nat} {sx : Nat → Int32} {h b N : Nat} {T : List am_C} {r : Int32} {a' : xA} {o : Nat} {a : xA} {H : am_H} (hS : xS h b T a H) (e : f163_size N h b o a = some (r, a')) : am_E sL sx am_cs 163 0 [(0, .ref o)] [] H (some (.int r)) (fun H1 => xS h b T a' H1) := by
  unfold f163_size at e
  obtain ⟨g1, e⟩ := xg_some e
  refine ex_s (am_nb (m := 1) (pc1 := 1) (ls1 := [(0, .ref o)]) (st1 := [.ref o]) (H1 := H) (k1 := 0) (n1 := 0) (by with_unfolding_all rfl)) ?_
  refine xe_get (v := .int (a o 2)) hS rfl g1 (by decide) rfl ?_
  cases e
  exact ex_r (st_iret rfl rfl rfl) hS

set_option maxRecDepth 100000 in
theorem tj164_12 {sL : Nat} {sx : Nat → Int32} {h b N : Nat} {T : List am_C} {r : Int32} {a' : xA} {a : xA} {H : am_H} (hS : xS h b T a H) (e : j164_12 N h b a = some (r, a')) : am_E sL sx am_cs 164 12 [] [] H (some (.int r)) (fun H1 => xS h b T a' H1) := by
  unfold j164_12 at e
  refine ex_s (am_nb (m := 2) (pc1 := 33) (ls1 := []) (st1 := [.int (-1)]) (H1 := H) (k1 := 0) (n1 := 0) (by with_unfolding_all rfl)) ?_
  cases e
  exact ex_r (st_iret rfl rfl rfl) hS

set_option maxRecDepth 100000 in
theorem tf164_get {sL : Nat} {sx : Nat → Int32} {h b N : Nat} {T : List am_C} {r : Int32} {a' : xA} {o : Nat} {x0 : Int32} {a : xA} {H : am_H} (hS : xS h b T a H) (e : f164_get N h b o x0 a = some (r, a')) : am_E sL sx am_cs 164 0 [(0, .ref o), (1, .int x0)] [] H (some (.int r)) (fun H1 => xS h b T a' H1) := by
  unfold f164_get at e
  obtain ⟨g1, e⟩ := xg_some e
  refine ex_s (am_nb (m := 1) (pc1 := 1) (ls1 := [(0, .ref o), (1, .int x0)]) (st1 := [.int x0]) (H1 := H) (k1 := 0) (n1 := 0) (by with_unfolding_all rfl)) ?_
  refine ex_s (st_if rfl) ?_
  by_cases c4 : x0 < 0
  · have e := (if_pos c4).symm.trans e
    refine ex_pc (if_pos c4) ?_
    exact le_E (l1 := []) trivial rfl (tj164_12  hS e)
  · have e := (if_neg c4).symm.trans e
    refine ex_pc (if_neg c4) ?_
    refine ex_s (am_nb (m := 2) (pc1 := 6) (ls1 := [(0, .ref o), (1, .int x0)]) (st1 := [.ref o, .int x0]) (H1 := H) (k1 := 0) (n1 := 0) (by with_unfolding_all rfl)) ?_
    refine xe_get (v := .int (a o 2)) hS rfl g1 (by decide) rfl ?_
    refine ex_s (st_icmp rfl) ?_
    by_cases c6 : x0 < (a o 2)
    · have e := (if_pos c6).symm.trans e
      refine ex_pc (if_pos c6) ?_
      refine ex_s (am_nb (m := 1) (pc1 := 17) (ls1 := [(0, .ref o), (1, .int x0)]) (st1 := [.ref o]) (H1 := H) (k1 := 0) (n1 := 0) (by with_unfolding_all rfl)) ?_
      refine xe_get (v := .ref (o + 1)) hS rfl g1 (by decide) rfl ?_
      refine ex_s (am_nb (m := 1) (pc1 := 21) (ls1 := [(0, .ref o), (1, .int x0)]) (st1 := [.ref o, .ref (o + 1)]) (H1 := H) (k1 := 0) (n1 := 0) (by with_unfolding_all rfl)) ?_
      refine xe_get (v := .int (a o 1)) hS rfl g1 (by decide) rfl ?_
      refine ex_s (am_nb (m := 3) (pc1 := 27) (ls1 := [(0, .ref o), (1, .int x0)]) (st1 := [.ref o, .int ((a o 1) + x0), .ref (o + 1)]) (H1 := H) (k1 := 0) (n1 := 0) (by with_unfolding_all rfl)) ?_
      refine xe_get (v := .ref (o + 1)) hS rfl g1 (by decide) rfl ?_
      refine xe_alenc (v := Int32.ofNat (xl h b (o + 1))) hS rfl (xd_0_1 g1) rfl ?_
      obtain ⟨g7, e⟩ := xg_some e
      refine ex_s (st_irem rfl g7) ?_
      obtain ⟨g8, e⟩ := xg_some e
      refine xe_iald hS rfl (xd_0_1 g1) g8 ?_
      cases e
      exact ex_r (st_iret rfl rfl rfl) hS
    · have e := (if_neg c6).symm.trans e
      refine ex_pc (if_neg c6) ?_
      exact le_E (l1 := []) trivial rfl (tj164_12  hS e)

set_option maxRecDepth 100000 in
theorem tf165_clear {sL : Nat} {sx : Nat → Int32} {h b N : Nat} {T : List am_C} {a' : xA} {o : Nat} {a : xA} {H : am_H} (hS : xS h b T a H) (e : f165_clear N h b o a = some a') : am_E sL sx am_cs 165 0 [(0, .ref o)] [] H none (fun H1 => xS h b T a' H1) := by
  unfold f165_clear at e
  obtain ⟨g1, e⟩ := xg_some e
  refine ex_s (am_nb (m := 2) (pc1 := 2) (ls1 := [(0, .ref o)]) (st1 := [.int 0, .ref o]) (H1 := H) (k1 := 0) (n1 := 0) (by with_unfolding_all rfl)) ?_
  obtain ⟨a2, ha2, e⟩ := xw_some e
  refine xe_put (w := 0) hS rfl g1 (by decide) rfl rfl rfl rfl (fun H3 s4 => ?_)
  have s4 : xS h b T a2 H3 := by rw [ha2]; exact s4
  cases e
  exact ex_r (st_vret rfl rfl) s4

set_option maxRecDepth 100000 in
theorem tl161_26 {sL : Nat} {sx : Nat → Int32} {h b N : Nat} {T : List am_C} {R : Option Value} {F : am_H → Prop} {w2 : Int32} {z : Nat × xA} (k0 : z.1 = 0 → ∀ H2 : am_H, xS h b T z.2 H2 → am_E sL sx am_cs 161 59 [(0, .ref 116), (2, .int w2)] [] H2 R F) : ∀ (n : Nat) (v3 : Int32) (a : xA) (H : am_H), xS h b T a H → l161_26 N h b w2 n v3 a = some z → am_E sL sx am_cs 161 26 [(0, .ref 116), (2, .int w2), (3, .int v3)] [] H R F := by
  intro n
  induction n with
  | zero =>
    intro v3 a H hS e
    cases e
  | succ n ih =>
    intro v3 a H hS e
    unfold l161_26 at e
    refine ex_s (am_nb (m := 2) (pc1 := 28) (ls1 := [(0, .ref 116), (2, .int w2), (3, .int v3)]) (st1 := [.ref 116, .int v3]) (H1 := H) (k1 := 0) (n1 := 0) (by with_unfolding_all rfl)) ?_
    refine xe_get (v := .ref 119) hS rfl rfl (by decide) rfl ?_
    obtain ⟨r16, a17, e15, e⟩ := xb2_some e
    refine ex_cv1 (as := []) (rest := [.int v3]) rfl rfl rfl rfl (hS.obj rfl (by decide)) rfl (by with_unfolding_all rfl) (by with_unfolding_all rfl) (tf163_size hS e15) (fun H13 s14 => ?_)
    refine ex_s (st_icmp rfl) ?_
    by_cases c18 : r16 ≤ v3
    · have e := (if_pos c18).symm.trans e
      refine ex_pc (if_pos c18) ?_
      cases e
      exact le_E (l1 := [(0, .ref 116), (2, .int w2)]) ⟨rfl, rfl, trivial⟩ rfl (k0 rfl H13 s14)
    · have e := (if_neg c18).symm.trans e
      refine ex_pc (if_neg c18) ?_
      refine ex_s (am_nb (m := 1) (pc1 := 38) (ls1 := [(0, .ref 116), (2, .int w2), (3, .int v3)]) (st1 := [.ref 116]) (H1 := H13) (k1 := 0) (n1 := 0) (by with_unfolding_all rfl)) ?_
      refine xe_get (v := .ref 121) s14 rfl rfl (by decide) rfl ?_
      refine ex_s (am_nb (m := 1) (pc1 := 42) (ls1 := [(0, .ref 116), (2, .int w2), (3, .int v3)]) (st1 := [.ref 116, .ref 121]) (H1 := H13) (k1 := 0) (n1 := 0) (by with_unfolding_all rfl)) ?_
      refine xe_get (v := .ref 119) s14 rfl rfl (by decide) rfl ?_
      refine ex_s (am_nb (m := 1) (pc1 := 46) (ls1 := [(0, .ref 116), (2, .int w2), (3, .int v3)]) (st1 := [.int v3, .ref 119, .ref 121]) (H1 := H13) (k1 := 0) (n1 := 0) (by with_unfolding_all rfl)) ?_
      obtain ⟨r22, a23, e21, e⟩ := xb2_some e
      refine ex_cv1 (as := [.int v3]) (rest := [.ref 121]) rfl rfl rfl rfl (s14.obj rfl (by decide)) rfl (by with_unfolding_all rfl) (by with_unfolding_all rfl) (tf164_get s14 e21) (fun H19 s20 => ?_)
      obtain ⟨r27, a28, e26, e⟩ := xb2_some e
      refine ex_cv1 (as := [.int r22]) (rest := []) rfl rfl rfl rfl (s20.obj rfl (by decide)) rfl (by with_unfolding_all rfl) (by with_unfolding_all rfl) (tf156_add s20 e26) (fun H24 s25 => ?_)
      refine ex_s (am_nb (m := 3) (pc1 := 26) (ls1 := [(3, .int (v3 + 1)), (0, .ref 116), (2, .int w2)]) (st1 := []) (H1 := H24) (k1 := 0) (n1 := 0) (by with_unfolding_all rfl)) ?_
      exact le_E (l1 := [(0, .ref 116), (2, .int w2), (3, .int (v3 + 1))]) ⟨rfl, rfl, rfl, trivial⟩ rfl (ih (v3 + 1) a28 H24 s25 e)

set_option maxRecDepth 100000 in
theorem tf161_changeFlags {sL : Nat} {sx : Nat → Int32} {h b N : Nat} {T : List am_C} {r : Int32} {a' : xA} {x0 : Int32} {a : xA} {H : am_H} (hS : xS h b T a H) (e : f161_changeFlags N h b x0 a = some (r, a')) : am_E sL sx am_cs 161 0 [(0, .ref 116), (1, .int x0)] [] H (some (.int r)) (fun H1 => xS h b T a' H1) := by
  unfold f161_changeFlags at e
  refine ex_s (am_nb (m := 1) (pc1 := 1) (ls1 := [(0, .ref 116), (1, .int x0)]) (st1 := [.ref 116]) (H1 := H) (k1 := 0) (n1 := 0) (by with_unfolding_all rfl)) ?_
  refine xe_get (v := .int (a 116 3)) hS rfl rfl (by decide) rfl ?_
  refine ex_s (am_nb (m := 3) (pc1 := 7) (ls1 := [(2, .int (a 116 3)), (0, .ref 116), (1, .int x0)]) (st1 := [.int x0, .ref 116]) (H1 := H) (k1 := 0) (n1 := 0) (by with_unfolding_all rfl)) ?_
  obtain ⟨a1, ha1, e⟩ := xw_some e
  refine xe_put (w := x0) hS rfl rfl (by decide) rfl rfl rfl rfl (fun H2 s3 => ?_)
  have s3 : xS h b T a1 H2 := by rw [ha1]; exact s3
  refine ex_s (am_nb (m := 3) (pc1 := 13) (ls1 := [(2, .int (a 116 3)), (0, .ref 116), (1, .int x0)]) (st1 := [.int ((a 116 3) &&& 1)]) (H1 := H2) (k1 := 0) (n1 := 0) (by with_unfolding_all rfl)) ?_
  refine ex_s (st_if rfl) ?_
  by_cases c5 : ((a 116 3) &&& 1) = 0
  · have e := (if_pos c5).symm.trans e
    refine ex_pc (if_pos c5) ?_
    refine ex_s (am_nb (m := 1) (pc1 := 72) (ls1 := [(2, .int (a 116 3)), (0, .ref 116), (1, .int x0)]) (st1 := [.int (a 116 3)]) (H1 := H2) (k1 := 0) (n1 := 0) (by with_unfolding_all rfl)) ?_
    cases e
    exact ex_r (st_iret rfl rfl rfl) s3
  · have e := (if_neg c5).symm.trans e
    refine ex_pc (if_neg c5) ?_
    refine ex_s (am_nb (m := 2) (pc1 := 18) (ls1 := [(2, .int (a 116 3)), (0, .ref 116), (1, .int x0)]) (st1 := [.int 1, .ref 116]) (H1 := H2) (k1 := 0) (n1 := 0) (by with_unfolding_all rfl)) ?_
    obtain ⟨r9, a10, e8, e⟩ := xb2_some e
    refine ex_cv1 (as := [.int 1]) (rest := []) rfl rfl rfl rfl (s3.obj rfl (by decide)) rfl (by with_unfolding_all rfl) (by with_unfolding_all rfl) (tf162_has s3 e8) (fun H6 s7 => ?_)
    refine ex_s (st_if rfl) ?_
    by_cases c12 : r9 = 0
    · have e := (if_pos c12).symm.trans e
      refine ex_pc (if_pos c12) ?_
      refine ex_s (am_nb (m := 2) (pc1 := 26) (ls1 := [(3, .int 0), (2, .int (a 116 3)), (0, .ref 116), (1, .int x0)]) (st1 := []) (H1 := H6) (k1 := 0) (n1 := 0) (by with_unfolding_all rfl)) ?_
      obtain ⟨z29, e30, e⟩ := Option.bind_eq_some_iff.mp e
      refine le_E (l1 := [(0, .ref 116), (2, .int (a 116 3)), (3, .int 0)]) ⟨rfl, rfl, rfl, trivial⟩ rfl (tl161_26 (z := z29)  (fun uz29_0 Hz290 sz290 => ?_) N 0 a10 H6 s7 e30)
      refine ex_s (am_nb (m := 1) (pc1 := 60) (ls1 := [(0, .ref 116), (2, .int (a 116 3))]) (st1 := [.ref 116]) (H1 := Hz290) (k1 := 0) (n1 := 0) (by with_unfolding_all rfl)) ?_
      refine xe_get (v := .ref 119) sz290 rfl rfl (by decide) rfl ?_
      obtain ⟨a34, e33, e⟩ := xb1_some e
      refine ex_cv0 (as := []) (rest := []) rfl rfl rfl rfl (sz290.obj rfl (by decide)) rfl (by with_unfolding_all rfl) (by with_unfolding_all rfl) (tf165_clear sz290 e33) (fun H31 s32 => ?_)
      refine ex_s (am_nb (m := 2) (pc1 := 68) (ls1 := [(0, .ref 116), (2, .int (a 116 3))]) (st1 := [.int 0, .ref 116]) (H1 := H31) (k1 := 0) (n1 := 0) (by with_unfolding_all rfl)) ?_
      obtain ⟨a35, ha35, e⟩ := xw_some e
      refine xe_put (w := 0) s32 rfl rfl (by decide) rfl rfl rfl rfl (fun H36 s37 => ?_)
      have s37 : xS h b T a35 H36 := by rw [ha35]; exact s37
      refine ex_s (am_nb (m := 1) (pc1 := 72) (ls1 := [(0, .ref 116), (2, .int (a 116 3))]) (st1 := [.int (a 116 3)]) (H1 := H36) (k1 := 0) (n1 := 0) (by with_unfolding_all rfl)) ?_
      cases e
      exact ex_r (st_iret rfl rfl rfl) s37
    · have e := (if_neg c12).symm.trans e
      refine ex_pc (if_neg c12) ?_
      refine ex_s (am_nb (m := 1) (pc1 := 72) (ls1 := [(2, .int (a 116 3)), (0, .ref 116), (1, .int x0)]) (st1 := [.int (a 116 3)]) (H1 := H6) (k1 := 0) (n1 := 0) (by with_unfolding_all rfl)) ?_
      cases e
      exact ex_r (st_iret rfl rfl rfl) s7

set_option maxRecDepth 100000 in
theorem tf160_flags {sL : Nat} {sx : Nat → Int32} {h b N : Nat} {T : List am_C} {r : Int32} {a' : xA} {x0 : Int32} {a : xA} {H : am_H} (hS : xS h b T a H) (e : f160_flags N h b x0 a = some (r, a')) : am_E sL sx am_cs 160 0 [(0, .ref 0), (1, .int x0)] [] H (some (.int r)) (fun H1 => xS h b T a' H1) := by
  unfold f160_flags at e
  refine ex_s (am_nb (m := 1) (pc1 := 1) (ls1 := [(0, .ref 0), (1, .int x0)]) (st1 := [.ref 0]) (H1 := H) (k1 := 0) (n1 := 0) (by with_unfolding_all rfl)) ?_
  refine xe_get (v := .ref 116) hS rfl rfl (by decide) rfl ?_
  refine ex_s (am_nb (m := 3) (pc1 := 9) (ls1 := [(0, .ref 0), (1, .int x0)]) (st1 := [.int (x0 &&& 255), .ref 116]) (H1 := H) (k1 := 0) (n1 := 0) (by with_unfolding_all rfl)) ?_
  obtain ⟨r4, a5, e3, e⟩ := xb2_some e
  refine ex_cv1 (as := [.int (x0 &&& 255)]) (rest := []) rfl rfl rfl rfl (hS.obj rfl (by decide)) rfl (by with_unfolding_all rfl) (by with_unfolding_all rfl) (tf161_changeFlags hS e3) (fun H1 s2 => ?_)
  cases e
  exact ex_r (st_iret rfl rfl rfl) s2

set_option maxRecDepth 100000 in
theorem tf168_enqueue {sL : Nat} {sx : Nat → Int32} {h b N : Nat} {T : List am_C} {r : Int32} {a' : xA} {x0 : Int32} {a : xA} {H : am_H} (hS : xS h b T a H) (e : f168_enqueue N h b x0 a = some (r, a')) : am_E sL sx am_cs 168 0 [(0, .ref 116), (1, .int x0)] [] H (some (.int r)) (fun H1 => xS h b T a' H1) := by
  unfold f168_enqueue at e
  refine ex_s (am_nb (m := 1) (pc1 := 1) (ls1 := [(0, .ref 116), (1, .int x0)]) (st1 := [.ref 116]) (H1 := H) (k1 := 0) (n1 := 0) (by with_unfolding_all rfl)) ?_
  refine xe_get (v := .ref 117) hS rfl rfl (by decide) rfl ?_
  refine ex_s (am_nb (m := 1) (pc1 := 5) (ls1 := [(0, .ref 116), (1, .int x0)]) (st1 := [.int x0, .ref 117]) (H1 := H) (k1 := 0) (n1 := 0) (by with_unfolding_all rfl)) ?_
  obtain ⟨r4, a5, e3, e⟩ := xb2_some e
  refine ex_cv1 (as := [.int x0]) (rest := []) rfl rfl rfl rfl (hS.obj rfl (by decide)) rfl (by with_unfolding_all rfl) (by with_unfolding_all rfl) (tf156_add hS e3) (fun H1 s2 => ?_)
  refine ex_s (st_if rfl) ?_
  by_cases c6 : r4 = 0
  · have e := (if_pos c6).symm.trans e
    refine ex_pc (if_pos c6) ?_
    refine ex_s (am_nb (m := 2) (pc1 := 15) (ls1 := [(0, .ref 116), (1, .int x0)]) (st1 := [.ref 116, .ref 116]) (H1 := H1) (k1 := 0) (n1 := 0) (by with_unfolding_all rfl)) ?_
    refine xe_get (v := .int (a5 116 9)) s2 rfl rfl (by decide) rfl ?_
    refine ex_s (am_nb (m := 2) (pc1 := 20) (ls1 := [(0, .ref 116), (1, .int x0)]) (st1 := [.int ((a5 116 9) + 1), .ref 116]) (H1 := H1) (k1 := 0) (n1 := 0) (by with_unfolding_all rfl)) ?_
    obtain ⟨a7, ha7, e⟩ := xw_some e
    refine xe_put (w := ((a5 116 9) + 1)) s2 rfl rfl (by decide) rfl rfl rfl rfl (fun H8 s9 => ?_)
    have s9 : xS h b T a7 H8 := by rw [ha7]; exact s9
    refine ex_s (am_nb (m := 1) (pc1 := 24) (ls1 := [(0, .ref 116), (1, .int x0)]) (st1 := [.int 0]) (H1 := H8) (k1 := 0) (n1 := 0) (by with_unfolding_all rfl)) ?_
    cases e
    exact ex_r (st_iret rfl rfl rfl) s9
  · have e := (if_neg c6).symm.trans e
    refine ex_pc (if_neg c6) ?_
    refine ex_s (am_nb (m := 1) (pc1 := 12) (ls1 := [(0, .ref 116), (1, .int x0)]) (st1 := [.int 1]) (H1 := H1) (k1 := 0) (n1 := 0) (by with_unfolding_all rfl)) ?_
    cases e
    exact ex_r (st_iret rfl rfl rfl) s2

set_option maxRecDepth 100000 in
theorem tf169_columnBehind {sL : Nat} {sx : Nat → Int32} {h b N : Nat} {T : List am_C} {r : Int32} {a' : xA} {x0 : Int32} {x1 : Int32} {a : xA} {H : am_H} (hS : xS h b T a H) (e : f169_columnBehind N h b x0 x1 a = some (r, a')) : am_E sL sx am_cs 169 0 [(0, .ref 116), (1, .int x0), (2, .int x1)] [] H (some (.int r)) (fun H1 => xS h b T a' H1) := by
  unfold f169_columnBehind at e
  refine ex_s (am_nb (m := 1) (pc1 := 1) (ls1 := [(0, .ref 116), (1, .int x0), (2, .int x1)]) (st1 := [.int x1]) (H1 := H) (k1 := 0) (n1 := 0) (by with_unfolding_all rfl)) ?_
  refine ex_s (st_tsw rfl) ?_
  by_cases c1 : x1 = 8
  · have e := (if_pos c1).symm.trans e
    refine ex_pc (pc1 := 57) (by rw [c1]; with_unfolding_all rfl) ?_
    refine ex_s (am_nb (m := 5) (pc1 := 64) (ls1 := [(0, .ref 116), (1, .int x0), (2, .int x1)]) (st1 := [.int (xmax 0 (x0 - 1))]) (H1 := H) (k1 := 0) (n1 := 0) (by with_unfolding_all rfl)) ?_
    cases e
    exact ex_r (st_iret rfl rfl rfl) hS
  · have e := (if_neg c1).symm.trans e
    by_cases c2 : x1 = 9
    · have e := (if_pos c2).symm.trans e
      refine ex_pc (pc1 := 65) (by rw [c2]; with_unfolding_all rfl) ?_
      refine ex_s (am_nb (m := 9) (pc1 := 80) (ls1 := [(0, .ref 116), (1, .int x0), (2, .int x1)]) (st1 := [.int (xmin 10000 (((x0 / 8) + 1) * 8))]) (H1 := H) (k1 := 0) (n1 := 0) (by with_unfolding_all rfl)) ?_
      cases e
      exact ex_r (st_iret rfl rfl rfl) hS
    · have e := (if_neg c2).symm.trans e
      by_cases c3 : x1 = 10
      · have e := (if_pos c3).symm.trans e
        refine ex_pc (pc1 := 42) (by rw [c3]; with_unfolding_all rfl) ?_
        refine ex_s (am_nb (m := 2) (pc1 := 45) (ls1 := [(0, .ref 116), (1, .int x0), (2, .int x1)]) (st1 := [.int 16, .ref 116]) (H1 := H) (k1 := 0) (n1 := 0) (by with_unfolding_all rfl)) ?_
        obtain ⟨r7, a8, e6, e⟩ := xb2_some e
        refine ex_cv1 (as := [.int 16]) (rest := []) rfl rfl rfl rfl (hS.obj rfl (by decide)) rfl (by with_unfolding_all rfl) (by with_unfolding_all rfl) (tf162_has hS e6) (fun H4 s5 => ?_)
        have kk : am_E sL sx am_cs 169 56 [(0, .ref 116), (1, .int x0), (2, .int x1)] [.int (if r7 = 0 then (x0) else (0 : Int32))] H4 (some (.int r)) (fun H1 => xS h b T a' H1) := by
          cases e
          exact ex_r (st_iret rfl rfl rfl) s5
        refine ex_s (st_if rfl) ?_
        by_cases c9 : r7 = 0
        · refine ex_pc (if_pos c9) ?_
          refine ex_s (am_nb (m := 1) (pc1 := 56) (ls1 := [(0, .ref 116), (1, .int x0), (2, .int x1)]) (st1 := [.int x0]) (H1 := H4) (k1 := 0) (n1 := 0) (by with_unfolding_all rfl)) ?_
          rw [if_pos c9] at kk
          exact kk
        · refine ex_pc (if_neg c9) ?_
          refine ex_s (am_nb (m := 2) (pc1 := 56) (ls1 := [(0, .ref 116), (1, .int x0), (2, .int x1)]) (st1 := [.int 0]) (H1 := H4) (k1 := 0) (n1 := 0) (by with_unfolding_all rfl)) ?_
          rw [if_neg c9] at kk
          exact kk
      · have e := (if_neg c3).symm.trans e
        by_cases c10 : x1 = 13
        · have e := (if_pos c10).symm.trans e
          refine ex_pc (pc1 := 40) (by rw [c10]; with_unfolding_all rfl) ?_
          refine ex_s (am_nb (m := 1) (pc1 := 41) (ls1 := [(0, .ref 116), (1, .int x0), (2, .int x1)]) (st1 := [.int 0]) (H1 := H) (k1 := 0) (n1 := 0) (by with_unfolding_all rfl)) ?_
          cases e
          exact ex_r (st_iret rfl rfl rfl) hS
        · have e := (if_neg c10).symm.trans e
          refine ex_pc (pc1 := 81) (am_sw_n (sw_c (Or.inl c1) (sw_c (Or.inl c2) (sw_c (Or.inl c3) (sw_c (Or.inr rfl) (sw_c (Or.inr rfl) (sw_c (Or.inl c10) sw_o))))))) ?_
          refine ex_s (am_nb (m := 1) (pc1 := 82) (ls1 := [(0, .ref 116), (1, .int x0), (2, .int x1)]) (st1 := [.int x1]) (H1 := H) (k1 := 0) (n1 := 0) (by with_unfolding_all rfl)) ?_
          obtain ⟨r14, a15, e13, e⟩ := xb2_some e
          refine ex_cs1 (as := [.int x1]) (rest := []) rfl (by decide) rfl rfl (by with_unfolding_all rfl) (by with_unfolding_all rfl) (tf110_isPrintable hS e13) (fun H11 s12 => ?_)
          refine ex_s (st_if rfl) ?_
          by_cases c17 : r14 = 0
          · have e := (if_pos c17).symm.trans e
            refine ex_pc (if_pos c17) ?_
            refine ex_s (am_nb (m := 1) (pc1 := 101) (ls1 := [(0, .ref 116), (1, .int x0), (2, .int x1)]) (st1 := [.int x0]) (H1 := H11) (k1 := 0) (n1 := 0) (by with_unfolding_all rfl)) ?_
            cases e
            exact ex_r (st_iret rfl rfl rfl) s12
          · have e := (if_neg c17).symm.trans e
            refine ex_pc (if_neg c17) ?_
            refine ex_s (am_nb (m := 6) (pc1 := 101) (ls1 := [(0, .ref 116), (1, .int x0), (2, .int x1)]) (st1 := [.int (xmin 10000 (x0 + 1))]) (H1 := H11) (k1 := 0) (n1 := 0) (by with_unfolding_all rfl)) ?_
            cases e
            exact ex_r (st_iret rfl rfl rfl) s12

set_option maxRecDepth 100000 in
theorem tj167_88 {sL : Nat} {sx : Nat → Int32} {h b N : Nat} {T : List am_C} {r : Int32} {a' : xA} {q1 : Int32} {q2 : Int32} {a : xA} {H : am_H} (hS : xS h b T a H) (e : j167_88 N h b q1 q2 a = some (r, a')) : am_E sL sx am_cs 167 88 [(0, .ref 116), (1, .int q1), (2, .int q2)] [] H (some (.int r)) (fun H1 => xS h b T a' H1) := by
  unfold j167_88 at e
  refine ex_s (am_nb (m := 3) (pc1 := 91) (ls1 := [(0, .ref 116), (1, .int q1), (2, .int q2)]) (st1 := [.ref 116, .ref 116, .ref 116]) (H1 := H) (k1 := 0) (n1 := 0) (by with_unfolding_all rfl)) ?_
  refine xe_get (v := .int (a 116 7)) hS rfl rfl (by decide) rfl ?_
  refine ex_s (am_nb (m := 1) (pc1 := 95) (ls1 := [(0, .ref 116), (1, .int q1), (2, .int q2)]) (st1 := [.int q1, .int (a 116 7), .ref 116, .ref 116]) (H1 := H) (k1 := 0) (n1 := 0) (by with_unfolding_all rfl)) ?_
  obtain ⟨r26, a27, e25, e⟩ := xb2_some e
  refine ex_cv1 (as := [.int (a 116 7), .int q1]) (rest := [.ref 116]) rfl rfl rfl rfl (hS.obj rfl (by decide)) rfl (by with_unfolding_all rfl) (by with_unfolding_all rfl) (tf169_columnBehind hS e25) (fun H23 s24 => ?_)
  obtain ⟨a28, ha28, e⟩ := xw_some e
  refine xe_put (w := r26) s24 rfl rfl (by decide) rfl rfl rfl rfl (fun H29 s30 => ?_)
  have s30 : xS h b T a28 H29 := by rw [ha28]; exact s30
  refine ex_s (am_nb (m := 1) (pc1 := 102) (ls1 := [(0, .ref 116), (1, .int q1), (2, .int q2)]) (st1 := [.int q2]) (H1 := H29) (k1 := 0) (n1 := 0) (by with_unfolding_all rfl)) ?_
  cases e
  exact ex_r (st_iret rfl rfl rfl) s30

set_option maxRecDepth 100000 in
theorem tj167_82 {sL : Nat} {sx : Nat → Int32} {h b N : Nat} {T : List am_C} {r : Int32} {a' : xA} {q1 : Int32} {a : xA} {H : am_H} (hS : xS h b T a H) (e : j167_82 N h b q1 a = some (r, a')) : am_E sL sx am_cs 167 82 [(0, .ref 116), (1, .int q1)] [] H (some (.int r)) (fun H1 => xS h b T a' H1) := by
  unfold j167_82 at e
  refine ex_s (am_nb (m := 2) (pc1 := 84) (ls1 := [(0, .ref 116), (1, .int q1)]) (st1 := [.int q1, .ref 116]) (H1 := H) (k1 := 0) (n1 := 0) (by with_unfolding_all rfl)) ?_
  obtain ⟨r21, a22, e20, e⟩ := xb2_some e
  refine ex_cv1 (as := [.int q1]) (rest := []) rfl rfl rfl rfl (hS.obj rfl (by decide)) rfl (by with_unfolding_all rfl) (by with_unfolding_all rfl) (tf168_enqueue hS e20) (fun H18 s19 => ?_)
  refine ex_s (am_nb (m := 1) (pc1 := 88) (ls1 := [(2, .int r21), (0, .ref 116), (1, .int q1)]) (st1 := []) (H1 := H18) (k1 := 0) (n1 := 0) (by with_unfolding_all rfl)) ?_
  exact le_E (l1 := [(0, .ref 116), (1, .int q1), (2, .int r21)]) ⟨rfl, rfl, rfl, trivial⟩ rfl (tj167_88  s19 e)

set_option maxRecDepth 100000 in
theorem tl167_58 {sL : Nat} {sx : Nat → Int32} {h b N : Nat} {T : List am_C} {R : Option Value} {F : am_H → Prop} {w1 : Int32} {z : Nat × Int32 × xA} (k0 : z.1 = 0 → ∀ H2 : am_H, xS h b T z.2.2 H2 → am_E sL sx am_cs 167 79 [(0, .ref 116), (1, .int w1), (2, .int z.2.1)] [] H2 R F) : ∀ (n : Nat) (v2 : Int32) (v3 : Int32) (a : xA) (H : am_H), xS h b T a H → l167_58 N h b w1 n v2 v3 a = some z → am_E sL sx am_cs 167 58 [(0, .ref 116), (1, .int w1), (2, .int v2), (3, .int v3)] [] H R F := by
  intro n
  induction n with
  | zero =>
    intro v2 v3 a H hS e
    cases e
  | succ n ih =>
    intro v2 v3 a H hS e
    unfold l167_58 at e
    refine ex_s (am_nb (m := 2) (pc1 := 61) (ls1 := [(0, .ref 116), (1, .int w1), (2, .int v2), (3, .int v3)]) (st1 := [.int 8, .int v3]) (H1 := H) (k1 := 0) (n1 := 0) (by with_unfolding_all rfl)) ?_
    refine ex_s (st_icmp rfl) ?_
    by_cases c31 : 8 ≤ v3
    · have e := (if_pos c31).symm.trans e
      refine ex_pc (if_pos c31) ?_
      cases e
      exact le_E (l1 := [(0, .ref 116), (1, .int w1), (2, .int v2)]) ⟨rfl, rfl, rfl, trivial⟩ rfl (k0 rfl H hS)
    · have e := (if_neg c31).symm.trans e
      refine ex_pc (if_neg c31) ?_
      refine ex_s (am_nb (m := 3) (pc1 := 68) (ls1 := [(0, .ref 116), (1, .int w1), (2, .int v2), (3, .int v3)]) (st1 := [.int 32, .ref 116, .int v2]) (H1 := H) (k1 := 0) (n1 := 0) (by with_unfolding_all rfl)) ?_
      obtain ⟨r35, a36, e34, e⟩ := xb2_some e
      refine ex_cv1 (as := [.int 32]) (rest := [.int v2]) rfl rfl rfl rfl (hS.obj rfl (by decide)) rfl (by with_unfolding_all rfl) (by with_unfolding_all rfl) (tf168_enqueue hS e34) (fun H32 s33 => ?_)
      refine ex_s (am_nb (m := 4) (pc1 := 58) (ls1 := [(3, .int (v3 + 1)), (2, .int (v2 + r35)), (0, .ref 116), (1, .int w1)]) (st1 := []) (H1 := H32) (k1 := 0) (n1 := 0) (by with_unfolding_all rfl)) ?_
      exact le_E (l1 := [(0, .ref 116), (1, .int w1), (2, .int (v2 + r35)), (3, .int (v3 + 1))]) ⟨rfl, rfl, rfl, rfl, trivial⟩ rfl (ih (v2 + r35) (v3 + 1) a36 H32 s33 e)

set_option maxRecDepth 100000 in
theorem tj167_34 {sL : Nat} {sx : Nat → Int32} {h b N : Nat} {T : List am_C} {r : Int32} {a' : xA} {q1 : Int32} {q2 : Int32} {a : xA} {H : am_H} (hS : xS h b T a H) (e : j167_34 N h b q1 q2 a = some (r, a')) : am_E sL sx am_cs 167 34 [(0, .ref 116), (1, .int q1), (2, .int q2)] [] H (some (.int r)) (fun H1 => xS h b T a' H1) := by
  unfold j167_34 at e
  refine ex_s (am_nb (m := 2) (pc1 := 37) (ls1 := [(0, .ref 116), (1, .int q1), (2, .int q2)]) (st1 := [.int 9, .int q1]) (H1 := H) (k1 := 0) (n1 := 0) (by with_unfolding_all rfl)) ?_
  refine ex_s (st_icmp rfl) ?_
  by_cases c10 : q1 = 9
  · have e := (if_pos c10).symm.trans e
    refine ex_pc (if_pos c10) ?_
    refine ex_s (am_nb (m := 2) (pc1 := 44) (ls1 := [(0, .ref 116), (1, .int q1), (2, .int q2)]) (st1 := [.int 128, .ref 116]) (H1 := H) (k1 := 0) (n1 := 0) (by with_unfolding_all rfl)) ?_
    obtain ⟨r14, a15, e13, e⟩ := xb2_some e
    refine ex_cv1 (as := [.int 128]) (rest := []) rfl rfl rfl rfl (hS.obj rfl (by decide)) rfl (by with_unfolding_all rfl) (by with_unfolding_all rfl) (tf162_has hS e13) (fun H11 s12 => ?_)
    refine ex_s (st_if rfl) ?_
    by_cases c17 : r14 = 0
    · have e := (if_pos c17).symm.trans e
      refine ex_pc (if_pos c17) ?_
      exact le_E (l1 := [(0, .ref 116), (1, .int q1)]) ⟨rfl, rfl, trivial⟩ rfl (tj167_82  s12 e)
    · have e := (if_neg c17).symm.trans e
      refine ex_pc (if_neg c17) ?_
      refine ex_s (am_nb (m := 1) (pc1 := 51) (ls1 := [(0, .ref 116), (1, .int q1), (2, .int q2)]) (st1 := [.ref 116]) (H1 := H11) (k1 := 0) (n1 := 0) (by with_unfolding_all rfl)) ?_
      refine xe_get (v := .int (a15 116 7)) s12 rfl rfl (by decide) rfl ?_
      refine ex_s (am_nb (m := 3) (pc1 := 58) (ls1 := [(3, .int ((a15 116 7) - (a15 116 7) / 8 * 8)), (0, .ref 116), (1, .int q1), (2, .int q2)]) (st1 := []) (H1 := H11) (k1 := 0) (n1 := 0) (by with_unfolding_all rfl)) ?_
      obtain ⟨z37, e38, e⟩ := Option.bind_eq_some_iff.mp e
      refine le_E (l1 := [(0, .ref 116), (1, .int q1), (2, .int q2), (3, .int ((a15 116 7) - (a15 116 7) / 8 * 8))]) ⟨rfl, rfl, rfl, rfl, trivial⟩ rfl (tl167_58 (z := z37)  (fun uz37_0 Hz370 sz370 => ?_) N q2 ((a15 116 7) - (a15 116 7) / 8 * 8) a15 H11 s12 e38)
      refine ex_s (am_nb (m := 1) (pc1 := 88) (ls1 := [(0, .ref 116), (1, .int q1), (2, .int z37.2.1)]) (st1 := []) (H1 := Hz370) (k1 := 0) (n1 := 0) (by with_unfolding_all rfl)) ?_
      exact le_E (l1 := [(0, .ref 116), (1, .int q1), (2, .int z37.2.1)]) ⟨rfl, rfl, rfl, trivial⟩ rfl (tj167_88  sz370 e)
  · have e := (if_neg c10).symm.trans e
    refine ex_pc (if_neg c10) ?_
    exact le_E (l1 := [(0, .ref 116), (1, .int q1)]) ⟨rfl, rfl, trivial⟩ rfl (tj167_82  hS e)

set_option maxRecDepth 100000 in
theorem tf167_put {sL : Nat} {sx : Nat → Int32} {h b N : Nat} {T : List am_C} {r : Int32} {a' : xA} {x0 : Int32} {a : xA} {H : am_H} (hS : xS h b T a H) (e : f167_put N h b x0 a = some (r, a')) : am_E sL sx am_cs 167 0 [(0, .ref 116), (1, .int x0)] [] H (some (.int r)) (fun H1 => xS h b T a' H1) := by
  unfold f167_put at e
  refine ex_s (am_nb (m := 4) (pc1 := 5) (ls1 := [(2, .int 0), (0, .ref 116), (1, .int x0)]) (st1 := [.int 10, .int x0]) (H1 := H) (k1 := 0) (n1 := 0) (by with_unfolding_all rfl)) ?_
  refine ex_s (st_icmp rfl) ?_
  by_cases c2 : x0 = 10
  · have e := (if_pos c2).symm.trans e
    refine ex_pc (if_pos c2) ?_
    refine ex_s (am_nb (m := 2) (pc1 := 11) (ls1 := [(2, .int 0), (0, .ref 116), (1, .int x0)]) (st1 := [.int 16, .ref 116]) (H1 := H) (k1 := 0) (n1 := 0) (by with_unfolding_all rfl)) ?_
    obtain ⟨r6, a7, e5, e⟩ := xb2_some e
    refine ex_cv1 (as := [.int 16]) (rest := []) rfl rfl rfl rfl (hS.obj rfl (by decide)) rfl (by with_unfolding_all rfl) (by with_unfolding_all rfl) (tf162_has hS e5) (fun H3 s4 => ?_)
    refine ex_s (st_if rfl) ?_
    by_cases c8 : r6 = 0
    · have e := (if_pos c8).symm.trans e
      refine ex_pc (if_pos c8) ?_
      exact le_E (l1 := [(0, .ref 116), (1, .int x0), (2, .int 0)]) ⟨rfl, rfl, rfl, trivial⟩ rfl (tj167_34  s4 e)
    · have e := (if_neg c8).symm.trans e
      refine ex_pc (if_neg c8) ?_
      refine ex_s (am_nb (m := 2) (pc1 := 20) (ls1 := [(2, .int 0), (0, .ref 116), (1, .int x0)]) (st1 := [.int 13, .ref 116]) (H1 := H3) (k1 := 0) (n1 := 0) (by with_unfolding_all rfl)) ?_
      obtain ⟨r42, a43, e41, e⟩ := xb2_some e
      refine ex_cv1 (as := [.int 13]) (rest := []) rfl rfl rfl rfl (s4.obj rfl (by decide)) rfl (by with_unfolding_all rfl) (by with_unfolding_all rfl) (tf168_enqueue s4 e41) (fun H39 s40 => ?_)
      refine ex_s (am_nb (m := 2) (pc1 := 26) (ls1 := [(2, .int 0), (0, .ref 116), (1, .int x0)]) (st1 := [.int 10, .ref 116, .int r42]) (H1 := H39) (k1 := 0) (n1 := 0) (by with_unfolding_all rfl)) ?_
      obtain ⟨r47, a48, e46, e⟩ := xb2_some e
      refine ex_cv1 (as := [.int 10]) (rest := [.int r42]) rfl rfl rfl rfl (s40.obj rfl (by decide)) rfl (by with_unfolding_all rfl) (by with_unfolding_all rfl) (tf168_enqueue s40 e46) (fun H44 s45 => ?_)
      refine ex_s (am_nb (m := 3) (pc1 := 88) (ls1 := [(2, .int (r42 + r47)), (0, .ref 116), (1, .int x0)]) (st1 := []) (H1 := H44) (k1 := 0) (n1 := 0) (by with_unfolding_all rfl)) ?_
      exact le_E (l1 := [(0, .ref 116), (1, .int x0), (2, .int (r42 + r47))]) ⟨rfl, rfl, rfl, trivial⟩ rfl (tj167_88  s45 e)
  · have e := (if_neg c2).symm.trans e
    refine ex_pc (if_neg c2) ?_
    exact le_E (l1 := [(0, .ref 116), (1, .int x0), (2, .int 0)]) ⟨rfl, rfl, rfl, trivial⟩ rfl (tj167_34  hS e)

set_option maxRecDepth 100000 in
theorem tl166_4 {sL : Nat} {sx : Nat → Int32} {h b N : Nat} {T : List am_C} {R : Option Value} {F : am_H → Prop} {z : Nat × Int32 × xA} (k0 : z.1 = 0 → ∀ H2 : am_H, xS h b T z.2.2 H2 → am_E sL sx am_cs 166 34 [(0, .ref 0), (1, .int z.2.1)] [] H2 R F) : ∀ (n : Nat) (v1 : Int32) (v2 : Int32) (a : xA) (H : am_H), xS h b T a H → l166_4 N h b n v1 v2 a = some z → am_E sL sx am_cs 166 4 [(0, .ref 0), (1, .int v1), (2, .int v2)] [] H R F := by
  intro n
  induction n with
  | zero =>
    intro v1 v2 a H hS e
    cases e
  | succ n ih =>
    intro v1 v2 a H hS e
    unfold l166_4 at e
    refine ex_s (am_nb (m := 2) (pc1 := 6) (ls1 := [(0, .ref 0), (1, .int v1), (2, .int v2)]) (st1 := [.ref 0, .int v2]) (H1 := H) (k1 := 0) (n1 := 0) (by with_unfolding_all rfl)) ?_
    refine xe_get (v := .int (a 0 1)) hS rfl rfl (by decide) rfl ?_
    refine ex_s (st_icmp rfl) ?_
    by_cases c1 : (a 0 1) ≤ v2
    · have e := (if_pos c1).symm.trans e
      refine ex_pc (if_pos c1) ?_
      cases e
      exact le_E (l1 := [(0, .ref 0), (1, .int v1)]) ⟨rfl, rfl, trivial⟩ rfl (k0 rfl H hS)
    · have e := (if_neg c1).symm.trans e
      refine ex_pc (if_neg c1) ?_
      refine ex_s (am_nb (m := 2) (pc1 := 14) (ls1 := [(0, .ref 0), (1, .int v1), (2, .int v2)]) (st1 := [.ref 0, .int v1]) (H1 := H) (k1 := 0) (n1 := 0) (by with_unfolding_all rfl)) ?_
      refine xe_get (v := .ref 116) hS rfl rfl (by decide) rfl ?_
      refine ex_s (am_nb (m := 1) (pc1 := 18) (ls1 := [(0, .ref 0), (1, .int v1), (2, .int v2)]) (st1 := [.ref 0, .ref 116, .int v1]) (H1 := H) (k1 := 0) (n1 := 0) (by with_unfolding_all rfl)) ?_
      refine xe_get (v := .ref 1) hS rfl rfl (by decide) rfl ?_
      refine ex_s (am_nb (m := 1) (pc1 := 22) (ls1 := [(0, .ref 0), (1, .int v1), (2, .int v2)]) (st1 := [.int v2, .ref 1, .ref 116, .int v1]) (H1 := H) (k1 := 0) (n1 := 0) (by with_unfolding_all rfl)) ?_
      obtain ⟨g2, e⟩ := xg_some e
      refine xe_iald hS rfl rfl g2 ?_
      obtain ⟨r6, a7, e5, e⟩ := xb2_some e
      refine ex_cv1 (as := [.int (a 1 (v2.toNatClampNeg))]) (rest := [.int v1]) rfl rfl rfl rfl (hS.obj rfl (by decide)) rfl (by with_unfolding_all rfl) (by with_unfolding_all rfl) (tf167_put hS e5) (fun H3 s4 => ?_)
      refine ex_s (am_nb (m := 4) (pc1 := 4) (ls1 := [(2, .int (v2 + 1)), (1, .int (v1 + r6)), (0, .ref 0)]) (st1 := []) (H1 := H3) (k1 := 0) (n1 := 0) (by with_unfolding_all rfl)) ?_
      exact le_E (l1 := [(0, .ref 0), (1, .int (v1 + r6)), (2, .int (v2 + 1))]) ⟨rfl, rfl, rfl, trivial⟩ rfl (ih (v1 + r6) (v2 + 1) a7 H3 s4 e)

set_option maxRecDepth 100000 in
theorem tf166_write {sL : Nat} {sx : Nat → Int32} {h b N : Nat} {T : List am_C} {r : Int32} {a' : xA} {a : xA} {H : am_H} (hS : xS h b T a H) (e : f166_write N h b a = some (r, a')) : am_E sL sx am_cs 166 0 [(0, .ref 0)] [] H (some (.int r)) (fun H1 => xS h b T a' H1) := by
  unfold f166_write at e
  refine ex_s (am_nb (m := 4) (pc1 := 4) (ls1 := [(2, .int 0), (1, .int 0), (0, .ref 0)]) (st1 := []) (H1 := H) (k1 := 0) (n1 := 0) (by with_unfolding_all rfl)) ?_
  obtain ⟨z8, e9, e⟩ := Option.bind_eq_some_iff.mp e
  refine le_E (l1 := [(0, .ref 0), (1, .int 0), (2, .int 0)]) ⟨rfl, rfl, rfl, trivial⟩ rfl (tl166_4 (z := z8)  (fun uz8_0 Hz80 sz80 => ?_) N 0 0 a H hS e9)
  refine ex_s (am_nb (m := 2) (pc1 := 36) (ls1 := [(0, .ref 0), (1, .int z8.2.1)]) (st1 := [.int 0, .ref 0]) (H1 := Hz80) (k1 := 0) (n1 := 0) (by with_unfolding_all rfl)) ?_
  obtain ⟨a10, ha10, e⟩ := xw_some e
  refine xe_put (w := 0) sz80 rfl rfl (by decide) rfl rfl rfl rfl (fun H11 s12 => ?_)
  have s12 : xS h b T a10 H11 := by rw [ha10]; exact s12
  refine ex_s (am_nb (m := 1) (pc1 := 40) (ls1 := [(0, .ref 0), (1, .int z8.2.1)]) (st1 := [.int z8.2.1]) (H1 := H11) (k1 := 0) (n1 := 0) (by with_unfolding_all rfl)) ?_
  cases e
  exact ex_r (st_iret rfl rfl rfl) s12

set_option maxRecDepth 100000 in
theorem tf172_takeFirst {sL : Nat} {sx : Nat → Int32} {h b N : Nat} {T : List am_C} {r : Int32} {a' : xA} {o : Nat} {a : xA} {H : am_H} (hS : xS h b T a H) (e : f172_takeFirst N h b o a = some (r, a')) : am_E sL sx am_cs 172 0 [(0, .ref o)] [] H (some (.int r)) (fun H1 => xS h b T a' H1) := by
  unfold f172_takeFirst at e
  obtain ⟨g1, e⟩ := xg_some e
  refine ex_s (am_nb (m := 2) (pc1 := 2) (ls1 := [(0, .ref o)]) (st1 := [.int 0, .ref o]) (H1 := H) (k1 := 0) (n1 := 0) (by with_unfolding_all rfl)) ?_
  obtain ⟨r5, a6, e4, e⟩ := xb2_some e
  refine ex_cv1 (as := [.int 0]) (rest := []) rfl rfl rfl rfl (hS.obj g1 (by decide)) rfl (by with_unfolding_all rfl) (by with_unfolding_all rfl) (tf164_get hS e4) (fun H2 s3 => ?_)
  refine ex_s (am_nb (m := 2) (pc1 := 7) (ls1 := [(1, .int r5), (0, .ref o)]) (st1 := [.ref o]) (H1 := H2) (k1 := 0) (n1 := 0) (by with_unfolding_all rfl)) ?_
  refine xe_get (v := .int (a6 o 2)) s3 rfl g1 (by decide) rfl ?_
  refine ex_s (st_if rfl) ?_
  by_cases c8 : (a6 o 2) ≤ 0
  · have e := (if_pos c8).symm.trans e
    refine ex_pc (if_pos c8) ?_
    refine ex_s (am_nb (m := 1) (pc1 := 40) (ls1 := [(1, .int r5), (0, .ref o)]) (st1 := [.int r5]) (H1 := H2) (k1 := 0) (n1 := 0) (by with_unfolding_all rfl)) ?_
    cases e
    exact ex_r (st_iret rfl rfl rfl) s3
  · have e := (if_neg c8).symm.trans e
    refine ex_pc (if_neg c8) ?_
    refine ex_s (am_nb (m := 2) (pc1 := 15) (ls1 := [(1, .int r5), (0, .ref o)]) (st1 := [.ref o, .ref o]) (H1 := H2) (k1 := 0) (n1 := 0) (by with_unfolding_all rfl)) ?_
    refine xe_get (v := .int (a6 o 1)) s3 rfl g1 (by decide) rfl ?_
    refine ex_s (am_nb (m := 3) (pc1 := 21) (ls1 := [(1, .int r5), (0, .ref o)]) (st1 := [.ref o, .int ((a6 o 1) + 1), .ref o]) (H1 := H2) (k1 := 0) (n1 := 0) (by with_unfolding_all rfl)) ?_
    refine xe_get (v := .ref (o + 1)) s3 rfl g1 (by decide) rfl ?_
    refine xe_alenc (v := Int32.ofNat (xl h b (o + 1))) s3 rfl (xd_0_1 g1) rfl ?_
    obtain ⟨g9, e⟩ := xg_some e
    refine ex_s (st_irem rfl g9) ?_
    obtain ⟨a10, ha10, e⟩ := xw_some e
    refine xe_put (w := (((a6 o 1) + 1) - ((a6 o 1) + 1) / (Int32.ofNat (xl h b (o + 1))) * (Int32.ofNat (xl h b (o + 1))))) s3 rfl g1 (by decide) rfl rfl rfl rfl (fun H11 s12 => ?_)
    have s12 : xS h b T a10 H11 := by rw [ha10]; exact s12
    refine ex_s (am_nb (m := 2) (pc1 := 31) (ls1 := [(1, .int r5), (0, .ref o)]) (st1 := [.ref o, .ref o]) (H1 := H11) (k1 := 0) (n1 := 0) (by with_unfolding_all rfl)) ?_
    refine xe_get (v := .int (a10 o 2)) s12 rfl g1 (by decide) rfl ?_
    refine ex_s (am_nb (m := 2) (pc1 := 36) (ls1 := [(1, .int r5), (0, .ref o)]) (st1 := [.int ((a10 o 2) - 1), .ref o]) (H1 := H11) (k1 := 0) (n1 := 0) (by with_unfolding_all rfl)) ?_
    obtain ⟨a13, ha13, e⟩ := xw_some e
    refine xe_put (w := ((a10 o 2) - 1)) s12 rfl g1 (by decide) rfl rfl rfl rfl (fun H14 s15 => ?_)
    have s15 : xS h b T a13 H14 := by rw [ha13]; exact s15
    refine ex_s (am_nb (m := 1) (pc1 := 40) (ls1 := [(1, .int r5), (0, .ref o)]) (st1 := [.int r5]) (H1 := H14) (k1 := 0) (n1 := 0) (by with_unfolding_all rfl)) ?_
    cases e
    exact ex_r (st_iret rfl rfl rfl) s15

set_option maxRecDepth 100000 in
theorem tj171_111 {sL : Nat} {sx : Nat → Int32} {h b N : Nat} {T : List am_C} {R : Option Value} {F : am_H → Prop} {w1 : Int32} {w2 : Nat} {w4 : Int32} {z : Nat × Int32 × xA} {rc : Int32 → Int32 → xA → Option (Nat × Int32 × xA)} (k0 : z.1 = 0 → ∀ H2 : am_H, xS h b T z.2.2 H2 → am_E sL sx am_cs 171 72 [(3, .int z.2.1)] [] H2 R F) (k1 : z.1 = 1 → ∀ H2 : am_H, xS h b T z.2.2 H2 → am_E sL sx am_cs 171 89 [(3, .int z.2.1)] [] H2 R F) (k2 : z.1 = 2 → ∀ H2 : am_H, xS h b T z.2.2 H2 → am_E sL sx am_cs 171 117 [(3, .int z.2.1)] [] H2 R F) (ih : ∀ (v3 : Int32) (v5 : Int32) (a : xA) (H : am_H), xS h b T a H → rc v3 v5 a = some z → am_E sL sx am_cs 171 14 [(0, .ref 116), (1, .int w1), (2, .ref w2), (3, .int v3), (4, .int w4), (5, .int v5)] [] H R F) {q3 : Int32} {q5 : Int32} {a : xA} {H : am_H} (kw2 : xk w2 = 100) (hS : xS h b T a H) (e : j171_111 N h b rc w1 w2 w4 q3 q5 a = some z) : am_E sL sx am_cs 171 111 [(0, .ref 116), (1, .int w1), (2, .ref w2), (3, .int q3), (4, .int w4), (5, .int q5)] [] H R F := by
  unfold j171_111 at e
  refine ex_s (am_nb (m := 2) (pc1 := 14) (ls1 := [(5, .int (q5 + 1)), (0, .ref 116), (1, .int w1), (2, .ref w2), (3, .int q3), (4, .int w4)]) (st1 := []) (H1 := H) (k1 := 0) (n1 := 0) (by with_unfolding_all rfl)) ?_
  exact le_E (l1 := [(0, .ref 116), (1, .int w1), (2, .ref w2), (3, .int q3), (4, .int w4), (5, .int (q5 + 1))]) ⟨rfl, rfl, rfl, rfl, rfl, rfl, trivial⟩ rfl (ih q3 (q5 + 1) a H hS e)

set_option maxRecDepth 100000 in
theorem tj171_75 {sL : Nat} {sx : Nat → Int32} {h b N : Nat} {T : List am_C} {R : Option Value} {F : am_H → Prop} {w1 : Int32} {w2 : Nat} {w4 : Int32} {z : Nat × Int32 × xA} {rc : Int32 → Int32 → xA → Option (Nat × Int32 × xA)} (k0 : z.1 = 0 → ∀ H2 : am_H, xS h b T z.2.2 H2 → am_E sL sx am_cs 171 72 [(3, .int z.2.1)] [] H2 R F) (k1 : z.1 = 1 → ∀ H2 : am_H, xS h b T z.2.2 H2 → am_E sL sx am_cs 171 89 [(3, .int z.2.1)] [] H2 R F) (k2 : z.1 = 2 → ∀ H2 : am_H, xS h b T z.2.2 H2 → am_E sL sx am_cs 171 117 [(3, .int z.2.1)] [] H2 R F) (ih : ∀ (v3 : Int32) (v5 : Int32) (a : xA) (H : am_H), xS h b T a H → rc v3 v5 a = some z → am_E sL sx am_cs 171 14 [(0, .ref 116), (1, .int w1), (2, .ref w2), (3, .int v3), (4, .int w4), (5, .int v5)] [] H R F) {q3 : Int32} {q5 : Int32} {q6 : Int32} {q7 : Int32} {a : xA} {H : am_H} (kw2 : xk w2 = 100) (hS : xS h b T a H) (e : j171_75 N h b rc w1 w2 w4 q3 q5 q6 q7 a = some z) : am_E sL sx am_cs 171 75 [(0, .ref 116), (1, .int w1), (2, .ref w2), (3, .int q3), (4, .int w4), (5, .int q5), (6, .int q6), (7, .int q7)] [] H R F := by
  unfold j171_75 at e
  refine ex_s (am_nb (m := 1) (pc1 := 76) (ls1 := [(0, .ref 116), (1, .int w1), (2, .ref w2), (3, .int q3), (4, .int w4), (5, .int q5), (6, .int q6), (7, .int q7)]) (st1 := [.ref 116]) (H1 := H) (k1 := 0) (n1 := 0) (by with_unfolding_all rfl)) ?_
  refine xe_get (v := .ref 121) hS rfl rfl (by decide) rfl ?_
  obtain ⟨r22, a23, e21, e⟩ := xb2_some e
  refine ex_cv1 (as := []) (rest := []) rfl rfl rfl rfl (hS.obj rfl (by decide)) rfl (by with_unfolding_all rfl) (by with_unfolding_all rfl) (tf172_takeFirst hS e21) (fun H19 s20 => ?_)
  refine ex_s (am_nb (m := 2) (pc1 := 86) (ls1 := [(8, .int r22), (0, .ref 116), (1, .int w1), (2, .ref w2), (3, .int q3), (4, .int w4), (5, .int q5), (6, .int q6), (7, .int q7)]) (st1 := [.int q7]) (H1 := H19) (k1 := 0) (n1 := 0) (by with_unfolding_all rfl)) ?_
  refine ex_s (st_if rfl) ?_
  by_cases c24 : q7 = 0
  · have e := (if_pos c24).symm.trans e
    refine ex_pc (if_pos c24) ?_
    refine ex_s (am_nb (m := 1) (pc1 := 94) (ls1 := [(8, .int r22), (0, .ref 116), (1, .int w1), (2, .ref w2), (3, .int q3), (4, .int w4), (5, .int q5), (6, .int q6), (7, .int q7)]) (st1 := [.int q6]) (H1 := H19) (k1 := 0) (n1 := 0) (by with_unfolding_all rfl)) ?_
    refine ex_s (st_if rfl) ?_
    by_cases c26 : q6 = 0
    · have e := (if_pos c26).symm.trans e
      refine ex_pc (if_pos c26) ?_
      refine ex_s (am_nb (m := 2) (pc1 := 99) (ls1 := [(8, .int r22), (0, .ref 116), (1, .int w1), (2, .ref w2), (3, .int q3), (4, .int w4), (5, .int q5), (6, .int q6), (7, .int q7)]) (st1 := [.ref w2, .int q3]) (H1 := H19) (k1 := 0) (n1 := 0) (by with_unfolding_all rfl)) ?_
      refine xe_alenc (v := Int32.ofNat (xl h b w2)) s20 rfl kw2 rfl ?_
      refine ex_s (st_icmp rfl) ?_
      by_cases c28 : (Int32.ofNat (xl h b w2)) ≤ q3
      · have e := (if_pos c28).symm.trans e
        refine ex_pc (if_pos c28) ?_
        exact le_E (l1 := [(0, .ref 116), (1, .int w1), (2, .ref w2), (3, .int q3), (4, .int w4), (5, .int q5)]) ⟨rfl, rfl, rfl, rfl, rfl, rfl, trivial⟩ rfl (tj171_111 k0 k1 k2 ih kw2 s20 e)
      · have e := (if_neg c28).symm.trans e
        refine ex_pc (if_neg c28) ?_
        refine ex_s (am_nb (m := 3) (pc1 := 107) (ls1 := [(8, .int r22), (0, .ref 116), (1, .int w1), (2, .ref w2), (3, .int q3), (4, .int w4), (5, .int q5), (6, .int q6), (7, .int q7)]) (st1 := [.int r22, .int q3, .ref w2]) (H1 := H19) (k1 := 0) (n1 := 0) (by with_unfolding_all rfl)) ?_
        obtain ⟨g32, e⟩ := xg_some e
        obtain ⟨a29, ha29, e⟩ := xw_some e
        refine xe_iast s20 rfl kw2 g32 (fun H30 s31 => ?_)
        have s31 : xS h b T a29 H30 := by rw [ha29]; exact s31
        refine ex_s (am_nb (m := 1) (pc1 := 111) (ls1 := [(3, .int (q3 + 1)), (8, .int r22), (0, .ref 116), (1, .int w1), (2, .ref w2), (4, .int w4), (5, .int q5), (6, .int q6), (7, .int q7)]) (st1 := []) (H1 := H30) (k1 := 0) (n1 := 0) (by with_unfolding_all rfl)) ?_
        exact le_E (l1 := [(0, .ref 116), (1, .int w1), (2, .ref w2), (3, .int (q3 + 1)), (4, .int w4), (5, .int q5)]) ⟨rfl, rfl, rfl, rfl, rfl, rfl, trivial⟩ rfl (tj171_111 k0 k1 k2 ih kw2 s31 e)
    · have e := (if_neg c26).symm.trans e
      refine ex_pc (if_neg c26) ?_
      exact le_E (l1 := [(0, .ref 116), (1, .int w1), (2, .ref w2), (3, .int q3), (4, .int w4), (5, .int q5)]) ⟨rfl, rfl, rfl, rfl, rfl, rfl, trivial⟩ rfl (tj171_111 k0 k1 k2 ih kw2 s20 e)
  · have e := (if_neg c24).symm.trans e
    refine ex_pc (if_neg c24) ?_
    cases e
    exact le_E (l1 := [(3, .int q3)]) ⟨rfl, trivial⟩ rfl (k1 rfl H19 s20)

set_option maxRecDepth 100000 in
theorem tj171_60 {sL : Nat} {sx : Nat → Int32} {h b N : Nat} {T : List am_C} {R : Option Value} {F : am_H → Prop} {w1 : Int32} {w2 : Nat} {w4 : Int32} {z : Nat × Int32 × xA} {rc : Int32 → Int32 → xA → Option (Nat × Int32 × xA)} (k0 : z.1 = 0 → ∀ H2 : am_H, xS h b T z.2.2 H2 → am_E sL sx am_cs 171 72 [(3, .int z.2.1)] [] H2 R F) (k1 : z.1 = 1 → ∀ H2 : am_H, xS h b T z.2.2 H2 → am_E sL sx am_cs 171 89 [(3, .int z.2.1)] [] H2 R F) (k2 : z.1 = 2 → ∀ H2 : am_H, xS h b T z.2.2 H2 → am_E sL sx am_cs 171 117 [(3, .int z.2.1)] [] H2 R F) (ih : ∀ (v3 : Int32) (v5 : Int32) (a : xA) (H : am_H), xS h b T a H → rc v3 v5 a = some z → am_E sL sx am_cs 171 14 [(0, .ref 116), (1, .int w1), (2, .ref w2), (3, .int v3), (4, .int w4), (5, .int v5)] [] H R F) {q3 : Int32} {q5 : Int32} {q6 : Int32} {t0 : Int32} {a : xA} {H : am_H} (kw2 : xk w2 = 100) (hS : xS h b T a H) (e : j171_60 N h b rc w1 w2 w4 q3 q5 q6 t0 a = some z) : am_E sL sx am_cs 171 60 [(0, .ref 116), (1, .int w1), (2, .ref w2), (3, .int q3), (4, .int w4), (5, .int q5), (6, .int q6)] [.int t0] H R F := by
  unfold j171_60 at e
  refine ex_s (am_nb (m := 3) (pc1 := 64) (ls1 := [(7, .int t0), (0, .ref 116), (1, .int w1), (2, .ref w2), (3, .int q3), (4, .int w4), (5, .int q5), (6, .int q6)]) (st1 := [.int w1, .int q3]) (H1 := H) (k1 := 0) (n1 := 0) (by with_unfolding_all rfl)) ?_
  refine ex_s (st_icmp rfl) ?_
  by_cases c18 : q3 < w1
  · have e := (if_pos c18).symm.trans e
    refine ex_pc (if_pos c18) ?_
    exact le_E (l1 := [(0, .ref 116), (1, .int w1), (2, .ref w2), (3, .int q3), (4, .int w4), (5, .int q5), (6, .int q6), (7, .int t0)]) ⟨rfl, rfl, rfl, rfl, rfl, rfl, rfl, rfl, trivial⟩ rfl (tj171_75 k0 k1 k2 ih kw2 hS e)
  · have e := (if_neg c18).symm.trans e
    refine ex_pc (if_neg c18) ?_
    refine ex_s (am_nb (m := 1) (pc1 := 69) (ls1 := [(7, .int t0), (0, .ref 116), (1, .int w1), (2, .ref w2), (3, .int q3), (4, .int w4), (5, .int q5), (6, .int q6)]) (st1 := [.int t0]) (H1 := H) (k1 := 0) (n1 := 0) (by with_unfolding_all rfl)) ?_
    refine ex_s (st_if rfl) ?_
    by_cases c33 : t0 = 0
    · have e := (if_pos c33).symm.trans e
      refine ex_pc (if_pos c33) ?_
      cases e
      exact le_E (l1 := [(3, .int q3)]) ⟨rfl, trivial⟩ rfl (k0 rfl H hS)
    · have e := (if_neg c33).symm.trans e
      refine ex_pc (if_neg c33) ?_
      exact le_E (l1 := [(0, .ref 116), (1, .int w1), (2, .ref w2), (3, .int q3), (4, .int w4), (5, .int q5), (6, .int q6), (7, .int t0)]) ⟨rfl, rfl, rfl, rfl, rfl, rfl, rfl, rfl, trivial⟩ rfl (tj171_75 k0 k1 k2 ih kw2 hS e)

set_option maxRecDepth 100000 in
theorem tj171_59 {sL : Nat} {sx : Nat → Int32} {h b N : Nat} {T : List am_C} {R : Option Value} {F : am_H → Prop} {w1 : Int32} {w2 : Nat} {w4 : Int32} {z : Nat × Int32 × xA} {rc : Int32 → Int32 → xA → Option (Nat × Int32 × xA)} (k0 : z.1 = 0 → ∀ H2 : am_H, xS h b T z.2.2 H2 → am_E sL sx am_cs 171 72 [(3, .int z.2.1)] [] H2 R F) (k1 : z.1 = 1 → ∀ H2 : am_H, xS h b T z.2.2 H2 → am_E sL sx am_cs 171 89 [(3, .int z.2.1)] [] H2 R F) (k2 : z.1 = 2 → ∀ H2 : am_H, xS h b T z.2.2 H2 → am_E sL sx am_cs 171 117 [(3, .int z.2.1)] [] H2 R F) (ih : ∀ (v3 : Int32) (v5 : Int32) (a : xA) (H : am_H), xS h b T a H → rc v3 v5 a = some z → am_E sL sx am_cs 171 14 [(0, .ref 116), (1, .int w1), (2, .ref w2), (3, .int v3), (4, .int w4), (5, .int v5)] [] H R F) {q3 : Int32} {q5 : Int32} {q6 : Int32} {a : xA} {H : am_H} (kw2 : xk w2 = 100) (hS : xS h b T a H) (e : j171_59 N h b rc w1 w2 w4 q3 q5 q6 a = some z) : am_E sL sx am_cs 171 59 [(0, .ref 116), (1, .int w1), (2, .ref w2), (3, .int q3), (4, .int w4), (5, .int q5), (6, .int q6)] [] H R F := by
  unfold j171_59 at e
  refine ex_s (am_nb (m := 1) (pc1 := 60) (ls1 := [(0, .ref 116), (1, .int w1), (2, .ref w2), (3, .int q3), (4, .int w4), (5, .int q5), (6, .int q6)]) (st1 := [.int 0]) (H1 := H) (k1 := 0) (n1 := 0) (by with_unfolding_all rfl)) ?_
  exact le_E (l1 := [(0, .ref 116), (1, .int w1), (2, .ref w2), (3, .int q3), (4, .int w4), (5, .int q5), (6, .int q6)]) ⟨rfl, rfl, rfl, rfl, rfl, rfl, rfl, trivial⟩ rfl (tj171_60 k0 k1 k2 ih kw2 hS e)

set_option maxRecDepth 100000 in
theorem tl171_14 {sL : Nat} {sx : Nat → Int32} {h b N : Nat} {T : List am_C} {R : Option Value} {F : am_H → Prop} {w1 : Int32} {w2 : Nat} {w4 : Int32} {z : Nat × Int32 × xA} (kw2 : xk w2 = 100) (k0 : z.1 = 0 → ∀ H2 : am_H, xS h b T z.2.2 H2 → am_E sL sx am_cs 171 72 [(3, .int z.2.1)] [] H2 R F) (k1 : z.1 = 1 → ∀ H2 : am_H, xS h b T z.2.2 H2 → am_E sL sx am_cs 171 89 [(3, .int z.2.1)] [] H2 R F) (k2 : z.1 = 2 → ∀ H2 : am_H, xS h b T z.2.2 H2 → am_E sL sx am_cs 171 117 [(3, .int z.2.1)] [] H2 R F) : ∀ (n : Nat) (v3 : Int32) (v5 : Int32) (a : xA) (H : am_H), xS h b T a H → l171_14 N h b w1 w2 w4 n v3 v5 a = some z → am_E sL sx am_cs 171 14 [(0, .ref 116), (1, .int w1), (2, .ref w2), (3, .int v3), (4, .int w4), (5, .int v5)] [] H R F := by
  intro n
  induction n with
  | zero =>
    intro v3 v5 a H hS e
    cases e
  | succ n ih =>
    intro v3 v5 a H hS e
    unfold l171_14 at e
    refine ex_s (am_nb (m := 2) (pc1 := 18) (ls1 := [(0, .ref 116), (1, .int w1), (2, .ref w2), (3, .int v3), (4, .int w4), (5, .int v5)]) (st1 := [.int w4, .int v5]) (H1 := H) (k1 := 0) (n1 := 0) (by with_unfolding_all rfl)) ?_
    refine ex_s (st_icmp rfl) ?_
    by_cases c7 : w4 ≤ v5
    · have e := (if_pos c7).symm.trans e
      refine ex_pc (if_pos c7) ?_
      cases e
      exact le_E (l1 := [(3, .int v3)]) ⟨rfl, trivial⟩ rfl (k2 rfl H hS)
    · have e := (if_neg c7).symm.trans e
      refine ex_pc (if_neg c7) ?_
      refine ex_s (am_nb (m := 1) (pc1 := 22) (ls1 := [(0, .ref 116), (1, .int w1), (2, .ref w2), (3, .int v3), (4, .int w4), (5, .int v5)]) (st1 := [.ref 116]) (H1 := H) (k1 := 0) (n1 := 0) (by with_unfolding_all rfl)) ?_
      refine xe_get (v := .ref 121) hS rfl rfl (by decide) rfl ?_
      refine ex_s (am_nb (m := 1) (pc1 := 26) (ls1 := [(0, .ref 116), (1, .int w1), (2, .ref w2), (3, .int v3), (4, .int w4), (5, .int v5)]) (st1 := [.int 0, .ref 121]) (H1 := H) (k1 := 0) (n1 := 0) (by with_unfolding_all rfl)) ?_
      obtain ⟨r11, a12, e10, e⟩ := xb2_some e
      refine ex_cv1 (as := [.int 0]) (rest := []) rfl rfl rfl rfl (hS.obj rfl (by decide)) rfl (by with_unfolding_all rfl) (by with_unfolding_all rfl) (tf164_get hS e10) (fun H8 s9 => ?_)
      refine ex_s (am_nb (m := 1) (pc1 := 32) (ls1 := [(0, .ref 116), (1, .int w1), (2, .ref w2), (3, .int v3), (4, .int w4), (5, .int v5)]) (st1 := [.int 256, .int r11]) (H1 := H8) (k1 := 0) (n1 := 0) (by with_unfolding_all rfl)) ?_
      have kk : am_E sL sx am_cs 171 40 [(0, .ref 116), (1, .int w1), (2, .ref w2), (3, .int v3), (4, .int w4), (5, .int v5)] [.int (if r11 = 256 then (1 : Int32) else (0 : Int32))] H8 R F := by
        refine ex_s (am_nb (m := 2) (pc1 := 44) (ls1 := [(6, .int (if r11 = 256 then (1 : Int32) else (0 : Int32))), (0, .ref 116), (1, .int w1), (2, .ref w2), (3, .int v3), (4, .int w4), (5, .int v5)]) (st1 := [.int (if r11 = 256 then (1 : Int32) else (0 : Int32))]) (H1 := H8) (k1 := 0) (n1 := 0) (by with_unfolding_all rfl)) ?_
        refine ex_s (st_if rfl) ?_
        by_cases c15 : (if r11 = 256 then (1 : Int32) else (0 : Int32)) = 0
        · have e := (if_pos c15).symm.trans e
          refine ex_pc (if_pos c15) ?_
          exact le_E (l1 := [(0, .ref 116), (1, .int w1), (2, .ref w2), (3, .int v3), (4, .int w4), (5, .int v5), (6, .int (if r11 = 256 then (1 : Int32) else (0 : Int32)))]) ⟨rfl, rfl, rfl, rfl, rfl, rfl, rfl, trivial⟩ rfl (tj171_59 k0 k1 k2 ih kw2 s9 e)
        · have e := (if_neg c15).symm.trans e
          refine ex_pc (if_neg c15) ?_
          refine ex_s (am_nb (m := 2) (pc1 := 49) (ls1 := [(6, .int (if r11 = 256 then (1 : Int32) else (0 : Int32))), (0, .ref 116), (1, .int w1), (2, .ref w2), (3, .int v3), (4, .int w4), (5, .int v5)]) (st1 := [.int 1, .ref 116]) (H1 := H8) (k1 := 0) (n1 := 0) (by with_unfolding_all rfl)) ?_
          obtain ⟨r37, a38, e36, e⟩ := xb2_some e
          refine ex_cv1 (as := [.int 1]) (rest := []) rfl rfl rfl rfl (s9.obj rfl (by decide)) rfl (by with_unfolding_all rfl) (by with_unfolding_all rfl) (tf162_has s9 e36) (fun H34 s35 => ?_)
          have kk : am_E sL sx am_cs 171 60 [(6, .int (if r11 = 256 then (1 : Int32) else (0 : Int32))), (0, .ref 116), (1, .int w1), (2, .ref w2), (3, .int v3), (4, .int w4), (5, .int v5)] [.int (if r37 = 0 then (0 : Int32) else (1 : Int32))] H34 R F := by
            refine ex_s (am_nb (m := 3) (pc1 := 64) (ls1 := [(7, .int (if r37 = 0 then (0 : Int32) else (1 : Int32))), (6, .int (if r11 = 256 then (1 : Int32) else (0 : Int32))), (0, .ref 116), (1, .int w1), (2, .ref w2), (3, .int v3), (4, .int w4), (5, .int v5)]) (st1 := [.int w1, .int v3]) (H1 := H34) (k1 := 0) (n1 := 0) (by with_unfolding_all rfl)) ?_
            refine ex_s (st_icmp rfl) ?_
            by_cases c42 : v3 < w1
            · have e := (if_pos c42).symm.trans e
              refine ex_pc (if_pos c42) ?_
              exact le_E (l1 := [(0, .ref 116), (1, .int w1), (2, .ref w2), (3, .int v3), (4, .int w4), (5, .int v5), (6, .int (if r11 = 256 then (1 : Int32) else (0 : Int32))), (7, .int (if r37 = 0 then (0 : Int32) else (1 : Int32)))]) ⟨rfl, rfl, rfl, rfl, rfl, rfl, rfl, rfl, trivial⟩ rfl (tj171_75 k0 k1 k2 ih kw2 s35 e)
            · have e := (if_neg c42).symm.trans e
              refine ex_pc (if_neg c42) ?_
              refine ex_s (am_nb (m := 1) (pc1 := 69) (ls1 := [(7, .int (if r37 = 0 then (0 : Int32) else (1 : Int32))), (6, .int (if r11 = 256 then (1 : Int32) else (0 : Int32))), (0, .ref 116), (1, .int w1), (2, .ref w2), (3, .int v3), (4, .int w4), (5, .int v5)]) (st1 := [.int (if r37 = 0 then (0 : Int32) else (1 : Int32))]) (H1 := H34) (k1 := 0) (n1 := 0) (by with_unfolding_all rfl)) ?_
              refine ex_s (st_if rfl) ?_
              by_cases c43 : (if r37 = 0 then (0 : Int32) else (1 : Int32)) = 0
              · have e := (if_pos c43).symm.trans e
                refine ex_pc (if_pos c43) ?_
                cases e
                exact le_E (l1 := [(3, .int v3)]) ⟨rfl, trivial⟩ rfl (k0 rfl H34 s35)
              · have e := (if_neg c43).symm.trans e
                refine ex_pc (if_neg c43) ?_
                exact le_E (l1 := [(0, .ref 116), (1, .int w1), (2, .ref w2), (3, .int v3), (4, .int w4), (5, .int v5), (6, .int (if r11 = 256 then (1 : Int32) else (0 : Int32))), (7, .int (if r37 = 0 then (0 : Int32) else (1 : Int32)))]) ⟨rfl, rfl, rfl, rfl, rfl, rfl, rfl, rfl, trivial⟩ rfl (tj171_75 k0 k1 k2 ih kw2 s35 e)
          refine ex_s (st_if rfl) ?_
          by_cases c39 : r37 = 0
          · refine ex_pc (if_pos c39) ?_
            refine ex_s (am_nb (m := 1) (pc1 := 60) (ls1 := [(6, .int (if r11 = 256 then (1 : Int32) else (0 : Int32))), (0, .ref 116), (1, .int w1), (2, .ref w2), (3, .int v3), (4, .int w4), (5, .int v5)]) (st1 := [.int 0]) (H1 := H34) (k1 := 0) (n1 := 0) (by with_unfolding_all rfl)) ?_
            rw [if_pos c39] at kk
            exact kk
          · refine ex_pc (if_neg c39) ?_
            refine ex_s (am_nb (m := 2) (pc1 := 60) (ls1 := [(6, .int (if r11 = 256 then (1 : Int32) else (0 : Int32))), (0, .ref 116), (1, .int w1), (2, .ref w2), (3, .int v3), (4, .int w4), (5, .int v5)]) (st1 := [.int 1]) (H1 := H34) (k1 := 0) (n1 := 0) (by with_unfolding_all rfl)) ?_
            rw [if_neg c39] at kk
            exact kk
      refine ex_s (st_icmp rfl) ?_
      by_cases c13 : r11 = 256
      · refine ex_pc (if_pos c13) ?_
        refine ex_s (am_nb (m := 2) (pc1 := 40) (ls1 := [(0, .ref 116), (1, .int w1), (2, .ref w2), (3, .int v3), (4, .int w4), (5, .int v5)]) (st1 := [.int 1]) (H1 := H8) (k1 := 0) (n1 := 0) (by with_unfolding_all rfl)) ?_
        rw [if_pos c13] at kk
        exact kk
      · refine ex_pc (if_neg c13) ?_
        refine ex_s (am_nb (m := 1) (pc1 := 40) (ls1 := [(0, .ref 116), (1, .int w1), (2, .ref w2), (3, .int v3), (4, .int w4), (5, .int v5)]) (st1 := [.int 0]) (H1 := H8) (k1 := 0) (n1 := 0) (by with_unfolding_all rfl)) ?_
        rw [if_neg c13] at kk
        exact kk

set_option maxRecDepth 100000 in
theorem tf171_takeReady {sL : Nat} {sx : Nat → Int32} {h b N : Nat} {T : List am_C} {r : Int32} {a' : xA} {x0 : Int32} {x1 : Nat} {a : xA} {H : am_H} (hS : xS h b T a H) (e : f171_takeReady N h b x0 x1 a = some (r, a')) : am_E sL sx am_cs 171 0 [(0, .ref 116), (1, .int x0), (2, .ref x1)] [] H (some (.int r)) (fun H1 => xS h b T a' H1) := by
  unfold f171_takeReady at e
  obtain ⟨g1, e⟩ := xg_some e
  refine ex_s (am_nb (m := 3) (pc1 := 3) (ls1 := [(3, .int 0), (0, .ref 116), (1, .int x0), (2, .ref x1)]) (st1 := [.ref 116]) (H1 := H) (k1 := 0) (n1 := 0) (by with_unfolding_all rfl)) ?_
  refine xe_get (v := .ref 121) hS rfl rfl (by decide) rfl ?_
  obtain ⟨r5, a6, e4, e⟩ := xb2_some e
  refine ex_cv1 (as := []) (rest := []) rfl rfl rfl rfl (hS.obj rfl (by decide)) rfl (by with_unfolding_all rfl) (by with_unfolding_all rfl) (tf163_size hS e4) (fun H2 s3 => ?_)
  refine ex_s (am_nb (m := 3) (pc1 := 14) (ls1 := [(5, .int 0), (4, .int r5), (3, .int 0), (0, .ref 116), (1, .int x0), (2, .ref x1)]) (st1 := []) (H1 := H2) (k1 := 0) (n1 := 0) (by with_unfolding_all rfl)) ?_
  obtain ⟨z44, e45, e⟩ := Option.bind_eq_some_iff.mp e
  refine le_E (l1 := [(0, .ref 116), (1, .int x0), (2, .ref x1), (3, .int 0), (4, .int r5), (5, .int 0)]) ⟨rfl, rfl, rfl, rfl, rfl, rfl, trivial⟩ rfl (tl171_14 (z := z44) g1 (fun uz44_0 Hz440 sz440 => ?_) (fun uz44_1 Hz441 sz441 => ?_) (fun uz44_2 Hz442 sz442 => ?_) N 0 0 a6 H2 s3 e45)
  · have e := (if_pos uz44_0).symm.trans e
    refine ex_s (am_nb (m := 2) (pc1 := 118) (ls1 := [(3, .int z44.2.1)]) (st1 := [.int z44.2.1]) (H1 := Hz440) (k1 := 0) (n1 := 0) (by with_unfolding_all rfl)) ?_
    cases e
    exact ex_r (st_iret rfl rfl rfl) sz440
  · have e := (if_neg (show ¬ z44.1 = 0 by rw [uz44_1]; decide)).symm.trans e
    have e := (if_pos uz44_1).symm.trans e
    refine ex_s (am_nb (m := 2) (pc1 := 118) (ls1 := [(3, .int z44.2.1)]) (st1 := [.int z44.2.1]) (H1 := Hz441) (k1 := 0) (n1 := 0) (by with_unfolding_all rfl)) ?_
    cases e
    exact ex_r (st_iret rfl rfl rfl) sz441
  · have e := (if_neg (show ¬ z44.1 = 0 by rw [uz44_2]; decide)).symm.trans e
    have e := (if_neg (show ¬ z44.1 = 1 by rw [uz44_2]; decide)).symm.trans e
    refine ex_s (am_nb (m := 1) (pc1 := 118) (ls1 := [(3, .int z44.2.1)]) (st1 := [.int z44.2.1]) (H1 := Hz442) (k1 := 0) (n1 := 0) (by with_unfolding_all rfl)) ?_
    cases e
    exact ex_r (st_iret rfl rfl rfl) sz442

set_option maxRecDepth 100000 in
theorem tf170_read {sL : Nat} {sx : Nat → Int32} {h b N : Nat} {T : List am_C} {r : Int32} {a' : xA} {x0 : Int32} {a : xA} {H : am_H} (hS : xS h b T a H) (e : f170_read N h b x0 a = some (r, a')) : am_E sL sx am_cs 170 0 [(0, .ref 0), (1, .int x0)] [] H (some (.int r)) (fun H1 => xS h b T a' H1) := by
  unfold f170_read at e
  refine ex_s (am_nb (m := 2) (pc1 := 2) (ls1 := [(0, .ref 0), (1, .int x0)]) (st1 := [.int 1, .int x0]) (H1 := H) (k1 := 0) (n1 := 0) (by with_unfolding_all rfl)) ?_
  refine ex_s (st_icmp rfl) ?_
  by_cases c3 : x0 < 1
  · have e := (if_pos c3).symm.trans e
    refine ex_pc (if_pos c3) ?_
    refine ex_s (am_nb (m := 1) (pc1 := 26) (ls1 := [(0, .ref 0), (1, .int x0)]) (st1 := [.int (-1)]) (H1 := H) (k1 := 0) (n1 := 0) (by with_unfolding_all rfl)) ?_
    cases e
    exact ex_r (st_iret rfl rfl rfl) hS
  · have e := (if_neg c3).symm.trans e
    refine ex_pc (if_neg c3) ?_
    refine ex_s (am_nb (m := 2) (pc1 := 9) (ls1 := [(0, .ref 0), (1, .int x0)]) (st1 := [.int 300, .int x0]) (H1 := H) (k1 := 0) (n1 := 0) (by with_unfolding_all rfl)) ?_
    refine ex_s (st_icmp rfl) ?_
    by_cases c5 : 300 < x0
    · have e := (if_pos c5).symm.trans e
      refine ex_pc (if_pos c5) ?_
      refine ex_s (am_nb (m := 1) (pc1 := 26) (ls1 := [(0, .ref 0), (1, .int x0)]) (st1 := [.int (-1)]) (H1 := H) (k1 := 0) (n1 := 0) (by with_unfolding_all rfl)) ?_
      cases e
      exact ex_r (st_iret rfl rfl rfl) hS
    · have e := (if_neg c5).symm.trans e
      refine ex_pc (if_neg c5) ?_
      refine ex_s (am_nb (m := 1) (pc1 := 13) (ls1 := [(0, .ref 0), (1, .int x0)]) (st1 := [.ref 0]) (H1 := H) (k1 := 0) (n1 := 0) (by with_unfolding_all rfl)) ?_
      refine xe_get (v := .ref 116) hS rfl rfl (by decide) rfl ?_
      refine xe_get (v := .ref 121) hS rfl rfl (by decide) rfl ?_
      obtain ⟨r9, a10, e8, e⟩ := xb2_some e
      refine ex_cv1 (as := []) (rest := []) rfl rfl rfl rfl (hS.obj rfl (by decide)) rfl (by with_unfolding_all rfl) (by with_unfolding_all rfl) (tf163_size hS e8) (fun H6 s7 => ?_)
      refine ex_s (st_if rfl) ?_
      by_cases c11 : r9 = 0
      · have e := (if_pos c11).symm.trans e
        refine ex_pc (if_pos c11) ?_
        refine ex_s (am_nb (m := 1) (pc1 := 26) (ls1 := [(0, .ref 0), (1, .int x0)]) (st1 := [.int (-1)]) (H1 := H6) (k1 := 0) (n1 := 0) (by with_unfolding_all rfl)) ?_
        cases e
        exact ex_r (st_iret rfl rfl rfl) s7
      · have e := (if_neg c11).symm.trans e
        refine ex_pc (if_neg c11) ?_
        refine ex_s (am_nb (m := 2) (pc1 := 29) (ls1 := [(0, .ref 0), (1, .int x0)]) (st1 := [.ref 0, .ref 0]) (H1 := H6) (k1 := 0) (n1 := 0) (by with_unfolding_all rfl)) ?_
        refine xe_get (v := .ref 116) s7 rfl rfl (by decide) rfl ?_
        refine ex_s (am_nb (m := 2) (pc1 := 34) (ls1 := [(0, .ref 0), (1, .int x0)]) (st1 := [.ref 0, .int x0, .ref 116, .ref 0]) (H1 := H6) (k1 := 0) (n1 := 0) (by with_unfolding_all rfl)) ?_
        refine xe_get (v := .ref 2) s7 rfl rfl (by decide) rfl ?_
        obtain ⟨r15, a16, e14, e⟩ := xb2_some e
        refine ex_cv1 (as := [.int x0, .ref 2]) (rest := [.ref 0]) rfl rfl rfl rfl (s7.obj rfl (by decide)) rfl (by with_unfolding_all rfl) (by with_unfolding_all rfl) (tf171_takeReady s7 e14) (fun H12 s13 => ?_)
        obtain ⟨a17, ha17, e⟩ := xw_some e
        refine xe_put (w := r15) s13 rfl rfl (by decide) rfl rfl rfl rfl (fun H18 s19 => ?_)
        have s19 : xS h b T a17 H18 := by rw [ha17]; exact s19
        refine ex_s (am_nb (m := 1) (pc1 := 44) (ls1 := [(0, .ref 0), (1, .int x0)]) (st1 := [.ref 0]) (H1 := H18) (k1 := 0) (n1 := 0) (by with_unfolding_all rfl)) ?_
        refine xe_get (v := .int (a17 0 3)) s19 rfl rfl (by decide) rfl ?_
        cases e
        exact ex_r (st_iret rfl rfl rfl) s19

set_option maxRecDepth 100000 in
theorem tj174_61 {sL : Nat} {sx : Nat → Int32} {h b N : Nat} {T : List am_C} {r : Int32} {a' : xA} {q1 : Int32} {q2 : Int32} {a : xA} {H : am_H} (hS : xS h b T a H) (e : j174_61 N h b q1 q2 a = some (r, a')) : am_E sL sx am_cs 174 61 [(0, .ref 123), (1, .int q1), (2, .int q2)] [] H (some (.int r)) (fun H1 => xS h b T a' H1) := by
  unfold j174_61 at e
  refine ex_s (am_nb (m := 1) (pc1 := 62) (ls1 := [(0, .ref 123), (1, .int q1), (2, .int q2)]) (st1 := [.ref 123]) (H1 := H) (k1 := 0) (n1 := 0) (by with_unfolding_all rfl)) ?_
  refine xe_get (v := .ref 124) hS rfl rfl (by decide) rfl ?_
  refine ex_s (am_nb (m := 2) (pc1 := 67) (ls1 := [(0, .ref 123), (1, .int q1), (2, .int q2)]) (st1 := [.int q2, .int q1, .ref 124]) (H1 := H) (k1 := 0) (n1 := 0) (by with_unfolding_all rfl)) ?_
  obtain ⟨g17, e⟩ := xg_some e
  obtain ⟨a14, ha14, e⟩ := xw_some e
  refine xe_zast hS rfl rfl g17 (fun H15 s16 => ?_)
  have s16 : xS h b T a14 H15 := by rw [ha14]; exact s16
  refine ex_s (am_nb (m := 1) (pc1 := 69) (ls1 := [(0, .ref 123), (1, .int q1), (2, .int q2)]) (st1 := [.int 1]) (H1 := H15) (k1 := 0) (n1 := 0) (by with_unfolding_all rfl)) ?_
  cases e
  exact ex_r (st_iret rfl rfl rfl) s16

set_option maxRecDepth 100000 in
theorem tj174_24 {sL : Nat} {sx : Nat → Int32} {h b N : Nat} {T : List am_C} {r : Int32} {a' : xA} {q1 : Int32} {q2 : Int32} {a : xA} {H : am_H} (hS : xS h b T a H) (e : j174_24 N h b q1 q2 a = some (r, a')) : am_E sL sx am_cs 174 24 [(0, .ref 123), (1, .int q1), (2, .int q2)] [] H (some (.int r)) (fun H1 => xS h b T a' H1) := by
  unfold j174_24 at e
  refine ex_s (am_nb (m := 2) (pc1 := 26) (ls1 := [(0, .ref 123), (1, .int q1), (2, .int q2)]) (st1 := [.ref 123, .int q2]) (H1 := H) (k1 := 0) (n1 := 0) (by with_unfolding_all rfl)) ?_
  refine xe_get (v := .ref 124) hS rfl rfl (by decide) rfl ?_
  refine ex_s (am_nb (m := 1) (pc1 := 30) (ls1 := [(0, .ref 123), (1, .int q1), (2, .int q2)]) (st1 := [.int q1, .ref 124, .int q2]) (H1 := H) (k1 := 0) (n1 := 0) (by with_unfolding_all rfl)) ?_
  obtain ⟨g11, e⟩ := xg_some e
  refine xe_zald hS rfl rfl g11 ?_
  refine ex_s (st_icmp rfl) ?_
  by_cases c13 : q2 = (a 124 (q1.toNatClampNeg))
  · have e := (if_pos c13).symm.trans e
    refine ex_pc (if_pos c13) ?_
    exact le_E (l1 := [(0, .ref 123), (1, .int q1), (2, .int q2)]) ⟨rfl, rfl, rfl, trivial⟩ rfl (tj174_61  hS e)
  · have e := (if_neg c13).symm.trans e
    refine ex_pc (if_neg c13) ?_
    refine ex_s (am_nb (m := 1) (pc1 := 35) (ls1 := [(0, .ref 123), (1, .int q1), (2, .int q2)]) (st1 := [.ref 123]) (H1 := H) (k1 := 0) (n1 := 0) (by with_unfolding_all rfl)) ?_
    refine xe_get (v := .ref 125) hS rfl rfl (by decide) rfl ?_
    refine ex_s (am_nb (m := 1) (pc1 := 39) (ls1 := [(0, .ref 123), (1, .int q1), (2, .int q2)]) (st1 := [.int q1, .ref 125]) (H1 := H) (k1 := 0) (n1 := 0) (by with_unfolding_all rfl)) ?_
    refine xe_zald hS rfl rfl g11 ?_
    refine ex_s (st_if rfl) ?_
    by_cases c19 : (a 125 (q1.toNatClampNeg)) = 0
    · have e := (if_pos c19).symm.trans e
      refine ex_pc (if_pos c19) ?_
      refine ex_s (am_nb (m := 2) (pc1 := 45) (ls1 := [(0, .ref 123), (1, .int q1), (2, .int q2)]) (st1 := [.ref 123, .ref 123]) (H1 := H) (k1 := 0) (n1 := 0) (by with_unfolding_all rfl)) ?_
      refine xe_get (v := .int (a 123 2)) hS rfl rfl (by decide) rfl ?_
      refine ex_s (am_nb (m := 1) (pc1 := 49) (ls1 := [(0, .ref 123), (1, .int q1), (2, .int q2)]) (st1 := [.int q2, .int (a 123 2), .ref 123]) (H1 := H) (k1 := 0) (n1 := 0) (by with_unfolding_all rfl)) ?_
      have kk : am_E sL sx am_cs 174 57 [(0, .ref 123), (1, .int q1), (2, .int q2)] [.int (if q2 = 0 then (-1 : Int32) else (1 : Int32)), .int (a 123 2), .ref 123] H (some (.int r)) (fun H1 => xS h b T a' H1) := by
        refine ex_s (am_nb (m := 1) (pc1 := 58) (ls1 := [(0, .ref 123), (1, .int q1), (2, .int q2)]) (st1 := [.int ((a 123 2) + (if q2 = 0 then (-1 : Int32) else (1 : Int32))), .ref 123]) (H1 := H) (k1 := 0) (n1 := 0) (by with_unfolding_all rfl)) ?_
        obtain ⟨a21, ha21, e⟩ := xw_some e
        refine xe_put (w := ((a 123 2) + (if q2 = 0 then (-1 : Int32) else (1 : Int32)))) hS rfl rfl (by decide) rfl rfl rfl rfl (fun H22 s23 => ?_)
        have s23 : xS h b T a21 H22 := by rw [ha21]; exact s23
        exact le_E (l1 := [(0, .ref 123), (1, .int q1), (2, .int q2)]) ⟨rfl, rfl, rfl, trivial⟩ rfl (tj174_61  s23 e)
      refine ex_s (st_if rfl) ?_
      by_cases c20 : q2 = 0
      · refine ex_pc (if_pos c20) ?_
        refine ex_s (am_nb (m := 1) (pc1 := 57) (ls1 := [(0, .ref 123), (1, .int q1), (2, .int q2)]) (st1 := [.int (-1), .int (a 123 2), .ref 123]) (H1 := H) (k1 := 0) (n1 := 0) (by with_unfolding_all rfl)) ?_
        rw [if_pos c20] at kk
        exact kk
      · refine ex_pc (if_neg c20) ?_
        refine ex_s (am_nb (m := 2) (pc1 := 57) (ls1 := [(0, .ref 123), (1, .int q1), (2, .int q2)]) (st1 := [.int 1, .int (a 123 2), .ref 123]) (H1 := H) (k1 := 0) (n1 := 0) (by with_unfolding_all rfl)) ?_
        rw [if_neg c20] at kk
        exact kk
    · have e := (if_neg c19).symm.trans e
      refine ex_pc (if_neg c19) ?_
      exact le_E (l1 := [(0, .ref 123), (1, .int q1), (2, .int q2)]) ⟨rfl, rfl, rfl, trivial⟩ rfl (tj174_61  hS e)

set_option maxRecDepth 100000 in
theorem tf174_press {sL : Nat} {sx : Nat → Int32} {h b N : Nat} {T : List am_C} {r : Int32} {a' : xA} {x0 : Int32} {x1 : Int32} {a : xA} {H : am_H} (hS : xS h b T a H) (e : f174_press N h b x0 x1 a = some (r, a')) : am_E sL sx am_cs 174 0 [(0, .ref 123), (1, .int x0), (2, .int x1)] [] H (some (.int r)) (fun H1 => xS h b T a' H1) := by
  unfold f174_press at e
  refine ex_s (am_nb (m := 1) (pc1 := 1) (ls1 := [(0, .ref 123), (1, .int x0), (2, .int x1)]) (st1 := [.int x0]) (H1 := H) (k1 := 0) (n1 := 0) (by with_unfolding_all rfl)) ?_
  refine ex_s (st_if rfl) ?_
  by_cases c4 : x0 < 0
  · have e := (if_pos c4).symm.trans e
    refine ex_pc (if_pos c4) ?_
    refine ex_s (am_nb (m := 1) (pc1 := 23) (ls1 := [(0, .ref 123), (1, .int x0), (2, .int x1)]) (st1 := [.int 0]) (H1 := H) (k1 := 0) (n1 := 0) (by with_unfolding_all rfl)) ?_
    cases e
    exact ex_r (st_iret rfl rfl rfl) hS
  · have e := (if_neg c4).symm.trans e
    refine ex_pc (if_neg c4) ?_
    refine ex_s (am_nb (m := 2) (pc1 := 7) (ls1 := [(0, .ref 123), (1, .int x0), (2, .int x1)]) (st1 := [.int 127, .int x0]) (H1 := H) (k1 := 0) (n1 := 0) (by with_unfolding_all rfl)) ?_
    refine ex_s (st_icmp rfl) ?_
    by_cases c7 : 127 ≤ x0
    · have e := (if_pos c7).symm.trans e
      refine ex_pc (if_pos c7) ?_
      refine ex_s (am_nb (m := 1) (pc1 := 23) (ls1 := [(0, .ref 123), (1, .int x0), (2, .int x1)]) (st1 := [.int 0]) (H1 := H) (k1 := 0) (n1 := 0) (by with_unfolding_all rfl)) ?_
      cases e
      exact ex_r (st_iret rfl rfl rfl) hS
    · have e := (if_neg c7).symm.trans e
      refine ex_pc (if_neg c7) ?_
      refine ex_s (am_nb (m := 2) (pc1 := 13) (ls1 := [(0, .ref 123), (1, .int x0), (2, .int x1)]) (st1 := [.int 28, .int x0]) (H1 := H) (k1 := 0) (n1 := 0) (by with_unfolding_all rfl)) ?_
      refine ex_s (st_icmp rfl) ?_
      by_cases c10 : x0 ≤ 28
      · have e := (if_pos c10).symm.trans e
        refine ex_pc (if_pos c10) ?_
        exact le_E (l1 := [(0, .ref 123), (1, .int x0), (2, .int x1)]) ⟨rfl, rfl, rfl, trivial⟩ rfl (tj174_24  hS e)
      · have e := (if_neg c10).symm.trans e
        refine ex_pc (if_neg c10) ?_
        refine ex_s (am_nb (m := 2) (pc1 := 19) (ls1 := [(0, .ref 123), (1, .int x0), (2, .int x1)]) (st1 := [.int 32, .int x0]) (H1 := H) (k1 := 0) (n1 := 0) (by with_unfolding_all rfl)) ?_
        refine ex_s (st_icmp rfl) ?_
        by_cases c24 : 32 ≤ x0
        · have e := (if_pos c24).symm.trans e
          refine ex_pc (if_pos c24) ?_
          exact le_E (l1 := [(0, .ref 123), (1, .int x0), (2, .int x1)]) ⟨rfl, rfl, rfl, trivial⟩ rfl (tj174_24  hS e)
        · have e := (if_neg c24).symm.trans e
          refine ex_pc (if_neg c24) ?_
          refine ex_s (am_nb (m := 1) (pc1 := 23) (ls1 := [(0, .ref 123), (1, .int x0), (2, .int x1)]) (st1 := [.int 0]) (H1 := H) (k1 := 0) (n1 := 0) (by with_unfolding_all rfl)) ?_
          cases e
          exact ex_r (st_iret rfl rfl rfl) hS

set_option maxRecDepth 100000 in
theorem tf173_key {sL : Nat} {sx : Nat → Int32} {h b N : Nat} {T : List am_C} {r : Int32} {a' : xA} {x0 : Int32} {x1 : Int32} {a : xA} {H : am_H} (hS : xS h b T a H) (e : f173_key N h b x0 x1 a = some (r, a')) : am_E sL sx am_cs 173 0 [(0, .ref 0), (1, .int x0), (2, .int x1)] [] H (some (.int r)) (fun H1 => xS h b T a' H1) := by
  unfold f173_key at e
  refine ex_s (am_nb (m := 1) (pc1 := 1) (ls1 := [(0, .ref 0), (1, .int x0), (2, .int x1)]) (st1 := [.ref 0]) (H1 := H) (k1 := 0) (n1 := 0) (by with_unfolding_all rfl)) ?_
  refine xe_get (v := .ref 123) hS rfl rfl (by decide) rfl ?_
  refine ex_s (am_nb (m := 2) (pc1 := 6) (ls1 := [(0, .ref 0), (1, .int x0), (2, .int x1)]) (st1 := [.int x1, .int x0, .ref 123]) (H1 := H) (k1 := 0) (n1 := 0) (by with_unfolding_all rfl)) ?_
  obtain ⟨r4, a5, e3, e⟩ := xb2_some e
  refine ex_cv1 (as := [.int x0, .int x1]) (rest := []) rfl rfl rfl rfl (hS.obj rfl (by decide)) rfl (by with_unfolding_all rfl) (by with_unfolding_all rfl) (tf174_press hS e3) (fun H1 s2 => ?_)
  obtain ⟨g6, e⟩ := xg_some e
  cases e
  exact ex_r (st_iret rfl rfl (xnar_z g6)) s2

set_option maxRecDepth 100000 in
theorem tf176_spoilByte {sL : Nat} {sx : Nat → Int32} {h b N : Nat} {T : List am_C} {r : Int32} {a' : xA} {o : Nat} {a : xA} {H : am_H} (hS : xS h b T a H) (e : f176_spoilByte N h b o a = some (r, a')) : am_E sL sx am_cs 176 0 [(0, .ref o)] [] H (some (.int r)) (fun H1 => xS h b T a' H1) := by
  unfold f176_spoilByte at e
  obtain ⟨g1, e⟩ := xg_some e
  refine ex_s (am_nb (m := 2) (pc1 := 2) (ls1 := [(0, .ref o)]) (st1 := [.ref o, .ref o]) (H1 := H) (k1 := 0) (n1 := 0) (by with_unfolding_all rfl)) ?_
  refine xe_get (v := .int (a o 0)) hS rfl g1 (by decide) rfl ?_
  refine ex_s (am_nb (m := 1) (pc1 := 6) (ls1 := [(0, .ref o)]) (st1 := [.int (-1), .int (a o 0), .ref o]) (H1 := H) (k1 := 0) (n1 := 0) (by with_unfolding_all rfl)) ?_
  have kk : am_E sL sx am_cs 176 14 [(0, .ref o)] [.int (if (a o 0) = (-1) then (0 : Int32) else (1 : Int32)), .ref o] H (some (.int r)) (fun H1 => xS h b T a' H1) := by
    obtain ⟨g6, e⟩ := xg_some e
    obtain ⟨a3, ha3, e⟩ := xw_some e
    refine xe_put (w := (if (a o 0) = (-1) then (0 : Int32) else (1 : Int32))) hS rfl g1 (by decide) rfl rfl (xfit_z g6) rfl (fun H4 s5 => ?_)
    have s5 : xS h b T a3 H4 := by rw [ha3]; exact s5
    refine ex_s (am_nb (m := 1) (pc1 := 18) (ls1 := [(0, .ref o)]) (st1 := [.ref o]) (H1 := H4) (k1 := 0) (n1 := 0) (by with_unfolding_all rfl)) ?_
    refine xe_get (v := .int (a3 o 2)) s5 rfl g1 (by decide) rfl ?_
    obtain ⟨g7, e⟩ := xg_some e
    cases e
    exact ex_r (st_iret rfl rfl (xnar_z g7)) s5
  refine ex_s (st_icmp rfl) ?_
  by_cases c2 : (a o 0) = (-1)
  · refine ex_pc (if_pos c2) ?_
    refine ex_s (am_nb (m := 1) (pc1 := 14) (ls1 := [(0, .ref o)]) (st1 := [.int 0, .ref o]) (H1 := H) (k1 := 0) (n1 := 0) (by with_unfolding_all rfl)) ?_
    rw [if_pos c2] at kk
    exact kk
  · refine ex_pc (if_neg c2) ?_
    refine ex_s (am_nb (m := 2) (pc1 := 14) (ls1 := [(0, .ref o)]) (st1 := [.int 1, .ref o]) (H1 := H) (k1 := 0) (n1 := 0) (by with_unfolding_all rfl)) ?_
    rw [if_neg c2] at kk
    exact kk

set_option maxRecDepth 100000 in
theorem tf175_spoil {sL : Nat} {sx : Nat → Int32} {h b N : Nat} {T : List am_C} {r : Int32} {a' : xA} {x0 : Int32} {a : xA} {H : am_H} (hS : xS h b T a H) (e : f175_spoil N h b x0 a = some (r, a')) : am_E sL sx am_cs 175 0 [(0, .ref 0), (1, .int x0)] [] H (some (.int r)) (fun H1 => xS h b T a' H1) := by
  unfold f175_spoil at e
  refine ex_s (am_nb (m := 1) (pc1 := 1) (ls1 := [(0, .ref 0), (1, .int x0)]) (st1 := [.int x0]) (H1 := H) (k1 := 0) (n1 := 0) (by with_unfolding_all rfl)) ?_
  refine ex_s (st_lsw rfl) ?_
  by_cases c1 : x0 = 0
  · have e := (if_pos c1).symm.trans e
    refine ex_pc (pc1 := 28) (by rw [c1]; with_unfolding_all rfl) ?_
    refine ex_s (am_nb (m := 1) (pc1 := 29) (ls1 := [(0, .ref 0), (1, .int x0)]) (st1 := [.ref 0]) (H1 := H) (k1 := 0) (n1 := 0) (by with_unfolding_all rfl)) ?_
    refine xe_get (v := .ref 127) hS rfl rfl (by decide) rfl ?_
    obtain ⟨r5, a6, e4, e⟩ := xb2_some e
    refine ex_cv1 (as := []) (rest := []) rfl rfl rfl rfl (hS.obj rfl (by decide)) rfl (by with_unfolding_all rfl) (by with_unfolding_all rfl) (tf176_spoilByte hS e4) (fun H2 s3 => ?_)
    obtain ⟨g7, e⟩ := xg_some e
    cases e
    exact ex_r (st_iret rfl rfl (xnar_z g7)) s3
  · have e := (if_neg c1).symm.trans e
    by_cases c8 : x0 = 1
    · have e := (if_pos c8).symm.trans e
      refine ex_pc (pc1 := 36) (by rw [c8]; with_unfolding_all rfl) ?_
      refine ex_s (am_nb (m := 1) (pc1 := 37) (ls1 := [(0, .ref 0), (1, .int x0)]) (st1 := [.ref 0]) (H1 := H) (k1 := 0) (n1 := 0) (by with_unfolding_all rfl)) ?_
      refine xe_get (v := .ref 128) hS rfl rfl (by decide) rfl ?_
      obtain ⟨r12, a13, e11, e⟩ := xb2_some e
      refine ex_cv1 (as := []) (rest := []) rfl rfl rfl rfl (hS.obj rfl (by decide)) rfl (by with_unfolding_all rfl) (by with_unfolding_all rfl) (tf176_spoilByte hS e11) (fun H9 s10 => ?_)
      obtain ⟨g14, e⟩ := xg_some e
      cases e
      exact ex_r (st_iret rfl rfl (xnar_z g14)) s10
    · have e := (if_neg c8).symm.trans e
      refine ex_pc (pc1 := 44) (am_sw_n (sw_c (Or.inl c1) (sw_c (Or.inl c8) sw_o))) ?_
      refine ex_s (am_nb (m := 1) (pc1 := 45) (ls1 := [(0, .ref 0), (1, .int x0)]) (st1 := [.int 0]) (H1 := H) (k1 := 0) (n1 := 0) (by with_unfolding_all rfl)) ?_
      cases e
      exact ex_r (st_iret rfl rfl rfl) hS

set_option maxRecDepth 100000 in
theorem tf178_arriving {sL : Nat} {sx : Nat → Int32} {h b N : Nat} {T : List am_C} {r : Int32} {a' : xA} {o : Nat} {x0 : Int32} {a : xA} {H : am_H} (hS : xS h b T a H) (e : f178_arriving N h b o x0 a = some (r, a')) : am_E sL sx am_cs 178 0 [(0, .ref o), (1, .int x0)] [] H (some (.int r)) (fun H1 => xS h b T a' H1) := by
  unfold f178_arriving at e
  obtain ⟨g1, e⟩ := xg_some e
  refine ex_s (am_nb (m := 1) (pc1 := 1) (ls1 := [(0, .ref o), (1, .int x0)]) (st1 := [.ref o]) (H1 := H) (k1 := 0) (n1 := 0) (by with_unfolding_all rfl)) ?_
  refine xe_get (v := .int (a o 0)) hS rfl g1 (by decide) rfl ?_
  refine ex_s (am_nb (m := 1) (pc1 := 5) (ls1 := [(0, .ref o), (1, .int x0)]) (st1 := [.int (-1), .int (a o 0)]) (H1 := H) (k1 := 0) (n1 := 0) (by with_unfolding_all rfl)) ?_
  refine ex_s (st_icmp rfl) ?_
  by_cases c5 : (a o 0) = (-1)
  · have e := (if_pos c5).symm.trans e
    refine ex_pc (if_pos c5) ?_
    refine ex_s (am_nb (m := 1) (pc1 := 17) (ls1 := [(0, .ref o), (1, .int x0)]) (st1 := [.int (-1)]) (H1 := H) (k1 := 0) (n1 := 0) (by with_unfolding_all rfl)) ?_
    cases e
    exact ex_r (st_iret rfl rfl rfl) hS
  · have e := (if_neg c5).symm.trans e
    refine ex_pc (if_neg c5) ?_
    refine ex_s (am_nb (m := 2) (pc1 := 10) (ls1 := [(0, .ref o), (1, .int x0)]) (st1 := [.ref o, .int x0]) (H1 := H) (k1 := 0) (n1 := 0) (by with_unfolding_all rfl)) ?_
    refine xe_get (v := .int (a o 1)) hS rfl g1 (by decide) rfl ?_
    refine ex_s (st_icmp rfl) ?_
    by_cases c6 : (a o 1) ≤ x0
    · have e := (if_pos c6).symm.trans e
      refine ex_pc (if_pos c6) ?_
      refine ex_s (am_nb (m := 1) (pc1 := 19) (ls1 := [(0, .ref o), (1, .int x0)]) (st1 := [.ref o]) (H1 := H) (k1 := 0) (n1 := 0) (by with_unfolding_all rfl)) ?_
      refine xe_get (v := .int (a o 2)) hS rfl g1 (by decide) rfl ?_
      have kk : am_E sL sx am_cs 178 35 [(0, .ref o), (1, .int x0)] [.int (if (a o 2) = 0 then (a o 0) else (256 : Int32))] H (some (.int r)) (fun H1 => xS h b T a' H1) := by
        refine ex_s (am_nb (m := 3) (pc1 := 38) (ls1 := [(2, .int (if (a o 2) = 0 then (a o 0) else (256 : Int32))), (0, .ref o), (1, .int x0)]) (st1 := [.int (-1), .ref o]) (H1 := H) (k1 := 0) (n1 := 0) (by with_unfolding_all rfl)) ?_
        obtain ⟨a8, ha8, e⟩ := xw_some e
        refine xe_put (w := (-1)) hS rfl g1 (by decide) rfl rfl rfl rfl (fun H9 s10 => ?_)
        have s10 : xS h b T a8 H9 := by rw [ha8]; exact s10
        refine ex_s (am_nb (m := 1) (pc1 := 42) (ls1 := [(2, .int (if (a o 2) = 0 then (a o 0) else (256 : Int32))), (0, .ref o), (1, .int x0)]) (st1 := [.int (if (a o 2) = 0 then (a o 0) else (256 : Int32))]) (H1 := H9) (k1 := 0) (n1 := 0) (by with_unfolding_all rfl)) ?_
        cases e
        exact ex_r (st_iret rfl rfl rfl) s10
      refine ex_s (st_if rfl) ?_
      by_cases c7 : (a o 2) = 0
      · refine ex_pc (if_pos c7) ?_
        refine ex_s (am_nb (m := 1) (pc1 := 32) (ls1 := [(0, .ref o), (1, .int x0)]) (st1 := [.ref o]) (H1 := H) (k1 := 0) (n1 := 0) (by with_unfolding_all rfl)) ?_
        refine xe_get (v := .int (a o 0)) hS rfl g1 (by decide) rfl ?_
        rw [if_pos c7] at kk
        exact kk
      · refine ex_pc (if_neg c7) ?_
        refine ex_s (am_nb (m := 2) (pc1 := 35) (ls1 := [(0, .ref o), (1, .int x0)]) (st1 := [.int 256]) (H1 := H) (k1 := 0) (n1 := 0) (by with_unfolding_all rfl)) ?_
        rw [if_neg c7] at kk
        exact kk
    · have e := (if_neg c6).symm.trans e
      refine ex_pc (if_neg c6) ?_
      refine ex_s (am_nb (m := 1) (pc1 := 17) (ls1 := [(0, .ref o), (1, .int x0)]) (st1 := [.int (-1)]) (H1 := H) (k1 := 0) (n1 := 0) (by with_unfolding_all rfl)) ?_
      cases e
      exact ex_r (st_iret rfl rfl rfl) hS

set_option maxRecDepth 100000 in
theorem tj179_51 {sL : Nat} {sx : Nat → Int32} {h b N : Nat} {T : List am_C} {a' : xA} {a : xA} {H : am_H} (hS : xS h b T a H) (e : j179_51 N h b a = some a') : am_E sL sx am_cs 179 51 [(0, .ref 129)] [] H none (fun H1 => xS h b T a' H1) := by
  unfold j179_51 at e
  refine ex_s (am_nb (m := 1) (pc1 := 52) (ls1 := [(0, .ref 129)]) (st1 := [.ref 129]) (H1 := H) (k1 := 0) (n1 := 0) (by with_unfolding_all rfl)) ?_
  refine xe_get (v := .ref 130) hS rfl rfl (by decide) rfl ?_
  obtain ⟨r12, a13, e11, e⟩ := xb2_some e
  refine ex_cv1 (as := []) (rest := []) rfl rfl rfl rfl (hS.obj rfl (by decide)) rfl (by with_unfolding_all rfl) (by with_unfolding_all rfl) (tf163_size hS e11) (fun H9 s10 => ?_)
  refine ex_s (am_nb (m := 1) (pc1 := 60) (ls1 := [(0, .ref 129)]) (st1 := [.int 48, .int r12]) (H1 := H9) (k1 := 0) (n1 := 0) (by with_unfolding_all rfl)) ?_
  refine ex_s (st_icmp rfl) ?_
  by_cases c15 : r12 < 48
  · have e := (if_pos c15).symm.trans e
    refine ex_pc (if_pos c15) ?_
    cases e
    exact ex_r (st_vret rfl rfl) s10
  · have e := (if_neg c15).symm.trans e
    refine ex_pc (if_neg c15) ?_
    refine ex_s (am_nb (m := 2) (pc1 := 65) (ls1 := [(0, .ref 129)]) (st1 := [.int 1, .ref 129]) (H1 := H9) (k1 := 0) (n1 := 0) (by with_unfolding_all rfl)) ?_
    obtain ⟨a16, ha16, e⟩ := xw_some e
    refine xe_put (w := 1) s10 rfl rfl (by decide) rfl rfl rfl rfl (fun H17 s18 => ?_)
    have s18 : xS h b T a16 H17 := by rw [ha16]; exact s18
    cases e
    exact ex_r (st_vret rfl rfl) s18

set_option maxRecDepth 100000 in
theorem tj179_12 {sL : Nat} {sx : Nat → Int32} {h b N : Nat} {T : List am_C} {a' : xA} {q1 : Int32} {a : xA} {H : am_H} (hS : xS h b T a H) (e : j179_12 N h b q1 a = some a') : am_E sL sx am_cs 179 12 [(0, .ref 129), (1, .int q1)] [] H none (fun H1 => xS h b T a' H1) := by
  unfold j179_12 at e
  refine ex_s (am_nb (m := 3) (pc1 := 16) (ls1 := [(0, .ref 129), (1, .int q1)]) (st1 := [.int 19, .int q1, .ref 129]) (H1 := H) (k1 := 0) (n1 := 0) (by with_unfolding_all rfl)) ?_
  have kk : am_E sL sx am_cs 179 24 [(0, .ref 129), (1, .int q1)] [.int (if q1 = 19 then (1 : Int32) else (0 : Int32)), .ref 129] H none (fun H1 => xS h b T a' H1) := by
    obtain ⟨g8, e⟩ := xg_some e
    obtain ⟨a5, ha5, e⟩ := xw_some e
    refine xe_put (w := (if q1 = 19 then (1 : Int32) else (0 : Int32))) hS rfl rfl (by decide) rfl rfl (xfit_z g8) rfl (fun H6 s7 => ?_)
    have s7 : xS h b T a5 H6 := by rw [ha5]; exact s7
    refine ex_s (am_nb (m := 1) (pc1 := 51) (ls1 := [(0, .ref 129), (1, .int q1)]) (st1 := []) (H1 := H6) (k1 := 0) (n1 := 0) (by with_unfolding_all rfl)) ?_
    exact le_E (l1 := [(0, .ref 129)]) ⟨rfl, trivial⟩ rfl (tj179_51  s7 e)
  refine ex_s (st_icmp rfl) ?_
  by_cases c4 : q1 = 19
  · refine ex_pc (if_pos c4) ?_
    refine ex_s (am_nb (m := 2) (pc1 := 24) (ls1 := [(0, .ref 129), (1, .int q1)]) (st1 := [.int 1, .ref 129]) (H1 := H) (k1 := 0) (n1 := 0) (by with_unfolding_all rfl)) ?_
    rw [if_pos c4] at kk
    exact kk
  · refine ex_pc (if_neg c4) ?_
    refine ex_s (am_nb (m := 1) (pc1 := 24) (ls1 := [(0, .ref 129), (1, .int q1)]) (st1 := [.int 0, .ref 129]) (H1 := H) (k1 := 0) (n1 := 0) (by with_unfolding_all rfl)) ?_
    rw [if_neg c4] at kk
    exact kk

set_option maxRecDepth 100000 in
theorem tf179_receive {sL : Nat} {sx : Nat → Int32} {h b N : Nat} {T : List am_C} {a' : xA} {x0 : Int32} {a : xA} {H : am_H} (hS : xS h b T a H) (e : f179_receive N h b x0 a = some a') : am_E sL sx am_cs 179 0 [(0, .ref 129), (1, .int x0)] [] H none (fun H1 => xS h b T a' H1) := by
  unfold f179_receive at e
  refine ex_s (am_nb (m := 2) (pc1 := 3) (ls1 := [(0, .ref 129), (1, .int x0)]) (st1 := [.int 19, .int x0]) (H1 := H) (k1 := 0) (n1 := 0) (by with_unfolding_all rfl)) ?_
  refine ex_s (st_icmp rfl) ?_
  by_cases c3 : x0 = 19
  · have e := (if_pos c3).symm.trans e
    refine ex_pc (if_pos c3) ?_
    exact le_E (l1 := [(0, .ref 129), (1, .int x0)]) ⟨rfl, rfl, trivial⟩ rfl (tj179_12  hS e)
  · have e := (if_neg c3).symm.trans e
    refine ex_pc (if_neg c3) ?_
    refine ex_s (am_nb (m := 2) (pc1 := 9) (ls1 := [(0, .ref 129), (1, .int x0)]) (st1 := [.int 17, .int x0]) (H1 := H) (k1 := 0) (n1 := 0) (by with_unfolding_all rfl)) ?_
    refine ex_s (st_icmp rfl) ?_
    by_cases c21 : x0 = 17
    · have e := (if_pos c21).symm.trans e
      refine ex_pc (if_pos c21) ?_
      exact le_E (l1 := [(0, .ref 129), (1, .int x0)]) ⟨rfl, rfl, trivial⟩ rfl (tj179_12  hS e)
    · have e := (if_neg c21).symm.trans e
      refine ex_pc (if_neg c21) ?_
      refine ex_s (am_nb (m := 1) (pc1 := 31) (ls1 := [(0, .ref 129), (1, .int x0)]) (st1 := [.ref 129]) (H1 := H) (k1 := 0) (n1 := 0) (by with_unfolding_all rfl)) ?_
      refine xe_get (v := .ref 130) hS rfl rfl (by decide) rfl ?_
      refine ex_s (am_nb (m := 1) (pc1 := 35) (ls1 := [(0, .ref 129), (1, .int x0)]) (st1 := [.int x0, .ref 130]) (H1 := H) (k1 := 0) (n1 := 0) (by with_unfolding_all rfl)) ?_
      obtain ⟨r25, a26, e24, e⟩ := xb2_some e
      refine ex_cv1 (as := [.int x0]) (rest := []) rfl rfl rfl rfl (hS.obj rfl (by decide)) rfl (by with_unfolding_all rfl) (by with_unfolding_all rfl) (tf156_add hS e24) (fun H22 s23 => ?_)
      refine ex_s (st_if rfl) ?_
      by_cases c28 : r25 = 0
      · have e := (if_pos c28).symm.trans e
        refine ex_pc (if_pos c28) ?_
        refine ex_s (am_nb (m := 2) (pc1 := 43) (ls1 := [(0, .ref 129), (1, .int x0)]) (st1 := [.ref 129, .ref 129]) (H1 := H22) (k1 := 0) (n1 := 0) (by with_unfolding_all rfl)) ?_
        refine xe_get (v := .int (a26 129 8)) s23 rfl rfl (by decide) rfl ?_
        refine ex_s (am_nb (m := 2) (pc1 := 48) (ls1 := [(0, .ref 129), (1, .int x0)]) (st1 := [.int ((a26 129 8) + 1), .ref 129]) (H1 := H22) (k1 := 0) (n1 := 0) (by with_unfolding_all rfl)) ?_
        obtain ⟨a29, ha29, e⟩ := xw_some e
        refine xe_put (w := ((a26 129 8) + 1)) s23 rfl rfl (by decide) rfl rfl rfl rfl (fun H30 s31 => ?_)
        have s31 : xS h b T a29 H30 := by rw [ha29]; exact s31
        exact le_E (l1 := [(0, .ref 129)]) ⟨rfl, trivial⟩ rfl (tj179_51  s31 e)
      · have e := (if_neg c28).symm.trans e
        refine ex_pc (if_neg c28) ?_
        exact le_E (l1 := [(0, .ref 129)]) ⟨rfl, trivial⟩ rfl (tj179_51  s23 e)

set_option maxRecDepth 100000 in
theorem tj183_19 {sL : Nat} {sx : Nat → Int32} {h b N : Nat} {T : List am_C} {r : Int32} {a' : xA} {a : xA} {H : am_H} (hS : xS h b T a H) (e : j183_19 N h b a = some (r, a')) : am_E sL sx am_cs 183 19 [] [] H (some (.int r)) (fun H1 => xS h b T a' H1) := by
  unfold j183_19 at e
  refine ex_s (am_nb (m := 2) (pc1 := 24) (ls1 := []) (st1 := [.int 1]) (H1 := H) (k1 := 0) (n1 := 0) (by with_unfolding_all rfl)) ?_
  cases e
  exact ex_r (st_iret rfl rfl rfl) hS

set_option maxRecDepth 100000 in
theorem tf183_isEchoedAsItself {sL : Nat} {sx : Nat → Int32} {h b N : Nat} {T : List am_C} {r : Int32} {a' : xA} {x0 : Int32} {a : xA} {H : am_H} (hS : xS h b T a H) (e : f183_isEchoedAsItself N h b x0 a = some (r, a')) : am_E sL sx am_cs 183 0 [(0, .int x0)] [] H (some (.int r)) (fun H1 => xS h b T a' H1) := by
  unfold f183_isEchoedAsItself at e
  refine ex_s (am_nb (m := 2) (pc1 := 3) (ls1 := [(0, .int x0)]) (st1 := [.int 9, .int x0]) (H1 := H) (k1 := 0) (n1 := 0) (by with_unfolding_all rfl)) ?_
  refine ex_s (st_icmp rfl) ?_
  by_cases c3 : x0 = 9
  · have e := (if_pos c3).symm.trans e
    refine ex_pc (if_pos c3) ?_
    exact le_E (l1 := []) trivial rfl (tj183_19  hS e)
  · have e := (if_neg c3).symm.trans e
    refine ex_pc (if_neg c3) ?_
    refine ex_s (am_nb (m := 2) (pc1 := 9) (ls1 := [(0, .int x0)]) (st1 := [.int 10, .int x0]) (H1 := H) (k1 := 0) (n1 := 0) (by with_unfolding_all rfl)) ?_
    refine ex_s (st_icmp rfl) ?_
    by_cases c5 : x0 = 10
    · have e := (if_pos c5).symm.trans e
      refine ex_pc (if_pos c5) ?_
      exact le_E (l1 := []) trivial rfl (tj183_19  hS e)
    · have e := (if_neg c5).symm.trans e
      refine ex_pc (if_neg c5) ?_
      refine ex_s (am_nb (m := 1) (pc1 := 13) (ls1 := [(0, .int x0)]) (st1 := [.int x0]) (H1 := H) (k1 := 0) (n1 := 0) (by with_unfolding_all rfl)) ?_
      obtain ⟨r9, a10, e8, e⟩ := xb2_some e
      refine ex_cs1 (as := [.int x0]) (rest := []) rfl (by decide) rfl rfl (by with_unfolding_all rfl) (by with_unfolding_all rfl) (tf110_isPrintable hS e8) (fun H6 s7 => ?_)
      have kk : am_E sL sx am_cs 183 24 [(0, .int x0)] [.int (if r9 = 0 then (0 : Int32) else (1 : Int32))] H6 (some (.int r)) (fun H1 => xS h b T a' H1) := by
        obtain ⟨g12, e⟩ := xg_some e
        cases e
        exact ex_r (st_iret rfl rfl (xnar_z g12)) s7
      refine ex_s (st_if rfl) ?_
      by_cases c11 : r9 = 0
      · refine ex_pc (if_pos c11) ?_
        refine ex_s (am_nb (m := 1) (pc1 := 24) (ls1 := [(0, .int x0)]) (st1 := [.int 0]) (H1 := H6) (k1 := 0) (n1 := 0) (by with_unfolding_all rfl)) ?_
        rw [if_pos c11] at kk
        exact kk
      · refine ex_pc (if_neg c11) ?_
        refine ex_s (am_nb (m := 2) (pc1 := 24) (ls1 := [(0, .int x0)]) (st1 := [.int 1]) (H1 := H6) (k1 := 0) (n1 := 0) (by with_unfolding_all rfl)) ?_
        rw [if_neg c11] at kk
        exact kk

set_option maxRecDepth 100000 in
theorem tf182_echo {sL : Nat} {sx : Nat → Int32} {h b N : Nat} {T : List am_C} {a' : xA} {x0 : Int32} {a : xA} {H : am_H} (hS : xS h b T a H) (e : f182_echo N h b x0 a = some a') : am_E sL sx am_cs 182 0 [(0, .ref 116), (1, .int x0)] [] H none (fun H1 => xS h b T a' H1) := by
  unfold f182_echo at e
  refine ex_s (am_nb (m := 2) (pc1 := 2) (ls1 := [(0, .ref 116), (1, .int x0)]) (st1 := [.int 2, .ref 116]) (H1 := H) (k1 := 0) (n1 := 0) (by with_unfolding_all rfl)) ?_
  obtain ⟨r4, a5, e3, e⟩ := xb2_some e
  refine ex_cv1 (as := [.int 2]) (rest := []) rfl rfl rfl rfl (hS.obj rfl (by decide)) rfl (by with_unfolding_all rfl) (by with_unfolding_all rfl) (tf162_has hS e3) (fun H1 s2 => ?_)
  refine ex_s (st_if rfl) ?_
  by_cases c6 : r4 = 0
  · have e := (if_pos c6).symm.trans e
    refine ex_pc (if_pos c6) ?_
    cases e
    exact ex_r (st_vret rfl rfl) s2
  · have e := (if_neg c6).symm.trans e
    refine ex_pc (if_neg c6) ?_
    refine ex_s (am_nb (m := 1) (pc1 := 10) (ls1 := [(0, .ref 116), (1, .int x0)]) (st1 := [.int x0]) (H1 := H1) (k1 := 0) (n1 := 0) (by with_unfolding_all rfl)) ?_
    obtain ⟨r10, a11, e9, e⟩ := xb2_some e
    refine ex_cs1 (as := [.int x0]) (rest := []) rfl (by decide) rfl rfl (by with_unfolding_all rfl) (by with_unfolding_all rfl) (tf183_isEchoedAsItself s2 e9) (fun H7 s8 => ?_)
    refine ex_s (st_if rfl) ?_
    by_cases c13 : r10 = 0
    · have e := (if_pos c13).symm.trans e
      refine ex_pc (if_pos c13) ?_
      refine ex_s (am_nb (m := 2) (pc1 := 28) (ls1 := [(0, .ref 116), (1, .int x0)]) (st1 := [.int 94, .ref 116]) (H1 := H7) (k1 := 0) (n1 := 0) (by with_unfolding_all rfl)) ?_
      obtain ⟨r17, a18, e16, e⟩ := xb2_some e
      refine ex_cv1 (as := [.int 94]) (rest := []) rfl rfl rfl rfl (s8.obj rfl (by decide)) rfl (by with_unfolding_all rfl) (by with_unfolding_all rfl) (tf167_put s8 e16) (fun H14 s15 => ?_)
      refine ex_s (am_nb (m := 5) (pc1 := 37) (ls1 := [(0, .ref 116), (1, .int x0)]) (st1 := [.int (x0 ^^^ 64), .ref 116]) (H1 := H14) (k1 := 0) (n1 := 0) (by with_unfolding_all rfl)) ?_
      obtain ⟨r22, a23, e21, e⟩ := xb2_some e
      refine ex_cv1 (as := [.int (x0 ^^^ 64)]) (rest := []) rfl rfl rfl rfl (s15.obj rfl (by decide)) rfl (by with_unfolding_all rfl) (by with_unfolding_all rfl) (tf167_put s15 e21) (fun H19 s20 => ?_)
      refine ex_s (am_nb (m := 1) (pc1 := 41) (ls1 := [(0, .ref 116), (1, .int x0)]) (st1 := []) (H1 := H19) (k1 := 0) (n1 := 0) (by with_unfolding_all rfl)) ?_
      cases e
      exact ex_r (st_vret rfl rfl) s20
    · have e := (if_neg c13).symm.trans e
      refine ex_pc (if_neg c13) ?_
      refine ex_s (am_nb (m := 2) (pc1 := 18) (ls1 := [(0, .ref 116), (1, .int x0)]) (st1 := [.int x0, .ref 116]) (H1 := H7) (k1 := 0) (n1 := 0) (by with_unfolding_all rfl)) ?_
      obtain ⟨r27, a28, e26, e⟩ := xb2_some e
      refine ex_cv1 (as := [.int x0]) (rest := []) rfl rfl rfl rfl (s8.obj rfl (by decide)) rfl (by with_unfolding_all rfl) (by with_unfolding_all rfl) (tf167_put s8 e26) (fun H24 s25 => ?_)
      refine ex_s (am_nb (m := 2) (pc1 := 41) (ls1 := [(0, .ref 116), (1, .int x0)]) (st1 := []) (H1 := H24) (k1 := 0) (n1 := 0) (by with_unfolding_all rfl)) ?_
      cases e
      exact ex_r (st_vret rfl rfl) s25

set_option maxRecDepth 100000 in
theorem tj181_76 {sL : Nat} {sx : Nat → Int32} {h b N : Nat} {T : List am_C} {a' : xA} {q1 : Int32} {a : xA} {H : am_H} (hS : xS h b T a H) (e : j181_76 N h b q1 a = some a') : am_E sL sx am_cs 181 76 [(0, .ref 116), (1, .int q1)] [] H none (fun H1 => xS h b T a' H1) := by
  unfold j181_76 at e
  refine ex_s (am_nb (m := 2) (pc1 := 78) (ls1 := [(0, .ref 116), (1, .int q1)]) (st1 := [.int q1, .ref 116]) (H1 := H) (k1 := 0) (n1 := 0) (by with_unfolding_all rfl)) ?_
  obtain ⟨a30, e29, e⟩ := xb1_some e
  refine ex_cv0 (as := [.int q1]) (rest := []) rfl rfl rfl rfl (hS.obj rfl (by decide)) rfl (by with_unfolding_all rfl) (by with_unfolding_all rfl) (tf182_echo hS e29) (fun H27 s28 => ?_)
  cases e
  exact ex_r (st_vret rfl rfl) s28

set_option maxRecDepth 100000 in
theorem tj181_43 {sL : Nat} {sx : Nat → Int32} {h b N : Nat} {T : List am_C} {a' : xA} {q1 : Int32} {q2 : Int32} {t0 : Int32} {a : xA} {H : am_H} (hS : xS h b T a H) (e : j181_43 N h b q1 q2 t0 a = some a') : am_E sL sx am_cs 181 43 [(0, .ref 116), (1, .int q1), (2, .int q2)] [.int t0] H none (fun H1 => xS h b T a' H1) := by
  unfold j181_43 at e
  refine ex_s (am_nb (m := 2) (pc1 := 45) (ls1 := [(3, .int t0), (0, .ref 116), (1, .int q1), (2, .int q2)]) (st1 := [.int t0]) (H1 := H) (k1 := 0) (n1 := 0) (by with_unfolding_all rfl)) ?_
  refine ex_s (st_if rfl) ?_
  by_cases c19 : t0 = 0
  · have e := (if_pos c19).symm.trans e
    refine ex_pc (if_pos c19) ?_
    refine ex_s (am_nb (m := 2) (pc1 := 51) (ls1 := [(3, .int t0), (0, .ref 116), (1, .int q1), (2, .int q2)]) (st1 := [.int 7, .ref 116]) (H1 := H) (k1 := 0) (n1 := 0) (by with_unfolding_all rfl)) ?_
    obtain ⟨r23, a24, e22, e⟩ := xb2_some e
    refine ex_cv1 (as := [.int 7]) (rest := []) rfl rfl rfl rfl (hS.obj rfl (by decide)) rfl (by with_unfolding_all rfl) (by with_unfolding_all rfl) (tf167_put hS e22) (fun H20 s21 => ?_)
    refine ex_s (am_nb (m := 1) (pc1 := 55) (ls1 := [(3, .int t0), (0, .ref 116), (1, .int q1), (2, .int q2)]) (st1 := []) (H1 := H20) (k1 := 0) (n1 := 0) (by with_unfolding_all rfl)) ?_
    cases e
    exact ex_r (st_vret rfl rfl) s21
  · have e := (if_neg c19).symm.trans e
    refine ex_pc (if_neg c19) ?_
    refine ex_s (am_nb (m := 1) (pc1 := 57) (ls1 := [(3, .int t0), (0, .ref 116), (1, .int q1), (2, .int q2)]) (st1 := [.int q2]) (H1 := H) (k1 := 0) (n1 := 0) (by with_unfolding_all rfl)) ?_
    refine ex_s (st_if rfl) ?_
    by_cases c26 : q2 = 0
    · have e := (if_pos c26).symm.trans e
      refine ex_pc (if_pos c26) ?_
      exact le_E (l1 := [(0, .ref 116), (1, .int q1)]) ⟨rfl, rfl, trivial⟩ rfl (tj181_76  hS e)
    · have e := (if_neg c26).symm.trans e
      refine ex_pc (if_neg c26) ?_
      refine ex_s (am_nb (m := 2) (pc1 := 62) (ls1 := [(3, .int t0), (0, .ref 116), (1, .int q1), (2, .int q2)]) (st1 := [.int 1, .ref 116]) (H1 := H) (k1 := 0) (n1 := 0) (by with_unfolding_all rfl)) ?_
      obtain ⟨r34, a35, e33, e⟩ := xb2_some e
      refine ex_cv1 (as := [.int 1]) (rest := []) rfl rfl rfl rfl (hS.obj rfl (by decide)) rfl (by with_unfolding_all rfl) (by with_unfolding_all rfl) (tf162_has hS e33) (fun H31 s32 => ?_)
      refine ex_s (st_if rfl) ?_
      by_cases c37 : r34 = 0
      · have e := (if_pos c37).symm.trans e
        refine ex_pc (if_pos c37) ?_
        exact le_E (l1 := [(0, .ref 116), (1, .int q1)]) ⟨rfl, rfl, trivial⟩ rfl (tj181_76  s32 e)
      · have e := (if_neg c37).symm.trans e
        refine ex_pc (if_neg c37) ?_
        refine ex_s (am_nb (m := 2) (pc1 := 70) (ls1 := [(3, .int t0), (0, .ref 116), (1, .int q1), (2, .int q2)]) (st1 := [.ref 116, .ref 116]) (H1 := H31) (k1 := 0) (n1 := 0) (by with_unfolding_all rfl)) ?_
        refine xe_get (v := .int (a35 116 7)) s32 rfl rfl (by decide) rfl ?_
        obtain ⟨a38, ha38, e⟩ := xw_some e
        refine xe_put (w := (a35 116 7)) s32 rfl rfl (by decide) rfl rfl rfl rfl (fun H39 s40 => ?_)
        have s40 : xS h b T a38 H39 := by rw [ha38]; exact s40
        exact le_E (l1 := [(0, .ref 116), (1, .int q1)]) ⟨rfl, rfl, trivial⟩ rfl (tj181_76  s40 e)

set_option maxRecDepth 100000 in
theorem tf181_take {sL : Nat} {sx : Nat → Int32} {h b N : Nat} {T : List am_C} {a' : xA} {x0 : Int32} {a : xA} {H : am_H} (hS : xS h b T a H) (e : f181_take N h b x0 a = some a') : am_E sL sx am_cs 181 0 [(0, .ref 116), (1, .int x0)] [] H none (fun H1 => xS h b T a' H1) := by
  unfold f181_take at e
  refine ex_s (am_nb (m := 1) (pc1 := 1) (ls1 := [(0, .ref 116), (1, .int x0)]) (st1 := [.ref 116]) (H1 := H) (k1 := 0) (n1 := 0) (by with_unfolding_all rfl)) ?_
  refine xe_get (v := .ref 119) hS rfl rfl (by decide) rfl ?_
  obtain ⟨r4, a5, e3, e⟩ := xb2_some e
  refine ex_cv1 (as := []) (rest := []) rfl rfl rfl rfl (hS.obj rfl (by decide)) rfl (by with_unfolding_all rfl) (by with_unfolding_all rfl) (tf163_size hS e3) (fun H1 s2 => ?_)
  have kk : am_E sL sx am_cs 181 15 [(0, .ref 116), (1, .int x0)] [.int (if r4 = 0 then (1 : Int32) else (0 : Int32))] H1 none (fun H1 => xS h b T a' H1) := by
    refine ex_s (am_nb (m := 3) (pc1 := 18) (ls1 := [(2, .int (if r4 = 0 then (1 : Int32) else (0 : Int32))), (0, .ref 116), (1, .int x0)]) (st1 := [.int 1, .ref 116]) (H1 := H1) (k1 := 0) (n1 := 0) (by with_unfolding_all rfl)) ?_
    obtain ⟨r10, a11, e9, e⟩ := xb2_some e
    refine ex_cv1 (as := [.int 1]) (rest := []) rfl rfl rfl rfl (s2.obj rfl (by decide)) rfl (by with_unfolding_all rfl) (by with_unfolding_all rfl) (tf162_has s2 e9) (fun H7 s8 => ?_)
    refine ex_s (st_if rfl) ?_
    by_cases c13 : r10 = 0
    · have e := (if_pos c13).symm.trans e
      refine ex_pc (if_pos c13) ?_
      refine ex_s (am_nb (m := 1) (pc1 := 36) (ls1 := [(2, .int (if r4 = 0 then (1 : Int32) else (0 : Int32))), (0, .ref 116), (1, .int x0)]) (st1 := [.ref 116]) (H1 := H7) (k1 := 0) (n1 := 0) (by with_unfolding_all rfl)) ?_
      refine xe_get (v := .ref 121) s8 rfl rfl (by decide) rfl ?_
      refine ex_s (am_nb (m := 1) (pc1 := 40) (ls1 := [(2, .int (if r4 = 0 then (1 : Int32) else (0 : Int32))), (0, .ref 116), (1, .int x0)]) (st1 := [.int x0, .ref 121]) (H1 := H7) (k1 := 0) (n1 := 0) (by with_unfolding_all rfl)) ?_
      obtain ⟨r17, a18, e16, e⟩ := xb2_some e
      refine ex_cv1 (as := [.int x0]) (rest := []) rfl rfl rfl rfl (s8.obj rfl (by decide)) rfl (by with_unfolding_all rfl) (by with_unfolding_all rfl) (tf156_add s8 e16) (fun H14 s15 => ?_)
      exact le_E (l1 := [(0, .ref 116), (1, .int x0), (2, .int (if r4 = 0 then (1 : Int32) else (0 : Int32)))]) ⟨rfl, rfl, rfl, trivial⟩ rfl (tj181_43  s15 e)
    · have e := (if_neg c13).symm.trans e
      refine ex_pc (if_neg c13) ?_
      refine ex_s (am_nb (m := 1) (pc1 := 25) (ls1 := [(2, .int (if r4 = 0 then (1 : Int32) else (0 : Int32))), (0, .ref 116), (1, .int x0)]) (st1 := [.ref 116]) (H1 := H7) (k1 := 0) (n1 := 0) (by with_unfolding_all rfl)) ?_
      refine xe_get (v := .ref 119) s8 rfl rfl (by decide) rfl ?_
      refine ex_s (am_nb (m := 1) (pc1 := 29) (ls1 := [(2, .int (if r4 = 0 then (1 : Int32) else (0 : Int32))), (0, .ref 116), (1, .int x0)]) (st1 := [.int x0, .ref 119]) (H1 := H7) (k1 := 0) (n1 := 0) (by with_unfolding_all rfl)) ?_
      obtain ⟨r44, a45, e43, e⟩ := xb2_some e
      refine ex_cv1 (as := [.int x0]) (rest := []) rfl rfl rfl rfl (s8.obj rfl (by decide)) rfl (by with_unfolding_all rfl) (by with_unfolding_all rfl) (tf156_add s8 e43) (fun H41 s42 => ?_)
      refine ex_s (am_nb (m := 1) (pc1 := 43) (ls1 := [(2, .int (if r4 = 0 then (1 : Int32) else (0 : Int32))), (0, .ref 116), (1, .int x0)]) (st1 := [.int r44]) (H1 := H41) (k1 := 0) (n1 := 0) (by with_unfolding_all rfl)) ?_
      exact le_E (l1 := [(0, .ref 116), (1, .int x0), (2, .int (if r4 = 0 then (1 : Int32) else (0 : Int32)))]) ⟨rfl, rfl, rfl, trivial⟩ rfl (tj181_43  s42 e)
  refine ex_s (st_if rfl) ?_
  by_cases c6 : r4 = 0
  · refine ex_pc (if_pos c6) ?_
    refine ex_s (am_nb (m := 2) (pc1 := 15) (ls1 := [(0, .ref 116), (1, .int x0)]) (st1 := [.int 1]) (H1 := H1) (k1 := 0) (n1 := 0) (by with_unfolding_all rfl)) ?_
    rw [if_pos c6] at kk
    exact kk
  · refine ex_pc (if_neg c6) ?_
    refine ex_s (am_nb (m := 1) (pc1 := 15) (ls1 := [(0, .ref 116), (1, .int x0)]) (st1 := [.int 0]) (H1 := H1) (k1 := 0) (n1 := 0) (by with_unfolding_all rfl)) ?_
    rw [if_neg c6] at kk
    exact kk

set_option maxRecDepth 100000 in
theorem tf184_interrupt {sL : Nat} {sx : Nat → Int32} {h b N : Nat} {T : List am_C} {a' : xA} {a : xA} {H : am_H} (hS : xS h b T a H) (e : f184_interrupt N h b a = some a') : am_E sL sx am_cs 184 0 [(0, .ref 116)] [] H none (fun H1 => xS h b T a' H1) := by
  unfold f184_interrupt at e
  refine ex_s (am_nb (m := 2) (pc1 := 2) (ls1 := [(0, .ref 116)]) (st1 := [.ref 116, .ref 116]) (H1 := H) (k1 := 0) (n1 := 0) (by with_unfolding_all rfl)) ?_
  refine xe_get (v := .int (a 116 6)) hS rfl rfl (by decide) rfl ?_
  refine ex_s (am_nb (m := 2) (pc1 := 7) (ls1 := [(0, .ref 116)]) (st1 := [.int ((a 116 6) + 1), .ref 116]) (H1 := H) (k1 := 0) (n1 := 0) (by with_unfolding_all rfl)) ?_
  obtain ⟨a1, ha1, e⟩ := xw_some e
  refine xe_put (w := ((a 116 6) + 1)) hS rfl rfl (by decide) rfl rfl rfl rfl (fun H2 s3 => ?_)
  have s3 : xS h b T a1 H2 := by rw [ha1]; exact s3
  refine ex_s (am_nb (m := 1) (pc1 := 11) (ls1 := [(0, .ref 116)]) (st1 := [.ref 116]) (H1 := H2) (k1 := 0) (n1 := 0) (by with_unfolding_all rfl)) ?_
  refine xe_get (v := .ref 119) s3 rfl rfl (by decide) rfl ?_
  obtain ⟨a7, e6, e⟩ := xb1_some e
  refine ex_cv0 (as := []) (rest := []) rfl rfl rfl rfl (s3.obj rfl (by decide)) rfl (by with_unfolding_all rfl) (by with_unfolding_all rfl) (tf165_clear s3 e6) (fun H4 s5 => ?_)
  refine ex_s (am_nb (m := 1) (pc1 := 18) (ls1 := [(0, .ref 116)]) (st1 := [.ref 116]) (H1 := H4) (k1 := 0) (n1 := 0) (by with_unfolding_all rfl)) ?_
  refine xe_get (v := .ref 121) s5 rfl rfl (by decide) rfl ?_
  obtain ⟨a11, e10, e⟩ := xb1_some e
  refine ex_cv0 (as := []) (rest := []) rfl rfl rfl rfl (s5.obj rfl (by decide)) rfl (by with_unfolding_all rfl) (by with_unfolding_all rfl) (tf165_clear s5 e10) (fun H8 s9 => ?_)
  refine ex_s (am_nb (m := 1) (pc1 := 25) (ls1 := [(0, .ref 116)]) (st1 := [.ref 116]) (H1 := H8) (k1 := 0) (n1 := 0) (by with_unfolding_all rfl)) ?_
  refine xe_get (v := .ref 117) s9 rfl rfl (by decide) rfl ?_
  obtain ⟨a15, e14, e⟩ := xb1_some e
  refine ex_cv0 (as := []) (rest := []) rfl rfl rfl rfl (s9.obj rfl (by decide)) rfl (by with_unfolding_all rfl) (by with_unfolding_all rfl) (tf165_clear s9 e14) (fun H12 s13 => ?_)
  refine ex_s (am_nb (m := 2) (pc1 := 33) (ls1 := [(0, .ref 116)]) (st1 := [.int 0, .ref 116]) (H1 := H12) (k1 := 0) (n1 := 0) (by with_unfolding_all rfl)) ?_
  obtain ⟨a16, ha16, e⟩ := xw_some e
  refine xe_put (w := 0) s13 rfl rfl (by decide) rfl rfl rfl rfl (fun H17 s18 => ?_)
  have s18 : xS h b T a16 H17 := by rw [ha16]; exact s18
  refine ex_s (am_nb (m := 2) (pc1 := 38) (ls1 := [(0, .ref 116)]) (st1 := [.int 0, .ref 116]) (H1 := H17) (k1 := 0) (n1 := 0) (by with_unfolding_all rfl)) ?_
  obtain ⟨a19, ha19, e⟩ := xw_some e
  refine xe_put (w := 0) s18 rfl rfl (by decide) rfl rfl rfl rfl (fun H20 s21 => ?_)
  have s21 : xS h b T a19 H20 := by rw [ha19]; exact s21
  refine ex_s (am_nb (m := 2) (pc1 := 43) (ls1 := [(0, .ref 116)]) (st1 := [.int 2, .ref 116]) (H1 := H20) (k1 := 0) (n1 := 0) (by with_unfolding_all rfl)) ?_
  obtain ⟨r25, a26, e24, e⟩ := xb2_some e
  refine ex_cv1 (as := [.int 2]) (rest := []) rfl rfl rfl rfl (s21.obj rfl (by decide)) rfl (by with_unfolding_all rfl) (by with_unfolding_all rfl) (tf162_has s21 e24) (fun H22 s23 => ?_)
  refine ex_s (st_if rfl) ?_
  by_cases c28 : r25 = 0
  · have e := (if_pos c28).symm.trans e
    refine ex_pc (if_pos c28) ?_
    cases e
    exact ex_r (st_vret rfl rfl) s23
  · have e := (if_neg c28).symm.trans e
    refine ex_pc (if_neg c28) ?_
    refine ex_s (am_nb (m := 2) (pc1 := 52) (ls1 := [(0, .ref 116)]) (st1 := [.int 94, .ref 116]) (H1 := H22) (k1 := 0) (n1 := 0) (by with_unfolding_all rfl)) ?_
    obtain ⟨r32, a33, e31, e⟩ := xb2_some e
    refine ex_cv1 (as := [.int 94]) (rest := []) rfl rfl rfl rfl (s23.obj rfl (by decide)) rfl (by with_unfolding_all rfl) (by with_unfolding_all rfl) (tf167_put s23 e31) (fun H29 s30 => ?_)
    refine ex_s (am_nb (m := 3) (pc1 := 59) (ls1 := [(0, .ref 116)]) (st1 := [.int 67, .ref 116]) (H1 := H29) (k1 := 0) (n1 := 0) (by with_unfolding_all rfl)) ?_
    obtain ⟨r37, a38, e36, e⟩ := xb2_some e
    refine ex_cv1 (as := [.int 67]) (rest := []) rfl rfl rfl rfl (s30.obj rfl (by decide)) rfl (by with_unfolding_all rfl) (by with_unfolding_all rfl) (tf167_put s30 e36) (fun H34 s35 => ?_)
    refine ex_s (am_nb (m := 3) (pc1 := 66) (ls1 := [(0, .ref 116)]) (st1 := [.int 10, .ref 116]) (H1 := H34) (k1 := 0) (n1 := 0) (by with_unfolding_all rfl)) ?_
    obtain ⟨r42, a43, e41, e⟩ := xb2_some e
    refine ex_cv1 (as := [.int 10]) (rest := []) rfl rfl rfl rfl (s35.obj rfl (by decide)) rfl (by with_unfolding_all rfl) (by with_unfolding_all rfl) (tf167_put s35 e41) (fun H39 s40 => ?_)
    refine ex_s (am_nb (m := 1) (pc1 := 70) (ls1 := [(0, .ref 116)]) (st1 := []) (H1 := H39) (k1 := 0) (n1 := 0) (by with_unfolding_all rfl)) ?_
    cases e
    exact ex_r (st_vret rfl rfl) s40

set_option maxRecDepth 100000 in
theorem tf187_takeLast {sL : Nat} {sx : Nat → Int32} {h b N : Nat} {T : List am_C} {r : Int32} {a' : xA} {o : Nat} {a : xA} {H : am_H} (hS : xS h b T a H) (e : f187_takeLast N h b o a = some (r, a')) : am_E sL sx am_cs 187 0 [(0, .ref o)] [] H (some (.int r)) (fun H1 => xS h b T a' H1) := by
  unfold f187_takeLast at e
  obtain ⟨g1, e⟩ := xg_some e
  refine ex_s (am_nb (m := 2) (pc1 := 2) (ls1 := [(0, .ref o)]) (st1 := [.ref o, .ref o]) (H1 := H) (k1 := 0) (n1 := 0) (by with_unfolding_all rfl)) ?_
  refine xe_get (v := .int (a o 2)) hS rfl g1 (by decide) rfl ?_
  refine ex_s (am_nb (m := 2) (pc1 := 7) (ls1 := [(0, .ref o)]) (st1 := [.int ((a o 2) - 1), .ref o]) (H1 := H) (k1 := 0) (n1 := 0) (by with_unfolding_all rfl)) ?_
  obtain ⟨r5, a6, e4, e⟩ := xb2_some e
  refine ex_cv1 (as := [.int ((a o 2) - 1)]) (rest := []) rfl rfl rfl rfl (hS.obj g1 (by decide)) rfl (by with_unfolding_all rfl) (by with_unfolding_all rfl) (tf164_get hS e4) (fun H2 s3 => ?_)
  refine ex_s (am_nb (m := 2) (pc1 := 12) (ls1 := [(1, .int r5), (0, .ref o)]) (st1 := [.ref o]) (H1 := H2) (k1 := 0) (n1 := 0) (by with_unfolding_all rfl)) ?_
  refine xe_get (v := .int (a6 o 2)) s3 rfl g1 (by decide) rfl ?_
  refine ex_s (st_if rfl) ?_
  by_cases c8 : (a6 o 2) ≤ 0
  · have e := (if_pos c8).symm.trans e
    refine ex_pc (if_pos c8) ?_
    refine ex_s (am_nb (m := 1) (pc1 := 29) (ls1 := [(1, .int r5), (0, .ref o)]) (st1 := [.int r5]) (H1 := H2) (k1 := 0) (n1 := 0) (by with_unfolding_all rfl)) ?_
    cases e
    exact ex_r (st_iret rfl rfl rfl) s3
  · have e := (if_neg c8).symm.trans e
    refine ex_pc (if_neg c8) ?_
    refine ex_s (am_nb (m := 2) (pc1 := 20) (ls1 := [(1, .int r5), (0, .ref o)]) (st1 := [.ref o, .ref o]) (H1 := H2) (k1 := 0) (n1 := 0) (by with_unfolding_all rfl)) ?_
    refine xe_get (v := .int (a6 o 2)) s3 rfl g1 (by decide) rfl ?_
    refine ex_s (am_nb (m := 2) (pc1 := 25) (ls1 := [(1, .int r5), (0, .ref o)]) (st1 := [.int ((a6 o 2) - 1), .ref o]) (H1 := H2) (k1 := 0) (n1 := 0) (by with_unfolding_all rfl)) ?_
    obtain ⟨a9, ha9, e⟩ := xw_some e
    refine xe_put (w := ((a6 o 2) - 1)) s3 rfl g1 (by decide) rfl rfl rfl rfl (fun H10 s11 => ?_)
    have s11 : xS h b T a9 H10 := by rw [ha9]; exact s11
    refine ex_s (am_nb (m := 1) (pc1 := 29) (ls1 := [(1, .int r5), (0, .ref o)]) (st1 := [.int r5]) (H1 := H10) (k1 := 0) (n1 := 0) (by with_unfolding_all rfl)) ?_
    cases e
    exact ex_r (st_iret rfl rfl rfl) s11

set_option maxRecDepth 100000 in
theorem tj189_60 {sL : Nat} {sx : Nat → Int32} {h b N : Nat} {T : List am_C} {R : Option Value} {F : am_H → Prop} {z : Nat × Int32 × xA} {rc : Int32 → Int32 → xA → Option (Nat × Int32 × xA)} (k0 : z.1 = 0 → ∀ H2 : am_H, xS h b T z.2.2 H2 → am_E sL sx am_cs 189 66 [(1, .int z.2.1)] [] H2 R F) (ih : ∀ (v1 : Int32) (v2 : Int32) (a : xA) (H : am_H), xS h b T a H → rc v1 v2 a = some z → am_E sL sx am_cs 189 7 [(0, .ref 116), (1, .int v1), (2, .int v2)] [] H R F) {q1 : Int32} {q2 : Int32} {a : xA} {H : am_H} (hS : xS h b T a H) (e : j189_60 N h b rc q1 q2 a = some z) : am_E sL sx am_cs 189 60 [(0, .ref 116), (1, .int q1), (2, .int q2)] [] H R F := by
  unfold j189_60 at e
  refine ex_s (am_nb (m := 2) (pc1 := 7) (ls1 := [(2, .int (q2 + 1)), (0, .ref 116), (1, .int q1)]) (st1 := []) (H1 := H) (k1 := 0) (n1 := 0) (by with_unfolding_all rfl)) ?_
  exact le_E (l1 := [(0, .ref 116), (1, .int q1), (2, .int (q2 + 1))]) ⟨rfl, rfl, rfl, trivial⟩ rfl (ih q1 (q2 + 1) a H hS e)

set_option maxRecDepth 100000 in
theorem tl189_7 {sL : Nat} {sx : Nat → Int32} {h b N : Nat} {T : List am_C} {R : Option Value} {F : am_H → Prop} {z : Nat × Int32 × xA} (k0 : z.1 = 0 → ∀ H2 : am_H, xS h b T z.2.2 H2 → am_E sL sx am_cs 189 66 [(1, .int z.2.1)] [] H2 R F) : ∀ (n : Nat) (v1 : Int32) (v2 : Int32) (a : xA) (H : am_H), xS h b T a H → l189_7 N h b n v1 v2 a = some z → am_E sL sx am_cs 189 7 [(0, .ref 116), (1, .int v1), (2, .int v2)] [] H R F := by
  intro n
  induction n with
  | zero =>
    intro v1 v2 a H hS e
    cases e
  | succ n ih =>
    intro v1 v2 a H hS e
    unfold l189_7 at e
    refine ex_s (am_nb (m := 2) (pc1 := 9) (ls1 := [(0, .ref 116), (1, .int v1), (2, .int v2)]) (st1 := [.ref 116, .int v2]) (H1 := H) (k1 := 0) (n1 := 0) (by with_unfolding_all rfl)) ?_
    refine xe_get (v := .ref 119) hS rfl rfl (by decide) rfl ?_
    obtain ⟨r4, a5, e3, e⟩ := xb2_some e
    refine ex_cv1 (as := []) (rest := [.int v2]) rfl rfl rfl rfl (hS.obj rfl (by decide)) rfl (by with_unfolding_all rfl) (by with_unfolding_all rfl) (tf163_size hS e3) (fun H1 s2 => ?_)
    refine ex_s (st_icmp rfl) ?_
    by_cases c6 : r4 ≤ v2
    · have e := (if_pos c6).symm.trans e
      refine ex_pc (if_pos c6) ?_
      cases e
      exact le_E (l1 := [(1, .int v1)]) ⟨rfl, trivial⟩ rfl (k0 rfl H1 s2)
    · have e := (if_neg c6).symm.trans e
      refine ex_pc (if_neg c6) ?_
      refine ex_s (am_nb (m := 1) (pc1 := 19) (ls1 := [(0, .ref 116), (1, .int v1), (2, .int v2)]) (st1 := [.ref 116]) (H1 := H1) (k1 := 0) (n1 := 0) (by with_unfolding_all rfl)) ?_
      refine xe_get (v := .ref 119) s2 rfl rfl (by decide) rfl ?_
      refine ex_s (am_nb (m := 1) (pc1 := 23) (ls1 := [(0, .ref 116), (1, .int v1), (2, .int v2)]) (st1 := [.int v2, .ref 119]) (H1 := H1) (k1 := 0) (n1 := 0) (by with_unfolding_all rfl)) ?_
      obtain ⟨r10, a11, e9, e⟩ := xb2_some e
      refine ex_cv1 (as := [.int v2]) (rest := []) rfl rfl rfl rfl (s2.obj rfl (by decide)) rfl (by with_unfolding_all rfl) (by with_unfolding_all rfl) (tf164_get s2 e9) (fun H7 s8 => ?_)
      refine ex_s (am_nb (m := 2) (pc1 := 28) (ls1 := [(3, .int r10), (0, .ref 116), (1, .int v1), (2, .int v2)]) (st1 := [.int r10]) (H1 := H7) (k1 := 0) (n1 := 0) (by with_unfolding_all rfl)) ?_
      obtain ⟨r15, a16, e14, e⟩ := xb2_some e
      refine ex_cs1 (as := [.int r10]) (rest := []) rfl (by decide) rfl rfl (by with_unfolding_all rfl) (by with_unfolding_all rfl) (tf183_isEchoedAsItself s8 e14) (fun H12 s13 => ?_)
      refine ex_s (st_if rfl) ?_
      by_cases c18 : r15 = 0
      · have e := (if_pos c18).symm.trans e
        refine ex_pc (if_pos c18) ?_
        refine ex_s (am_nb (m := 4) (pc1 := 49) (ls1 := [(3, .int r10), (0, .ref 116), (1, .int v1), (2, .int v2)]) (st1 := [.int 94, .int v1, .ref 116, .ref 116]) (H1 := H12) (k1 := 0) (n1 := 0) (by with_unfolding_all rfl)) ?_
        obtain ⟨r22, a23, e21, e⟩ := xb2_some e
        refine ex_cv1 (as := [.int v1, .int 94]) (rest := [.ref 116]) rfl rfl rfl rfl (s13.obj rfl (by decide)) rfl (by with_unfolding_all rfl) (by with_unfolding_all rfl) (tf169_columnBehind s13 e21) (fun H19 s20 => ?_)
        refine ex_s (am_nb (m := 3) (pc1 := 56) (ls1 := [(3, .int r10), (0, .ref 116), (1, .int v1), (2, .int v2)]) (st1 := [.int (r10 ^^^ 64), .int r22, .ref 116]) (H1 := H19) (k1 := 0) (n1 := 0) (by with_unfolding_all rfl)) ?_
        obtain ⟨r27, a28, e26, e⟩ := xb2_some e
        refine ex_cv1 (as := [.int r22, .int (r10 ^^^ 64)]) (rest := []) rfl rfl rfl rfl (s20.obj rfl (by decide)) rfl (by with_unfolding_all rfl) (by with_unfolding_all rfl) (tf169_columnBehind s20 e26) (fun H24 s25 => ?_)
        refine ex_s (am_nb (m := 1) (pc1 := 60) (ls1 := [(1, .int r27), (3, .int r10), (0, .ref 116), (2, .int v2)]) (st1 := []) (H1 := H24) (k1 := 0) (n1 := 0) (by with_unfolding_all rfl)) ?_
        exact le_E (l1 := [(0, .ref 116), (1, .int r27), (2, .int v2)]) ⟨rfl, rfl, rfl, trivial⟩ rfl (tj189_60 k0 ih  s25 e)
      · have e := (if_neg c18).symm.trans e
        refine ex_pc (if_neg c18) ?_
        refine ex_s (am_nb (m := 3) (pc1 := 37) (ls1 := [(3, .int r10), (0, .ref 116), (1, .int v1), (2, .int v2)]) (st1 := [.int r10, .int v1, .ref 116]) (H1 := H12) (k1 := 0) (n1 := 0) (by with_unfolding_all rfl)) ?_
        obtain ⟨r32, a33, e31, e⟩ := xb2_some e
        refine ex_cv1 (as := [.int v1, .int r10]) (rest := []) rfl rfl rfl rfl (s13.obj rfl (by decide)) rfl (by with_unfolding_all rfl) (by with_unfolding_all rfl) (tf169_columnBehind s13 e31) (fun H29 s30 => ?_)
        refine ex_s (am_nb (m := 2) (pc1 := 60) (ls1 := [(1, .int r32), (3, .int r10), (0, .ref 116), (2, .int v2)]) (st1 := []) (H1 := H29) (k1 := 0) (n1 := 0) (by with_unfolding_all rfl)) ?_
        exact le_E (l1 := [(0, .ref 116), (1, .int r32), (2, .int v2)]) ⟨rfl, rfl, rfl, trivial⟩ rfl (tj189_60 k0 ih  s30 e)

set_option maxRecDepth 100000 in
theorem tf189_columnOfEdited {sL : Nat} {sx : Nat → Int32} {h b N : Nat} {T : List am_C} {r : Int32} {a' : xA} {a : xA} {H : am_H} (hS : xS h b T a H) (e : f189_columnOfEdited N h b a = some (r, a')) : am_E sL sx am_cs 189 0 [(0, .ref 116)] [] H (some (.int r)) (fun H1 => xS h b T a' H1) := by
  unfold f189_columnOfEdited at e
  refine ex_s (am_nb (m := 1) (pc1 := 1) (ls1 := [(0, .ref 116)]) (st1 := [.ref 116]) (H1 := H) (k1 := 0) (n1 := 0) (by with_unfolding_all rfl)) ?_
  refine xe_get (v := .int (a 116 8)) hS rfl rfl (by decide) rfl ?_
  refine ex_s (am_nb (m := 3) (pc1 := 7) (ls1 := [(2, .int 0), (1, .int (a 116 8)), (0, .ref 116)]) (st1 := []) (H1 := H) (k1 := 0) (n1 := 0) (by with_unfolding_all rfl)) ?_
  obtain ⟨z34, e35, e⟩ := Option.bind_eq_some_iff.mp e
  refine le_E (l1 := [(0, .ref 116), (1, .int (a 116 8)), (2, .int 0)]) ⟨rfl, rfl, rfl, trivial⟩ rfl (tl189_7 (z := z34)  (fun uz34_0 Hz340 sz340 => ?_) N (a 116 8) 0 a H hS e35)
  refine ex_s (am_nb (m := 1) (pc1 := 67) (ls1 := [(1, .int z34.2.1)]) (st1 := [.int z34.2.1]) (H1 := Hz340) (k1 := 0) (n1 := 0) (by with_unfolding_all rfl)) ?_
  cases e
  exact ex_r (st_iret rfl rfl rfl) sz340

set_option maxRecDepth 100000 in
theorem tl188_16 {sL : Nat} {sx : Nat → Int32} {h b N : Nat} {T : List am_C} {R : Option Value} {F : am_H → Prop} {w2 : Int32} {z : Nat × xA} (k0 : z.1 = 0 → ∀ H2 : am_H, xS h b T z.2 H2 → am_E sL sx am_cs 188 34 [] [] H2 R F) : ∀ (n : Nat) (v3 : Int32) (a : xA) (H : am_H), xS h b T a H → l188_16 N h b w2 n v3 a = some z → am_E sL sx am_cs 188 16 [(0, .ref 116), (2, .int w2), (3, .int v3)] [] H R F := by
  intro n
  induction n with
  | zero =>
    intro v3 a H hS e
    cases e
  | succ n ih =>
    intro v3 a H hS e
    unfold l188_16 at e
    refine ex_s (am_nb (m := 2) (pc1 := 18) (ls1 := [(0, .ref 116), (2, .int w2), (3, .int v3)]) (st1 := [.int w2, .int v3]) (H1 := H) (k1 := 0) (n1 := 0) (by with_unfolding_all rfl)) ?_
    refine ex_s (st_icmp rfl) ?_
    by_cases c7 : v3 ≤ w2
    · have e := (if_pos c7).symm.trans e
      refine ex_pc (if_pos c7) ?_
      cases e
      exact le_E (l1 := []) trivial rfl (k0 rfl H hS)
    · have e := (if_neg c7).symm.trans e
      refine ex_pc (if_neg c7) ?_
      refine ex_s (am_nb (m := 2) (pc1 := 24) (ls1 := [(0, .ref 116), (2, .int w2), (3, .int v3)]) (st1 := [.int 8, .ref 116]) (H1 := H) (k1 := 0) (n1 := 0) (by with_unfolding_all rfl)) ?_
      obtain ⟨r11, a12, e10, e⟩ := xb2_some e
      refine ex_cv1 (as := [.int 8]) (rest := []) rfl rfl rfl rfl (hS.obj rfl (by decide)) rfl (by with_unfolding_all rfl) (by with_unfolding_all rfl) (tf167_put hS e10) (fun H8 s9 => ?_)
      refine ex_s (am_nb (m := 3) (pc1 := 16) (ls1 := [(3, .int (v3 + (-1))), (0, .ref 116), (2, .int w2)]) (st1 := []) (H1 := H8) (k1 := 0) (n1 := 0) (by with_unfolding_all rfl)) ?_
      exact le_E (l1 := [(0, .ref 116), (2, .int w2), (3, .int (v3 + (-1)))]) ⟨rfl, rfl, rfl, trivial⟩ rfl (ih (v3 + (-1)) a12 H8 s9 e)

set_option maxRecDepth 100000 in
theorem tl188_58 {sL : Nat} {sx : Nat → Int32} {h b N : Nat} {T : List am_C} {R : Option Value} {F : am_H → Prop} {w2 : Int32} {z : Nat × xA} (k0 : z.1 = 0 → ∀ H2 : am_H, xS h b T z.2 H2 → am_E sL sx am_cs 188 90 [] [] H2 R F) : ∀ (n : Nat) (v3 : Int32) (a : xA) (H : am_H), xS h b T a H → l188_58 N h b w2 n v3 a = some z → am_E sL sx am_cs 188 58 [(0, .ref 116), (2, .int w2), (3, .int v3)] [] H R F := by
  intro n
  induction n with
  | zero =>
    intro v3 a H hS e
    cases e
  | succ n ih =>
    intro v3 a H hS e
    unfold l188_58 at e
    refine ex_s (am_nb (m := 2) (pc1 := 60) (ls1 := [(0, .ref 116), (2, .int w2), (3, .int v3)]) (st1 := [.int w2, .int v3]) (H1 := H) (k1 := 0) (n1 := 0) (by with_unfolding_all rfl)) ?_
    refine ex_s (st_icmp rfl) ?_
    by_cases c23 : w2 ≤ v3
    · have e := (if_pos c23).symm.trans e
      refine ex_pc (if_pos c23) ?_
      cases e
      exact le_E (l1 := []) trivial rfl (k0 rfl H hS)
    · have e := (if_neg c23).symm.trans e
      refine ex_pc (if_neg c23) ?_
      refine ex_s (am_nb (m := 2) (pc1 := 66) (ls1 := [(0, .ref 116), (2, .int w2), (3, .int v3)]) (st1 := [.int 8, .ref 116]) (H1 := H) (k1 := 0) (n1 := 0) (by with_unfolding_all rfl)) ?_
      obtain ⟨r27, a28, e26, e⟩ := xb2_some e
      refine ex_cv1 (as := [.int 8]) (rest := []) rfl rfl rfl rfl (hS.obj rfl (by decide)) rfl (by with_unfolding_all rfl) (by with_unfolding_all rfl) (tf167_put hS e26) (fun H24 s25 => ?_)
      refine ex_s (am_nb (m := 3) (pc1 := 73) (ls1 := [(0, .ref 116), (2, .int w2), (3, .int v3)]) (st1 := [.int 32, .ref 116]) (H1 := H24) (k1 := 0) (n1 := 0) (by with_unfolding_all rfl)) ?_
      obtain ⟨r32, a33, e31, e⟩ := xb2_some e
      refine ex_cv1 (as := [.int 32]) (rest := []) rfl rfl rfl rfl (s25.obj rfl (by decide)) rfl (by with_unfolding_all rfl) (by with_unfolding_all rfl) (tf167_put s25 e31) (fun H29 s30 => ?_)
      refine ex_s (am_nb (m := 3) (pc1 := 80) (ls1 := [(0, .ref 116), (2, .int w2), (3, .int v3)]) (st1 := [.int 8, .ref 116]) (H1 := H29) (k1 := 0) (n1 := 0) (by with_unfolding_all rfl)) ?_
      obtain ⟨r37, a38, e36, e⟩ := xb2_some e
      refine ex_cv1 (as := [.int 8]) (rest := []) rfl rfl rfl rfl (s30.obj rfl (by decide)) rfl (by with_unfolding_all rfl) (by with_unfolding_all rfl) (tf167_put s30 e36) (fun H34 s35 => ?_)
      refine ex_s (am_nb (m := 3) (pc1 := 58) (ls1 := [(3, .int (v3 + 1)), (0, .ref 116), (2, .int w2)]) (st1 := []) (H1 := H34) (k1 := 0) (n1 := 0) (by with_unfolding_all rfl)) ?_
      exact le_E (l1 := [(0, .ref 116), (2, .int w2), (3, .int (v3 + 1))]) ⟨rfl, rfl, rfl, trivial⟩ rfl (ih (v3 + 1) a38 H34 s35 e)

set_option maxRecDepth 100000 in
theorem tf188_unecho {sL : Nat} {sx : Nat → Int32} {h b N : Nat} {T : List am_C} {a' : xA} {x0 : Int32} {a : xA} {H : am_H} (hS : xS h b T a H) (e : f188_unecho N h b x0 a = some a') : am_E sL sx am_cs 188 0 [(0, .ref 116), (1, .int x0)] [] H none (fun H1 => xS h b T a' H1) := by
  unfold f188_unecho at e
  refine ex_s (am_nb (m := 2) (pc1 := 3) (ls1 := [(0, .ref 116), (1, .int x0)]) (st1 := [.int 9, .int x0]) (H1 := H) (k1 := 0) (n1 := 0) (by with_unfolding_all rfl)) ?_
  refine ex_s (st_icmp rfl) ?_
  by_cases c1 : x0 = 9
  · have e := (if_pos c1).symm.trans e
    refine ex_pc (if_pos c1) ?_
    refine ex_s (am_nb (m := 1) (pc1 := 7) (ls1 := [(0, .ref 116), (1, .int x0)]) (st1 := [.ref 116]) (H1 := H) (k1 := 0) (n1 := 0) (by with_unfolding_all rfl)) ?_
    obtain ⟨r5, a6, e4, e⟩ := xb2_some e
    refine ex_cv1 (as := []) (rest := []) rfl rfl rfl rfl (hS.obj rfl (by decide)) rfl (by with_unfolding_all rfl) (by with_unfolding_all rfl) (tf189_columnOfEdited hS e4) (fun H2 s3 => ?_)
    refine ex_s (am_nb (m := 2) (pc1 := 12) (ls1 := [(2, .int r5), (0, .ref 116), (1, .int x0)]) (st1 := [.ref 116]) (H1 := H2) (k1 := 0) (n1 := 0) (by with_unfolding_all rfl)) ?_
    refine xe_get (v := .int (a6 116 7)) s3 rfl rfl (by decide) rfl ?_
    refine ex_s (am_nb (m := 1) (pc1 := 16) (ls1 := [(3, .int (a6 116 7)), (2, .int r5), (0, .ref 116), (1, .int x0)]) (st1 := []) (H1 := H2) (k1 := 0) (n1 := 0) (by with_unfolding_all rfl)) ?_
    obtain ⟨z13, e14, e⟩ := Option.bind_eq_some_iff.mp e
    refine le_E (l1 := [(0, .ref 116), (2, .int r5), (3, .int (a6 116 7))]) ⟨rfl, rfl, rfl, trivial⟩ rfl (tl188_16 (z := z13)  (fun uz13_0 Hz130 sz130 => ?_) N (a6 116 7) a6 H2 s3 e14)
    refine ex_s (am_nb (m := 1) (pc1 := 90) (ls1 := []) (st1 := []) (H1 := Hz130) (k1 := 0) (n1 := 0) (by with_unfolding_all rfl)) ?_
    cases e
    exact ex_r (st_vret rfl rfl) sz130
  · have e := (if_neg c1).symm.trans e
    refine ex_pc (if_neg c1) ?_
    refine ex_s (am_nb (m := 2) (pc1 := 40) (ls1 := [(0, .ref 116), (1, .int x0)]) (st1 := [.int 10, .int x0]) (H1 := H) (k1 := 0) (n1 := 0) (by with_unfolding_all rfl)) ?_
    refine ex_s (st_icmp rfl) ?_
    by_cases c16 : x0 = 10
    · have e := (if_pos c16).symm.trans e
      refine ex_pc (if_pos c16) ?_
      cases e
      exact ex_r (st_vret rfl rfl) hS
    · have e := (if_neg c16).symm.trans e
      refine ex_pc (if_neg c16) ?_
      refine ex_s (am_nb (m := 1) (pc1 := 44) (ls1 := [(0, .ref 116), (1, .int x0)]) (st1 := [.int x0]) (H1 := H) (k1 := 0) (n1 := 0) (by with_unfolding_all rfl)) ?_
      obtain ⟨r20, a21, e19, e⟩ := xb2_some e
      refine ex_cs1 (as := [.int x0]) (rest := []) rfl (by decide) rfl rfl (by with_unfolding_all rfl) (by with_unfolding_all rfl) (tf110_isPrintable hS e19) (fun H17 s18 => ?_)
      have kk : am_E sL sx am_cs 188 55 [(0, .ref 116), (1, .int x0)] [.int (if r20 = 0 then (2 : Int32) else (1 : Int32))] H17 none (fun H1 => xS h b T a' H1) := by
        refine ex_s (am_nb (m := 3) (pc1 := 58) (ls1 := [(3, .int 0), (2, .int (if r20 = 0 then (2 : Int32) else (1 : Int32))), (0, .ref 116), (1, .int x0)]) (st1 := []) (H1 := H17) (k1 := 0) (n1 := 0) (by with_unfolding_all rfl)) ?_
        obtain ⟨z39, e40, e⟩ := Option.bind_eq_some_iff.mp e
        refine le_E (l1 := [(0, .ref 116), (2, .int (if r20 = 0 then (2 : Int32) else (1 : Int32))), (3, .int 0)]) ⟨rfl, rfl, rfl, trivial⟩ rfl (tl188_58 (z := z39)  (fun uz39_0 Hz390 sz390 => ?_) N 0 a21 H17 s18 e40)
        cases e
        exact ex_r (st_vret rfl rfl) sz390
      refine ex_s (st_if rfl) ?_
      by_cases c22 : r20 = 0
      · refine ex_pc (if_pos c22) ?_
        refine ex_s (am_nb (m := 1) (pc1 := 55) (ls1 := [(0, .ref 116), (1, .int x0)]) (st1 := [.int 2]) (H1 := H17) (k1 := 0) (n1 := 0) (by with_unfolding_all rfl)) ?_
        rw [if_pos c22] at kk
        exact kk
      · refine ex_pc (if_neg c22) ?_
        refine ex_s (am_nb (m := 2) (pc1 := 55) (ls1 := [(0, .ref 116), (1, .int x0)]) (st1 := [.int 1]) (H1 := H17) (k1 := 0) (n1 := 0) (by with_unfolding_all rfl)) ?_
        rw [if_neg c22] at kk
        exact kk

set_option maxRecDepth 100000 in
theorem tj186_46 {sL : Nat} {sx : Nat → Int32} {h b N : Nat} {T : List am_C} {R : Option Value} {F : am_H → Prop} {w1 : Int32} {z : Nat × xA} {rc : Int32 → xA → Option (Nat × xA)} (k0 : z.1 = 0 → ∀ H2 : am_H, xS h b T z.2 H2 → am_E sL sx am_cs 186 52 [] [] H2 R F) (ih : ∀ (v2 : Int32) (a : xA) (H : am_H), xS h b T a H → rc v2 a = some z → am_E sL sx am_cs 186 2 [(0, .ref 116), (1, .int w1), (2, .int v2)] [] H R F) {q2 : Int32} {a : xA} {H : am_H} (hS : xS h b T a H) (e : j186_46 N h b rc w1 q2 a = some z) : am_E sL sx am_cs 186 46 [(0, .ref 116), (1, .int w1), (2, .int q2)] [] H R F := by
  unfold j186_46 at e
  refine ex_s (am_nb (m := 2) (pc1 := 2) (ls1 := [(2, .int (q2 + 1)), (0, .ref 116), (1, .int w1)]) (st1 := []) (H1 := H) (k1 := 0) (n1 := 0) (by with_unfolding_all rfl)) ?_
  exact le_E (l1 := [(0, .ref 116), (1, .int w1), (2, .int (q2 + 1))]) ⟨rfl, rfl, rfl, trivial⟩ rfl (ih (q2 + 1) a H hS e)

set_option maxRecDepth 100000 in
theorem tl186_2 {sL : Nat} {sx : Nat → Int32} {h b N : Nat} {T : List am_C} {R : Option Value} {F : am_H → Prop} {w1 : Int32} {z : Nat × xA} (k0 : z.1 = 0 → ∀ H2 : am_H, xS h b T z.2 H2 → am_E sL sx am_cs 186 52 [] [] H2 R F) : ∀ (n : Nat) (v2 : Int32) (a : xA) (H : am_H), xS h b T a H → l186_2 N h b w1 n v2 a = some z → am_E sL sx am_cs 186 2 [(0, .ref 116), (1, .int w1), (2, .int v2)] [] H R F := by
  intro n
  induction n with
  | zero =>
    intro v2 a H hS e
    cases e
  | succ n ih =>
    intro v2 a H hS e
    unfold l186_2 at e
    refine ex_s (am_nb (m := 2) (pc1 := 4) (ls1 := [(0, .ref 116), (1, .int w1), (2, .int v2)]) (st1 := [.int w1, .int v2]) (H1 := H) (k1 := 0) (n1 := 0) (by with_unfolding_all rfl)) ?_
    refine ex_s (st_icmp rfl) ?_
    by_cases c2 : w1 ≤ v2
    · have e := (if_pos c2).symm.trans e
      refine ex_pc (if_pos c2) ?_
      cases e
      exact le_E (l1 := []) trivial rfl (k0 rfl H hS)
    · have e := (if_neg c2).symm.trans e
      refine ex_pc (if_neg c2) ?_
      refine ex_s (am_nb (m := 1) (pc1 := 8) (ls1 := [(0, .ref 116), (1, .int w1), (2, .int v2)]) (st1 := [.ref 116]) (H1 := H) (k1 := 0) (n1 := 0) (by with_unfolding_all rfl)) ?_
      refine xe_get (v := .ref 119) hS rfl rfl (by decide) rfl ?_
      obtain ⟨r6, a7, e5, e⟩ := xb2_some e
      refine ex_cv1 (as := []) (rest := []) rfl rfl rfl rfl (hS.obj rfl (by decide)) rfl (by with_unfolding_all rfl) (by with_unfolding_all rfl) (tf163_size hS e5) (fun H3 s4 => ?_)
      refine ex_s (st_if rfl) ?_
      by_cases c8 : r6 ≤ 0
      · have e := (if_pos c8).symm.trans e
        refine ex_pc (if_pos c8) ?_
        cases e
        exact le_E (l1 := []) trivial rfl (k0 rfl H3 s4)
      · have e := (if_neg c8).symm.trans e
        refine ex_pc (if_neg c8) ?_
        refine ex_s (am_nb (m := 1) (pc1 := 18) (ls1 := [(0, .ref 116), (1, .int w1), (2, .int v2)]) (st1 := [.ref 116]) (H1 := H3) (k1 := 0) (n1 := 0) (by with_unfolding_all rfl)) ?_
        refine xe_get (v := .ref 119) s4 rfl rfl (by decide) rfl ?_
        obtain ⟨r12, a13, e11, e⟩ := xb2_some e
        refine ex_cv1 (as := []) (rest := []) rfl rfl rfl rfl (s4.obj rfl (by decide)) rfl (by with_unfolding_all rfl) (by with_unfolding_all rfl) (tf187_takeLast s4 e11) (fun H9 s10 => ?_)
        refine ex_s (am_nb (m := 3) (pc1 := 27) (ls1 := [(3, .int r12), (0, .ref 116), (1, .int w1), (2, .int v2)]) (st1 := [.int 2, .ref 116]) (H1 := H9) (k1 := 0) (n1 := 0) (by with_unfolding_all rfl)) ?_
        obtain ⟨r17, a18, e16, e⟩ := xb2_some e
        refine ex_cv1 (as := [.int 2]) (rest := []) rfl rfl rfl rfl (s10.obj rfl (by decide)) rfl (by with_unfolding_all rfl) (by with_unfolding_all rfl) (tf162_has s10 e16) (fun H14 s15 => ?_)
        refine ex_s (st_if rfl) ?_
        by_cases c20 : r17 = 0
        · have e := (if_pos c20).symm.trans e
          refine ex_pc (if_pos c20) ?_
          exact le_E (l1 := [(0, .ref 116), (1, .int w1), (2, .int v2)]) ⟨rfl, rfl, rfl, trivial⟩ rfl (tj186_46 k0 ih  s15 e)
        · have e := (if_neg c20).symm.trans e
          refine ex_pc (if_neg c20) ?_
          refine ex_s (am_nb (m := 2) (pc1 := 35) (ls1 := [(3, .int r12), (0, .ref 116), (1, .int w1), (2, .int v2)]) (st1 := [.int 4, .ref 116]) (H1 := H14) (k1 := 0) (n1 := 0) (by with_unfolding_all rfl)) ?_
          obtain ⟨r24, a25, e23, e⟩ := xb2_some e
          refine ex_cv1 (as := [.int 4]) (rest := []) rfl rfl rfl rfl (s15.obj rfl (by decide)) rfl (by with_unfolding_all rfl) (by with_unfolding_all rfl) (tf162_has s15 e23) (fun H21 s22 => ?_)
          refine ex_s (st_if rfl) ?_
          by_cases c27 : r24 = 0
          · have e := (if_pos c27).symm.trans e
            refine ex_pc (if_pos c27) ?_
            exact le_E (l1 := [(0, .ref 116), (1, .int w1), (2, .int v2)]) ⟨rfl, rfl, rfl, trivial⟩ rfl (tj186_46 k0 ih  s22 e)
          · have e := (if_neg c27).symm.trans e
            refine ex_pc (if_neg c27) ?_
            refine ex_s (am_nb (m := 2) (pc1 := 43) (ls1 := [(3, .int r12), (0, .ref 116), (1, .int w1), (2, .int v2)]) (st1 := [.int r12, .ref 116]) (H1 := H21) (k1 := 0) (n1 := 0) (by with_unfolding_all rfl)) ?_
            obtain ⟨a31, e30, e⟩ := xb1_some e
            refine ex_cv0 (as := [.int r12]) (rest := []) rfl rfl rfl rfl (s22.obj rfl (by decide)) rfl (by with_unfolding_all rfl) (by with_unfolding_all rfl) (tf188_unecho s22 e30) (fun H28 s29 => ?_)
            exact le_E (l1 := [(0, .ref 116), (1, .int w1), (2, .int v2)]) ⟨rfl, rfl, rfl, trivial⟩ rfl (tj186_46 k0 ih  s29 e)

set_option maxRecDepth 100000 in
theorem tf186_rubOut {sL : Nat} {sx : Nat → Int32} {h b N : Nat} {T : List am_C} {a' : xA} {x0 : Int32} {a : xA} {H : am_H} (hS : xS h b T a H) (e : f186_rubOut N h b x0 a = some a') : am_E sL sx am_cs 186 0 [(0, .ref 116), (1, .int x0)] [] H none (fun H1 => xS h b T a' H1) := by
  unfold f186_rubOut at e
  refine ex_s (am_nb (m := 2) (pc1 := 2) (ls1 := [(2, .int 0), (0, .ref 116), (1, .int x0)]) (st1 := []) (H1 := H) (k1 := 0) (n1 := 0) (by with_unfolding_all rfl)) ?_
  obtain ⟨z32, e33, e⟩ := Option.bind_eq_some_iff.mp e
  refine le_E (l1 := [(0, .ref 116), (1, .int x0), (2, .int 0)]) ⟨rfl, rfl, rfl, trivial⟩ rfl (tl186_2 (z := z32)  (fun uz32_0 Hz320 sz320 => ?_) N 0 a H hS e33)
  cases e
  exact ex_r (st_vret rfl rfl) sz320

set_option maxRecDepth 100000 in
theorem tl190_8 {sL : Nat} {sx : Nat → Int32} {h b N : Nat} {T : List am_C} {R : Option Value} {F : am_H → Prop} {z : Nat × Int32 × xA} (k0 : z.1 = 0 → ∀ H2 : am_H, xS h b T z.2.2 H2 → am_E sL sx am_cs 190 34 [(0, .ref 116), (1, .int z.2.1)] [] H2 R F) : ∀ (n : Nat) (v1 : Int32) (a : xA) (H : am_H), xS h b T a H → l190_8 N h b n v1 a = some z → am_E sL sx am_cs 190 8 [(0, .ref 116), (1, .int v1)] [] H R F := by
  intro n
  induction n with
  | zero =>
    intro v1 a H hS e
    cases e
  | succ n ih =>
    intro v1 a H hS e
    unfold l190_8 at e
    refine ex_s (am_nb (m := 1) (pc1 := 9) (ls1 := [(0, .ref 116), (1, .int v1)]) (st1 := [.int v1]) (H1 := H) (k1 := 0) (n1 := 0) (by with_unfolding_all rfl)) ?_
    refine ex_s (st_if rfl) ?_
    by_cases c6 : v1 ≤ 0
    · have e := (if_pos c6).symm.trans e
      refine ex_pc (if_pos c6) ?_
      cases e
      exact le_E (l1 := [(0, .ref 116), (1, .int v1)]) ⟨rfl, rfl, trivial⟩ rfl (k0 rfl H hS)
    · have e := (if_neg c6).symm.trans e
      refine ex_pc (if_neg c6) ?_
      refine ex_s (am_nb (m := 1) (pc1 := 13) (ls1 := [(0, .ref 116), (1, .int v1)]) (st1 := [.ref 116]) (H1 := H) (k1 := 0) (n1 := 0) (by with_unfolding_all rfl)) ?_
      refine xe_get (v := .ref 119) hS rfl rfl (by decide) rfl ?_
      refine ex_s (am_nb (m := 3) (pc1 := 19) (ls1 := [(0, .ref 116), (1, .int v1)]) (st1 := [.int (v1 - 1), .ref 119]) (H1 := H) (k1 := 0) (n1 := 0) (by with_unfolding_all rfl)) ?_
      obtain ⟨r10, a11, e9, e⟩ := xb2_some e
      refine ex_cv1 (as := [.int (v1 - 1)]) (rest := []) rfl rfl rfl rfl (hS.obj rfl (by decide)) rfl (by with_unfolding_all rfl) (by with_unfolding_all rfl) (tf164_get hS e9) (fun H7 s8 => ?_)
      obtain ⟨r15, a16, e14, e⟩ := xb2_some e
      refine ex_cs1 (as := [.int r10]) (rest := []) rfl (by decide) rfl rfl (by with_unfolding_all rfl) (by with_unfolding_all rfl) (tf29_isBlank s8 e14) (fun H12 s13 => ?_)
      refine ex_s (st_if rfl) ?_
      by_cases c17 : r15 = 0
      · have e := (if_pos c17).symm.trans e
        refine ex_pc (if_pos c17) ?_
        cases e
        exact le_E (l1 := [(0, .ref 116), (1, .int v1)]) ⟨rfl, rfl, trivial⟩ rfl (k0 rfl H12 s13)
      · have e := (if_neg c17).symm.trans e
        refine ex_pc (if_neg c17) ?_
        refine ex_s (am_nb (m := 2) (pc1 := 8) (ls1 := [(1, .int (v1 + (-1))), (0, .ref 116)]) (st1 := []) (H1 := H12) (k1 := 0) (n1 := 0) (by with_unfolding_all rfl)) ?_
        exact le_E (l1 := [(0, .ref 116), (1, .int (v1 + (-1)))]) ⟨rfl, rfl, trivial⟩ rfl (ih (v1 + (-1)) a16 H12 s13 e)

set_option maxRecDepth 100000 in
theorem tl190_34 {sL : Nat} {sx : Nat → Int32} {h b N : Nat} {T : List am_C} {R : Option Value} {F : am_H → Prop} {z : Nat × Int32 × xA} (k0 : z.1 = 0 → ∀ H2 : am_H, xS h b T z.2.2 H2 → am_E sL sx am_cs 190 60 [(0, .ref 116), (1, .int z.2.1)] [] H2 R F) : ∀ (n : Nat) (v1 : Int32) (a : xA) (H : am_H), xS h b T a H → l190_34 N h b n v1 a = some z → am_E sL sx am_cs 190 34 [(0, .ref 116), (1, .int v1)] [] H R F := by
  intro n
  induction n with
  | zero =>
    intro v1 a H hS e
    cases e
  | succ n ih =>
    intro v1 a H hS e
    unfold l190_34 at e
    refine ex_s (am_nb (m := 1) (pc1 := 35) (ls1 := [(0, .ref 116), (1, .int v1)]) (st1 := [.int v1]) (H1 := H) (k1 := 0) (n1 := 0) (by with_unfolding_all rfl)) ?_
    refine ex_s (st_if rfl) ?_
    by_cases c21 : v1 ≤ 0
    · have e := (if_pos c21).symm.trans e
      refine ex_pc (if_pos c21) ?_
      cases e
      exact le_E (l1 := [(0, .ref 116), (1, .int v1)]) ⟨rfl, rfl, trivial⟩ rfl (k0 rfl H hS)
    · have e := (if_neg c21).symm.trans e
      refine ex_pc (if_neg c21) ?_
      refine ex_s (am_nb (m := 1) (pc1 := 39) (ls1 := [(0, .ref 116), (1, .int v1)]) (st1 := [.ref 116]) (H1 := H) (k1 := 0) (n1 := 0) (by with_unfolding_all rfl)) ?_
      refine xe_get (v := .ref 119) hS rfl rfl (by decide) rfl ?_
      refine ex_s (am_nb (m := 3) (pc1 := 45) (ls1 := [(0, .ref 116), (1, .int v1)]) (st1 := [.int (v1 - 1), .ref 119]) (H1 := H) (k1 := 0) (n1 := 0) (by with_unfolding_all rfl)) ?_
      obtain ⟨r25, a26, e24, e⟩ := xb2_some e
      refine ex_cv1 (as := [.int (v1 - 1)]) (rest := []) rfl rfl rfl rfl (hS.obj rfl (by decide)) rfl (by with_unfolding_all rfl) (by with_unfolding_all rfl) (tf164_get hS e24) (fun H22 s23 => ?_)
      obtain ⟨r30, a31, e29, e⟩ := xb2_some e
      refine ex_cs1 (as := [.int r25]) (rest := []) rfl (by decide) rfl rfl (by with_unfolding_all rfl) (by with_unfolding_all rfl) (tf29_isBlank s23 e29) (fun H27 s28 => ?_)
      refine ex_s (st_if rfl) ?_
      by_cases c32 : r30 = 0
      · have e := (if_pos c32).symm.trans e
        refine ex_pc (if_pos c32) ?_
        refine ex_s (am_nb (m := 2) (pc1 := 34) (ls1 := [(1, .int (v1 + (-1))), (0, .ref 116)]) (st1 := []) (H1 := H27) (k1 := 0) (n1 := 0) (by with_unfolding_all rfl)) ?_
        exact le_E (l1 := [(0, .ref 116), (1, .int (v1 + (-1)))]) ⟨rfl, rfl, trivial⟩ rfl (ih (v1 + (-1)) a31 H27 s28 e)
      · have e := (if_neg c32).symm.trans e
        refine ex_pc (if_neg c32) ?_
        cases e
        exact le_E (l1 := [(0, .ref 116), (1, .int v1)]) ⟨rfl, rfl, trivial⟩ rfl (k0 rfl H27 s28)

set_option maxRecDepth 100000 in
theorem tj190_60 {sL : Nat} {sx : Nat → Int32} {h b N : Nat} {T : List am_C} {r : Int32} {a' : xA} {q1 : Int32} {a : xA} {H : am_H} (hS : xS h b T a H) (e : j190_60 N h b q1 a = some (r, a')) : am_E sL sx am_cs 190 60 [(0, .ref 116), (1, .int q1)] [] H (some (.int r)) (fun H1 => xS h b T a' H1) := by
  unfold j190_60 at e
  refine ex_s (am_nb (m := 1) (pc1 := 61) (ls1 := [(0, .ref 116), (1, .int q1)]) (st1 := [.ref 116]) (H1 := H) (k1 := 0) (n1 := 0) (by with_unfolding_all rfl)) ?_
  refine xe_get (v := .ref 119) hS rfl rfl (by decide) rfl ?_
  obtain ⟨r38, a39, e37, e⟩ := xb2_some e
  refine ex_cv1 (as := []) (rest := []) rfl rfl rfl rfl (hS.obj rfl (by decide)) rfl (by with_unfolding_all rfl) (by with_unfolding_all rfl) (tf163_size hS e37) (fun H35 s36 => ?_)
  refine ex_s (am_nb (m := 2) (pc1 := 69) (ls1 := [(0, .ref 116), (1, .int q1)]) (st1 := [.int (r38 - q1)]) (H1 := H35) (k1 := 0) (n1 := 0) (by with_unfolding_all rfl)) ?_
  cases e
  exact ex_r (st_iret rfl rfl rfl) s36

set_option maxRecDepth 100000 in
theorem tf190_wordLength {sL : Nat} {sx : Nat → Int32} {h b N : Nat} {T : List am_C} {r : Int32} {a' : xA} {a : xA} {H : am_H} (hS : xS h b T a H) (e : f190_wordLength N h b a = some (r, a')) : am_E sL sx am_cs 190 0 [(0, .ref 116)] [] H (some (.int r)) (fun H1 => xS h b T a' H1) := by
  unfold f190_wordLength at e
  refine ex_s (am_nb (m := 1) (pc1 := 1) (ls1 := [(0, .ref 116)]) (st1 := [.ref 116]) (H1 := H) (k1 := 0) (n1 := 0) (by with_unfolding_all rfl)) ?_
  refine xe_get (v := .ref 119) hS rfl rfl (by decide) rfl ?_
  obtain ⟨r4, a5, e3, e⟩ := xb2_some e
  refine ex_cv1 (as := []) (rest := []) rfl rfl rfl rfl (hS.obj rfl (by decide)) rfl (by with_unfolding_all rfl) (by with_unfolding_all rfl) (tf163_size hS e3) (fun H1 s2 => ?_)
  refine ex_s (am_nb (m := 1) (pc1 := 8) (ls1 := [(1, .int r4), (0, .ref 116)]) (st1 := []) (H1 := H1) (k1 := 0) (n1 := 0) (by with_unfolding_all rfl)) ?_
  obtain ⟨z18, e19, e⟩ := Option.bind_eq_some_iff.mp e
  refine le_E (l1 := [(0, .ref 116), (1, .int r4)]) ⟨rfl, rfl, trivial⟩ rfl (tl190_8 (z := z18)  (fun uz18_0 Hz180 sz180 => ?_) N r4 a5 H1 s2 e19)
  obtain ⟨z33, e34, e⟩ := Option.bind_eq_some_iff.mp e
  refine le_E (l1 := [(0, .ref 116), (1, .int z18.2.1)]) ⟨rfl, rfl, trivial⟩ rfl (tl190_34 (z := z33)  (fun uz33_0 Hz330 sz330 => ?_) N z18.2.1 z18.2.2 Hz180 sz180 e34)
  exact le_E (l1 := [(0, .ref 116), (1, .int z33.2.1)]) ⟨rfl, rfl, trivial⟩ rfl (tj190_60  sz330 e)

set_option maxRecDepth 100000 in
theorem tl191_40 {sL : Nat} {sx : Nat → Int32} {h b N : Nat} {T : List am_C} {R : Option Value} {F : am_H → Prop} {z : Nat × xA} (k0 : z.1 = 0 → ∀ H2 : am_H, xS h b T z.2 H2 → am_E sL sx am_cs 191 69 [] [] H2 R F) : ∀ (n : Nat) (v1 : Int32) (a : xA) (H : am_H), xS h b T a H → l191_40 N h b n v1 a = some z → am_E sL sx am_cs 191 40 [(0, .ref 116), (1, .int v1)] [] H R F := by
  intro n
  induction n with
  | zero =>
    intro v1 a H hS e
    cases e
  | succ n ih =>
    intro v1 a H hS e
    unfold l191_40 at e
    refine ex_s (am_nb (m := 2) (pc1 := 42) (ls1 := [(0, .ref 116), (1, .int v1)]) (st1 := [.ref 116, .int v1]) (H1 := H) (k1 := 0) (n1 := 0) (by with_unfolding_all rfl)) ?_
    refine xe_get (v := .ref 119) hS rfl rfl (by decide) rfl ?_
    obtain ⟨r28, a29, e27, e⟩ := xb2_some e
    refine ex_cv1 (as := []) (rest := [.int v1]) rfl rfl rfl rfl (hS.obj rfl (by decide)) rfl (by with_unfolding_all rfl) (by with_unfolding_all rfl) (tf163_size hS e27) (fun H25 s26 => ?_)
    refine ex_s (st_icmp rfl) ?_
    by_cases c30 : r28 ≤ v1
    · have e := (if_pos c30).symm.trans e
      refine ex_pc (if_pos c30) ?_
      cases e
      exact le_E (l1 := []) trivial rfl (k0 rfl H25 s26)
    · have e := (if_neg c30).symm.trans e
      refine ex_pc (if_neg c30) ?_
      refine ex_s (am_nb (m := 2) (pc1 := 53) (ls1 := [(0, .ref 116), (1, .int v1)]) (st1 := [.ref 116, .ref 116]) (H1 := H25) (k1 := 0) (n1 := 0) (by with_unfolding_all rfl)) ?_
      refine xe_get (v := .ref 119) s26 rfl rfl (by decide) rfl ?_
      refine ex_s (am_nb (m := 1) (pc1 := 57) (ls1 := [(0, .ref 116), (1, .int v1)]) (st1 := [.int v1, .ref 119, .ref 116]) (H1 := H25) (k1 := 0) (n1 := 0) (by with_unfolding_all rfl)) ?_
      obtain ⟨r34, a35, e33, e⟩ := xb2_some e
      refine ex_cv1 (as := [.int v1]) (rest := [.ref 116]) rfl rfl rfl rfl (s26.obj rfl (by decide)) rfl (by with_unfolding_all rfl) (by with_unfolding_all rfl) (tf164_get s26 e33) (fun H31 s32 => ?_)
      obtain ⟨a39, e38, e⟩ := xb1_some e
      refine ex_cv0 (as := [.int r34]) (rest := []) rfl rfl rfl rfl (s32.obj rfl (by decide)) rfl (by with_unfolding_all rfl) (by with_unfolding_all rfl) (tf182_echo s32 e38) (fun H36 s37 => ?_)
      refine ex_s (am_nb (m := 2) (pc1 := 40) (ls1 := [(1, .int (v1 + 1)), (0, .ref 116)]) (st1 := []) (H1 := H36) (k1 := 0) (n1 := 0) (by with_unfolding_all rfl)) ?_
      exact le_E (l1 := [(0, .ref 116), (1, .int (v1 + 1))]) ⟨rfl, rfl, trivial⟩ rfl (ih (v1 + 1) a39 H36 s37 e)

set_option maxRecDepth 100000 in
theorem tf191_echoAnew {sL : Nat} {sx : Nat → Int32} {h b N : Nat} {T : List am_C} {a' : xA} {a : xA} {H : am_H} (hS : xS h b T a H) (e : f191_echoAnew N h b a = some a') : am_E sL sx am_cs 191 0 [(0, .ref 116)] [] H none (fun H1 => xS h b T a' H1) := by
  unfold f191_echoAnew at e
  refine ex_s (am_nb (m := 2) (pc1 := 2) (ls1 := [(0, .ref 116)]) (st1 := [.int 2, .ref 116]) (H1 := H) (k1 := 0) (n1 := 0) (by with_unfolding_all rfl)) ?_
  obtain ⟨r4, a5, e3, e⟩ := xb2_some e
  refine ex_cv1 (as := [.int 2]) (rest := []) rfl rfl rfl rfl (hS.obj rfl (by decide)) rfl (by with_unfolding_all rfl) (by with_unfolding_all rfl) (tf162_has hS e3) (fun H1 s2 => ?_)
  refine ex_s (st_if rfl) ?_
  by_cases c6 : r4 = 0
  · have e := (if_pos c6).symm.trans e
    refine ex_pc (if_pos c6) ?_
    cases e
    exact ex_r (st_vret rfl rfl) s2
  · have e := (if_neg c6).symm.trans e
    refine ex_pc (if_neg c6) ?_
    refine ex_s (am_nb (m := 2) (pc1 := 12) (ls1 := [(0, .ref 116)]) (st1 := [.int 94, .ref 116]) (H1 := H1) (k1 := 0) (n1 := 0) (by with_unfolding_all rfl)) ?_
    obtain ⟨r10, a11, e9, e⟩ := xb2_some e
    refine ex_cv1 (as := [.int 94]) (rest := []) rfl rfl rfl rfl (s2.obj rfl (by decide)) rfl (by with_unfolding_all rfl) (by with_unfolding_all rfl) (tf167_put s2 e9) (fun H7 s8 => ?_)
    refine ex_s (am_nb (m := 3) (pc1 := 19) (ls1 := [(0, .ref 116)]) (st1 := [.int 82, .ref 116]) (H1 := H7) (k1 := 0) (n1 := 0) (by with_unfolding_all rfl)) ?_
    obtain ⟨r15, a16, e14, e⟩ := xb2_some e
    refine ex_cv1 (as := [.int 82]) (rest := []) rfl rfl rfl rfl (s8.obj rfl (by decide)) rfl (by with_unfolding_all rfl) (by with_unfolding_all rfl) (tf167_put s8 e14) (fun H12 s13 => ?_)
    refine ex_s (am_nb (m := 3) (pc1 := 26) (ls1 := [(0, .ref 116)]) (st1 := [.int 10, .ref 116]) (H1 := H12) (k1 := 0) (n1 := 0) (by with_unfolding_all rfl)) ?_
    obtain ⟨r20, a21, e19, e⟩ := xb2_some e
    refine ex_cv1 (as := [.int 10]) (rest := []) rfl rfl rfl rfl (s13.obj rfl (by decide)) rfl (by with_unfolding_all rfl) (by with_unfolding_all rfl) (tf167_put s13 e19) (fun H17 s18 => ?_)
    refine ex_s (am_nb (m := 3) (pc1 := 32) (ls1 := [(0, .ref 116)]) (st1 := [.ref 116, .ref 116]) (H1 := H17) (k1 := 0) (n1 := 0) (by with_unfolding_all rfl)) ?_
    refine xe_get (v := .int (a21 116 7)) s18 rfl rfl (by decide) rfl ?_
    obtain ⟨a22, ha22, e⟩ := xw_some e
    refine xe_put (w := (a21 116 7)) s18 rfl rfl (by decide) rfl rfl rfl rfl (fun H23 s24 => ?_)
    have s24 : xS h b T a22 H23 := by rw [ha22]; exact s24
    refine ex_s (am_nb (m := 2) (pc1 := 40) (ls1 := [(1, .int 0), (0, .ref 116)]) (st1 := []) (H1 := H23) (k1 := 0) (n1 := 0) (by with_unfolding_all rfl)) ?_
    obtain ⟨z40, e41, e⟩ := Option.bind_eq_some_iff.mp e
    refine le_E (l1 := [(0, .ref 116), (1, .int 0)]) ⟨rfl, rfl, trivial⟩ rfl (tl191_40 (z := z40)  (fun uz40_0 Hz400 sz400 => ?_) N 0 a22 H23 s24 e41)
    cases e
    exact ex_r (st_vret rfl rfl) sz400

set_option maxRecDepth 100000 in
theorem tl192_39 {sL : Nat} {sx : Nat → Int32} {h b N : Nat} {T : List am_C} {R : Option Value} {F : am_H → Prop} {w1 : Int32} {z : Nat × xA} (k0 : z.1 = 0 → ∀ H2 : am_H, xS h b T z.2 H2 → am_E sL sx am_cs 192 72 [(0, .ref 116), (1, .int w1)] [] H2 R F) : ∀ (n : Nat) (v3 : Int32) (a : xA) (H : am_H), xS h b T a H → l192_39 N h b w1 n v3 a = some z → am_E sL sx am_cs 192 39 [(0, .ref 116), (1, .int w1), (3, .int v3)] [] H R F := by
  intro n
  induction n with
  | zero =>
    intro v3 a H hS e
    cases e
  | succ n ih =>
    intro v3 a H hS e
    unfold l192_39 at e
    refine ex_s (am_nb (m := 2) (pc1 := 41) (ls1 := [(0, .ref 116), (1, .int w1), (3, .int v3)]) (st1 := [.ref 116, .int v3]) (H1 := H) (k1 := 0) (n1 := 0) (by with_unfolding_all rfl)) ?_
    refine xe_get (v := .ref 119) hS rfl rfl (by decide) rfl ?_
    obtain ⟨r16, a17, e15, e⟩ := xb2_some e
    refine ex_cv1 (as := []) (rest := [.int v3]) rfl rfl rfl rfl (hS.obj rfl (by decide)) rfl (by with_unfolding_all rfl) (by with_unfolding_all rfl) (tf163_size hS e15) (fun H13 s14 => ?_)
    refine ex_s (st_icmp rfl) ?_
    by_cases c18 : r16 ≤ v3
    · have e := (if_pos c18).symm.trans e
      refine ex_pc (if_pos c18) ?_
      cases e
      exact le_E (l1 := [(0, .ref 116), (1, .int w1)]) ⟨rfl, rfl, trivial⟩ rfl (k0 rfl H13 s14)
    · have e := (if_neg c18).symm.trans e
      refine ex_pc (if_neg c18) ?_
      refine ex_s (am_nb (m := 1) (pc1 := 51) (ls1 := [(0, .ref 116), (1, .int w1), (3, .int v3)]) (st1 := [.ref 116]) (H1 := H13) (k1 := 0) (n1 := 0) (by with_unfolding_all rfl)) ?_
      refine xe_get (v := .ref 121) s14 rfl rfl (by decide) rfl ?_
      refine ex_s (am_nb (m := 1) (pc1 := 55) (ls1 := [(0, .ref 116), (1, .int w1), (3, .int v3)]) (st1 := [.ref 116, .ref 121]) (H1 := H13) (k1 := 0) (n1 := 0) (by with_unfolding_all rfl)) ?_
      refine xe_get (v := .ref 119) s14 rfl rfl (by decide) rfl ?_
      refine ex_s (am_nb (m := 1) (pc1 := 59) (ls1 := [(0, .ref 116), (1, .int w1), (3, .int v3)]) (st1 := [.int v3, .ref 119, .ref 121]) (H1 := H13) (k1 := 0) (n1 := 0) (by with_unfolding_all rfl)) ?_
      obtain ⟨r22, a23, e21, e⟩ := xb2_some e
      refine ex_cv1 (as := [.int v3]) (rest := [.ref 121]) rfl rfl rfl rfl (s14.obj rfl (by decide)) rfl (by with_unfolding_all rfl) (by with_unfolding_all rfl) (tf164_get s14 e21) (fun H19 s20 => ?_)
      obtain ⟨r27, a28, e26, e⟩ := xb2_some e
      refine ex_cv1 (as := [.int r22]) (rest := []) rfl rfl rfl rfl (s20.obj rfl (by decide)) rfl (by with_unfolding_all rfl) (by with_unfolding_all rfl) (tf156_add s20 e26) (fun H24 s25 => ?_)
      refine ex_s (am_nb (m := 3) (pc1 := 39) (ls1 := [(3, .int (v3 + 1)), (0, .ref 116), (1, .int w1)]) (st1 := []) (H1 := H24) (k1 := 0) (n1 := 0) (by with_unfolding_all rfl)) ?_
      exact le_E (l1 := [(0, .ref 116), (1, .int w1), (3, .int (v3 + 1))]) ⟨rfl, rfl, rfl, trivial⟩ rfl (ih (v3 + 1) a28 H24 s25 e)

set_option maxRecDepth 100000 in
theorem tj192_93 {sL : Nat} {sx : Nat → Int32} {h b N : Nat} {T : List am_C} {a' : xA} {q1 : Int32} {a : xA} {H : am_H} (hS : xS h b T a H) (e : j192_93 N h b q1 a = some a') : am_E sL sx am_cs 192 93 [(0, .ref 116), (1, .int q1)] [] H none (fun H1 => xS h b T a' H1) := by
  unfold j192_93 at e
  refine ex_s (am_nb (m := 1) (pc1 := 94) (ls1 := [(0, .ref 116), (1, .int q1)]) (st1 := [.ref 116]) (H1 := H) (k1 := 0) (n1 := 0) (by with_unfolding_all rfl)) ?_
  refine xe_get (v := .ref 121) hS rfl rfl (by decide) rfl ?_
  refine ex_s (am_nb (m := 1) (pc1 := 100) (ls1 := [(0, .ref 116), (1, .int q1)]) (st1 := [.int 256, .ref 121]) (H1 := H) (k1 := 0) (n1 := 0) (by with_unfolding_all rfl)) ?_
  obtain ⟨r40, a41, e39, e⟩ := xb2_some e
  refine ex_cv1 (as := [.int 256]) (rest := []) rfl rfl rfl rfl (hS.obj rfl (by decide)) rfl (by with_unfolding_all rfl) (by with_unfolding_all rfl) (tf156_add hS e39) (fun H37 s38 => ?_)
  refine ex_s (am_nb (m := 2) (pc1 := 105) (ls1 := [(0, .ref 116), (1, .int q1)]) (st1 := [.int q1]) (H1 := H37) (k1 := 0) (n1 := 0) (by with_unfolding_all rfl)) ?_
  refine ex_s (st_if rfl) ?_
  by_cases c43 : q1 = 0
  · have e := (if_pos c43).symm.trans e
    refine ex_pc (if_pos c43) ?_
    cases e
    exact ex_r (st_vret rfl rfl) s38
  · have e := (if_neg c43).symm.trans e
    refine ex_pc (if_neg c43) ?_
    refine ex_s (am_nb (m := 2) (pc1 := 110) (ls1 := [(0, .ref 116), (1, .int q1)]) (st1 := [.int 2, .ref 116]) (H1 := H37) (k1 := 0) (n1 := 0) (by with_unfolding_all rfl)) ?_
    obtain ⟨r47, a48, e46, e⟩ := xb2_some e
    refine ex_cv1 (as := [.int 2]) (rest := []) rfl rfl rfl rfl (s38.obj rfl (by decide)) rfl (by with_unfolding_all rfl) (by with_unfolding_all rfl) (tf162_has s38 e46) (fun H44 s45 => ?_)
    refine ex_s (st_if rfl) ?_
    by_cases c50 : r47 = 0
    · have e := (if_pos c50).symm.trans e
      refine ex_pc (if_pos c50) ?_
      cases e
      exact ex_r (st_vret rfl rfl) s45
    · have e := (if_neg c50).symm.trans e
      refine ex_pc (if_neg c50) ?_
      refine ex_s (am_nb (m := 2) (pc1 := 119) (ls1 := [(0, .ref 116), (1, .int q1)]) (st1 := [.int 10, .ref 116]) (H1 := H44) (k1 := 0) (n1 := 0) (by with_unfolding_all rfl)) ?_
      obtain ⟨r54, a55, e53, e⟩ := xb2_some e
      refine ex_cv1 (as := [.int 10]) (rest := []) rfl rfl rfl rfl (s45.obj rfl (by decide)) rfl (by with_unfolding_all rfl) (by with_unfolding_all rfl) (tf167_put s45 e53) (fun H51 s52 => ?_)
      refine ex_s (am_nb (m := 1) (pc1 := 123) (ls1 := [(0, .ref 116), (1, .int q1)]) (st1 := []) (H1 := H51) (k1 := 0) (n1 := 0) (by with_unfolding_all rfl)) ?_
      cases e
      exact ex_r (st_vret rfl rfl) s52

set_option maxRecDepth 100000 in
theorem tf192_finishLine {sL : Nat} {sx : Nat → Int32} {h b N : Nat} {T : List am_C} {a' : xA} {x0 : Int32} {a : xA} {H : am_H} (hS : xS h b T a H) (e : f192_finishLine N h b x0 a = some a') : am_E sL sx am_cs 192 0 [(0, .ref 116), (1, .int x0)] [] H none (fun H1 => xS h b T a' H1) := by
  unfold f192_finishLine at e
  refine ex_s (am_nb (m := 1) (pc1 := 1) (ls1 := [(0, .ref 116), (1, .int x0)]) (st1 := [.ref 116]) (H1 := H) (k1 := 0) (n1 := 0) (by with_unfolding_all rfl)) ?_
  refine xe_get (v := .ref 119) hS rfl rfl (by decide) rfl ?_
  obtain ⟨r4, a5, e3, e⟩ := xb2_some e
  refine ex_cv1 (as := []) (rest := []) rfl rfl rfl rfl (hS.obj rfl (by decide)) rfl (by with_unfolding_all rfl) (by with_unfolding_all rfl) (tf163_size hS e3) (fun H1 s2 => ?_)
  refine ex_s (am_nb (m := 1) (pc1 := 8) (ls1 := [(0, .ref 116), (1, .int x0)]) (st1 := [.int x0, .int r4]) (H1 := H1) (k1 := 0) (n1 := 0) (by with_unfolding_all rfl)) ?_
  have kk : am_E sL sx am_cs 192 16 [(0, .ref 116), (1, .int x0)] [.int (if x0 = 0 then (1 : Int32) else (2 : Int32)), .int r4] H1 none (fun H1 => xS h b T a' H1) := by
    refine ex_s (am_nb (m := 4) (pc1 := 20) (ls1 := [(2, .int (r4 + (if x0 = 0 then (1 : Int32) else (2 : Int32)))), (0, .ref 116), (1, .int x0)]) (st1 := [.ref 116, .int (r4 + (if x0 = 0 then (1 : Int32) else (2 : Int32)))]) (H1 := H1) (k1 := 0) (n1 := 0) (by with_unfolding_all rfl)) ?_
    refine xe_get (v := .ref 121) s2 rfl rfl (by decide) rfl ?_
    obtain ⟨r10, a11, e9, e⟩ := xb2_some e
    refine ex_cv1 (as := []) (rest := [.int (r4 + (if x0 = 0 then (1 : Int32) else (2 : Int32)))]) rfl rfl rfl rfl (s2.obj rfl (by decide)) rfl (by with_unfolding_all rfl) (by with_unfolding_all rfl) (tf126_room s2 e9) (fun H7 s8 => ?_)
    refine ex_s (st_icmp rfl) ?_
    by_cases c12 : (r4 + (if x0 = 0 then (1 : Int32) else (2 : Int32))) ≤ r10
    · have e := (if_pos c12).symm.trans e
      refine ex_pc (if_pos c12) ?_
      refine ex_s (am_nb (m := 2) (pc1 := 39) (ls1 := [(3, .int 0), (2, .int (r4 + (if x0 = 0 then (1 : Int32) else (2 : Int32)))), (0, .ref 116), (1, .int x0)]) (st1 := []) (H1 := H7) (k1 := 0) (n1 := 0) (by with_unfolding_all rfl)) ?_
      obtain ⟨z29, e30, e⟩ := Option.bind_eq_some_iff.mp e
      refine le_E (l1 := [(0, .ref 116), (1, .int x0), (3, .int 0)]) ⟨rfl, rfl, rfl, trivial⟩ rfl (tl192_39 (z := z29)  (fun uz29_0 Hz290 sz290 => ?_) N 0 a11 H7 s8 e30)
      refine ex_s (am_nb (m := 1) (pc1 := 73) (ls1 := [(0, .ref 116), (1, .int x0)]) (st1 := [.ref 116]) (H1 := Hz290) (k1 := 0) (n1 := 0) (by with_unfolding_all rfl)) ?_
      refine xe_get (v := .ref 119) sz290 rfl rfl (by decide) rfl ?_
      obtain ⟨a34, e33, e⟩ := xb1_some e
      refine ex_cv0 (as := []) (rest := []) rfl rfl rfl rfl (sz290.obj rfl (by decide)) rfl (by with_unfolding_all rfl) (by with_unfolding_all rfl) (tf165_clear sz290 e33) (fun H31 s32 => ?_)
      refine ex_s (am_nb (m := 1) (pc1 := 80) (ls1 := [(0, .ref 116), (1, .int x0)]) (st1 := [.int x0]) (H1 := H31) (k1 := 0) (n1 := 0) (by with_unfolding_all rfl)) ?_
      refine ex_s (st_if rfl) ?_
      by_cases c36 : x0 = 0
      · have e := (if_pos c36).symm.trans e
        refine ex_pc (if_pos c36) ?_
        exact le_E (l1 := [(0, .ref 116), (1, .int x0)]) ⟨rfl, rfl, trivial⟩ rfl (tj192_93  s32 e)
      · have e := (if_neg c36).symm.trans e
        refine ex_pc (if_neg c36) ?_
        refine ex_s (am_nb (m := 1) (pc1 := 84) (ls1 := [(0, .ref 116), (1, .int x0)]) (st1 := [.ref 116]) (H1 := H31) (k1 := 0) (n1 := 0) (by with_unfolding_all rfl)) ?_
        refine xe_get (v := .ref 121) s32 rfl rfl (by decide) rfl ?_
        refine ex_s (am_nb (m := 1) (pc1 := 89) (ls1 := [(0, .ref 116), (1, .int x0)]) (st1 := [.int 10, .ref 121]) (H1 := H31) (k1 := 0) (n1 := 0) (by with_unfolding_all rfl)) ?_
        obtain ⟨r59, a60, e58, e⟩ := xb2_some e
        refine ex_cv1 (as := [.int 10]) (rest := []) rfl rfl rfl rfl (s32.obj rfl (by decide)) rfl (by with_unfolding_all rfl) (by with_unfolding_all rfl) (tf156_add s32 e58) (fun H56 s57 => ?_)
        refine ex_s (am_nb (m := 1) (pc1 := 93) (ls1 := [(0, .ref 116), (1, .int x0)]) (st1 := []) (H1 := H56) (k1 := 0) (n1 := 0) (by with_unfolding_all rfl)) ?_
        exact le_E (l1 := [(0, .ref 116), (1, .int x0)]) ⟨rfl, rfl, trivial⟩ rfl (tj192_93  s57 e)
    · have e := (if_neg c12).symm.trans e
      refine ex_pc (if_neg c12) ?_
      refine ex_s (am_nb (m := 2) (pc1 := 32) (ls1 := [(2, .int (r4 + (if x0 = 0 then (1 : Int32) else (2 : Int32)))), (0, .ref 116), (1, .int x0)]) (st1 := [.int 7, .ref 116]) (H1 := H7) (k1 := 0) (n1 := 0) (by with_unfolding_all rfl)) ?_
      obtain ⟨r64, a65, e63, e⟩ := xb2_some e
      refine ex_cv1 (as := [.int 7]) (rest := []) rfl rfl rfl rfl (s8.obj rfl (by decide)) rfl (by with_unfolding_all rfl) (by with_unfolding_all rfl) (tf167_put s8 e63) (fun H61 s62 => ?_)
      refine ex_s (am_nb (m := 1) (pc1 := 36) (ls1 := [(2, .int (r4 + (if x0 = 0 then (1 : Int32) else (2 : Int32)))), (0, .ref 116), (1, .int x0)]) (st1 := []) (H1 := H61) (k1 := 0) (n1 := 0) (by with_unfolding_all rfl)) ?_
      cases e
      exact ex_r (st_vret rfl rfl) s62
  refine ex_s (st_if rfl) ?_
  by_cases c6 : x0 = 0
  · refine ex_pc (if_pos c6) ?_
    refine ex_s (am_nb (m := 1) (pc1 := 16) (ls1 := [(0, .ref 116), (1, .int x0)]) (st1 := [.int 1, .int r4]) (H1 := H1) (k1 := 0) (n1 := 0) (by with_unfolding_all rfl)) ?_
    rw [if_pos c6] at kk
    exact kk
  · refine ex_pc (if_neg c6) ?_
    refine ex_s (am_nb (m := 2) (pc1 := 16) (ls1 := [(0, .ref 116), (1, .int x0)]) (st1 := [.int 2, .int r4]) (H1 := H1) (k1 := 0) (n1 := 0) (by with_unfolding_all rfl)) ?_
    rw [if_neg c6] at kk
    exact kk

set_option maxRecDepth 100000 in
theorem tf185_edit {sL : Nat} {sx : Nat → Int32} {h b N : Nat} {T : List am_C} {a' : xA} {x0 : Int32} {a : xA} {H : am_H} (hS : xS h b T a H) (e : f185_edit N h b x0 a = some a') : am_E sL sx am_cs 185 0 [(0, .ref 116), (1, .int x0)] [] H none (fun H1 => xS h b T a' H1) := by
  unfold f185_edit at e
  refine ex_s (am_nb (m := 1) (pc1 := 1) (ls1 := [(0, .ref 116), (1, .int x0)]) (st1 := [.int x0]) (H1 := H) (k1 := 0) (n1 := 0) (by with_unfolding_all rfl)) ?_
  refine ex_s (st_lsw rfl) ?_
  by_cases c1 : x0 = 4
  · have e := (if_pos c1).symm.trans e
    refine ex_pc (pc1 := 146) (by rw [c1]; with_unfolding_all rfl) ?_
    refine ex_s (am_nb (m := 2) (pc1 := 148) (ls1 := [(0, .ref 116), (1, .int x0)]) (st1 := [.int 0, .ref 116]) (H1 := H) (k1 := 0) (n1 := 0) (by with_unfolding_all rfl)) ?_
    obtain ⟨a5, e4, e⟩ := xb1_some e
    refine ex_cv0 (as := [.int 0]) (rest := []) rfl rfl rfl rfl (hS.obj rfl (by decide)) rfl (by with_unfolding_all rfl) (by with_unfolding_all rfl) (tf192_finishLine hS e4) (fun H2 s3 => ?_)
    refine ex_s (am_nb (m := 1) (pc1 := 167) (ls1 := [(0, .ref 116), (1, .int x0)]) (st1 := []) (H1 := H2) (k1 := 0) (n1 := 0) (by with_unfolding_all rfl)) ?_
    cases e
    exact ex_r (st_vret rfl rfl) s3
  · have e := (if_neg c1).symm.trans e
    by_cases c6 : x0 = 8 ∨ x0 = 127
    · have e := (if_pos c6).symm.trans e
      refine ex_pc (pc1 := 106) (by rcases c6 with c6 | c6 <;> (rw [c6]; with_unfolding_all rfl)) ?_
      refine ex_s (am_nb (m := 2) (pc1 := 108) (ls1 := [(0, .ref 116), (1, .int x0)]) (st1 := [.int 1, .ref 116]) (H1 := H) (k1 := 0) (n1 := 0) (by with_unfolding_all rfl)) ?_
      obtain ⟨a10, e9, e⟩ := xb1_some e
      refine ex_cv0 (as := [.int 1]) (rest := []) rfl rfl rfl rfl (hS.obj rfl (by decide)) rfl (by with_unfolding_all rfl) (by with_unfolding_all rfl) (tf186_rubOut hS e9) (fun H7 s8 => ?_)
      refine ex_s (am_nb (m := 1) (pc1 := 167) (ls1 := [(0, .ref 116), (1, .int x0)]) (st1 := []) (H1 := H7) (k1 := 0) (n1 := 0) (by with_unfolding_all rfl)) ?_
      cases e
      exact ex_r (st_vret rfl rfl) s8
    · have e := (if_neg c6).symm.trans e
      by_cases c11 : x0 = 10
      · have e := (if_pos c11).symm.trans e
        refine ex_pc (pc1 := 154) (by rw [c11]; with_unfolding_all rfl) ?_
        refine ex_s (am_nb (m := 2) (pc1 := 156) (ls1 := [(0, .ref 116), (1, .int x0)]) (st1 := [.int 1, .ref 116]) (H1 := H) (k1 := 0) (n1 := 0) (by with_unfolding_all rfl)) ?_
        obtain ⟨a15, e14, e⟩ := xb1_some e
        refine ex_cv0 (as := [.int 1]) (rest := []) rfl rfl rfl rfl (hS.obj rfl (by decide)) rfl (by with_unfolding_all rfl) (by with_unfolding_all rfl) (tf192_finishLine hS e14) (fun H12 s13 => ?_)
        refine ex_s (am_nb (m := 1) (pc1 := 167) (ls1 := [(0, .ref 116), (1, .int x0)]) (st1 := []) (H1 := H12) (k1 := 0) (n1 := 0) (by with_unfolding_all rfl)) ?_
        cases e
        exact ex_r (st_vret rfl rfl) s13
      · have e := (if_neg c11).symm.trans e
        by_cases c16 : x0 = 18
        · have e := (if_pos c16).symm.trans e
          refine ex_pc (pc1 := 139) (by rw [c16]; with_unfolding_all rfl) ?_
          refine ex_s (am_nb (m := 1) (pc1 := 140) (ls1 := [(0, .ref 116), (1, .int x0)]) (st1 := [.ref 116]) (H1 := H) (k1 := 0) (n1 := 0) (by with_unfolding_all rfl)) ?_
          obtain ⟨a20, e19, e⟩ := xb1_some e
          refine ex_cv0 (as := []) (rest := []) rfl rfl rfl rfl (hS.obj rfl (by decide)) rfl (by with_unfolding_all rfl) (by with_unfolding_all rfl) (tf191_echoAnew hS e19) (fun H17 s18 => ?_)
          refine ex_s (am_nb (m := 1) (pc1 := 167) (ls1 := [(0, .ref 116), (1, .int x0)]) (st1 := []) (H1 := H17) (k1 := 0) (n1 := 0) (by with_unfolding_all rfl)) ?_
          cases e
          exact ex_r (st_vret rfl rfl) s18
        · have e := (if_neg c16).symm.trans e
          by_cases c21 : x0 = 21
          · have e := (if_pos c21).symm.trans e
            refine ex_pc (pc1 := 125) (by rw [c21]; with_unfolding_all rfl) ?_
            refine ex_s (am_nb (m := 2) (pc1 := 127) (ls1 := [(0, .ref 116), (1, .int x0)]) (st1 := [.ref 116, .ref 116]) (H1 := H) (k1 := 0) (n1 := 0) (by with_unfolding_all rfl)) ?_
            refine xe_get (v := .ref 119) hS rfl rfl (by decide) rfl ?_
            obtain ⟨r25, a26, e24, e⟩ := xb2_some e
            refine ex_cv1 (as := []) (rest := [.ref 116]) rfl rfl rfl rfl (hS.obj rfl (by decide)) rfl (by with_unfolding_all rfl) (by with_unfolding_all rfl) (tf163_size hS e24) (fun H22 s23 => ?_)
            obtain ⟨a30, e29, e⟩ := xb1_some e
            refine ex_cv0 (as := [.int r25]) (rest := []) rfl rfl rfl rfl (s23.obj rfl (by decide)) rfl (by with_unfolding_all rfl) (by with_unfolding_all rfl) (tf186_rubOut s23 e29) (fun H27 s28 => ?_)
            refine ex_s (am_nb (m := 1) (pc1 := 167) (ls1 := [(0, .ref 116), (1, .int x0)]) (st1 := []) (H1 := H27) (k1 := 0) (n1 := 0) (by with_unfolding_all rfl)) ?_
            cases e
            exact ex_r (st_vret rfl rfl) s28
          · have e := (if_neg c21).symm.trans e
            by_cases c31 : x0 = 22
            · have e := (if_pos c31).symm.trans e
              refine ex_pc (pc1 := 76) (by rw [c31]; with_unfolding_all rfl) ?_
              refine ex_s (am_nb (m := 2) (pc1 := 78) (ls1 := [(0, .ref 116), (1, .int x0)]) (st1 := [.int 1, .ref 116]) (H1 := H) (k1 := 0) (n1 := 0) (by with_unfolding_all rfl)) ?_
              obtain ⟨a32, ha32, e⟩ := xw_some e
              refine xe_put (w := 1) hS rfl rfl (by decide) rfl rfl rfl rfl (fun H33 s34 => ?_)
              have s34 : xS h b T a32 H33 := by rw [ha32]; exact s34
              refine ex_s (am_nb (m := 2) (pc1 := 83) (ls1 := [(0, .ref 116), (1, .int x0)]) (st1 := [.int 2, .ref 116]) (H1 := H33) (k1 := 0) (n1 := 0) (by with_unfolding_all rfl)) ?_
              obtain ⟨r38, a39, e37, e⟩ := xb2_some e
              refine ex_cv1 (as := [.int 2]) (rest := []) rfl rfl rfl rfl (s34.obj rfl (by decide)) rfl (by with_unfolding_all rfl) (by with_unfolding_all rfl) (tf162_has s34 e37) (fun H35 s36 => ?_)
              refine ex_s (st_if rfl) ?_
              by_cases c40 : r38 = 0
              · have e := (if_pos c40).symm.trans e
                refine ex_pc (if_pos c40) ?_
                cases e
                exact ex_r (st_vret rfl rfl) s36
              · have e := (if_neg c40).symm.trans e
                refine ex_pc (if_neg c40) ?_
                refine ex_s (am_nb (m := 2) (pc1 := 92) (ls1 := [(0, .ref 116), (1, .int x0)]) (st1 := [.int 94, .ref 116]) (H1 := H35) (k1 := 0) (n1 := 0) (by with_unfolding_all rfl)) ?_
                obtain ⟨r44, a45, e43, e⟩ := xb2_some e
                refine ex_cv1 (as := [.int 94]) (rest := []) rfl rfl rfl rfl (s36.obj rfl (by decide)) rfl (by with_unfolding_all rfl) (by with_unfolding_all rfl) (tf167_put s36 e43) (fun H41 s42 => ?_)
                refine ex_s (am_nb (m := 3) (pc1 := 99) (ls1 := [(0, .ref 116), (1, .int x0)]) (st1 := [.int 8, .ref 116]) (H1 := H41) (k1 := 0) (n1 := 0) (by with_unfolding_all rfl)) ?_
                obtain ⟨r49, a50, e48, e⟩ := xb2_some e
                refine ex_cv1 (as := [.int 8]) (rest := []) rfl rfl rfl rfl (s42.obj rfl (by decide)) rfl (by with_unfolding_all rfl) (by with_unfolding_all rfl) (tf167_put s42 e48) (fun H46 s47 => ?_)
                refine ex_s (am_nb (m := 2) (pc1 := 167) (ls1 := [(0, .ref 116), (1, .int x0)]) (st1 := []) (H1 := H46) (k1 := 0) (n1 := 0) (by with_unfolding_all rfl)) ?_
                cases e
                exact ex_r (st_vret rfl rfl) s47
            · have e := (if_neg c31).symm.trans e
              by_cases c51 : x0 = 23
              · have e := (if_pos c51).symm.trans e
                refine ex_pc (pc1 := 114) (by rw [c51]; with_unfolding_all rfl) ?_
                refine ex_s (am_nb (m := 2) (pc1 := 116) (ls1 := [(0, .ref 116), (1, .int x0)]) (st1 := [.ref 116, .ref 116]) (H1 := H) (k1 := 0) (n1 := 0) (by with_unfolding_all rfl)) ?_
                obtain ⟨r55, a56, e54, e⟩ := xb2_some e
                refine ex_cv1 (as := []) (rest := [.ref 116]) rfl rfl rfl rfl (hS.obj rfl (by decide)) rfl (by with_unfolding_all rfl) (by with_unfolding_all rfl) (tf190_wordLength hS e54) (fun H52 s53 => ?_)
                obtain ⟨a60, e59, e⟩ := xb1_some e
                refine ex_cv0 (as := [.int r55]) (rest := []) rfl rfl rfl rfl (s53.obj rfl (by decide)) rfl (by with_unfolding_all rfl) (by with_unfolding_all rfl) (tf186_rubOut s53 e59) (fun H57 s58 => ?_)
                refine ex_s (am_nb (m := 1) (pc1 := 167) (ls1 := [(0, .ref 116), (1, .int x0)]) (st1 := []) (H1 := H57) (k1 := 0) (n1 := 0) (by with_unfolding_all rfl)) ?_
                cases e
                exact ex_r (st_vret rfl rfl) s58
              · have e := (if_neg c51).symm.trans e
                refine ex_pc (pc1 := 162) (am_sw_n (sw_c (Or.inl c1) (sw_c (Or.inl (fun q => c6 (Or.inl q))) (sw_c (Or.inl c11) (sw_c (Or.inl c16) (sw_c (Or.inl c21) (sw_c (Or.inl c31) (sw_c (Or.inl c51) (sw_c (Or.inl (fun q => c6 (Or.inr q))) sw_o))))))))) ?_
                refine ex_s (am_nb (m := 2) (pc1 := 164) (ls1 := [(0, .ref 116), (1, .int x0)]) (st1 := [.int x0, .ref 116]) (H1 := H) (k1 := 0) (n1 := 0) (by with_unfolding_all rfl)) ?_
                obtain ⟨a64, e63, e⟩ := xb1_some e
                refine ex_cv0 (as := [.int x0]) (rest := []) rfl rfl rfl rfl (hS.obj rfl (by decide)) rfl (by with_unfolding_all rfl) (by with_unfolding_all rfl) (tf181_take hS e63) (fun H61 s62 => ?_)
                cases e
                exact ex_r (st_vret rfl rfl) s62
