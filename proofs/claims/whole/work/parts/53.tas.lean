/-! The program does what the functions say. -/
set_option maxRecDepth 100000 in
theorem tj394_112 {sL : Nat} {sx : Nat → Int32} {h b N : Nat} {T : List am_C} {a' : xA} {q1 : Int32} {a : xA} {H : am_H} (hS : xS h b T a H) (e : j394_112 N h b q1 a = some a') : am_E sL sx am_cs 394 112 [(0, .ref 157), (1, .int q1)] [] H none (fun H1 => xS h b T a' H1) := by
  unfold j394_112 at e
  refine ex_s (am_nb (m := 2) (pc1 := 115) (ls1 := [(0, .ref 157), (1, .int q1)]) (st1 := [.int 56, .int q1]) (H1 := H) (k1 := 0) (n1 := 0) (by with_unfolding_all rfl)) ?_
  refine ex_s (st_icmp rfl) ?_
  by_cases c2 : q1 = 56
  · have e := (if_pos c2).symm.trans e
    refine ex_pc (if_pos c2) ?_
    refine ex_s (am_nb (m := 2) (pc1 := 120) (ls1 := [(2, .int 0), (0, .ref 157), (1, .int q1)]) (st1 := []) (H1 := H) (k1 := 0) (n1 := 0) (by with_unfolding_all rfl)) ?_
    obtain ⟨z15, e16, e⟩ := Option.bind_eq_some_iff.mp e
    refine le_E (l1 := [(0, .ref 157), (2, .int 0)]) ⟨rfl, rfl, trivial⟩ rfl (tl394_120 (z := z15)  (fun uz15_0 Hz150 sz150 => ?_) N 0 a H hS e16)
    refine ex_s (am_nb (m := 2) (pc1 := 172) (ls1 := [(0, .ref 157)]) (st1 := [.int 0, .ref 157]) (H1 := Hz150) (k1 := 0) (n1 := 0) (by with_unfolding_all rfl)) ?_
    obtain ⟨a17, ha17, e⟩ := xw_some e
    refine xe_put (w := 0) sz150 rfl rfl (by decide) rfl rfl rfl rfl (fun H18 s19 => ?_)
    have s19 : xS h b T a17 H18 := by rw [ha17]; exact s19
    refine ex_s (am_nb (m := 2) (pc1 := 177) (ls1 := [(0, .ref 157)]) (st1 := [.ref 157, .ref 157]) (H1 := H18) (k1 := 0) (n1 := 0) (by with_unfolding_all rfl)) ?_
    refine xe_get (v := .int (a17 157 68)) s19 rfl rfl (by decide) rfl ?_
    refine ex_s (am_nb (m := 2) (pc1 := 182) (ls1 := [(0, .ref 157)]) (st1 := [.int ((a17 157 68) - 1), .ref 157]) (H1 := H18) (k1 := 0) (n1 := 0) (by with_unfolding_all rfl)) ?_
    obtain ⟨a20, ha20, e⟩ := xw_some e
    refine xe_put (w := ((a17 157 68) - 1)) s19 rfl rfl (by decide) rfl rfl rfl rfl (fun H21 s22 => ?_)
    have s22 : xS h b T a20 H21 := by rw [ha20]; exact s22
    refine ex_s (am_nb (m := 3) (pc1 := 188) (ls1 := [(0, .ref 157)]) (st1 := [.int 0, .int 0, .ref 157]) (H1 := H21) (k1 := 0) (n1 := 0) (by with_unfolding_all rfl)) ?_
    obtain ⟨a26, e25, e⟩ := xb1_some e
    refine ex_cv0 (as := [.int 0, .int 0]) (rest := []) rfl rfl rfl rfl (s22.obj rfl (by decide)) rfl (by with_unfolding_all rfl) (by with_unfolding_all rfl) (tf384_goes s22 e25) (fun H23 s24 => ?_)
    refine ex_s (am_nb (m := 2) (pc1 := 193) (ls1 := [(0, .ref 157)]) (st1 := [.int 2, .ref 157]) (H1 := H23) (k1 := 0) (n1 := 0) (by with_unfolding_all rfl)) ?_
    obtain ⟨a27, ha27, e⟩ := xw_some e
    refine xe_put (w := 2) s24 rfl rfl (by decide) rfl rfl rfl rfl (fun H28 s29 => ?_)
    have s29 : xS h b T a27 H28 := by rw [ha27]; exact s29
    cases e
    exact ex_r (st_vret rfl rfl) s29
  · have e := (if_neg c2).symm.trans e
    refine ex_pc (if_neg c2) ?_
    cases e
    exact ex_r (st_vret rfl rfl) hS

set_option maxRecDepth 100000 in
theorem tj394_82 {sL : Nat} {sx : Nat → Int32} {h b N : Nat} {T : List am_C} {a' : xA} {a : xA} {H : am_H} (hS : xS h b T a H) (e : j394_82 N h b a = some a') : am_E sL sx am_cs 394 82 [(0, .ref 157)] [] H none (fun H1 => xS h b T a' H1) := by
  unfold j394_82 at e
  refine ex_s (am_nb (m := 1) (pc1 := 83) (ls1 := [(0, .ref 157)]) (st1 := [.ref 157]) (H1 := H) (k1 := 0) (n1 := 0) (by with_unfolding_all rfl)) ?_
  refine xe_get (v := .int (a 157 94)) hS rfl rfl (by decide) rfl ?_
  refine ex_s (am_nb (m := 2) (pc1 := 88) (ls1 := [(0, .ref 157)]) (st1 := [.ref 157, .ref 157, .int (a 157 94)]) (H1 := H) (k1 := 0) (n1 := 0) (by with_unfolding_all rfl)) ?_
  refine xe_get (v := .int (a 157 93)) hS rfl rfl (by decide) rfl ?_
  obtain ⟨r44, a45, e43, e⟩ := xb2_some e
  refine ex_cv1 (as := [.int (a 157 93)]) (rest := [.int (a 157 94)]) rfl rfl rfl rfl (hS.obj rfl (by decide)) rfl (by with_unfolding_all rfl) (by with_unfolding_all rfl) (tf385_last hS e43) (fun H41 s42 => ?_)
  refine ex_s (st_icmp rfl) ?_
  by_cases c46 : (a 157 94) ≤ r44
  · have e := (if_pos c46).symm.trans e
    refine ex_pc (if_pos c46) ?_
    cases e
    exact ex_r (st_vret rfl rfl) s42
  · have e := (if_neg c46).symm.trans e
    refine ex_pc (if_neg c46) ?_
    refine ex_s (am_nb (m := 2) (pc1 := 99) (ls1 := [(0, .ref 157)]) (st1 := [.ref 157, .ref 157]) (H1 := H41) (k1 := 0) (n1 := 0) (by with_unfolding_all rfl)) ?_
    refine xe_get (v := .int (a45 157 93)) s42 rfl rfl (by decide) rfl ?_
    refine ex_s (am_nb (m := 1) (pc1 := 103) (ls1 := [(0, .ref 157)]) (st1 := [.ref 157, .int (a45 157 93), .ref 157]) (H1 := H41) (k1 := 0) (n1 := 0) (by with_unfolding_all rfl)) ?_
    refine xe_get (v := .int (a45 157 94)) s42 rfl rfl (by decide) rfl ?_
    obtain ⟨a50, e49, e⟩ := xb1_some e
    refine ex_cv0 (as := [.int (a45 157 93), .int (a45 157 94)]) (rest := []) rfl rfl rfl rfl (s42.obj rfl (by decide)) rfl (by with_unfolding_all rfl) (by with_unfolding_all rfl) (tf384_goes s42 e49) (fun H47 s48 => ?_)
    refine ex_s (am_nb (m := 1) (pc1 := 196) (ls1 := [(0, .ref 157)]) (st1 := []) (H1 := H47) (k1 := 0) (n1 := 0) (by with_unfolding_all rfl)) ?_
    cases e
    exact ex_r (st_vret rfl rfl) s48

set_option maxRecDepth 100000 in
theorem tf394_widths {sL : Nat} {sx : Nat → Int32} {h b N : Nat} {T : List am_C} {a' : xA} {x0 : Int32} {a : xA} {H : am_H} (hS : xS h b T a H) (e : f394_widths N h b x0 a = some a') : am_E sL sx am_cs 394 0 [(0, .ref 157), (1, .int x0)] [] H none (fun H1 => xS h b T a' H1) := by
  unfold f394_widths at e
  refine ex_s (am_nb (m := 2) (pc1 := 3) (ls1 := [(0, .ref 157), (1, .int x0)]) (st1 := [.int 51, .int x0]) (H1 := H) (k1 := 0) (n1 := 0) (by with_unfolding_all rfl)) ?_
  refine ex_s (st_icmp rfl) ?_
  by_cases c1 : x0 < 51
  · have e := (if_pos c1).symm.trans e
    refine ex_pc (if_pos c1) ?_
    exact le_E (l1 := [(0, .ref 157), (1, .int x0)]) ⟨rfl, rfl, trivial⟩ rfl (tj394_112  hS e)
  · have e := (if_neg c1).symm.trans e
    refine ex_pc (if_neg c1) ?_
    refine ex_s (am_nb (m := 2) (pc1 := 9) (ls1 := [(0, .ref 157), (1, .int x0)]) (st1 := [.int 54, .int x0]) (H1 := H) (k1 := 0) (n1 := 0) (by with_unfolding_all rfl)) ?_
    refine ex_s (st_icmp rfl) ?_
    by_cases c30 : 54 < x0
    · have e := (if_pos c30).symm.trans e
      refine ex_pc (if_pos c30) ?_
      exact le_E (l1 := [(0, .ref 157), (1, .int x0)]) ⟨rfl, rfl, trivial⟩ rfl (tj394_112  hS e)
    · have e := (if_neg c30).symm.trans e
      refine ex_pc (if_neg c30) ?_
      refine ex_s (am_nb (m := 1) (pc1 := 13) (ls1 := [(0, .ref 157), (1, .int x0)]) (st1 := [.ref 157]) (H1 := H) (k1 := 0) (n1 := 0) (by with_unfolding_all rfl)) ?_
      refine xe_get (v := .ref 191) hS rfl rfl (by decide) rfl ?_
      refine ex_s (am_nb (m := 1) (pc1 := 17) (ls1 := [(0, .ref 157), (1, .int x0)]) (st1 := [.ref 157, .ref 191]) (H1 := H) (k1 := 0) (n1 := 0) (by with_unfolding_all rfl)) ?_
      refine xe_get (v := .int (a 157 93)) hS rfl rfl (by decide) rfl ?_
      refine ex_s (am_nb (m := 2) (pc1 := 23) (ls1 := [(0, .ref 157), (1, .int x0)]) (st1 := [.int 51, .int x0, .int (a 157 93), .ref 191]) (H1 := H) (k1 := 0) (n1 := 0) (by with_unfolding_all rfl)) ?_
      have kk : am_E sL sx am_cs 394 51 [(0, .ref 157), (1, .int x0)] [.int (if x0 = 51 then (2 : Int32) else (if x0 = 52 then (3 : Int32) else (if x0 = 53 then (0 : Int32) else (1 : Int32)))), .int (a 157 93), .ref 191] H none (fun H1 => xS h b T a' H1) := by
        obtain ⟨g37, e⟩ := xg_some e
        obtain ⟨a34, ha34, e⟩ := xw_some e
        refine xe_iast hS rfl rfl g37 (fun H35 s36 => ?_)
        have s36 : xS h b T a34 H35 := by rw [ha34]; exact s36
        refine ex_s (am_nb (m := 1) (pc1 := 53) (ls1 := [(0, .ref 157), (1, .int x0)]) (st1 := [.ref 157]) (H1 := H35) (k1 := 0) (n1 := 0) (by with_unfolding_all rfl)) ?_
        refine xe_get (v := .ref 191) s36 rfl rfl (by decide) rfl ?_
        refine ex_s (am_nb (m := 1) (pc1 := 57) (ls1 := [(0, .ref 157), (1, .int x0)]) (st1 := [.ref 157, .ref 191]) (H1 := H35) (k1 := 0) (n1 := 0) (by with_unfolding_all rfl)) ?_
        refine xe_get (v := .int (a34 157 93)) s36 rfl rfl (by decide) rfl ?_
        obtain ⟨g38, e⟩ := xg_some e
        refine xe_iald s36 rfl rfl g38 ?_
        refine ex_s (st_if rfl) ?_
        by_cases c40 : (a34 191 ((a34 157 93).toNatClampNeg)) = 0
        · have e := (if_pos c40).symm.trans e
          refine ex_pc (if_pos c40) ?_
          exact le_E (l1 := [(0, .ref 157)]) ⟨rfl, trivial⟩ rfl (tj394_82  s36 e)
        · have e := (if_neg c40).symm.trans e
          refine ex_pc (if_neg c40) ?_
          refine ex_s (am_nb (m := 2) (pc1 := 66) (ls1 := [(0, .ref 157), (1, .int x0)]) (st1 := [.ref 157, .ref 157]) (H1 := H35) (k1 := 0) (n1 := 0) (by with_unfolding_all rfl)) ?_
          refine xe_get (v := .int (a34 157 93)) s36 rfl rfl (by decide) rfl ?_
          refine ex_s (am_nb (m := 1) (pc1 := 70) (ls1 := [(0, .ref 157), (1, .int x0)]) (st1 := [.ref 157, .int (a34 157 93), .ref 157]) (H1 := H35) (k1 := 0) (n1 := 0) (by with_unfolding_all rfl)) ?_
          refine xe_get (v := .int (a34 157 69)) s36 rfl rfl (by decide) rfl ?_
          refine ex_s (am_nb (m := 3) (pc1 := 76) (ls1 := [(0, .ref 157), (1, .int x0)]) (st1 := [.ref 157, .int ((a34 157 69) / 2), .int (a34 157 93), .ref 157]) (H1 := H35) (k1 := 0) (n1 := 0) (by with_unfolding_all rfl)) ?_
          refine xe_get (v := .int (a34 157 69)) s36 rfl rfl (by decide) rfl ?_
          obtain ⟨a54, e53, e⟩ := xb1_some e
          refine ex_cv0 (as := [.int (a34 157 93), .int ((a34 157 69) / 2), .int (a34 157 69)]) (rest := []) rfl rfl rfl rfl (s36.obj rfl (by decide)) rfl (by with_unfolding_all rfl) (by with_unfolding_all rfl) (tf390_blank s36 e53) (fun H51 s52 => ?_)
          exact le_E (l1 := [(0, .ref 157)]) ⟨rfl, trivial⟩ rfl (tj394_82  s52 e)
      refine ex_s (st_icmp rfl) ?_
      by_cases c31 : x0 = 51
      · refine ex_pc (if_pos c31) ?_
        refine ex_s (am_nb (m := 2) (pc1 := 51) (ls1 := [(0, .ref 157), (1, .int x0)]) (st1 := [.int 2, .int (a 157 93), .ref 191]) (H1 := H) (k1 := 0) (n1 := 0) (by with_unfolding_all rfl)) ?_
        rw [if_pos c31] at kk
        exact kk
      · refine ex_pc (if_neg c31) ?_
        refine ex_s (am_nb (m := 2) (pc1 := 33) (ls1 := [(0, .ref 157), (1, .int x0)]) (st1 := [.int 52, .int x0, .int (a 157 93), .ref 191]) (H1 := H) (k1 := 0) (n1 := 0) (by with_unfolding_all rfl)) ?_
        refine ex_s (st_icmp rfl) ?_
        by_cases c32 : x0 = 52
        · refine ex_pc (if_pos c32) ?_
          refine ex_s (am_nb (m := 2) (pc1 := 51) (ls1 := [(0, .ref 157), (1, .int x0)]) (st1 := [.int 3, .int (a 157 93), .ref 191]) (H1 := H) (k1 := 0) (n1 := 0) (by with_unfolding_all rfl)) ?_
          rw [if_neg c31, if_pos c32] at kk
          exact kk
        · refine ex_pc (if_neg c32) ?_
          refine ex_s (am_nb (m := 2) (pc1 := 43) (ls1 := [(0, .ref 157), (1, .int x0)]) (st1 := [.int 53, .int x0, .int (a 157 93), .ref 191]) (H1 := H) (k1 := 0) (n1 := 0) (by with_unfolding_all rfl)) ?_
          refine ex_s (st_icmp rfl) ?_
          by_cases c33 : x0 = 53
          · refine ex_pc (if_pos c33) ?_
            refine ex_s (am_nb (m := 2) (pc1 := 51) (ls1 := [(0, .ref 157), (1, .int x0)]) (st1 := [.int 0, .int (a 157 93), .ref 191]) (H1 := H) (k1 := 0) (n1 := 0) (by with_unfolding_all rfl)) ?_
            rw [if_neg c31, if_neg c32, if_pos c33] at kk
            exact kk
          · refine ex_pc (if_neg c33) ?_
            refine ex_s (am_nb (m := 1) (pc1 := 51) (ls1 := [(0, .ref 157), (1, .int x0)]) (st1 := [.int 1, .int (a 157 93), .ref 191]) (H1 := H) (k1 := 0) (n1 := 0) (by with_unfolding_all rfl)) ?_
            rw [if_neg c31, if_neg c32, if_neg c33] at kk
            exact kk

set_option maxRecDepth 100000 in
theorem tl397_2 {sL : Nat} {sx : Nat → Int32} {h b N : Nat} {T : List am_C} {R : Option Value} {F : am_H → Prop} {w1 : Int32} {z : Nat × xA} (k0 : z.1 = 0 → ∀ H2 : am_H, xS h b T z.2 H2 → am_E sL sx am_cs 397 21 [(0, .ref 157), (1, .int w1)] [] H2 R F) : ∀ (n : Nat) (v3 : Int32) (a : xA) (H : am_H), xS h b T a H → l397_2 N h b w1 n v3 a = some z → am_E sL sx am_cs 397 2 [(0, .ref 157), (1, .int w1), (3, .int v3)] [] H R F := by
  intro n
  induction n with
  | zero =>
    intro v3 a H hS e
    cases e
  | succ n ih =>
    intro v3 a H hS e
    unfold l397_2 at e
    refine ex_s (am_nb (m := 2) (pc1 := 4) (ls1 := [(0, .ref 157), (1, .int w1), (3, .int v3)]) (st1 := [.int w1, .int v3]) (H1 := H) (k1 := 0) (n1 := 0) (by with_unfolding_all rfl)) ?_
    refine ex_s (st_icmp rfl) ?_
    by_cases c1 : v3 ≤ w1
    · have e := (if_pos c1).symm.trans e
      refine ex_pc (if_pos c1) ?_
      cases e
      exact le_E (l1 := [(0, .ref 157), (1, .int w1)]) ⟨rfl, rfl, trivial⟩ rfl (k0 rfl H hS)
    · have e := (if_neg c1).symm.trans e
      refine ex_pc (if_neg c1) ?_
      refine ex_s (am_nb (m := 5) (pc1 := 12) (ls1 := [(0, .ref 157), (1, .int w1), (3, .int v3)]) (st1 := [.int v3, .int (v3 - 1), .ref 157]) (H1 := H) (k1 := 0) (n1 := 0) (by with_unfolding_all rfl)) ?_
      obtain ⟨a5, e4, e⟩ := xb1_some e
      refine ex_cv0 (as := [.int (v3 - 1), .int v3]) (rest := []) rfl rfl rfl rfl (hS.obj rfl (by decide)) rfl (by with_unfolding_all rfl) (by with_unfolding_all rfl) (tf388_copyRow hS e4) (fun H2 s3 => ?_)
      refine ex_s (am_nb (m := 2) (pc1 := 2) (ls1 := [(3, .int (v3 + (-1))), (0, .ref 157), (1, .int w1)]) (st1 := []) (H1 := H2) (k1 := 0) (n1 := 0) (by with_unfolding_all rfl)) ?_
      exact le_E (l1 := [(0, .ref 157), (1, .int w1), (3, .int (v3 + (-1)))]) ⟨rfl, rfl, rfl, trivial⟩ rfl (ih (v3 + (-1)) a5 H2 s3 e)

set_option maxRecDepth 100000 in
theorem tf397_rollsDown {sL : Nat} {sx : Nat → Int32} {h b N : Nat} {T : List am_C} {a' : xA} {x0 : Int32} {x1 : Int32} {a : xA} {H : am_H} (hS : xS h b T a H) (e : f397_rollsDown N h b x0 x1 a = some a') : am_E sL sx am_cs 397 0 [(0, .ref 157), (1, .int x0), (2, .int x1)] [] H none (fun H1 => xS h b T a' H1) := by
  unfold f397_rollsDown at e
  refine ex_s (am_nb (m := 2) (pc1 := 2) (ls1 := [(3, .int x1), (0, .ref 157), (1, .int x0), (2, .int x1)]) (st1 := []) (H1 := H) (k1 := 0) (n1 := 0) (by with_unfolding_all rfl)) ?_
  obtain ⟨z6, e7, e⟩ := Option.bind_eq_some_iff.mp e
  refine le_E (l1 := [(0, .ref 157), (1, .int x0), (3, .int x1)]) ⟨rfl, rfl, rfl, trivial⟩ rfl (tl397_2 (z := z6)  (fun uz6_0 Hz60 sz60 => ?_) N x1 a H hS e7)
  refine ex_s (am_nb (m := 2) (pc1 := 23) (ls1 := [(0, .ref 157), (1, .int x0)]) (st1 := [.int x0, .ref 157]) (H1 := Hz60) (k1 := 0) (n1 := 0) (by with_unfolding_all rfl)) ?_
  obtain ⟨a11, e10, e⟩ := xb1_some e
  refine ex_cv0 (as := [.int x0]) (rest := []) rfl rfl rfl rfl (sz60.obj rfl (by decide)) rfl (by with_unfolding_all rfl) (by with_unfolding_all rfl) (tf389_emptyRow sz60 e10) (fun H8 s9 => ?_)
  cases e
  exact ex_r (st_vret rfl rfl) s9

set_option maxRecDepth 100000 in
theorem tf396_backIndex {sL : Nat} {sx : Nat → Int32} {h b N : Nat} {T : List am_C} {a' : xA} {a : xA} {H : am_H} (hS : xS h b T a H) (e : f396_backIndex N h b a = some a') : am_E sL sx am_cs 396 0 [(0, .ref 157)] [] H none (fun H1 => xS h b T a' H1) := by
  unfold f396_backIndex at e
  refine ex_s (am_nb (m := 1) (pc1 := 1) (ls1 := [(0, .ref 157)]) (st1 := [.ref 157]) (H1 := H) (k1 := 0) (n1 := 0) (by with_unfolding_all rfl)) ?_
  refine xe_get (v := .int (a 157 93)) hS rfl rfl (by decide) rfl ?_
  refine ex_s (am_nb (m := 1) (pc1 := 5) (ls1 := [(0, .ref 157)]) (st1 := [.ref 157, .int (a 157 93)]) (H1 := H) (k1 := 0) (n1 := 0) (by with_unfolding_all rfl)) ?_
  refine xe_get (v := .int (a 157 95)) hS rfl rfl (by decide) rfl ?_
  refine ex_s (st_icmp rfl) ?_
  by_cases c2 : (a 157 93) = (a 157 95)
  · have e := (if_pos c2).symm.trans e
    refine ex_pc (if_pos c2) ?_
    refine ex_s (am_nb (m := 2) (pc1 := 13) (ls1 := [(0, .ref 157)]) (st1 := [.ref 157, .ref 157]) (H1 := H) (k1 := 0) (n1 := 0) (by with_unfolding_all rfl)) ?_
    refine xe_get (v := .int (a 157 95)) hS rfl rfl (by decide) rfl ?_
    refine ex_s (am_nb (m := 1) (pc1 := 17) (ls1 := [(0, .ref 157)]) (st1 := [.ref 157, .int (a 157 95), .ref 157]) (H1 := H) (k1 := 0) (n1 := 0) (by with_unfolding_all rfl)) ?_
    refine xe_get (v := .int (a 157 96)) hS rfl rfl (by decide) rfl ?_
    obtain ⟨a6, e5, e⟩ := xb1_some e
    refine ex_cv0 (as := [.int (a 157 95), .int (a 157 96)]) (rest := []) rfl rfl rfl rfl (hS.obj rfl (by decide)) rfl (by with_unfolding_all rfl) (by with_unfolding_all rfl) (tf397_rollsDown hS e5) (fun H3 s4 => ?_)
    refine ex_s (am_nb (m := 2) (pc1 := 25) (ls1 := [(0, .ref 157)]) (st1 := [.int 3, .ref 157]) (H1 := H3) (k1 := 0) (n1 := 0) (by with_unfolding_all rfl)) ?_
    obtain ⟨a7, ha7, e⟩ := xw_some e
    refine xe_put (w := 3) s4 rfl rfl (by decide) rfl rfl rfl rfl (fun H8 s9 => ?_)
    have s9 : xS h b T a7 H8 := by rw [ha7]; exact s9
    refine ex_s (am_nb (m := 2) (pc1 := 30) (ls1 := [(0, .ref 157)]) (st1 := [.ref 157, .ref 157]) (H1 := H8) (k1 := 0) (n1 := 0) (by with_unfolding_all rfl)) ?_
    refine xe_get (v := .int (a7 157 93)) s9 rfl rfl (by decide) rfl ?_
    refine ex_s (am_nb (m := 1) (pc1 := 34) (ls1 := [(0, .ref 157)]) (st1 := [.ref 157, .int (a7 157 93), .ref 157]) (H1 := H8) (k1 := 0) (n1 := 0) (by with_unfolding_all rfl)) ?_
    refine xe_get (v := .int (a7 157 94)) s9 rfl rfl (by decide) rfl ?_
    obtain ⟨a13, e12, e⟩ := xb1_some e
    refine ex_cv0 (as := [.int (a7 157 93), .int (a7 157 94)]) (rest := []) rfl rfl rfl rfl (s9.obj rfl (by decide)) rfl (by with_unfolding_all rfl) (by with_unfolding_all rfl) (tf384_goes s9 e12) (fun H10 s11 => ?_)
    refine ex_s (am_nb (m := 1) (pc1 := 61) (ls1 := [(0, .ref 157)]) (st1 := []) (H1 := H10) (k1 := 0) (n1 := 0) (by with_unfolding_all rfl)) ?_
    cases e
    exact ex_r (st_vret rfl rfl) s11
  · have e := (if_neg c2).symm.trans e
    refine ex_pc (if_neg c2) ?_
    refine ex_s (am_nb (m := 2) (pc1 := 45) (ls1 := [(0, .ref 157)]) (st1 := [.ref 157, .ref 157]) (H1 := H) (k1 := 0) (n1 := 0) (by with_unfolding_all rfl)) ?_
    refine xe_get (v := .int (a 157 93)) hS rfl rfl (by decide) rfl ?_
    refine ex_s (am_nb (m := 5) (pc1 := 55) (ls1 := [(0, .ref 157)]) (st1 := [.ref 157, .int (xmax ((a 157 93) - 1) 0), .ref 157]) (H1 := H) (k1 := 0) (n1 := 0) (by with_unfolding_all rfl)) ?_
    refine xe_get (v := .int (a 157 94)) hS rfl rfl (by decide) rfl ?_
    obtain ⟨a17, e16, e⟩ := xb1_some e
    refine ex_cv0 (as := [.int (xmax ((a 157 93) - 1) 0), .int (a 157 94)]) (rest := []) rfl rfl rfl rfl (hS.obj rfl (by decide)) rfl (by with_unfolding_all rfl) (by with_unfolding_all rfl) (tf384_goes hS e16) (fun H14 s15 => ?_)
    cases e
    exact ex_r (st_vret rfl rfl) s15

set_option maxRecDepth 100000 in
theorem tf398_tells {sL : Nat} {sx : Nat → Int32} {h b N : Nat} {T : List am_C} {a' : xA} {a : xA} {H : am_H} (hS : xS h b T a H) (e : f398_tells N h b a = some a') : am_E sL sx am_cs 398 0 [(0, .ref 157)] [] H none (fun H1 => xS h b T a' H1) := by
  unfold f398_tells at e
  refine ex_s (am_nb (m := 2) (pc1 := 3) (ls1 := [(0, .ref 157)]) (st1 := [.int 27, .ref 157]) (H1 := H) (k1 := 0) (n1 := 0) (by with_unfolding_all rfl)) ?_
  obtain ⟨a4, e3, e⟩ := xb1_some e
  refine ex_cv0 (as := [.int 27]) (rest := []) rfl rfl rfl rfl (hS.obj rfl (by decide)) rfl (by with_unfolding_all rfl) (by with_unfolding_all rfl) (tf380_replies hS e3) (fun H1 s2 => ?_)
  refine ex_s (am_nb (m := 2) (pc1 := 9) (ls1 := [(0, .ref 157)]) (st1 := [.int 91, .ref 157]) (H1 := H1) (k1 := 0) (n1 := 0) (by with_unfolding_all rfl)) ?_
  obtain ⟨a8, e7, e⟩ := xb1_some e
  refine ex_cv0 (as := [.int 91]) (rest := []) rfl rfl rfl rfl (s2.obj rfl (by decide)) rfl (by with_unfolding_all rfl) (by with_unfolding_all rfl) (tf380_replies s2 e7) (fun H5 s6 => ?_)
  refine ex_s (am_nb (m := 2) (pc1 := 15) (ls1 := [(0, .ref 157)]) (st1 := [.int 63, .ref 157]) (H1 := H5) (k1 := 0) (n1 := 0) (by with_unfolding_all rfl)) ?_
  obtain ⟨a12, e11, e⟩ := xb1_some e
  refine ex_cv0 (as := [.int 63]) (rest := []) rfl rfl rfl rfl (s6.obj rfl (by decide)) rfl (by with_unfolding_all rfl) (by with_unfolding_all rfl) (tf380_replies s6 e11) (fun H9 s10 => ?_)
  refine ex_s (am_nb (m := 2) (pc1 := 21) (ls1 := [(0, .ref 157)]) (st1 := [.int 49, .ref 157]) (H1 := H9) (k1 := 0) (n1 := 0) (by with_unfolding_all rfl)) ?_
  obtain ⟨a16, e15, e⟩ := xb1_some e
  refine ex_cv0 (as := [.int 49]) (rest := []) rfl rfl rfl rfl (s10.obj rfl (by decide)) rfl (by with_unfolding_all rfl) (by with_unfolding_all rfl) (tf380_replies s10 e15) (fun H13 s14 => ?_)
  refine ex_s (am_nb (m := 2) (pc1 := 27) (ls1 := [(0, .ref 157)]) (st1 := [.int 59, .ref 157]) (H1 := H13) (k1 := 0) (n1 := 0) (by with_unfolding_all rfl)) ?_
  obtain ⟨a20, e19, e⟩ := xb1_some e
  refine ex_cv0 (as := [.int 59]) (rest := []) rfl rfl rfl rfl (s14.obj rfl (by decide)) rfl (by with_unfolding_all rfl) (by with_unfolding_all rfl) (tf380_replies s14 e19) (fun H17 s18 => ?_)
  refine ex_s (am_nb (m := 2) (pc1 := 33) (ls1 := [(0, .ref 157)]) (st1 := [.int 50, .ref 157]) (H1 := H17) (k1 := 0) (n1 := 0) (by with_unfolding_all rfl)) ?_
  obtain ⟨a24, e23, e⟩ := xb1_some e
  refine ex_cv0 (as := [.int 50]) (rest := []) rfl rfl rfl rfl (s18.obj rfl (by decide)) rfl (by with_unfolding_all rfl) (by with_unfolding_all rfl) (tf380_replies s18 e23) (fun H21 s22 => ?_)
  refine ex_s (am_nb (m := 2) (pc1 := 39) (ls1 := [(0, .ref 157)]) (st1 := [.int 99, .ref 157]) (H1 := H21) (k1 := 0) (n1 := 0) (by with_unfolding_all rfl)) ?_
  obtain ⟨a28, e27, e⟩ := xb1_some e
  refine ex_cv0 (as := [.int 99]) (rest := []) rfl rfl rfl rfl (s22.obj rfl (by decide)) rfl (by with_unfolding_all rfl) (by with_unfolding_all rfl) (tf380_replies s22 e27) (fun H25 s26 => ?_)
  refine ex_s (am_nb (m := 1) (pc1 := 43) (ls1 := [(0, .ref 157)]) (st1 := [.ref 157]) (H1 := H25) (k1 := 0) (n1 := 0) (by with_unfolding_all rfl)) ?_
  obtain ⟨r32, a33, e31, e⟩ := xb2_some e
  refine ex_cv1 (as := []) (rest := []) rfl rfl rfl rfl (s26.obj rfl (by decide)) rfl (by with_unfolding_all rfl) (by with_unfolding_all rfl) (tf381_answer s26 e31) (fun H29 s30 => ?_)
  refine ex_s (am_nb (m := 1) (pc1 := 47) (ls1 := [(0, .ref 157)]) (st1 := []) (H1 := H29) (k1 := 0) (n1 := 0) (by with_unfolding_all rfl)) ?_
  cases e
  exact ex_r (st_vret rfl rfl) s30

set_option maxRecDepth 100000 in
theorem tf395_plainEscape {sL : Nat} {sx : Nat → Int32} {h b N : Nat} {T : List am_C} {a' : xA} {x0 : Int32} {a : xA} {H : am_H} (hS : xS h b T a H) (e : f395_plainEscape N h b x0 a = some a') : am_E sL sx am_cs 395 0 [(0, .ref 157), (1, .int x0)] [] H none (fun H1 => xS h b T a' H1) := by
  unfold f395_plainEscape at e
  refine ex_s (am_nb (m := 1) (pc1 := 1) (ls1 := [(0, .ref 157), (1, .int x0)]) (st1 := [.int x0]) (H1 := H) (k1 := 0) (n1 := 0) (by with_unfolding_all rfl)) ?_
  refine ex_s (st_lsw rfl) ?_
  by_cases c1 : x0 = 55
  · have e := (if_pos c1).symm.trans e
    refine ex_pc (pc1 := 92) (by rw [c1]; with_unfolding_all rfl) ?_
    refine ex_s (am_nb (m := 1) (pc1 := 93) (ls1 := [(0, .ref 157), (1, .int x0)]) (st1 := [.ref 157]) (H1 := H) (k1 := 0) (n1 := 0) (by with_unfolding_all rfl)) ?_
    obtain ⟨a5, e4, e⟩ := xb1_some e
    refine ex_cv0 (as := []) (rest := []) rfl rfl rfl rfl (hS.obj rfl (by decide)) rfl (by with_unfolding_all rfl) (by with_unfolding_all rfl) (tf362_saves hS e4) (fun H2 s3 => ?_)
    refine ex_s (am_nb (m := 1) (pc1 := 261) (ls1 := [(0, .ref 157), (1, .int x0)]) (st1 := []) (H1 := H2) (k1 := 0) (n1 := 0) (by with_unfolding_all rfl)) ?_
    cases e
    exact ex_r (st_vret rfl rfl) s3
  · have e := (if_neg c1).symm.trans e
    by_cases c6 : x0 = 56
    · have e := (if_pos c6).symm.trans e
      refine ex_pc (pc1 := 99) (by rw [c6]; with_unfolding_all rfl) ?_
      refine ex_s (am_nb (m := 2) (pc1 := 101) (ls1 := [(0, .ref 157), (1, .int x0)]) (st1 := [.ref 157, .ref 157]) (H1 := H) (k1 := 0) (n1 := 0) (by with_unfolding_all rfl)) ?_
      refine xe_get (v := .int (a 157 106)) hS rfl rfl (by decide) rfl ?_
      obtain ⟨a7, ha7, e⟩ := xw_some e
      refine xe_put (w := (a 157 106)) hS rfl rfl (by decide) rfl rfl rfl rfl (fun H8 s9 => ?_)
      have s9 : xS h b T a7 H8 := by rw [ha7]; exact s9
      refine ex_s (am_nb (m := 2) (pc1 := 109) (ls1 := [(0, .ref 157), (1, .int x0)]) (st1 := [.ref 157, .ref 157]) (H1 := H8) (k1 := 0) (n1 := 0) (by with_unfolding_all rfl)) ?_
      refine xe_get (v := .int (a7 157 111)) s9 rfl rfl (by decide) rfl ?_
      obtain ⟨g13, e⟩ := xg_some e
      obtain ⟨a10, ha10, e⟩ := xw_some e
      refine xe_put (w := (a7 157 111)) s9 rfl rfl (by decide) rfl rfl (xfit_z g13) rfl (fun H11 s12 => ?_)
      have s12 : xS h b T a10 H11 := by rw [ha10]; exact s12
      refine ex_s (am_nb (m := 2) (pc1 := 117) (ls1 := [(0, .ref 157), (1, .int x0)]) (st1 := [.ref 157, .ref 157]) (H1 := H11) (k1 := 0) (n1 := 0) (by with_unfolding_all rfl)) ?_
      refine xe_get (v := .int (a10 157 112)) s12 rfl rfl (by decide) rfl ?_
      obtain ⟨g17, e⟩ := xg_some e
      obtain ⟨a14, ha14, e⟩ := xw_some e
      refine xe_put (w := (a10 157 112)) s12 rfl rfl (by decide) rfl rfl (xfit_z g17) rfl (fun H15 s16 => ?_)
      have s16 : xS h b T a14 H15 := by rw [ha14]; exact s16
      refine ex_s (am_nb (m := 2) (pc1 := 125) (ls1 := [(0, .ref 157), (1, .int x0)]) (st1 := [.ref 157, .ref 157]) (H1 := H15) (k1 := 0) (n1 := 0) (by with_unfolding_all rfl)) ?_
      refine xe_get (v := .int (a14 157 107)) s16 rfl rfl (by decide) rfl ?_
      obtain ⟨a18, ha18, e⟩ := xw_some e
      refine xe_put (w := (a14 157 107)) s16 rfl rfl (by decide) rfl rfl rfl rfl (fun H19 s20 => ?_)
      have s20 : xS h b T a18 H19 := by rw [ha18]; exact s20
      refine ex_s (am_nb (m := 2) (pc1 := 133) (ls1 := [(0, .ref 157), (1, .int x0)]) (st1 := [.ref 157, .ref 157]) (H1 := H19) (k1 := 0) (n1 := 0) (by with_unfolding_all rfl)) ?_
      refine xe_get (v := .int (a18 157 113)) s20 rfl rfl (by decide) rfl ?_
      have kk : am_E sL sx am_cs 395 156 [(0, .ref 157), (1, .int x0)] [.int (if (a18 157 113) = 0 then ((a18 157 98) &&& (-17)) else ((a18 157 98) ||| 16)), .ref 157] H19 none (fun H1 => xS h b T a' H1) := by
        obtain ⟨a22, ha22, e⟩ := xw_some e
        refine xe_put (w := (if (a18 157 113) = 0 then ((a18 157 98) &&& (-17)) else ((a18 157 98) ||| 16))) s20 rfl rfl (by decide) rfl rfl rfl rfl (fun H23 s24 => ?_)
        have s24 : xS h b T a22 H23 := by rw [ha22]; exact s24
        refine ex_s (am_nb (m := 2) (pc1 := 161) (ls1 := [(0, .ref 157), (1, .int x0)]) (st1 := [.ref 157, .ref 157]) (H1 := H23) (k1 := 0) (n1 := 0) (by with_unfolding_all rfl)) ?_
        refine xe_get (v := .int (a22 157 104)) s24 rfl rfl (by decide) rfl ?_
        refine ex_s (am_nb (m := 1) (pc1 := 165) (ls1 := [(0, .ref 157), (1, .int x0)]) (st1 := [.ref 157, .int (a22 157 104), .ref 157]) (H1 := H23) (k1 := 0) (n1 := 0) (by with_unfolding_all rfl)) ?_
        refine xe_get (v := .int (a22 157 105)) s24 rfl rfl (by decide) rfl ?_
        obtain ⟨a28, e27, e⟩ := xb1_some e
        refine ex_cv0 (as := [.int (a22 157 104), .int (a22 157 105)]) (rest := []) rfl rfl rfl rfl (s24.obj rfl (by decide)) rfl (by with_unfolding_all rfl) (by with_unfolding_all rfl) (tf384_goes s24 e27) (fun H25 s26 => ?_)
        refine ex_s (am_nb (m := 1) (pc1 := 261) (ls1 := [(0, .ref 157), (1, .int x0)]) (st1 := []) (H1 := H25) (k1 := 0) (n1 := 0) (by with_unfolding_all rfl)) ?_
        cases e
        exact ex_r (st_vret rfl rfl) s26
      refine ex_s (st_if rfl) ?_
      by_cases c21 : (a18 157 113) = 0
      · refine ex_pc (if_pos c21) ?_
        refine ex_s (am_nb (m := 1) (pc1 := 150) (ls1 := [(0, .ref 157), (1, .int x0)]) (st1 := [.ref 157, .ref 157]) (H1 := H19) (k1 := 0) (n1 := 0) (by with_unfolding_all rfl)) ?_
        refine xe_get (v := .int (a18 157 98)) s20 rfl rfl (by decide) rfl ?_
        refine ex_s (am_nb (m := 2) (pc1 := 156) (ls1 := [(0, .ref 157), (1, .int x0)]) (st1 := [.int ((a18 157 98) &&& (-17)), .ref 157]) (H1 := H19) (k1 := 0) (n1 := 0) (by with_unfolding_all rfl)) ?_
        rw [if_pos c21] at kk
        exact kk
      · refine ex_pc (if_neg c21) ?_
        refine ex_s (am_nb (m := 1) (pc1 := 140) (ls1 := [(0, .ref 157), (1, .int x0)]) (st1 := [.ref 157, .ref 157]) (H1 := H19) (k1 := 0) (n1 := 0) (by with_unfolding_all rfl)) ?_
        refine xe_get (v := .int (a18 157 98)) s20 rfl rfl (by decide) rfl ?_
        refine ex_s (am_nb (m := 3) (pc1 := 156) (ls1 := [(0, .ref 157), (1, .int x0)]) (st1 := [.int ((a18 157 98) ||| 16), .ref 157]) (H1 := H19) (k1 := 0) (n1 := 0) (by with_unfolding_all rfl)) ?_
        rw [if_neg c21] at kk
        exact kk
    · have e := (if_neg c6).symm.trans e
      by_cases c29 : x0 = 61
      · have e := (if_pos c29).symm.trans e
        refine ex_pc (pc1 := 231) (by rw [c29]; with_unfolding_all rfl) ?_
        refine ex_s (am_nb (m := 2) (pc1 := 233) (ls1 := [(0, .ref 157), (1, .int x0)]) (st1 := [.ref 157, .ref 157]) (H1 := H) (k1 := 0) (n1 := 0) (by with_unfolding_all rfl)) ?_
        refine xe_get (v := .int (a 157 98)) hS rfl rfl (by decide) rfl ?_
        refine ex_s (am_nb (m := 2) (pc1 := 240) (ls1 := [(0, .ref 157), (1, .int x0)]) (st1 := [.int ((a 157 98) ||| 128), .ref 157]) (H1 := H) (k1 := 0) (n1 := 0) (by with_unfolding_all rfl)) ?_
        obtain ⟨a30, ha30, e⟩ := xw_some e
        refine xe_put (w := ((a 157 98) ||| 128)) hS rfl rfl (by decide) rfl rfl rfl rfl (fun H31 s32 => ?_)
        have s32 : xS h b T a30 H31 := by rw [ha30]; exact s32
        refine ex_s (am_nb (m := 1) (pc1 := 261) (ls1 := [(0, .ref 157), (1, .int x0)]) (st1 := []) (H1 := H31) (k1 := 0) (n1 := 0) (by with_unfolding_all rfl)) ?_
        cases e
        exact ex_r (st_vret rfl rfl) s32
      · have e := (if_neg c29).symm.trans e
        by_cases c33 : x0 = 62
        · have e := (if_pos c33).symm.trans e
          refine ex_pc (pc1 := 246) (by rw [c33]; with_unfolding_all rfl) ?_
          refine ex_s (am_nb (m := 2) (pc1 := 248) (ls1 := [(0, .ref 157), (1, .int x0)]) (st1 := [.ref 157, .ref 157]) (H1 := H) (k1 := 0) (n1 := 0) (by with_unfolding_all rfl)) ?_
          refine xe_get (v := .int (a 157 98)) hS rfl rfl (by decide) rfl ?_
          refine ex_s (am_nb (m := 2) (pc1 := 255) (ls1 := [(0, .ref 157), (1, .int x0)]) (st1 := [.int ((a 157 98) &&& (-129)), .ref 157]) (H1 := H) (k1 := 0) (n1 := 0) (by with_unfolding_all rfl)) ?_
          obtain ⟨a34, ha34, e⟩ := xw_some e
          refine xe_put (w := ((a 157 98) &&& (-129))) hS rfl rfl (by decide) rfl rfl rfl rfl (fun H35 s36 => ?_)
          have s36 : xS h b T a34 H35 := by rw [ha34]; exact s36
          refine ex_s (am_nb (m := 1) (pc1 := 261) (ls1 := [(0, .ref 157), (1, .int x0)]) (st1 := []) (H1 := H35) (k1 := 0) (n1 := 0) (by with_unfolding_all rfl)) ?_
          cases e
          exact ex_r (st_vret rfl rfl) s36
        · have e := (if_neg c33).symm.trans e
          by_cases c37 : x0 = 68
          · have e := (if_pos c37).symm.trans e
            refine ex_pc (pc1 := 174) (by rw [c37]; with_unfolding_all rfl) ?_
            refine ex_s (am_nb (m := 1) (pc1 := 175) (ls1 := [(0, .ref 157), (1, .int x0)]) (st1 := [.ref 157]) (H1 := H) (k1 := 0) (n1 := 0) (by with_unfolding_all rfl)) ?_
            obtain ⟨a41, e40, e⟩ := xb1_some e
            refine ex_cv0 (as := []) (rest := []) rfl rfl rfl rfl (hS.obj rfl (by decide)) rfl (by with_unfolding_all rfl) (by with_unfolding_all rfl) (tf386_index hS e40) (fun H38 s39 => ?_)
            refine ex_s (am_nb (m := 1) (pc1 := 261) (ls1 := [(0, .ref 157), (1, .int x0)]) (st1 := []) (H1 := H38) (k1 := 0) (n1 := 0) (by with_unfolding_all rfl)) ?_
            cases e
            exact ex_r (st_vret rfl rfl) s39
          · have e := (if_neg c37).symm.trans e
            by_cases c42 : x0 = 69
            · have e := (if_pos c42).symm.trans e
              refine ex_pc (pc1 := 181) (by rw [c42]; with_unfolding_all rfl) ?_
              refine ex_s (am_nb (m := 2) (pc1 := 183) (ls1 := [(0, .ref 157), (1, .int x0)]) (st1 := [.ref 157, .ref 157]) (H1 := H) (k1 := 0) (n1 := 0) (by with_unfolding_all rfl)) ?_
              refine xe_get (v := .int (a 157 93)) hS rfl rfl (by decide) rfl ?_
              refine ex_s (am_nb (m := 1) (pc1 := 187) (ls1 := [(0, .ref 157), (1, .int x0)]) (st1 := [.int 0, .int (a 157 93), .ref 157]) (H1 := H) (k1 := 0) (n1 := 0) (by with_unfolding_all rfl)) ?_
              obtain ⟨a46, e45, e⟩ := xb1_some e
              refine ex_cv0 (as := [.int (a 157 93), .int 0]) (rest := []) rfl rfl rfl rfl (hS.obj rfl (by decide)) rfl (by with_unfolding_all rfl) (by with_unfolding_all rfl) (tf384_goes hS e45) (fun H43 s44 => ?_)
              refine ex_s (am_nb (m := 1) (pc1 := 191) (ls1 := [(0, .ref 157), (1, .int x0)]) (st1 := [.ref 157]) (H1 := H43) (k1 := 0) (n1 := 0) (by with_unfolding_all rfl)) ?_
              obtain ⟨a50, e49, e⟩ := xb1_some e
              refine ex_cv0 (as := []) (rest := []) rfl rfl rfl rfl (s44.obj rfl (by decide)) rfl (by with_unfolding_all rfl) (by with_unfolding_all rfl) (tf386_index s44 e49) (fun H47 s48 => ?_)
              refine ex_s (am_nb (m := 1) (pc1 := 261) (ls1 := [(0, .ref 157), (1, .int x0)]) (st1 := []) (H1 := H47) (k1 := 0) (n1 := 0) (by with_unfolding_all rfl)) ?_
              cases e
              exact ex_r (st_vret rfl rfl) s48
            · have e := (if_neg c42).symm.trans e
              by_cases c51 : x0 = 72
              · have e := (if_pos c51).symm.trans e
                refine ex_pc (pc1 := 204) (by rw [c51]; with_unfolding_all rfl) ?_
                refine ex_s (am_nb (m := 1) (pc1 := 205) (ls1 := [(0, .ref 157), (1, .int x0)]) (st1 := [.ref 157]) (H1 := H) (k1 := 0) (n1 := 0) (by with_unfolding_all rfl)) ?_
                refine xe_get (v := .ref 192) hS rfl rfl (by decide) rfl ?_
                refine ex_s (am_nb (m := 1) (pc1 := 209) (ls1 := [(0, .ref 157), (1, .int x0)]) (st1 := [.ref 157, .ref 192]) (H1 := H) (k1 := 0) (n1 := 0) (by with_unfolding_all rfl)) ?_
                refine xe_get (v := .int (a 157 94)) hS rfl rfl (by decide) rfl ?_
                refine ex_s (am_nb (m := 1) (pc1 := 213) (ls1 := [(0, .ref 157), (1, .int x0)]) (st1 := [.int 1, .int (a 157 94), .ref 192]) (H1 := H) (k1 := 0) (n1 := 0) (by with_unfolding_all rfl)) ?_
                obtain ⟨g55, e⟩ := xg_some e
                obtain ⟨a52, ha52, e⟩ := xw_some e
                refine xe_zast hS rfl rfl g55 (fun H53 s54 => ?_)
                have s54 : xS h b T a52 H53 := by rw [ha52]; exact s54
                refine ex_s (am_nb (m := 1) (pc1 := 261) (ls1 := [(0, .ref 157), (1, .int x0)]) (st1 := []) (H1 := H53) (k1 := 0) (n1 := 0) (by with_unfolding_all rfl)) ?_
                cases e
                exact ex_r (st_vret rfl rfl) s54
              · have e := (if_neg c51).symm.trans e
                by_cases c56 : x0 = 77
                · have e := (if_pos c56).symm.trans e
                  refine ex_pc (pc1 := 197) (by rw [c56]; with_unfolding_all rfl) ?_
                  refine ex_s (am_nb (m := 1) (pc1 := 198) (ls1 := [(0, .ref 157), (1, .int x0)]) (st1 := [.ref 157]) (H1 := H) (k1 := 0) (n1 := 0) (by with_unfolding_all rfl)) ?_
                  obtain ⟨a60, e59, e⟩ := xb1_some e
                  refine ex_cv0 (as := []) (rest := []) rfl rfl rfl rfl (hS.obj rfl (by decide)) rfl (by with_unfolding_all rfl) (by with_unfolding_all rfl) (tf396_backIndex hS e59) (fun H57 s58 => ?_)
                  refine ex_s (am_nb (m := 1) (pc1 := 261) (ls1 := [(0, .ref 157), (1, .int x0)]) (st1 := []) (H1 := H57) (k1 := 0) (n1 := 0) (by with_unfolding_all rfl)) ?_
                  cases e
                  exact ex_r (st_vret rfl rfl) s58
                · have e := (if_neg c56).symm.trans e
                  by_cases c61 : x0 = 90
                  · have e := (if_pos c61).symm.trans e
                    refine ex_pc (pc1 := 217) (by rw [c61]; with_unfolding_all rfl) ?_
                    refine ex_s (am_nb (m := 1) (pc1 := 218) (ls1 := [(0, .ref 157), (1, .int x0)]) (st1 := [.ref 157]) (H1 := H) (k1 := 0) (n1 := 0) (by with_unfolding_all rfl)) ?_
                    obtain ⟨a65, e64, e⟩ := xb1_some e
                    refine ex_cv0 (as := []) (rest := []) rfl rfl rfl rfl (hS.obj rfl (by decide)) rfl (by with_unfolding_all rfl) (by with_unfolding_all rfl) (tf398_tells hS e64) (fun H62 s63 => ?_)
                    refine ex_s (am_nb (m := 1) (pc1 := 261) (ls1 := [(0, .ref 157), (1, .int x0)]) (st1 := []) (H1 := H62) (k1 := 0) (n1 := 0) (by with_unfolding_all rfl)) ?_
                    cases e
                    exact ex_r (st_vret rfl rfl) s63
                  · have e := (if_neg c61).symm.trans e
                    by_cases c66 : x0 = 99
                    · have e := (if_pos c66).symm.trans e
                      refine ex_pc (pc1 := 224) (by rw [c66]; with_unfolding_all rfl) ?_
                      refine ex_s (am_nb (m := 1) (pc1 := 225) (ls1 := [(0, .ref 157), (1, .int x0)]) (st1 := [.ref 157]) (H1 := H) (k1 := 0) (n1 := 0) (by with_unfolding_all rfl)) ?_
                      obtain ⟨a70, e69, e⟩ := xb1_some e
                      refine ex_cv0 (as := []) (rest := []) rfl rfl rfl rfl (hS.obj rfl (by decide)) rfl (by with_unfolding_all rfl) (by with_unfolding_all rfl) (tf361_anew hS e69) (fun H67 s68 => ?_)
                      refine ex_s (am_nb (m := 1) (pc1 := 261) (ls1 := [(0, .ref 157), (1, .int x0)]) (st1 := []) (H1 := H67) (k1 := 0) (n1 := 0) (by with_unfolding_all rfl)) ?_
                      cases e
                      exact ex_r (st_vret rfl rfl) s68
                    · have e := (if_neg c66).symm.trans e
                      refine ex_pc (pc1 := 261) (am_sw_n (sw_c (Or.inl c1) (sw_c (Or.inl c6) (sw_c (Or.inl c29) (sw_c (Or.inl c33) (sw_c (Or.inl c37) (sw_c (Or.inl c42) (sw_c (Or.inl c51) (sw_c (Or.inl c56) (sw_c (Or.inl c61) (sw_c (Or.inl c66) sw_o))))))))))) ?_
                      cases e
                      exact ex_r (st_vret rfl rfl) hS

set_option maxRecDepth 100000 in
theorem tj393_227 {sL : Nat} {sx : Nat → Int32} {h b N : Nat} {T : List am_C} {a' : xA} {a : xA} {H : am_H} (hS : xS h b T a H) (e : j393_227 N h b a = some a') : am_E sL sx am_cs 393 227 [(0, .ref 157)] [] H none (fun H1 => xS h b T a' H1) := by
  unfold j393_227 at e
  refine ex_s (am_nb (m := 2) (pc1 := 229) (ls1 := [(0, .ref 157)]) (st1 := [.int 5, .ref 157]) (H1 := H) (k1 := 0) (n1 := 0) (by with_unfolding_all rfl)) ?_
  obtain ⟨a33, ha33, e⟩ := xw_some e
  refine xe_put (w := 5) hS rfl rfl (by decide) rfl rfl rfl rfl (fun H34 s35 => ?_)
  have s35 : xS h b T a33 H34 := by rw [ha33]; exact s35
  refine ex_s (am_nb (m := 1) (pc1 := 240) (ls1 := [(0, .ref 157)]) (st1 := []) (H1 := H34) (k1 := 0) (n1 := 0) (by with_unfolding_all rfl)) ?_
  cases e
  exact ex_r (st_vret rfl rfl) s35

set_option maxRecDepth 100000 in
theorem tj393_158 {sL : Nat} {sx : Nat → Int32} {h b N : Nat} {T : List am_C} {a' : xA} {a : xA} {H : am_H} (hS : xS h b T a H) (e : j393_158 N h b a = some a') : am_E sL sx am_cs 393 158 [] [] H none (fun H1 => xS h b T a' H1) := by
  unfold j393_158 at e
  refine ex_s (am_nb (m := 1) (pc1 := 240) (ls1 := []) (st1 := []) (H1 := H) (k1 := 0) (n1 := 0) (by with_unfolding_all rfl)) ?_
  cases e
  exact ex_r (st_vret rfl rfl) hS

set_option maxRecDepth 100000 in
theorem tj393_130 {sL : Nat} {sx : Nat → Int32} {h b N : Nat} {T : List am_C} {a' : xA} {q1 : Int32} {q2 : Int32} {a : xA} {H : am_H} (hS : xS h b T a H) (e : j393_130 N h b q1 q2 a = some a') : am_E sL sx am_cs 393 130 [(0, .ref 157), (1, .int q1), (2, .int q2)] [] H none (fun H1 => xS h b T a' H1) := by
  unfold j393_130 at e
  refine ex_s (am_nb (m := 1) (pc1 := 131) (ls1 := [(0, .ref 157), (1, .int q1), (2, .int q2)]) (st1 := [.int q2]) (H1 := H) (k1 := 0) (n1 := 0) (by with_unfolding_all rfl)) ?_
  refine ex_s (st_if rfl) ?_
  by_cases c64 : q2 = 0
  · have e := (if_pos c64).symm.trans e
    refine ex_pc (if_pos c64) ?_
    exact le_E (l1 := []) trivial rfl (tj393_158  hS e)
  · have e := (if_neg c64).symm.trans e
    refine ex_pc (if_neg c64) ?_
    refine ex_s (am_nb (m := 1) (pc1 := 135) (ls1 := [(0, .ref 157), (1, .int q1), (2, .int q2)]) (st1 := [.ref 157]) (H1 := H) (k1 := 0) (n1 := 0) (by with_unfolding_all rfl)) ?_
    refine xe_get (v := .int (a 157 102)) hS rfl rfl (by decide) rfl ?_
    refine ex_s (am_nb (m := 1) (pc1 := 140) (ls1 := [(0, .ref 157), (1, .int q1), (2, .int q2)]) (st1 := [.int 41, .int (a 157 102)]) (H1 := H) (k1 := 0) (n1 := 0) (by with_unfolding_all rfl)) ?_
    refine ex_s (st_icmp rfl) ?_
    by_cases c67 : (a 157 102) = 41
    · have e := (if_pos c67).symm.trans e
      refine ex_pc (if_pos c67) ?_
      refine ex_s (am_nb (m := 3) (pc1 := 147) (ls1 := [(0, .ref 157), (1, .int q1), (2, .int q2)]) (st1 := [.int 48, .int q1, .ref 157]) (H1 := H) (k1 := 0) (n1 := 0) (by with_unfolding_all rfl)) ?_
      have kk : am_E sL sx am_cs 393 155 [(0, .ref 157), (1, .int q1), (2, .int q2)] [.int (if q1 = 48 then (1 : Int32) else (0 : Int32)), .ref 157] H none (fun H1 => xS h b T a' H1) := by
        obtain ⟨g72, e⟩ := xg_some e
        obtain ⟨a69, ha69, e⟩ := xw_some e
        refine xe_put (w := (if q1 = 48 then (1 : Int32) else (0 : Int32))) hS rfl rfl (by decide) rfl rfl (xfit_z g72) rfl (fun H70 s71 => ?_)
        have s71 : xS h b T a69 H70 := by rw [ha69]; exact s71
        exact le_E (l1 := []) trivial rfl (tj393_158  s71 e)
      refine ex_s (st_icmp rfl) ?_
      by_cases c68 : q1 = 48
      · refine ex_pc (if_pos c68) ?_
        refine ex_s (am_nb (m := 2) (pc1 := 155) (ls1 := [(0, .ref 157), (1, .int q1), (2, .int q2)]) (st1 := [.int 1, .ref 157]) (H1 := H) (k1 := 0) (n1 := 0) (by with_unfolding_all rfl)) ?_
        rw [if_pos c68] at kk
        exact kk
      · refine ex_pc (if_neg c68) ?_
        refine ex_s (am_nb (m := 1) (pc1 := 155) (ls1 := [(0, .ref 157), (1, .int q1), (2, .int q2)]) (st1 := [.int 0, .ref 157]) (H1 := H) (k1 := 0) (n1 := 0) (by with_unfolding_all rfl)) ?_
        rw [if_neg c68] at kk
        exact kk
    · have e := (if_neg c67).symm.trans e
      refine ex_pc (if_neg c67) ?_
      exact le_E (l1 := []) trivial rfl (tj393_158  hS e)

set_option maxRecDepth 100000 in
theorem tj393_101 {sL : Nat} {sx : Nat → Int32} {h b N : Nat} {T : List am_C} {a' : xA} {q1 : Int32} {t0 : Int32} {a : xA} {H : am_H} (hS : xS h b T a H) (e : j393_101 N h b q1 t0 a = some a') : am_E sL sx am_cs 393 101 [(0, .ref 157), (1, .int q1)] [.int t0] H none (fun H1 => xS h b T a' H1) := by
  unfold j393_101 at e
  refine ex_s (am_nb (m := 2) (pc1 := 103) (ls1 := [(2, .int t0), (0, .ref 157), (1, .int q1)]) (st1 := [.int t0]) (H1 := H) (k1 := 0) (n1 := 0) (by with_unfolding_all rfl)) ?_
  refine ex_s (st_if rfl) ?_
  by_cases c60 : t0 = 0
  · have e := (if_pos c60).symm.trans e
    refine ex_pc (if_pos c60) ?_
    exact le_E (l1 := [(0, .ref 157), (1, .int q1), (2, .int t0)]) ⟨rfl, rfl, rfl, trivial⟩ rfl (tj393_130  hS e)
  · have e := (if_neg c60).symm.trans e
    refine ex_pc (if_neg c60) ?_
    refine ex_s (am_nb (m := 1) (pc1 := 107) (ls1 := [(2, .int t0), (0, .ref 157), (1, .int q1)]) (st1 := [.ref 157]) (H1 := H) (k1 := 0) (n1 := 0) (by with_unfolding_all rfl)) ?_
    refine xe_get (v := .int (a 157 102)) hS rfl rfl (by decide) rfl ?_
    refine ex_s (am_nb (m := 1) (pc1 := 112) (ls1 := [(2, .int t0), (0, .ref 157), (1, .int q1)]) (st1 := [.int 40, .int (a 157 102)]) (H1 := H) (k1 := 0) (n1 := 0) (by with_unfolding_all rfl)) ?_
    refine ex_s (st_icmp rfl) ?_
    by_cases c75 : (a 157 102) = 40
    · have e := (if_pos c75).symm.trans e
      refine ex_pc (if_pos c75) ?_
      refine ex_s (am_nb (m := 3) (pc1 := 119) (ls1 := [(2, .int t0), (0, .ref 157), (1, .int q1)]) (st1 := [.int 48, .int q1, .ref 157]) (H1 := H) (k1 := 0) (n1 := 0) (by with_unfolding_all rfl)) ?_
      have kk : am_E sL sx am_cs 393 127 [(2, .int t0), (0, .ref 157), (1, .int q1)] [.int (if q1 = 48 then (1 : Int32) else (0 : Int32)), .ref 157] H none (fun H1 => xS h b T a' H1) := by
        obtain ⟨g80, e⟩ := xg_some e
        obtain ⟨a77, ha77, e⟩ := xw_some e
        refine xe_put (w := (if q1 = 48 then (1 : Int32) else (0 : Int32))) hS rfl rfl (by decide) rfl rfl (xfit_z g80) rfl (fun H78 s79 => ?_)
        have s79 : xS h b T a77 H78 := by rw [ha77]; exact s79
        exact le_E (l1 := [(0, .ref 157), (1, .int q1), (2, .int t0)]) ⟨rfl, rfl, rfl, trivial⟩ rfl (tj393_130  s79 e)
      refine ex_s (st_icmp rfl) ?_
      by_cases c76 : q1 = 48
      · refine ex_pc (if_pos c76) ?_
        refine ex_s (am_nb (m := 2) (pc1 := 127) (ls1 := [(2, .int t0), (0, .ref 157), (1, .int q1)]) (st1 := [.int 1, .ref 157]) (H1 := H) (k1 := 0) (n1 := 0) (by with_unfolding_all rfl)) ?_
        rw [if_pos c76] at kk
        exact kk
      · refine ex_pc (if_neg c76) ?_
        refine ex_s (am_nb (m := 1) (pc1 := 127) (ls1 := [(2, .int t0), (0, .ref 157), (1, .int q1)]) (st1 := [.int 0, .ref 157]) (H1 := H) (k1 := 0) (n1 := 0) (by with_unfolding_all rfl)) ?_
        rw [if_neg c76] at kk
        exact kk
    · have e := (if_neg c75).symm.trans e
      refine ex_pc (if_neg c75) ?_
      exact le_E (l1 := [(0, .ref 157), (1, .int q1), (2, .int t0)]) ⟨rfl, rfl, rfl, trivial⟩ rfl (tj393_130  hS e)

set_option maxRecDepth 100000 in
theorem tj393_96 {sL : Nat} {sx : Nat → Int32} {h b N : Nat} {T : List am_C} {a' : xA} {q1 : Int32} {a : xA} {H : am_H} (hS : xS h b T a H) (e : j393_96 N h b q1 a = some a') : am_E sL sx am_cs 393 96 [(0, .ref 157), (1, .int q1)] [] H none (fun H1 => xS h b T a' H1) := by
  unfold j393_96 at e
  refine ex_s (am_nb (m := 2) (pc1 := 101) (ls1 := [(0, .ref 157), (1, .int q1)]) (st1 := [.int 1]) (H1 := H) (k1 := 0) (n1 := 0) (by with_unfolding_all rfl)) ?_
  exact le_E (l1 := [(0, .ref 157), (1, .int q1)]) ⟨rfl, rfl, trivial⟩ rfl (tj393_101  hS e)

set_option maxRecDepth 100000 in
theorem tj393_36 {sL : Nat} {sx : Nat → Int32} {h b N : Nat} {T : List am_C} {a' : xA} {q1 : Int32} {t0 : Int32} {a : xA} {H : am_H} (hS : xS h b T a H) (e : j393_36 N h b q1 t0 a = some a') : am_E sL sx am_cs 393 36 [(0, .ref 157), (1, .int q1)] [.int t0] H none (fun H1 => xS h b T a' H1) := by
  unfold j393_36 at e
  refine ex_s (am_nb (m := 2) (pc1 := 38) (ls1 := [(2, .int t0), (0, .ref 157), (1, .int q1)]) (st1 := [.int t0]) (H1 := H) (k1 := 0) (n1 := 0) (by with_unfolding_all rfl)) ?_
  refine ex_s (st_if rfl) ?_
  by_cases c102 : t0 = 0
  · have e := (if_pos c102).symm.trans e
    refine ex_pc (if_pos c102) ?_
    refine ex_s (am_nb (m := 2) (pc1 := 51) (ls1 := [(2, .int t0), (0, .ref 157), (1, .int q1)]) (st1 := [.int 2, .ref 157]) (H1 := H) (k1 := 0) (n1 := 0) (by with_unfolding_all rfl)) ?_
    obtain ⟨a103, ha103, e⟩ := xw_some e
    refine xe_put (w := 2) hS rfl rfl (by decide) rfl rfl rfl rfl (fun H104 s105 => ?_)
    have s105 : xS h b T a103 H104 := by rw [ha103]; exact s105
    cases e
    exact ex_r (st_vret rfl rfl) s105
  · have e := (if_neg c102).symm.trans e
    refine ex_pc (if_neg c102) ?_
    refine ex_s (am_nb (m := 2) (pc1 := 43) (ls1 := [(2, .int t0), (0, .ref 157), (1, .int q1)]) (st1 := [.int q1, .ref 157]) (H1 := H) (k1 := 0) (n1 := 0) (by with_unfolding_all rfl)) ?_
    obtain ⟨a106, ha106, e⟩ := xw_some e
    refine xe_put (w := q1) hS rfl rfl (by decide) rfl rfl rfl rfl (fun H107 s108 => ?_)
    have s108 : xS h b T a106 H107 := by rw [ha106]; exact s108
    refine ex_s (am_nb (m := 1) (pc1 := 54) (ls1 := [(2, .int t0), (0, .ref 157), (1, .int q1)]) (st1 := []) (H1 := H107) (k1 := 0) (n1 := 0) (by with_unfolding_all rfl)) ?_
    cases e
    exact ex_r (st_vret rfl rfl) s108

set_option maxRecDepth 100000 in
theorem tj393_31 {sL : Nat} {sx : Nat → Int32} {h b N : Nat} {T : List am_C} {a' : xA} {q1 : Int32} {a : xA} {H : am_H} (hS : xS h b T a H) (e : j393_31 N h b q1 a = some a') : am_E sL sx am_cs 393 31 [(0, .ref 157), (1, .int q1)] [] H none (fun H1 => xS h b T a' H1) := by
  unfold j393_31 at e
  refine ex_s (am_nb (m := 2) (pc1 := 36) (ls1 := [(0, .ref 157), (1, .int q1)]) (st1 := [.int 1]) (H1 := H) (k1 := 0) (n1 := 0) (by with_unfolding_all rfl)) ?_
  exact le_E (l1 := [(0, .ref 157), (1, .int q1)]) ⟨rfl, rfl, trivial⟩ rfl (tj393_36  hS e)

set_option maxRecDepth 100000 in
theorem tj393_35 {sL : Nat} {sx : Nat → Int32} {h b N : Nat} {T : List am_C} {a' : xA} {q1 : Int32} {a : xA} {H : am_H} (hS : xS h b T a H) (e : j393_35 N h b q1 a = some a') : am_E sL sx am_cs 393 35 [(0, .ref 157), (1, .int q1)] [] H none (fun H1 => xS h b T a' H1) := by
  unfold j393_35 at e
  refine ex_s (am_nb (m := 1) (pc1 := 36) (ls1 := [(0, .ref 157), (1, .int q1)]) (st1 := [.int 0]) (H1 := H) (k1 := 0) (n1 := 0) (by with_unfolding_all rfl)) ?_
  exact le_E (l1 := [(0, .ref 157), (1, .int q1)]) ⟨rfl, rfl, trivial⟩ rfl (tj393_36  hS e)

set_option maxRecDepth 100000 in
theorem tf393_escapes {sL : Nat} {sx : Nat → Int32} {h b N : Nat} {T : List am_C} {a' : xA} {x0 : Int32} {a : xA} {H : am_H} (hS : xS h b T a H) (e : f393_escapes N h b x0 a = some a') : am_E sL sx am_cs 393 0 [(0, .ref 157), (1, .int x0)] [] H none (fun H1 => xS h b T a' H1) := by
  unfold f393_escapes at e
  refine ex_s (am_nb (m := 2) (pc1 := 3) (ls1 := [(0, .ref 157), (1, .int x0)]) (st1 := [.int 48, .int x0]) (H1 := H) (k1 := 0) (n1 := 0) (by with_unfolding_all rfl)) ?_
  refine ex_s (st_icmp rfl) ?_
  by_cases c1 : 48 ≤ x0
  · have e := (if_pos c1).symm.trans e
    refine ex_pc (if_pos c1) ?_
    refine ex_s (am_nb (m := 2) (pc1 := 57) (ls1 := [(0, .ref 157), (1, .int x0)]) (st1 := [.int 0, .ref 157]) (H1 := H) (k1 := 0) (n1 := 0) (by with_unfolding_all rfl)) ?_
    obtain ⟨a2, ha2, e⟩ := xw_some e
    refine xe_put (w := 0) hS rfl rfl (by decide) rfl rfl rfl rfl (fun H3 s4 => ?_)
    have s4 : xS h b T a2 H3 := by rw [ha2]; exact s4
    refine ex_s (am_nb (m := 1) (pc1 := 61) (ls1 := [(0, .ref 157), (1, .int x0)]) (st1 := [.ref 157]) (H1 := H3) (k1 := 0) (n1 := 0) (by with_unfolding_all rfl)) ?_
    refine xe_get (v := .int (a2 157 102)) s4 rfl rfl (by decide) rfl ?_
    refine ex_s (am_nb (m := 1) (pc1 := 66) (ls1 := [(0, .ref 157), (1, .int x0)]) (st1 := [.int 35, .int (a2 157 102)]) (H1 := H3) (k1 := 0) (n1 := 0) (by with_unfolding_all rfl)) ?_
    refine ex_s (st_icmp rfl) ?_
    by_cases c5 : (a2 157 102) = 35
    · have e := (if_pos c5).symm.trans e
      refine ex_pc (if_pos c5) ?_
      refine ex_s (am_nb (m := 2) (pc1 := 71) (ls1 := [(0, .ref 157), (1, .int x0)]) (st1 := [.int x0, .ref 157]) (H1 := H3) (k1 := 0) (n1 := 0) (by with_unfolding_all rfl)) ?_
      obtain ⟨a9, e8, e⟩ := xb1_some e
      refine ex_cv0 (as := [.int x0]) (rest := []) rfl rfl rfl rfl (s4.obj rfl (by decide)) rfl (by with_unfolding_all rfl) (by with_unfolding_all rfl) (tf394_widths s4 e8) (fun H6 s7 => ?_)
      refine ex_s (am_nb (m := 1) (pc1 := 240) (ls1 := [(0, .ref 157), (1, .int x0)]) (st1 := []) (H1 := H6) (k1 := 0) (n1 := 0) (by with_unfolding_all rfl)) ?_
      cases e
      exact ex_r (st_vret rfl rfl) s7
    · have e := (if_neg c5).symm.trans e
      refine ex_pc (if_neg c5) ?_
      refine ex_s (am_nb (m := 1) (pc1 := 78) (ls1 := [(0, .ref 157), (1, .int x0)]) (st1 := [.ref 157]) (H1 := H3) (k1 := 0) (n1 := 0) (by with_unfolding_all rfl)) ?_
      refine xe_get (v := .int (a2 157 102)) s4 rfl rfl (by decide) rfl ?_
      refine ex_s (st_if rfl) ?_
      by_cases c10 : (a2 157 102) = 0
      · have e := (if_pos c10).symm.trans e
        refine ex_pc (if_pos c10) ?_
        refine ex_s (am_nb (m := 2) (pc1 := 164) (ls1 := [(0, .ref 157), (1, .int x0)]) (st1 := [.int 91, .int x0]) (H1 := H3) (k1 := 0) (n1 := 0) (by with_unfolding_all rfl)) ?_
        refine ex_s (st_icmp rfl) ?_
        by_cases c11 : x0 = 91
        · have e := (if_pos c11).symm.trans e
          refine ex_pc (if_pos c11) ?_
          refine ex_s (am_nb (m := 2) (pc1 := 169) (ls1 := [(0, .ref 157), (1, .int x0)]) (st1 := [.int 3, .ref 157]) (H1 := H3) (k1 := 0) (n1 := 0) (by with_unfolding_all rfl)) ?_
          obtain ⟨a12, ha12, e⟩ := xw_some e
          refine xe_put (w := 3) s4 rfl rfl (by decide) rfl rfl rfl rfl (fun H13 s14 => ?_)
          have s14 : xS h b T a12 H13 := by rw [ha12]; exact s14
          refine ex_s (am_nb (m := 2) (pc1 := 174) (ls1 := [(0, .ref 157), (1, .int x0)]) (st1 := [.int 0, .ref 157]) (H1 := H13) (k1 := 0) (n1 := 0) (by with_unfolding_all rfl)) ?_
          obtain ⟨a15, ha15, e⟩ := xw_some e
          refine xe_put (w := 0) s14 rfl rfl (by decide) rfl rfl rfl rfl (fun H16 s17 => ?_)
          have s17 : xS h b T a15 H16 := by rw [ha15]; exact s17
          refine ex_s (am_nb (m := 1) (pc1 := 178) (ls1 := [(0, .ref 157), (1, .int x0)]) (st1 := [.ref 157]) (H1 := H16) (k1 := 0) (n1 := 0) (by with_unfolding_all rfl)) ?_
          refine xe_get (v := .ref 193) s17 rfl rfl (by decide) rfl ?_
          refine ex_s (am_nb (m := 2) (pc1 := 183) (ls1 := [(0, .ref 157), (1, .int x0)]) (st1 := [.int 0, .int 0, .ref 193]) (H1 := H16) (k1 := 0) (n1 := 0) (by with_unfolding_all rfl)) ?_
          obtain ⟨a18, ha18, e⟩ := xw_some e
          refine xe_iast s17 rfl rfl (show ¬ ((0 : Int32) < 0 ∨ 8 ≤ ((0 : Int32)).toNatClampNeg) by decide) (fun H19 s20 => ?_)
          have s20 : xS h b T a18 H19 := by rw [ha18]; exact s20
          refine ex_s (am_nb (m := 2) (pc1 := 186) (ls1 := [(0, .ref 157), (1, .int x0)]) (st1 := [.int 0, .ref 157]) (H1 := H19) (k1 := 0) (n1 := 0) (by with_unfolding_all rfl)) ?_
          obtain ⟨a21, ha21, e⟩ := xw_some e
          refine xe_put (w := 0) s20 rfl rfl (by decide) rfl rfl rfl rfl (fun H22 s23 => ?_)
          have s23 : xS h b T a21 H22 := by rw [ha21]; exact s23
          refine ex_s (am_nb (m := 2) (pc1 := 191) (ls1 := [(0, .ref 157), (1, .int x0)]) (st1 := [.int 1, .ref 157]) (H1 := H22) (k1 := 0) (n1 := 0) (by with_unfolding_all rfl)) ?_
          obtain ⟨a24, ha24, e⟩ := xw_some e
          refine xe_put (w := 1) s23 rfl rfl (by decide) rfl rfl rfl rfl (fun H25 s26 => ?_)
          have s26 : xS h b T a24 H25 := by rw [ha24]; exact s26
          refine ex_s (am_nb (m := 1) (pc1 := 240) (ls1 := [(0, .ref 157), (1, .int x0)]) (st1 := []) (H1 := H25) (k1 := 0) (n1 := 0) (by with_unfolding_all rfl)) ?_
          cases e
          exact ex_r (st_vret rfl rfl) s26
        · have e := (if_neg c11).symm.trans e
          refine ex_pc (if_neg c11) ?_
          refine ex_s (am_nb (m := 2) (pc1 := 200) (ls1 := [(0, .ref 157), (1, .int x0)]) (st1 := [.int 80, .int x0]) (H1 := H3) (k1 := 0) (n1 := 0) (by with_unfolding_all rfl)) ?_
          refine ex_s (st_icmp rfl) ?_
          by_cases c32 : x0 = 80
          · have e := (if_pos c32).symm.trans e
            refine ex_pc (if_pos c32) ?_
            exact le_E (l1 := [(0, .ref 157)]) ⟨rfl, trivial⟩ rfl (tj393_227  s4 e)
          · have e := (if_neg c32).symm.trans e
            refine ex_pc (if_neg c32) ?_
            refine ex_s (am_nb (m := 2) (pc1 := 206) (ls1 := [(0, .ref 157), (1, .int x0)]) (st1 := [.int 88, .int x0]) (H1 := H3) (k1 := 0) (n1 := 0) (by with_unfolding_all rfl)) ?_
            refine ex_s (st_icmp rfl) ?_
            by_cases c40 : x0 = 88
            · have e := (if_pos c40).symm.trans e
              refine ex_pc (if_pos c40) ?_
              exact le_E (l1 := [(0, .ref 157)]) ⟨rfl, trivial⟩ rfl (tj393_227  s4 e)
            · have e := (if_neg c40).symm.trans e
              refine ex_pc (if_neg c40) ?_
              refine ex_s (am_nb (m := 2) (pc1 := 212) (ls1 := [(0, .ref 157), (1, .int x0)]) (st1 := [.int 93, .int x0]) (H1 := H3) (k1 := 0) (n1 := 0) (by with_unfolding_all rfl)) ?_
              refine ex_s (st_icmp rfl) ?_
              by_cases c44 : x0 = 93
              · have e := (if_pos c44).symm.trans e
                refine ex_pc (if_pos c44) ?_
                exact le_E (l1 := [(0, .ref 157)]) ⟨rfl, trivial⟩ rfl (tj393_227  s4 e)
              · have e := (if_neg c44).symm.trans e
                refine ex_pc (if_neg c44) ?_
                refine ex_s (am_nb (m := 2) (pc1 := 218) (ls1 := [(0, .ref 157), (1, .int x0)]) (st1 := [.int 94, .int x0]) (H1 := H3) (k1 := 0) (n1 := 0) (by with_unfolding_all rfl)) ?_
                refine ex_s (st_icmp rfl) ?_
                by_cases c47 : x0 = 94
                · have e := (if_pos c47).symm.trans e
                  refine ex_pc (if_pos c47) ?_
                  exact le_E (l1 := [(0, .ref 157)]) ⟨rfl, trivial⟩ rfl (tj393_227  s4 e)
                · have e := (if_neg c47).symm.trans e
                  refine ex_pc (if_neg c47) ?_
                  refine ex_s (am_nb (m := 2) (pc1 := 224) (ls1 := [(0, .ref 157), (1, .int x0)]) (st1 := [.int 95, .int x0]) (H1 := H3) (k1 := 0) (n1 := 0) (by with_unfolding_all rfl)) ?_
                  refine ex_s (st_icmp rfl) ?_
                  by_cases c49 : x0 = 95
                  · have e := (if_pos c49).symm.trans e
                    refine ex_pc (if_pos c49) ?_
                    exact le_E (l1 := [(0, .ref 157)]) ⟨rfl, trivial⟩ rfl (tj393_227  s4 e)
                  · have e := (if_neg c49).symm.trans e
                    refine ex_pc (if_neg c49) ?_
                    refine ex_s (am_nb (m := 2) (pc1 := 237) (ls1 := [(0, .ref 157), (1, .int x0)]) (st1 := [.int x0, .ref 157]) (H1 := H3) (k1 := 0) (n1 := 0) (by with_unfolding_all rfl)) ?_
                    obtain ⟨a53, e52, e⟩ := xb1_some e
                    refine ex_cv0 (as := [.int x0]) (rest := []) rfl rfl rfl rfl (s4.obj rfl (by decide)) rfl (by with_unfolding_all rfl) (by with_unfolding_all rfl) (tf395_plainEscape s4 e52) (fun H50 s51 => ?_)
                    cases e
                    exact ex_r (st_vret rfl rfl) s51
      · have e := (if_neg c10).symm.trans e
        refine ex_pc (if_neg c10) ?_
        refine ex_s (am_nb (m := 2) (pc1 := 87) (ls1 := [(0, .ref 157), (1, .int x0)]) (st1 := [.int 66, .int x0]) (H1 := H3) (k1 := 0) (n1 := 0) (by with_unfolding_all rfl)) ?_
        refine ex_s (st_icmp rfl) ?_
        by_cases c56 : x0 = 66
        · have e := (if_pos c56).symm.trans e
          refine ex_pc (if_pos c56) ?_
          exact le_E (l1 := [(0, .ref 157), (1, .int x0)]) ⟨rfl, rfl, trivial⟩ rfl (tj393_96  s4 e)
        · have e := (if_neg c56).symm.trans e
          refine ex_pc (if_neg c56) ?_
          refine ex_s (am_nb (m := 2) (pc1 := 93) (ls1 := [(0, .ref 157), (1, .int x0)]) (st1 := [.int 48, .int x0]) (H1 := H3) (k1 := 0) (n1 := 0) (by with_unfolding_all rfl)) ?_
          have kk : am_E sL sx am_cs 393 101 [(0, .ref 157), (1, .int x0)] [.int (if x0 = 48 then (1 : Int32) else (0 : Int32))] H3 none (fun H1 => xS h b T a' H1) := by
            refine ex_s (am_nb (m := 2) (pc1 := 103) (ls1 := [(2, .int (if x0 = 48 then (1 : Int32) else (0 : Int32))), (0, .ref 157), (1, .int x0)]) (st1 := [.int (if x0 = 48 then (1 : Int32) else (0 : Int32))]) (H1 := H3) (k1 := 0) (n1 := 0) (by with_unfolding_all rfl)) ?_
            refine ex_s (st_if rfl) ?_
            by_cases c85 : (if x0 = 48 then (1 : Int32) else (0 : Int32)) = 0
            · have e := (if_pos c85).symm.trans e
              refine ex_pc (if_pos c85) ?_
              exact le_E (l1 := [(0, .ref 157), (1, .int x0), (2, .int (if x0 = 48 then (1 : Int32) else (0 : Int32)))]) ⟨rfl, rfl, rfl, trivial⟩ rfl (tj393_130  s4 e)
            · have e := (if_neg c85).symm.trans e
              refine ex_pc (if_neg c85) ?_
              refine ex_s (am_nb (m := 1) (pc1 := 107) (ls1 := [(2, .int (if x0 = 48 then (1 : Int32) else (0 : Int32))), (0, .ref 157), (1, .int x0)]) (st1 := [.ref 157]) (H1 := H3) (k1 := 0) (n1 := 0) (by with_unfolding_all rfl)) ?_
              refine xe_get (v := .int (a2 157 102)) s4 rfl rfl (by decide) rfl ?_
              refine ex_s (am_nb (m := 1) (pc1 := 112) (ls1 := [(2, .int (if x0 = 48 then (1 : Int32) else (0 : Int32))), (0, .ref 157), (1, .int x0)]) (st1 := [.int 40, .int (a2 157 102)]) (H1 := H3) (k1 := 0) (n1 := 0) (by with_unfolding_all rfl)) ?_
              refine ex_s (st_icmp rfl) ?_
              by_cases c88 : (a2 157 102) = 40
              · have e := (if_pos c88).symm.trans e
                refine ex_pc (if_pos c88) ?_
                refine ex_s (am_nb (m := 3) (pc1 := 119) (ls1 := [(2, .int (if x0 = 48 then (1 : Int32) else (0 : Int32))), (0, .ref 157), (1, .int x0)]) (st1 := [.int 48, .int x0, .ref 157]) (H1 := H3) (k1 := 0) (n1 := 0) (by with_unfolding_all rfl)) ?_
                have kk : ∀ w_ : Int32, w_ = (if x0 = 48 then (1 : Int32) else (0 : Int32)) → am_E sL sx am_cs 393 127 [(2, .int (if x0 = 48 then (1 : Int32) else (0 : Int32))), (0, .ref 157), (1, .int x0)] [.int w_, .ref 157] H3 none (fun H1 => xS h b T a' H1) := by
                  intro w_ hw_
                  subst hw_
                  obtain ⟨g93, e⟩ := xg_some e
                  obtain ⟨a90, ha90, e⟩ := xw_some e
                  refine xe_put (w := (if x0 = 48 then (1 : Int32) else (0 : Int32))) s4 rfl rfl (by decide) rfl rfl (xfit_z g93) rfl (fun H91 s92 => ?_)
                  have s92 : xS h b T a90 H91 := by rw [ha90]; exact s92
                  exact le_E (l1 := [(0, .ref 157), (1, .int x0), (2, .int (if x0 = 48 then (1 : Int32) else (0 : Int32)))]) ⟨rfl, rfl, rfl, trivial⟩ rfl (tj393_130  s92 e)
                refine ex_s (st_icmp rfl) ?_
                by_cases c89 : x0 = 48
                · refine ex_pc (if_pos c89) ?_
                  refine ex_s (am_nb (m := 2) (pc1 := 127) (ls1 := [(2, .int (if x0 = 48 then (1 : Int32) else (0 : Int32))), (0, .ref 157), (1, .int x0)]) (st1 := [.int 1, .ref 157]) (H1 := H3) (k1 := 0) (n1 := 0) (by with_unfolding_all rfl)) ?_
                  exact kk _ (if_pos c89).symm
                · refine ex_pc (if_neg c89) ?_
                  refine ex_s (am_nb (m := 1) (pc1 := 127) (ls1 := [(2, .int (if x0 = 48 then (1 : Int32) else (0 : Int32))), (0, .ref 157), (1, .int x0)]) (st1 := [.int 0, .ref 157]) (H1 := H3) (k1 := 0) (n1 := 0) (by with_unfolding_all rfl)) ?_
                  exact kk _ (if_neg c89).symm
              · have e := (if_neg c88).symm.trans e
                refine ex_pc (if_neg c88) ?_
                exact le_E (l1 := [(0, .ref 157), (1, .int x0), (2, .int (if x0 = 48 then (1 : Int32) else (0 : Int32)))]) ⟨rfl, rfl, rfl, trivial⟩ rfl (tj393_130  s4 e)
          refine ex_s (st_icmp rfl) ?_
          by_cases c81 : x0 = 48
          · refine ex_pc (if_pos c81) ?_
            refine ex_s (am_nb (m := 2) (pc1 := 101) (ls1 := [(0, .ref 157), (1, .int x0)]) (st1 := [.int 1]) (H1 := H3) (k1 := 0) (n1 := 0) (by with_unfolding_all rfl)) ?_
            rw [if_pos c81] at kk
            exact kk
          · refine ex_pc (if_neg c81) ?_
            refine ex_s (am_nb (m := 1) (pc1 := 101) (ls1 := [(0, .ref 157), (1, .int x0)]) (st1 := [.int 0]) (H1 := H3) (k1 := 0) (n1 := 0) (by with_unfolding_all rfl)) ?_
            rw [if_neg c81] at kk
            exact kk
  · have e := (if_neg c1).symm.trans e
    refine ex_pc (if_neg c1) ?_
    refine ex_s (am_nb (m := 1) (pc1 := 7) (ls1 := [(0, .ref 157), (1, .int x0)]) (st1 := [.ref 157]) (H1 := H) (k1 := 0) (n1 := 0) (by with_unfolding_all rfl)) ?_
    refine xe_get (v := .int (a 157 102)) hS rfl rfl (by decide) rfl ?_
    refine ex_s (st_if rfl) ?_
    by_cases c96 : (a 157 102) = 0
    · have e := (if_pos c96).symm.trans e
      refine ex_pc (if_pos c96) ?_
      refine ex_s (am_nb (m := 2) (pc1 := 16) (ls1 := [(0, .ref 157), (1, .int x0)]) (st1 := [.int 35, .int x0]) (H1 := H) (k1 := 0) (n1 := 0) (by with_unfolding_all rfl)) ?_
      refine ex_s (st_icmp rfl) ?_
      by_cases c100 : x0 = 35
      · have e := (if_pos c100).symm.trans e
        refine ex_pc (if_pos c100) ?_
        exact le_E (l1 := [(0, .ref 157), (1, .int x0)]) ⟨rfl, rfl, trivial⟩ rfl (tj393_31  hS e)
      · have e := (if_neg c100).symm.trans e
        refine ex_pc (if_neg c100) ?_
        refine ex_s (am_nb (m := 2) (pc1 := 22) (ls1 := [(0, .ref 157), (1, .int x0)]) (st1 := [.int 40, .int x0]) (H1 := H) (k1 := 0) (n1 := 0) (by with_unfolding_all rfl)) ?_
        refine ex_s (st_icmp rfl) ?_
        by_cases c111 : x0 = 40
        · have e := (if_pos c111).symm.trans e
          refine ex_pc (if_pos c111) ?_
          exact le_E (l1 := [(0, .ref 157), (1, .int x0)]) ⟨rfl, rfl, trivial⟩ rfl (tj393_31  hS e)
        · have e := (if_neg c111).symm.trans e
          refine ex_pc (if_neg c111) ?_
          refine ex_s (am_nb (m := 2) (pc1 := 28) (ls1 := [(0, .ref 157), (1, .int x0)]) (st1 := [.int 41, .int x0]) (H1 := H) (k1 := 0) (n1 := 0) (by with_unfolding_all rfl)) ?_
          have kk : am_E sL sx am_cs 393 36 [(0, .ref 157), (1, .int x0)] [.int (if x0 = 41 then (1 : Int32) else (0 : Int32))] H none (fun H1 => xS h b T a' H1) := by
            refine ex_s (am_nb (m := 2) (pc1 := 38) (ls1 := [(2, .int (if x0 = 41 then (1 : Int32) else (0 : Int32))), (0, .ref 157), (1, .int x0)]) (st1 := [.int (if x0 = 41 then (1 : Int32) else (0 : Int32))]) (H1 := H) (k1 := 0) (n1 := 0) (by with_unfolding_all rfl)) ?_
            refine ex_s (st_if rfl) ?_
            by_cases c114 : (if x0 = 41 then (1 : Int32) else (0 : Int32)) = 0
            · have e := (if_pos c114).symm.trans e
              refine ex_pc (if_pos c114) ?_
              refine ex_s (am_nb (m := 2) (pc1 := 51) (ls1 := [(2, .int (if x0 = 41 then (1 : Int32) else (0 : Int32))), (0, .ref 157), (1, .int x0)]) (st1 := [.int 2, .ref 157]) (H1 := H) (k1 := 0) (n1 := 0) (by with_unfolding_all rfl)) ?_
              obtain ⟨a115, ha115, e⟩ := xw_some e
              refine xe_put (w := 2) hS rfl rfl (by decide) rfl rfl rfl rfl (fun H116 s117 => ?_)
              have s117 : xS h b T a115 H116 := by rw [ha115]; exact s117
              cases e
              exact ex_r (st_vret rfl rfl) s117
            · have e := (if_neg c114).symm.trans e
              refine ex_pc (if_neg c114) ?_
              refine ex_s (am_nb (m := 2) (pc1 := 43) (ls1 := [(2, .int (if x0 = 41 then (1 : Int32) else (0 : Int32))), (0, .ref 157), (1, .int x0)]) (st1 := [.int x0, .ref 157]) (H1 := H) (k1 := 0) (n1 := 0) (by with_unfolding_all rfl)) ?_
              obtain ⟨a118, ha118, e⟩ := xw_some e
              refine xe_put (w := x0) hS rfl rfl (by decide) rfl rfl rfl rfl (fun H119 s120 => ?_)
              have s120 : xS h b T a118 H119 := by rw [ha118]; exact s120
              refine ex_s (am_nb (m := 1) (pc1 := 54) (ls1 := [(2, .int (if x0 = 41 then (1 : Int32) else (0 : Int32))), (0, .ref 157), (1, .int x0)]) (st1 := []) (H1 := H119) (k1 := 0) (n1 := 0) (by with_unfolding_all rfl)) ?_
              cases e
              exact ex_r (st_vret rfl rfl) s120
          refine ex_s (st_icmp rfl) ?_
          by_cases c112 : x0 = 41
          · refine ex_pc (if_pos c112) ?_
            refine ex_s (am_nb (m := 2) (pc1 := 36) (ls1 := [(0, .ref 157), (1, .int x0)]) (st1 := [.int 1]) (H1 := H) (k1 := 0) (n1 := 0) (by with_unfolding_all rfl)) ?_
            rw [if_pos c112] at kk
            exact kk
          · refine ex_pc (if_neg c112) ?_
            refine ex_s (am_nb (m := 1) (pc1 := 36) (ls1 := [(0, .ref 157), (1, .int x0)]) (st1 := [.int 0]) (H1 := H) (k1 := 0) (n1 := 0) (by with_unfolding_all rfl)) ?_
            rw [if_neg c112] at kk
            exact kk
    · have e := (if_neg c96).symm.trans e
      refine ex_pc (if_neg c96) ?_
      exact le_E (l1 := [(0, .ref 157), (1, .int x0)]) ⟨rfl, rfl, trivial⟩ rfl (tj393_35  hS e)

set_option maxRecDepth 100000 in
theorem tj400_154 {sL : Nat} {sx : Nat → Int32} {h b N : Nat} {T : List am_C} {R : Option Value} {F : am_H → Prop} {w1 : Int32} {z : Nat × xA} {rc : Int32 → xA → Option (Nat × xA)} (k0 : z.1 = 0 → ∀ H2 : am_H, xS h b T z.2 H2 → am_E sL sx am_cs 400 160 [] [] H2 R F) (ih : ∀ (v2 : Int32) (a : xA) (H : am_H), xS h b T a H → rc v2 a = some z → am_E sL sx am_cs 400 15 [(0, .ref 157), (1, .int w1), (2, .int v2)] [] H R F) {q2 : Int32} {a : xA} {H : am_H} (hS : xS h b T a H) (e : j400_154 N h b rc w1 q2 a = some z) : am_E sL sx am_cs 400 154 [(0, .ref 157), (1, .int w1), (2, .int q2)] [] H R F := by
  unfold j400_154 at e
  refine ex_s (am_nb (m := 2) (pc1 := 15) (ls1 := [(2, .int (q2 + 1)), (0, .ref 157), (1, .int w1)]) (st1 := []) (H1 := H) (k1 := 0) (n1 := 0) (by with_unfolding_all rfl)) ?_
  exact le_E (l1 := [(0, .ref 157), (1, .int w1), (2, .int (q2 + 1))]) ⟨rfl, rfl, rfl, trivial⟩ rfl (ih (q2 + 1) a H hS e)

set_option maxRecDepth 100000 in
theorem tj400_101 {sL : Nat} {sx : Nat → Int32} {h b N : Nat} {T : List am_C} {R : Option Value} {F : am_H → Prop} {w1 : Int32} {z : Nat × xA} {rc : Int32 → xA → Option (Nat × xA)} (k0 : z.1 = 0 → ∀ H2 : am_H, xS h b T z.2 H2 → am_E sL sx am_cs 400 160 [] [] H2 R F) (ih : ∀ (v2 : Int32) (a : xA) (H : am_H), xS h b T a H → rc v2 a = some z → am_E sL sx am_cs 400 15 [(0, .ref 157), (1, .int w1), (2, .int v2)] [] H R F) {q2 : Int32} {t0 : Int32} {a : xA} {H : am_H} (hS : xS h b T a H) (e : j400_101 N h b rc w1 q2 t0 a = some z) : am_E sL sx am_cs 400 101 [(0, .ref 157), (1, .int w1), (2, .int q2)] [.int t0] H R F := by
  unfold j400_101 at e
  refine ex_s (am_nb (m := 4) (pc1 := 106) (ls1 := [(3, .int t0), (0, .ref 157), (1, .int w1), (2, .int q2)]) (st1 := [.int 104, .int w1, .ref 157]) (H1 := H) (k1 := 0) (n1 := 0) (by with_unfolding_all rfl)) ?_
  have kk : am_E sL sx am_cs 400 126 [(3, .int t0), (0, .ref 157), (1, .int w1), (2, .int q2)] [.int (if w1 = 104 then ((a 157 98) ||| t0) else ((a 157 98) &&& (t0 ^^^ (-1)))), .ref 157] H R F := by
    obtain ⟨a8, ha8, e⟩ := xw_some e
    refine xe_put (w := (if w1 = 104 then ((a 157 98) ||| t0) else ((a 157 98) &&& (t0 ^^^ (-1))))) hS rfl rfl (by decide) rfl rfl rfl rfl (fun H9 s10 => ?_)
    have s10 : xS h b T a8 H9 := by rw [ha8]; exact s10
    refine ex_s (am_nb (m := 2) (pc1 := 132) (ls1 := [(3, .int t0), (0, .ref 157), (1, .int w1), (2, .int q2)]) (st1 := [.int 16, .int t0]) (H1 := H9) (k1 := 0) (n1 := 0) (by with_unfolding_all rfl)) ?_
    refine ex_s (st_icmp rfl) ?_
    by_cases c13 : t0 = 16
    · have e := (if_pos c13).symm.trans e
      refine ex_pc (if_pos c13) ?_
      refine ex_s (am_nb (m := 3) (pc1 := 139) (ls1 := [(3, .int t0), (0, .ref 157), (1, .int w1), (2, .int q2)]) (st1 := [.int 104, .int w1, .ref 157]) (H1 := H9) (k1 := 0) (n1 := 0) (by with_unfolding_all rfl)) ?_
      have kk : am_E sL sx am_cs 400 150 [(3, .int t0), (0, .ref 157), (1, .int w1), (2, .int q2)] [.int (if w1 = 104 then (a8 157 95) else (0 : Int32)), .ref 157] H9 R F := by
        refine ex_s (am_nb (m := 1) (pc1 := 151) (ls1 := [(3, .int t0), (0, .ref 157), (1, .int w1), (2, .int q2)]) (st1 := [.int 0, .int (if w1 = 104 then (a8 157 95) else (0 : Int32)), .ref 157]) (H1 := H9) (k1 := 0) (n1 := 0) (by with_unfolding_all rfl)) ?_
        obtain ⟨a18, e17, e⟩ := xb1_some e
        refine ex_cv0 (as := [.int (if w1 = 104 then (a8 157 95) else (0 : Int32)), .int 0]) (rest := []) rfl rfl rfl rfl (s10.obj rfl (by decide)) rfl (by with_unfolding_all rfl) (by with_unfolding_all rfl) (tf384_goes s10 e17) (fun H15 s16 => ?_)
        exact le_E (l1 := [(0, .ref 157), (1, .int w1), (2, .int q2)]) ⟨rfl, rfl, rfl, trivial⟩ rfl (tj400_154 k0 ih  s16 e)
      refine ex_s (st_icmp rfl) ?_
      by_cases c14 : w1 = 104
      · refine ex_pc (if_pos c14) ?_
        refine ex_s (am_nb (m := 1) (pc1 := 143) (ls1 := [(3, .int t0), (0, .ref 157), (1, .int w1), (2, .int q2)]) (st1 := [.ref 157, .ref 157]) (H1 := H9) (k1 := 0) (n1 := 0) (by with_unfolding_all rfl)) ?_
        refine xe_get (v := .int (a8 157 95)) s10 rfl rfl (by decide) rfl ?_
        refine ex_s (am_nb (m := 1) (pc1 := 150) (ls1 := [(3, .int t0), (0, .ref 157), (1, .int w1), (2, .int q2)]) (st1 := [.int (a8 157 95), .ref 157]) (H1 := H9) (k1 := 0) (n1 := 0) (by with_unfolding_all rfl)) ?_
        rw [if_pos c14] at kk
        exact kk
      · refine ex_pc (if_neg c14) ?_
        refine ex_s (am_nb (m := 1) (pc1 := 150) (ls1 := [(3, .int t0), (0, .ref 157), (1, .int w1), (2, .int q2)]) (st1 := [.int 0, .ref 157]) (H1 := H9) (k1 := 0) (n1 := 0) (by with_unfolding_all rfl)) ?_
        rw [if_neg c14] at kk
        exact kk
    · have e := (if_neg c13).symm.trans e
      refine ex_pc (if_neg c13) ?_
      exact le_E (l1 := [(0, .ref 157), (1, .int w1), (2, .int q2)]) ⟨rfl, rfl, rfl, trivial⟩ rfl (tj400_154 k0 ih  s10 e)
  refine ex_s (st_icmp rfl) ?_
  by_cases c7 : w1 = 104
  · refine ex_pc (if_pos c7) ?_
    refine ex_s (am_nb (m := 1) (pc1 := 110) (ls1 := [(3, .int t0), (0, .ref 157), (1, .int w1), (2, .int q2)]) (st1 := [.ref 157, .ref 157]) (H1 := H) (k1 := 0) (n1 := 0) (by with_unfolding_all rfl)) ?_
    refine xe_get (v := .int (a 157 98)) hS rfl rfl (by decide) rfl ?_
    refine ex_s (am_nb (m := 3) (pc1 := 126) (ls1 := [(3, .int t0), (0, .ref 157), (1, .int w1), (2, .int q2)]) (st1 := [.int ((a 157 98) ||| t0), .ref 157]) (H1 := H) (k1 := 0) (n1 := 0) (by with_unfolding_all rfl)) ?_
    rw [if_pos c7] at kk
    exact kk
  · refine ex_pc (if_neg c7) ?_
    refine ex_s (am_nb (m := 1) (pc1 := 119) (ls1 := [(3, .int t0), (0, .ref 157), (1, .int w1), (2, .int q2)]) (st1 := [.ref 157, .ref 157]) (H1 := H) (k1 := 0) (n1 := 0) (by with_unfolding_all rfl)) ?_
    refine xe_get (v := .int (a 157 98)) hS rfl rfl (by decide) rfl ?_
    refine ex_s (am_nb (m := 4) (pc1 := 126) (ls1 := [(3, .int t0), (0, .ref 157), (1, .int w1), (2, .int q2)]) (st1 := [.int ((a 157 98) &&& (t0 ^^^ (-1))), .ref 157]) (H1 := H) (k1 := 0) (n1 := 0) (by with_unfolding_all rfl)) ?_
    rw [if_neg c7] at kk
    exact kk

set_option maxRecDepth 100000 in
theorem tl400_15 {sL : Nat} {sx : Nat → Int32} {h b N : Nat} {T : List am_C} {R : Option Value} {F : am_H → Prop} {w1 : Int32} {z : Nat × xA} (k0 : z.1 = 0 → ∀ H2 : am_H, xS h b T z.2 H2 → am_E sL sx am_cs 400 160 [] [] H2 R F) : ∀ (n : Nat) (v2 : Int32) (a : xA) (H : am_H), xS h b T a H → l400_15 N h b w1 n v2 a = some z → am_E sL sx am_cs 400 15 [(0, .ref 157), (1, .int w1), (2, .int v2)] [] H R F := by
  intro n
  induction n with
  | zero =>
    intro v2 a H hS e
    cases e
  | succ n ih =>
    intro v2 a H hS e
    unfold l400_15 at e
    refine ex_s (am_nb (m := 2) (pc1 := 17) (ls1 := [(0, .ref 157), (1, .int w1), (2, .int v2)]) (st1 := [.ref 157, .int v2]) (H1 := H) (k1 := 0) (n1 := 0) (by with_unfolding_all rfl)) ?_
    refine xe_get (v := .int (a 157 115)) hS rfl rfl (by decide) rfl ?_
    refine ex_s (st_icmp rfl) ?_
    by_cases c4 : (a 157 115) ≤ v2
    · have e := (if_pos c4).symm.trans e
      refine ex_pc (if_pos c4) ?_
      cases e
      exact le_E (l1 := []) trivial rfl (k0 rfl H hS)
    · have e := (if_neg c4).symm.trans e
      refine ex_pc (if_neg c4) ?_
      refine ex_s (am_nb (m := 1) (pc1 := 24) (ls1 := [(0, .ref 157), (1, .int w1), (2, .int v2)]) (st1 := [.ref 157]) (H1 := H) (k1 := 0) (n1 := 0) (by with_unfolding_all rfl)) ?_
      refine xe_get (v := .ref 193) hS rfl rfl (by decide) rfl ?_
      refine ex_s (am_nb (m := 1) (pc1 := 28) (ls1 := [(0, .ref 157), (1, .int w1), (2, .int v2)]) (st1 := [.int v2, .ref 193]) (H1 := H) (k1 := 0) (n1 := 0) (by with_unfolding_all rfl)) ?_
      obtain ⟨g5, e⟩ := xg_some e
      refine xe_iald hS rfl rfl g5 ?_
      refine ex_s (am_nb (m := 1) (pc1 := 30) (ls1 := [(0, .ref 157), (1, .int w1), (2, .int v2)]) (st1 := [.int 1, .int (a 193 (v2.toNatClampNeg))]) (H1 := H) (k1 := 0) (n1 := 0) (by with_unfolding_all rfl)) ?_
      refine ex_s (st_icmp rfl) ?_
      by_cases c6 : (a 193 (v2.toNatClampNeg)) = 1
      · have e := (if_pos c6).symm.trans e
        refine ex_pc (if_pos c6) ?_
        refine ex_s (am_nb (m := 2) (pc1 := 101) (ls1 := [(0, .ref 157), (1, .int w1), (2, .int v2)]) (st1 := [.int 4]) (H1 := H) (k1 := 0) (n1 := 0) (by with_unfolding_all rfl)) ?_
        exact le_E (l1 := [(0, .ref 157), (1, .int w1), (2, .int v2)]) ⟨rfl, rfl, rfl, trivial⟩ rfl (tj400_101 k0 ih  hS e)
      · have e := (if_neg c6).symm.trans e
        refine ex_pc (if_neg c6) ?_
        refine ex_s (am_nb (m := 1) (pc1 := 38) (ls1 := [(0, .ref 157), (1, .int w1), (2, .int v2)]) (st1 := [.ref 157]) (H1 := H) (k1 := 0) (n1 := 0) (by with_unfolding_all rfl)) ?_
        refine xe_get (v := .ref 193) hS rfl rfl (by decide) rfl ?_
        refine ex_s (am_nb (m := 1) (pc1 := 42) (ls1 := [(0, .ref 157), (1, .int w1), (2, .int v2)]) (st1 := [.int v2, .ref 193]) (H1 := H) (k1 := 0) (n1 := 0) (by with_unfolding_all rfl)) ?_
        refine xe_iald hS rfl rfl g5 ?_
        refine ex_s (am_nb (m := 1) (pc1 := 44) (ls1 := [(0, .ref 157), (1, .int w1), (2, .int v2)]) (st1 := [.int 5, .int (a 193 (v2.toNatClampNeg))]) (H1 := H) (k1 := 0) (n1 := 0) (by with_unfolding_all rfl)) ?_
        refine ex_s (st_icmp rfl) ?_
        by_cases c20 : (a 193 (v2.toNatClampNeg)) = 5
        · have e := (if_pos c20).symm.trans e
          refine ex_pc (if_pos c20) ?_
          refine ex_s (am_nb (m := 2) (pc1 := 101) (ls1 := [(0, .ref 157), (1, .int w1), (2, .int v2)]) (st1 := [.int 8]) (H1 := H) (k1 := 0) (n1 := 0) (by with_unfolding_all rfl)) ?_
          exact le_E (l1 := [(0, .ref 157), (1, .int w1), (2, .int v2)]) ⟨rfl, rfl, rfl, trivial⟩ rfl (tj400_101 k0 ih  hS e)
        · have e := (if_neg c20).symm.trans e
          refine ex_pc (if_neg c20) ?_
          refine ex_s (am_nb (m := 1) (pc1 := 53) (ls1 := [(0, .ref 157), (1, .int w1), (2, .int v2)]) (st1 := [.ref 157]) (H1 := H) (k1 := 0) (n1 := 0) (by with_unfolding_all rfl)) ?_
          refine xe_get (v := .ref 193) hS rfl rfl (by decide) rfl ?_
          refine ex_s (am_nb (m := 1) (pc1 := 57) (ls1 := [(0, .ref 157), (1, .int w1), (2, .int v2)]) (st1 := [.int v2, .ref 193]) (H1 := H) (k1 := 0) (n1 := 0) (by with_unfolding_all rfl)) ?_
          refine xe_iald hS rfl rfl g5 ?_
          refine ex_s (am_nb (m := 1) (pc1 := 60) (ls1 := [(0, .ref 157), (1, .int w1), (2, .int v2)]) (st1 := [.int 6, .int (a 193 (v2.toNatClampNeg))]) (H1 := H) (k1 := 0) (n1 := 0) (by with_unfolding_all rfl)) ?_
          refine ex_s (st_icmp rfl) ?_
          by_cases c22 : (a 193 (v2.toNatClampNeg)) = 6
          · have e := (if_pos c22).symm.trans e
            refine ex_pc (if_pos c22) ?_
            refine ex_s (am_nb (m := 2) (pc1 := 101) (ls1 := [(0, .ref 157), (1, .int w1), (2, .int v2)]) (st1 := [.int 16]) (H1 := H) (k1 := 0) (n1 := 0) (by with_unfolding_all rfl)) ?_
            exact le_E (l1 := [(0, .ref 157), (1, .int w1), (2, .int v2)]) ⟨rfl, rfl, rfl, trivial⟩ rfl (tj400_101 k0 ih  hS e)
          · have e := (if_neg c22).symm.trans e
            refine ex_pc (if_neg c22) ?_
            refine ex_s (am_nb (m := 1) (pc1 := 69) (ls1 := [(0, .ref 157), (1, .int w1), (2, .int v2)]) (st1 := [.ref 157]) (H1 := H) (k1 := 0) (n1 := 0) (by with_unfolding_all rfl)) ?_
            refine xe_get (v := .ref 193) hS rfl rfl (by decide) rfl ?_
            refine ex_s (am_nb (m := 1) (pc1 := 73) (ls1 := [(0, .ref 157), (1, .int w1), (2, .int v2)]) (st1 := [.int v2, .ref 193]) (H1 := H) (k1 := 0) (n1 := 0) (by with_unfolding_all rfl)) ?_
            refine xe_iald hS rfl rfl g5 ?_
            refine ex_s (am_nb (m := 1) (pc1 := 76) (ls1 := [(0, .ref 157), (1, .int w1), (2, .int v2)]) (st1 := [.int 7, .int (a 193 (v2.toNatClampNeg))]) (H1 := H) (k1 := 0) (n1 := 0) (by with_unfolding_all rfl)) ?_
            refine ex_s (st_icmp rfl) ?_
            by_cases c24 : (a 193 (v2.toNatClampNeg)) = 7
            · have e := (if_pos c24).symm.trans e
              refine ex_pc (if_pos c24) ?_
              refine ex_s (am_nb (m := 2) (pc1 := 101) (ls1 := [(0, .ref 157), (1, .int w1), (2, .int v2)]) (st1 := [.int 32]) (H1 := H) (k1 := 0) (n1 := 0) (by with_unfolding_all rfl)) ?_
              exact le_E (l1 := [(0, .ref 157), (1, .int w1), (2, .int v2)]) ⟨rfl, rfl, rfl, trivial⟩ rfl (tj400_101 k0 ih  hS e)
            · have e := (if_neg c24).symm.trans e
              refine ex_pc (if_neg c24) ?_
              refine ex_s (am_nb (m := 1) (pc1 := 85) (ls1 := [(0, .ref 157), (1, .int w1), (2, .int v2)]) (st1 := [.ref 157]) (H1 := H) (k1 := 0) (n1 := 0) (by with_unfolding_all rfl)) ?_
              refine xe_get (v := .ref 193) hS rfl rfl (by decide) rfl ?_
              refine ex_s (am_nb (m := 1) (pc1 := 89) (ls1 := [(0, .ref 157), (1, .int w1), (2, .int v2)]) (st1 := [.int v2, .ref 193]) (H1 := H) (k1 := 0) (n1 := 0) (by with_unfolding_all rfl)) ?_
              refine xe_iald hS rfl rfl g5 ?_
              refine ex_s (am_nb (m := 1) (pc1 := 92) (ls1 := [(0, .ref 157), (1, .int w1), (2, .int v2)]) (st1 := [.int 8, .int (a 193 (v2.toNatClampNeg))]) (H1 := H) (k1 := 0) (n1 := 0) (by with_unfolding_all rfl)) ?_
              have kk : am_E sL sx am_cs 400 101 [(0, .ref 157), (1, .int w1), (2, .int v2)] [.int (if (a 193 (v2.toNatClampNeg)) = 8 then (64 : Int32) else (0 : Int32))] H R F := by
                refine ex_s (am_nb (m := 4) (pc1 := 106) (ls1 := [(3, .int (if (a 193 (v2.toNatClampNeg)) = 8 then (64 : Int32) else (0 : Int32))), (0, .ref 157), (1, .int w1), (2, .int v2)]) (st1 := [.int 104, .int w1, .ref 157]) (H1 := H) (k1 := 0) (n1 := 0) (by with_unfolding_all rfl)) ?_
                have kk : am_E sL sx am_cs 400 126 [(3, .int (if (a 193 (v2.toNatClampNeg)) = 8 then (64 : Int32) else (0 : Int32))), (0, .ref 157), (1, .int w1), (2, .int v2)] [.int (if w1 = 104 then ((a 157 98) ||| (if (a 193 (v2.toNatClampNeg)) = 8 then (64 : Int32) else (0 : Int32))) else ((a 157 98) &&& ((if (a 193 (v2.toNatClampNeg)) = 8 then (64 : Int32) else (0 : Int32)) ^^^ (-1)))), .ref 157] H R F := by
                  obtain ⟨a27, ha27, e⟩ := xw_some e
                  refine xe_put (w := (if w1 = 104 then ((a 157 98) ||| (if (a 193 (v2.toNatClampNeg)) = 8 then (64 : Int32) else (0 : Int32))) else ((a 157 98) &&& ((if (a 193 (v2.toNatClampNeg)) = 8 then (64 : Int32) else (0 : Int32)) ^^^ (-1))))) hS rfl rfl (by decide) rfl rfl rfl rfl (fun H28 s29 => ?_)
                  have s29 : xS h b T a27 H28 := by rw [ha27]; exact s29
                  refine ex_s (am_nb (m := 2) (pc1 := 132) (ls1 := [(3, .int (if (a 193 (v2.toNatClampNeg)) = 8 then (64 : Int32) else (0 : Int32))), (0, .ref 157), (1, .int w1), (2, .int v2)]) (st1 := [.int 16, .int (if (a 193 (v2.toNatClampNeg)) = 8 then (64 : Int32) else (0 : Int32))]) (H1 := H28) (k1 := 0) (n1 := 0) (by with_unfolding_all rfl)) ?_
                  refine ex_s (st_icmp rfl) ?_
                  by_cases c32 : (if (a 193 (v2.toNatClampNeg)) = 8 then (64 : Int32) else (0 : Int32)) = 16
                  · have e := (if_pos c32).symm.trans e
                    refine ex_pc (if_pos c32) ?_
                    refine ex_s (am_nb (m := 3) (pc1 := 139) (ls1 := [(3, .int (if (a 193 (v2.toNatClampNeg)) = 8 then (64 : Int32) else (0 : Int32))), (0, .ref 157), (1, .int w1), (2, .int v2)]) (st1 := [.int 104, .int w1, .ref 157]) (H1 := H28) (k1 := 0) (n1 := 0) (by with_unfolding_all rfl)) ?_
                    have kk : am_E sL sx am_cs 400 150 [(3, .int (if (a 193 (v2.toNatClampNeg)) = 8 then (64 : Int32) else (0 : Int32))), (0, .ref 157), (1, .int w1), (2, .int v2)] [.int (if w1 = 104 then (a27 157 95) else (0 : Int32)), .ref 157] H28 R F := by
                      refine ex_s (am_nb (m := 1) (pc1 := 151) (ls1 := [(3, .int (if (a 193 (v2.toNatClampNeg)) = 8 then (64 : Int32) else (0 : Int32))), (0, .ref 157), (1, .int w1), (2, .int v2)]) (st1 := [.int 0, .int (if w1 = 104 then (a27 157 95) else (0 : Int32)), .ref 157]) (H1 := H28) (k1 := 0) (n1 := 0) (by with_unfolding_all rfl)) ?_
                      obtain ⟨a37, e36, e⟩ := xb1_some e
                      refine ex_cv0 (as := [.int (if w1 = 104 then (a27 157 95) else (0 : Int32)), .int 0]) (rest := []) rfl rfl rfl rfl (s29.obj rfl (by decide)) rfl (by with_unfolding_all rfl) (by with_unfolding_all rfl) (tf384_goes s29 e36) (fun H34 s35 => ?_)
                      exact le_E (l1 := [(0, .ref 157), (1, .int w1), (2, .int v2)]) ⟨rfl, rfl, rfl, trivial⟩ rfl (tj400_154 k0 ih  s35 e)
                    refine ex_s (st_icmp rfl) ?_
                    by_cases c33 : w1 = 104
                    · refine ex_pc (if_pos c33) ?_
                      refine ex_s (am_nb (m := 1) (pc1 := 143) (ls1 := [(3, .int (if (a 193 (v2.toNatClampNeg)) = 8 then (64 : Int32) else (0 : Int32))), (0, .ref 157), (1, .int w1), (2, .int v2)]) (st1 := [.ref 157, .ref 157]) (H1 := H28) (k1 := 0) (n1 := 0) (by with_unfolding_all rfl)) ?_
                      refine xe_get (v := .int (a27 157 95)) s29 rfl rfl (by decide) rfl ?_
                      refine ex_s (am_nb (m := 1) (pc1 := 150) (ls1 := [(3, .int (if (a 193 (v2.toNatClampNeg)) = 8 then (64 : Int32) else (0 : Int32))), (0, .ref 157), (1, .int w1), (2, .int v2)]) (st1 := [.int (a27 157 95), .ref 157]) (H1 := H28) (k1 := 0) (n1 := 0) (by with_unfolding_all rfl)) ?_
                      rw [if_pos c33] at kk
                      exact kk
                    · refine ex_pc (if_neg c33) ?_
                      refine ex_s (am_nb (m := 1) (pc1 := 150) (ls1 := [(3, .int (if (a 193 (v2.toNatClampNeg)) = 8 then (64 : Int32) else (0 : Int32))), (0, .ref 157), (1, .int w1), (2, .int v2)]) (st1 := [.int 0, .ref 157]) (H1 := H28) (k1 := 0) (n1 := 0) (by with_unfolding_all rfl)) ?_
                      rw [if_neg c33] at kk
                      exact kk
                  · have e := (if_neg c32).symm.trans e
                    refine ex_pc (if_neg c32) ?_
                    exact le_E (l1 := [(0, .ref 157), (1, .int w1), (2, .int v2)]) ⟨rfl, rfl, rfl, trivial⟩ rfl (tj400_154 k0 ih  s29 e)
                refine ex_s (st_icmp rfl) ?_
                by_cases c26 : w1 = 104
                · refine ex_pc (if_pos c26) ?_
                  refine ex_s (am_nb (m := 1) (pc1 := 110) (ls1 := [(3, .int (if (a 193 (v2.toNatClampNeg)) = 8 then (64 : Int32) else (0 : Int32))), (0, .ref 157), (1, .int w1), (2, .int v2)]) (st1 := [.ref 157, .ref 157]) (H1 := H) (k1 := 0) (n1 := 0) (by with_unfolding_all rfl)) ?_
                  refine xe_get (v := .int (a 157 98)) hS rfl rfl (by decide) rfl ?_
                  refine ex_s (am_nb (m := 3) (pc1 := 126) (ls1 := [(3, .int (if (a 193 (v2.toNatClampNeg)) = 8 then (64 : Int32) else (0 : Int32))), (0, .ref 157), (1, .int w1), (2, .int v2)]) (st1 := [.int ((a 157 98) ||| (if (a 193 (v2.toNatClampNeg)) = 8 then (64 : Int32) else (0 : Int32))), .ref 157]) (H1 := H) (k1 := 0) (n1 := 0) (by with_unfolding_all rfl)) ?_
                  rw [if_pos c26] at kk
                  exact kk
                · refine ex_pc (if_neg c26) ?_
                  refine ex_s (am_nb (m := 1) (pc1 := 119) (ls1 := [(3, .int (if (a 193 (v2.toNatClampNeg)) = 8 then (64 : Int32) else (0 : Int32))), (0, .ref 157), (1, .int w1), (2, .int v2)]) (st1 := [.ref 157, .ref 157]) (H1 := H) (k1 := 0) (n1 := 0) (by with_unfolding_all rfl)) ?_
                  refine xe_get (v := .int (a 157 98)) hS rfl rfl (by decide) rfl ?_
                  refine ex_s (am_nb (m := 4) (pc1 := 126) (ls1 := [(3, .int (if (a 193 (v2.toNatClampNeg)) = 8 then (64 : Int32) else (0 : Int32))), (0, .ref 157), (1, .int w1), (2, .int v2)]) (st1 := [.int ((a 157 98) &&& ((if (a 193 (v2.toNatClampNeg)) = 8 then (64 : Int32) else (0 : Int32)) ^^^ (-1))), .ref 157]) (H1 := H) (k1 := 0) (n1 := 0) (by with_unfolding_all rfl)) ?_
                  rw [if_neg c26] at kk
                  exact kk
              refine ex_s (st_icmp rfl) ?_
              by_cases c25 : (a 193 (v2.toNatClampNeg)) = 8
              · refine ex_pc (if_pos c25) ?_
                refine ex_s (am_nb (m := 2) (pc1 := 101) (ls1 := [(0, .ref 157), (1, .int w1), (2, .int v2)]) (st1 := [.int 64]) (H1 := H) (k1 := 0) (n1 := 0) (by with_unfolding_all rfl)) ?_
                rw [if_pos c25] at kk
                exact kk
              · refine ex_pc (if_neg c25) ?_
                refine ex_s (am_nb (m := 1) (pc1 := 101) (ls1 := [(0, .ref 157), (1, .int w1), (2, .int v2)]) (st1 := [.int 0]) (H1 := H) (k1 := 0) (n1 := 0) (by with_unfolding_all rfl)) ?_
                rw [if_neg c25] at kk
                exact kk

set_option maxRecDepth 100000 in
theorem tj400_13 {sL : Nat} {sx : Nat → Int32} {h b N : Nat} {T : List am_C} {a' : xA} {q1 : Int32} {a : xA} {H : am_H} (hS : xS h b T a H) (e : j400_13 N h b q1 a = some a') : am_E sL sx am_cs 400 13 [(0, .ref 157), (1, .int q1)] [] H none (fun H1 => xS h b T a' H1) := by
  unfold j400_13 at e
  refine ex_s (am_nb (m := 2) (pc1 := 15) (ls1 := [(2, .int 0), (0, .ref 157), (1, .int q1)]) (st1 := []) (H1 := H) (k1 := 0) (n1 := 0) (by with_unfolding_all rfl)) ?_
  obtain ⟨z38, e39, e⟩ := Option.bind_eq_some_iff.mp e
  refine le_E (l1 := [(0, .ref 157), (1, .int q1), (2, .int 0)]) ⟨rfl, rfl, rfl, trivial⟩ rfl (tl400_15 (z := z38)  (fun uz38_0 Hz380 sz380 => ?_) N 0 a H hS e39)
  cases e
  exact ex_r (st_vret rfl rfl) sz380

set_option maxRecDepth 100000 in
theorem tf400_privately {sL : Nat} {sx : Nat → Int32} {h b N : Nat} {T : List am_C} {a' : xA} {x0 : Int32} {a : xA} {H : am_H} (hS : xS h b T a H) (e : f400_privately N h b x0 a = some a') : am_E sL sx am_cs 400 0 [(0, .ref 157), (1, .int x0)] [] H none (fun H1 => xS h b T a' H1) := by
  unfold f400_privately at e
  refine ex_s (am_nb (m := 2) (pc1 := 3) (ls1 := [(0, .ref 157), (1, .int x0)]) (st1 := [.int 104, .int x0]) (H1 := H) (k1 := 0) (n1 := 0) (by with_unfolding_all rfl)) ?_
  refine ex_s (st_icmp rfl) ?_
  by_cases c3 : x0 = 104
  · have e := (if_pos c3).symm.trans e
    refine ex_pc (if_pos c3) ?_
    exact le_E (l1 := [(0, .ref 157), (1, .int x0)]) ⟨rfl, rfl, trivial⟩ rfl (tj400_13  hS e)
  · have e := (if_neg c3).symm.trans e
    refine ex_pc (if_neg c3) ?_
    refine ex_s (am_nb (m := 2) (pc1 := 9) (ls1 := [(0, .ref 157), (1, .int x0)]) (st1 := [.int 108, .int x0]) (H1 := H) (k1 := 0) (n1 := 0) (by with_unfolding_all rfl)) ?_
    refine ex_s (st_icmp rfl) ?_
    by_cases c40 : x0 = 108
    · have e := (if_pos c40).symm.trans e
      refine ex_pc (if_pos c40) ?_
      exact le_E (l1 := [(0, .ref 157), (1, .int x0)]) ⟨rfl, rfl, trivial⟩ rfl (tj400_13  hS e)
    · have e := (if_neg c40).symm.trans e
      refine ex_pc (if_neg c40) ?_
      cases e
      exact ex_r (st_vret rfl rfl) hS

set_option maxRecDepth 100000 in
theorem tf402_rowOf {sL : Nat} {sx : Nat → Int32} {h b N : Nat} {T : List am_C} {r : Int32} {a' : xA} {x0 : Int32} {a : xA} {H : am_H} (hS : xS h b T a H) (e : f402_rowOf N h b x0 a = some (r, a')) : am_E sL sx am_cs 402 0 [(0, .ref 157), (1, .int x0)] [] H (some (.int r)) (fun H1 => xS h b T a' H1) := by
  unfold f402_rowOf at e
  refine ex_s (am_nb (m := 2) (pc1 := 3) (ls1 := [(0, .ref 157), (1, .int x0)]) (st1 := [.int 16, .ref 157]) (H1 := H) (k1 := 0) (n1 := 0) (by with_unfolding_all rfl)) ?_
  obtain ⟨r4, a5, e3, e⟩ := xb2_some e
  refine ex_cv1 (as := [.int 16]) (rest := []) rfl rfl rfl rfl (hS.obj rfl (by decide)) rfl (by with_unfolding_all rfl) (by with_unfolding_all rfl) (tf363_mode hS e3) (fun H1 s2 => ?_)
  refine ex_s (st_if rfl) ?_
  by_cases c7 : r4 = 0
  · have e := (if_pos c7).symm.trans e
    refine ex_pc (if_pos c7) ?_
    refine ex_s (am_nb (m := 4) (pc1 := 31) (ls1 := [(0, .ref 157), (1, .int x0)]) (st1 := [.ref 157, .int (x0 - 1)]) (H1 := H1) (k1 := 0) (n1 := 0) (by with_unfolding_all rfl)) ?_
    refine xe_get (v := .int (a5 157 68)) s2 rfl rfl (by decide) rfl ?_
    refine ex_s (am_nb (m := 3) (pc1 := 39) (ls1 := [(0, .ref 157), (1, .int x0)]) (st1 := [.int (xmin (x0 - 1) ((a5 157 68) - 1))]) (H1 := H1) (k1 := 0) (n1 := 0) (by with_unfolding_all rfl)) ?_
    cases e
    exact ex_r (st_iret rfl rfl rfl) s2
  · have e := (if_neg c7).symm.trans e
    refine ex_pc (if_neg c7) ?_
    refine ex_s (am_nb (m := 1) (pc1 := 10) (ls1 := [(0, .ref 157), (1, .int x0)]) (st1 := [.ref 157]) (H1 := H1) (k1 := 0) (n1 := 0) (by with_unfolding_all rfl)) ?_
    refine xe_get (v := .int (a5 157 95)) s2 rfl rfl (by decide) rfl ?_
    refine ex_s (am_nb (m := 5) (pc1 := 18) (ls1 := [(0, .ref 157), (1, .int x0)]) (st1 := [.ref 157, .int (((a5 157 95) + x0) - 1)]) (H1 := H1) (k1 := 0) (n1 := 0) (by with_unfolding_all rfl)) ?_
    refine xe_get (v := .int (a5 157 96)) s2 rfl rfl (by decide) rfl ?_
    refine ex_s (am_nb (m := 2) (pc1 := 39) (ls1 := [(0, .ref 157), (1, .int x0)]) (st1 := [.int (xmin (((a5 157 95) + x0) - 1) (a5 157 96))]) (H1 := H1) (k1 := 0) (n1 := 0) (by with_unfolding_all rfl)) ?_
    cases e
    exact ex_r (st_iret rfl rfl rfl) s2

set_option maxRecDepth 100000 in
theorem tj403_135 {sL : Nat} {sx : Nat → Int32} {h b N : Nat} {T : List am_C} {R : Option Value} {F : am_H → Prop} {w1 : Int32} {w3 : Int32} {z : Nat × xA} {rc : Int32 → xA → Option (Nat × xA)} (k0 : z.1 = 0 → ∀ H2 : am_H, xS h b T z.2 H2 → am_E sL sx am_cs 403 141 [(0, .ref 157)] [] H2 R F) (ih : ∀ (v4 : Int32) (a : xA) (H : am_H), xS h b T a H → rc v4 a = some z → am_E sL sx am_cs 403 41 [(0, .ref 157), (1, .int w1), (3, .int w3), (4, .int v4)] [] H R F) {q4 : Int32} {a : xA} {H : am_H} (hS : xS h b T a H) (e : j403_135 N h b rc w1 w3 q4 a = some z) : am_E sL sx am_cs 403 135 [(0, .ref 157), (1, .int w1), (3, .int w3), (4, .int q4)] [] H R F := by
  unfold j403_135 at e
  refine ex_s (am_nb (m := 2) (pc1 := 41) (ls1 := [(4, .int (q4 + 1)), (0, .ref 157), (1, .int w1), (3, .int w3)]) (st1 := []) (H1 := H) (k1 := 0) (n1 := 0) (by with_unfolding_all rfl)) ?_
  exact le_E (l1 := [(0, .ref 157), (1, .int w1), (3, .int w3), (4, .int (q4 + 1))]) ⟨rfl, rfl, rfl, rfl, trivial⟩ rfl (ih (q4 + 1) a H hS e)

set_option maxRecDepth 100000 in
theorem tj403_97 {sL : Nat} {sx : Nat → Int32} {h b N : Nat} {T : List am_C} {R : Option Value} {F : am_H → Prop} {w1 : Int32} {w3 : Int32} {z : Nat × xA} {rc : Int32 → xA → Option (Nat × xA)} (k0 : z.1 = 0 → ∀ H2 : am_H, xS h b T z.2 H2 → am_E sL sx am_cs 403 141 [(0, .ref 157)] [] H2 R F) (ih : ∀ (v4 : Int32) (a : xA) (H : am_H), xS h b T a H → rc v4 a = some z → am_E sL sx am_cs 403 41 [(0, .ref 157), (1, .int w1), (3, .int w3), (4, .int v4)] [] H R F) {q4 : Int32} {q5 : Int32} {t0 : Int32} {a : xA} {H : am_H} (hS : xS h b T a H) (e : j403_97 N h b rc w1 w3 q4 q5 t0 a = some z) : am_E sL sx am_cs 403 97 [(0, .ref 157), (1, .int w1), (3, .int w3), (4, .int q4), (5, .int q5)] [.int t0] H R F := by
  unfold j403_97 at e
  refine ex_s (am_nb (m := 7) (pc1 := 108) (ls1 := [(6, .int t0), (0, .ref 157), (1, .int w1), (3, .int w3), (4, .int q4), (5, .int q5)]) (st1 := [.int (t0 + 1), .int q5, .int q4, .ref 157]) (H1 := H) (k1 := 0) (n1 := 0) (by with_unfolding_all rfl)) ?_
  obtain ⟨a17, e16, e⟩ := xb1_some e
  refine ex_cv0 (as := [.int q4, .int q5, .int (t0 + 1)]) (rest := []) rfl rfl rfl rfl (hS.obj rfl (by decide)) rfl (by with_unfolding_all rfl) (by with_unfolding_all rfl) (tf390_blank hS e16) (fun H14 s15 => ?_)
  refine ex_s (am_nb (m := 1) (pc1 := 113) (ls1 := [(6, .int t0), (0, .ref 157), (1, .int w1), (3, .int w3), (4, .int q4), (5, .int q5)]) (st1 := [.int q5]) (H1 := H14) (k1 := 0) (n1 := 0) (by with_unfolding_all rfl)) ?_
  refine ex_s (st_if rfl) ?_
  by_cases c19 : q5 = 0
  · have e := (if_pos c19).symm.trans e
    refine ex_pc (if_pos c19) ?_
    refine ex_s (am_nb (m := 3) (pc1 := 121) (ls1 := [(6, .int t0), (0, .ref 157), (1, .int w1), (3, .int w3), (4, .int q4), (5, .int q5)]) (st1 := [.int q4, .ref 157, .int t0]) (H1 := H14) (k1 := 0) (n1 := 0) (by with_unfolding_all rfl)) ?_
    obtain ⟨r23, a24, e22, e⟩ := xb2_some e
    refine ex_cv1 (as := [.int q4]) (rest := [.int t0]) rfl rfl rfl rfl (s15.obj rfl (by decide)) rfl (by with_unfolding_all rfl) (by with_unfolding_all rfl) (tf385_last s15 e22) (fun H20 s21 => ?_)
    refine ex_s (st_icmp rfl) ?_
    by_cases c26 : t0 = r23
    · have e := (if_pos c26).symm.trans e
      refine ex_pc (if_pos c26) ?_
      refine ex_s (am_nb (m := 1) (pc1 := 128) (ls1 := [(6, .int t0), (0, .ref 157), (1, .int w1), (3, .int w3), (4, .int q4), (5, .int q5)]) (st1 := [.ref 157]) (H1 := H20) (k1 := 0) (n1 := 0) (by with_unfolding_all rfl)) ?_
      refine xe_get (v := .ref 191) s21 rfl rfl (by decide) rfl ?_
      refine ex_s (am_nb (m := 2) (pc1 := 134) (ls1 := [(6, .int t0), (0, .ref 157), (1, .int w1), (3, .int w3), (4, .int q4), (5, .int q5)]) (st1 := [.int 0, .int q4, .ref 191]) (H1 := H20) (k1 := 0) (n1 := 0) (by with_unfolding_all rfl)) ?_
      obtain ⟨g30, e⟩ := xg_some e
      obtain ⟨a27, ha27, e⟩ := xw_some e
      refine xe_iast s21 rfl rfl g30 (fun H28 s29 => ?_)
      have s29 : xS h b T a27 H28 := by rw [ha27]; exact s29
      exact le_E (l1 := [(0, .ref 157), (1, .int w1), (3, .int w3), (4, .int q4)]) ⟨rfl, rfl, rfl, rfl, trivial⟩ rfl (tj403_135 k0 ih  s29 e)
    · have e := (if_neg c26).symm.trans e
      refine ex_pc (if_neg c26) ?_
      exact le_E (l1 := [(0, .ref 157), (1, .int w1), (3, .int w3), (4, .int q4)]) ⟨rfl, rfl, rfl, rfl, trivial⟩ rfl (tj403_135 k0 ih  s21 e)
  · have e := (if_neg c19).symm.trans e
    refine ex_pc (if_neg c19) ?_
    exact le_E (l1 := [(0, .ref 157), (1, .int w1), (3, .int w3), (4, .int q4)]) ⟨rfl, rfl, rfl, rfl, trivial⟩ rfl (tj403_135 k0 ih  s15 e)

set_option maxRecDepth 100000 in
theorem tj403_91 {sL : Nat} {sx : Nat → Int32} {h b N : Nat} {T : List am_C} {R : Option Value} {F : am_H → Prop} {w1 : Int32} {w3 : Int32} {z : Nat × xA} {rc : Int32 → xA → Option (Nat × xA)} (k0 : z.1 = 0 → ∀ H2 : am_H, xS h b T z.2 H2 → am_E sL sx am_cs 403 141 [(0, .ref 157)] [] H2 R F) (ih : ∀ (v4 : Int32) (a : xA) (H : am_H), xS h b T a H → rc v4 a = some z → am_E sL sx am_cs 403 41 [(0, .ref 157), (1, .int w1), (3, .int w3), (4, .int v4)] [] H R F) {q4 : Int32} {q5 : Int32} {a : xA} {H : am_H} (hS : xS h b T a H) (e : j403_91 N h b rc w1 w3 q4 q5 a = some z) : am_E sL sx am_cs 403 91 [(0, .ref 157), (1, .int w1), (3, .int w3), (4, .int q4), (5, .int q5)] [] H R F := by
  unfold j403_91 at e
  refine ex_s (am_nb (m := 2) (pc1 := 94) (ls1 := [(0, .ref 157), (1, .int w1), (3, .int w3), (4, .int q4), (5, .int q5)]) (st1 := [.int q4, .ref 157]) (H1 := H) (k1 := 0) (n1 := 0) (by with_unfolding_all rfl)) ?_
  obtain ⟨r34, a35, e33, e⟩ := xb2_some e
  refine ex_cv1 (as := [.int q4]) (rest := []) rfl rfl rfl rfl (hS.obj rfl (by decide)) rfl (by with_unfolding_all rfl) (by with_unfolding_all rfl) (tf385_last hS e33) (fun H31 s32 => ?_)
  exact le_E (l1 := [(0, .ref 157), (1, .int w1), (3, .int w3), (4, .int q4), (5, .int q5)]) ⟨rfl, rfl, rfl, rfl, rfl, trivial⟩ rfl (tj403_97 k0 ih  s32 e)

set_option maxRecDepth 100000 in
theorem tj403_68 {sL : Nat} {sx : Nat → Int32} {h b N : Nat} {T : List am_C} {R : Option Value} {F : am_H → Prop} {w1 : Int32} {w3 : Int32} {z : Nat × xA} {rc : Int32 → xA → Option (Nat × xA)} (k0 : z.1 = 0 → ∀ H2 : am_H, xS h b T z.2 H2 → am_E sL sx am_cs 403 141 [(0, .ref 157)] [] H2 R F) (ih : ∀ (v4 : Int32) (a : xA) (H : am_H), xS h b T a H → rc v4 a = some z → am_E sL sx am_cs 403 41 [(0, .ref 157), (1, .int w1), (3, .int w3), (4, .int v4)] [] H R F) {q4 : Int32} {t0 : Int32} {a : xA} {H : am_H} (hS : xS h b T a H) (e : j403_68 N h b rc w1 w3 q4 t0 a = some z) : am_E sL sx am_cs 403 68 [(0, .ref 157), (1, .int w1), (3, .int w3), (4, .int q4)] [.int t0] H R F := by
  unfold j403_68 at e
  refine ex_s (am_nb (m := 3) (pc1 := 72) (ls1 := [(5, .int t0), (0, .ref 157), (1, .int w1), (3, .int w3), (4, .int q4)]) (st1 := [.int 1, .int w1]) (H1 := H) (k1 := 0) (n1 := 0) (by with_unfolding_all rfl)) ?_
  refine ex_s (st_icmp rfl) ?_
  by_cases c38 : w1 = 1
  · have e := (if_pos c38).symm.trans e
    refine ex_pc (if_pos c38) ?_
    refine ex_s (am_nb (m := 2) (pc1 := 78) (ls1 := [(5, .int t0), (0, .ref 157), (1, .int w1), (3, .int w3), (4, .int q4)]) (st1 := [.ref 157, .int q4]) (H1 := H) (k1 := 0) (n1 := 0) (by with_unfolding_all rfl)) ?_
    refine xe_get (v := .int (a 157 93)) hS rfl rfl (by decide) rfl ?_
    refine ex_s (st_icmp rfl) ?_
    by_cases c40 : q4 = (a 157 93)
    · have e := (if_pos c40).symm.trans e
      refine ex_pc (if_pos c40) ?_
      refine ex_s (am_nb (m := 1) (pc1 := 85) (ls1 := [(5, .int t0), (0, .ref 157), (1, .int w1), (3, .int w3), (4, .int q4)]) (st1 := [.ref 157]) (H1 := H) (k1 := 0) (n1 := 0) (by with_unfolding_all rfl)) ?_
      refine xe_get (v := .int (a 157 94)) hS rfl rfl (by decide) rfl ?_
      refine ex_s (am_nb (m := 1) (pc1 := 97) (ls1 := [(5, .int t0), (0, .ref 157), (1, .int w1), (3, .int w3), (4, .int q4)]) (st1 := [.int (a 157 94)]) (H1 := H) (k1 := 0) (n1 := 0) (by with_unfolding_all rfl)) ?_
      exact le_E (l1 := [(0, .ref 157), (1, .int w1), (3, .int w3), (4, .int q4), (5, .int t0)]) ⟨rfl, rfl, rfl, rfl, rfl, trivial⟩ rfl (tj403_97 k0 ih  hS e)
    · have e := (if_neg c40).symm.trans e
      refine ex_pc (if_neg c40) ?_
      exact le_E (l1 := [(0, .ref 157), (1, .int w1), (3, .int w3), (4, .int q4), (5, .int t0)]) ⟨rfl, rfl, rfl, rfl, rfl, trivial⟩ rfl (tj403_91 k0 ih  hS e)
  · have e := (if_neg c38).symm.trans e
    refine ex_pc (if_neg c38) ?_
    exact le_E (l1 := [(0, .ref 157), (1, .int w1), (3, .int w3), (4, .int q4), (5, .int t0)]) ⟨rfl, rfl, rfl, rfl, rfl, trivial⟩ rfl (tj403_91 k0 ih  hS e)

set_option maxRecDepth 100000 in
theorem tj403_67 {sL : Nat} {sx : Nat → Int32} {h b N : Nat} {T : List am_C} {R : Option Value} {F : am_H → Prop} {w1 : Int32} {w3 : Int32} {z : Nat × xA} {rc : Int32 → xA → Option (Nat × xA)} (k0 : z.1 = 0 → ∀ H2 : am_H, xS h b T z.2 H2 → am_E sL sx am_cs 403 141 [(0, .ref 157)] [] H2 R F) (ih : ∀ (v4 : Int32) (a : xA) (H : am_H), xS h b T a H → rc v4 a = some z → am_E sL sx am_cs 403 41 [(0, .ref 157), (1, .int w1), (3, .int w3), (4, .int v4)] [] H R F) {q4 : Int32} {a : xA} {H : am_H} (hS : xS h b T a H) (e : j403_67 N h b rc w1 w3 q4 a = some z) : am_E sL sx am_cs 403 67 [(0, .ref 157), (1, .int w1), (3, .int w3), (4, .int q4)] [] H R F := by
  unfold j403_67 at e
  refine ex_s (am_nb (m := 1) (pc1 := 68) (ls1 := [(0, .ref 157), (1, .int w1), (3, .int w3), (4, .int q4)]) (st1 := [.int 0]) (H1 := H) (k1 := 0) (n1 := 0) (by with_unfolding_all rfl)) ?_
  exact le_E (l1 := [(0, .ref 157), (1, .int w1), (3, .int w3), (4, .int q4)]) ⟨rfl, rfl, rfl, rfl, trivial⟩ rfl (tj403_68 k0 ih  hS e)

set_option maxRecDepth 100000 in
theorem tl403_41 {sL : Nat} {sx : Nat → Int32} {h b N : Nat} {T : List am_C} {R : Option Value} {F : am_H → Prop} {w1 : Int32} {w3 : Int32} {z : Nat × xA} (k0 : z.1 = 0 → ∀ H2 : am_H, xS h b T z.2 H2 → am_E sL sx am_cs 403 141 [(0, .ref 157)] [] H2 R F) : ∀ (n : Nat) (v4 : Int32) (a : xA) (H : am_H), xS h b T a H → l403_41 N h b w1 w3 n v4 a = some z → am_E sL sx am_cs 403 41 [(0, .ref 157), (1, .int w1), (3, .int w3), (4, .int v4)] [] H R F := by
  intro n
  induction n with
  | zero =>
    intro v4 a H hS e
    cases e
  | succ n ih =>
    intro v4 a H hS e
    unfold l403_41 at e
    refine ex_s (am_nb (m := 2) (pc1 := 44) (ls1 := [(0, .ref 157), (1, .int w1), (3, .int w3), (4, .int v4)]) (st1 := [.int w3, .int v4]) (H1 := H) (k1 := 0) (n1 := 0) (by with_unfolding_all rfl)) ?_
    refine ex_s (st_icmp rfl) ?_
    by_cases c4 : w3 < v4
    · have e := (if_pos c4).symm.trans e
      refine ex_pc (if_pos c4) ?_
      cases e
      exact le_E (l1 := [(0, .ref 157)]) ⟨rfl, trivial⟩ rfl (k0 rfl H hS)
    · have e := (if_neg c4).symm.trans e
      refine ex_pc (if_neg c4) ?_
      refine ex_s (am_nb (m := 1) (pc1 := 48) (ls1 := [(0, .ref 157), (1, .int w1), (3, .int w3), (4, .int v4)]) (st1 := [.int w1]) (H1 := H) (k1 := 0) (n1 := 0) (by with_unfolding_all rfl)) ?_
      refine ex_s (st_if rfl) ?_
      by_cases c7 : w1 = 0
      · have e := (if_pos c7).symm.trans e
        refine ex_pc (if_pos c7) ?_
        refine ex_s (am_nb (m := 2) (pc1 := 54) (ls1 := [(0, .ref 157), (1, .int w1), (3, .int w3), (4, .int v4)]) (st1 := [.ref 157, .int v4]) (H1 := H) (k1 := 0) (n1 := 0) (by with_unfolding_all rfl)) ?_
        refine xe_get (v := .int (a 157 93)) hS rfl rfl (by decide) rfl ?_
        have kk : am_E sL sx am_cs 403 68 [(0, .ref 157), (1, .int w1), (3, .int w3), (4, .int v4)] [.int (if v4 = (a 157 93) then (a 157 94) else (0 : Int32))] H R F := by
          refine ex_s (am_nb (m := 3) (pc1 := 72) (ls1 := [(5, .int (if v4 = (a 157 93) then (a 157 94) else (0 : Int32))), (0, .ref 157), (1, .int w1), (3, .int w3), (4, .int v4)]) (st1 := [.int 1, .int w1]) (H1 := H) (k1 := 0) (n1 := 0) (by with_unfolding_all rfl)) ?_
          refine ex_s (st_icmp rfl) ?_
          by_cases c11 : w1 = 1
          · have e := (if_pos c11).symm.trans e
            refine ex_pc (if_pos c11) ?_
            refine ex_s (am_nb (m := 2) (pc1 := 78) (ls1 := [(5, .int (if v4 = (a 157 93) then (a 157 94) else (0 : Int32))), (0, .ref 157), (1, .int w1), (3, .int w3), (4, .int v4)]) (st1 := [.ref 157, .int v4]) (H1 := H) (k1 := 0) (n1 := 0) (by with_unfolding_all rfl)) ?_
            refine xe_get (v := .int (a 157 93)) hS rfl rfl (by decide) rfl ?_
            refine ex_s (st_icmp rfl) ?_
            by_cases c13 : v4 = (a 157 93)
            · have e := (if_pos c13).symm.trans e
              refine ex_pc (if_pos c13) ?_
              refine ex_s (am_nb (m := 1) (pc1 := 85) (ls1 := [(5, .int (if v4 = (a 157 93) then (a 157 94) else (0 : Int32))), (0, .ref 157), (1, .int w1), (3, .int w3), (4, .int v4)]) (st1 := [.ref 157]) (H1 := H) (k1 := 0) (n1 := 0) (by with_unfolding_all rfl)) ?_
              refine xe_get (v := .int (a 157 94)) hS rfl rfl (by decide) rfl ?_
              refine ex_s (am_nb (m := 1) (pc1 := 97) (ls1 := [(5, .int (if v4 = (a 157 93) then (a 157 94) else (0 : Int32))), (0, .ref 157), (1, .int w1), (3, .int w3), (4, .int v4)]) (st1 := [.int (a 157 94)]) (H1 := H) (k1 := 0) (n1 := 0) (by with_unfolding_all rfl)) ?_
              exact le_E (l1 := [(0, .ref 157), (1, .int w1), (3, .int w3), (4, .int v4), (5, .int (if v4 = (a 157 93) then (a 157 94) else (0 : Int32)))]) ⟨rfl, rfl, rfl, rfl, rfl, trivial⟩ rfl (tj403_97 k0 ih  hS e)
            · have e := (if_neg c13).symm.trans e
              refine ex_pc (if_neg c13) ?_
              exact le_E (l1 := [(0, .ref 157), (1, .int w1), (3, .int w3), (4, .int v4), (5, .int (if v4 = (a 157 93) then (a 157 94) else (0 : Int32)))]) ⟨rfl, rfl, rfl, rfl, rfl, trivial⟩ rfl (tj403_91 k0 ih  hS e)
          · have e := (if_neg c11).symm.trans e
            refine ex_pc (if_neg c11) ?_
            exact le_E (l1 := [(0, .ref 157), (1, .int w1), (3, .int w3), (4, .int v4), (5, .int (if v4 = (a 157 93) then (a 157 94) else (0 : Int32)))]) ⟨rfl, rfl, rfl, rfl, rfl, trivial⟩ rfl (tj403_91 k0 ih  hS e)
        refine ex_s (st_icmp rfl) ?_
        by_cases c8 : v4 = (a 157 93)
        · refine ex_pc (if_pos c8) ?_
          refine ex_s (am_nb (m := 1) (pc1 := 61) (ls1 := [(0, .ref 157), (1, .int w1), (3, .int w3), (4, .int v4)]) (st1 := [.ref 157]) (H1 := H) (k1 := 0) (n1 := 0) (by with_unfolding_all rfl)) ?_
          refine xe_get (v := .int (a 157 94)) hS rfl rfl (by decide) rfl ?_
          refine ex_s (am_nb (m := 1) (pc1 := 68) (ls1 := [(0, .ref 157), (1, .int w1), (3, .int w3), (4, .int v4)]) (st1 := [.int (a 157 94)]) (H1 := H) (k1 := 0) (n1 := 0) (by with_unfolding_all rfl)) ?_
          rw [if_pos c8] at kk
          exact kk
        · refine ex_pc (if_neg c8) ?_
          refine ex_s (am_nb (m := 1) (pc1 := 68) (ls1 := [(0, .ref 157), (1, .int w1), (3, .int w3), (4, .int v4)]) (st1 := [.int 0]) (H1 := H) (k1 := 0) (n1 := 0) (by with_unfolding_all rfl)) ?_
          rw [if_neg c8] at kk
          exact kk
      · have e := (if_neg c7).symm.trans e
        refine ex_pc (if_neg c7) ?_
        exact le_E (l1 := [(0, .ref 157), (1, .int w1), (3, .int w3), (4, .int v4)]) ⟨rfl, rfl, rfl, rfl, trivial⟩ rfl (tj403_67 k0 ih  hS e)

set_option maxRecDepth 100000 in
theorem tf403_erases {sL : Nat} {sx : Nat → Int32} {h b N : Nat} {T : List am_C} {a' : xA} {x0 : Int32} {a : xA} {H : am_H} (hS : xS h b T a H) (e : f403_erases N h b x0 a = some a') : am_E sL sx am_cs 403 0 [(0, .ref 157), (1, .int x0)] [] H none (fun H1 => xS h b T a' H1) := by
  unfold f403_erases at e
  refine ex_s (am_nb (m := 2) (pc1 := 2) (ls1 := [(0, .ref 157), (1, .int x0)]) (st1 := [.int 2, .int x0]) (H1 := H) (k1 := 0) (n1 := 0) (by with_unfolding_all rfl)) ?_
  refine ex_s (st_icmp rfl) ?_
  by_cases c1 : x0 ≤ 2
  · have e := (if_pos c1).symm.trans e
    refine ex_pc (if_pos c1) ?_
    refine ex_s (am_nb (m := 1) (pc1 := 7) (ls1 := [(0, .ref 157), (1, .int x0)]) (st1 := [.int x0]) (H1 := H) (k1 := 0) (n1 := 0) (by with_unfolding_all rfl)) ?_
    have kk : am_E sL sx am_cs 403 18 [(0, .ref 157), (1, .int x0)] [.int (if x0 = 0 then (a 157 93) else (0 : Int32))] H none (fun H1 => xS h b T a' H1) := by
      refine ex_s (am_nb (m := 3) (pc1 := 21) (ls1 := [(2, .int (if x0 = 0 then (a 157 93) else (0 : Int32))), (0, .ref 157), (1, .int x0)]) (st1 := [.int 1, .int x0]) (H1 := H) (k1 := 0) (n1 := 0) (by with_unfolding_all rfl)) ?_
      have kk : am_E sL sx am_cs 403 37 [(2, .int (if x0 = 0 then (a 157 93) else (0 : Int32))), (0, .ref 157), (1, .int x0)] [.int (if x0 = 1 then (a 157 93) else ((a 157 68) - 1))] H none (fun H1 => xS h b T a' H1) := by
        refine ex_s (am_nb (m := 3) (pc1 := 41) (ls1 := [(4, .int (if x0 = 0 then (a 157 93) else (0 : Int32))), (3, .int (if x0 = 1 then (a 157 93) else ((a 157 68) - 1))), (2, .int (if x0 = 0 then (a 157 93) else (0 : Int32))), (0, .ref 157), (1, .int x0)]) (st1 := []) (H1 := H) (k1 := 0) (n1 := 0) (by with_unfolding_all rfl)) ?_
        obtain ⟨z41, e42, e⟩ := Option.bind_eq_some_iff.mp e
        refine le_E (l1 := [(0, .ref 157), (1, .int x0), (3, .int (if x0 = 1 then (a 157 93) else ((a 157 68) - 1))), (4, .int (if x0 = 0 then (a 157 93) else (0 : Int32)))]) ⟨rfl, rfl, rfl, rfl, trivial⟩ rfl (tl403_41 (z := z41)  (fun uz41_0 Hz410 sz410 => ?_) N (if x0 = 0 then (a 157 93) else (0 : Int32)) a H hS e42)
        refine ex_s (am_nb (m := 2) (pc1 := 143) (ls1 := [(0, .ref 157)]) (st1 := [.int 2, .ref 157]) (H1 := Hz410) (k1 := 0) (n1 := 0) (by with_unfolding_all rfl)) ?_
        obtain ⟨a43, ha43, e⟩ := xw_some e
        refine xe_put (w := 2) sz410 rfl rfl (by decide) rfl rfl rfl rfl (fun H44 s45 => ?_)
        have s45 : xS h b T a43 H44 := by rw [ha43]; exact s45
        cases e
        exact ex_r (st_vret rfl rfl) s45
      refine ex_s (st_icmp rfl) ?_
      by_cases c3 : x0 = 1
      · refine ex_pc (if_pos c3) ?_
        refine ex_s (am_nb (m := 1) (pc1 := 25) (ls1 := [(2, .int (if x0 = 0 then (a 157 93) else (0 : Int32))), (0, .ref 157), (1, .int x0)]) (st1 := [.ref 157]) (H1 := H) (k1 := 0) (n1 := 0) (by with_unfolding_all rfl)) ?_
        refine xe_get (v := .int (a 157 93)) hS rfl rfl (by decide) rfl ?_
        refine ex_s (am_nb (m := 1) (pc1 := 37) (ls1 := [(2, .int (if x0 = 0 then (a 157 93) else (0 : Int32))), (0, .ref 157), (1, .int x0)]) (st1 := [.int (a 157 93)]) (H1 := H) (k1 := 0) (n1 := 0) (by with_unfolding_all rfl)) ?_
        rw [if_pos c3] at kk
        exact kk
      · refine ex_pc (if_neg c3) ?_
        refine ex_s (am_nb (m := 1) (pc1 := 32) (ls1 := [(2, .int (if x0 = 0 then (a 157 93) else (0 : Int32))), (0, .ref 157), (1, .int x0)]) (st1 := [.ref 157]) (H1 := H) (k1 := 0) (n1 := 0) (by with_unfolding_all rfl)) ?_
        refine xe_get (v := .int (a 157 68)) hS rfl rfl (by decide) rfl ?_
        refine ex_s (am_nb (m := 2) (pc1 := 37) (ls1 := [(2, .int (if x0 = 0 then (a 157 93) else (0 : Int32))), (0, .ref 157), (1, .int x0)]) (st1 := [.int ((a 157 68) - 1)]) (H1 := H) (k1 := 0) (n1 := 0) (by with_unfolding_all rfl)) ?_
        rw [if_neg c3] at kk
        exact kk
    refine ex_s (st_if rfl) ?_
    by_cases c2 : x0 = 0
    · refine ex_pc (if_pos c2) ?_
      refine ex_s (am_nb (m := 1) (pc1 := 11) (ls1 := [(0, .ref 157), (1, .int x0)]) (st1 := [.ref 157]) (H1 := H) (k1 := 0) (n1 := 0) (by with_unfolding_all rfl)) ?_
      refine xe_get (v := .int (a 157 93)) hS rfl rfl (by decide) rfl ?_
      refine ex_s (am_nb (m := 1) (pc1 := 18) (ls1 := [(0, .ref 157), (1, .int x0)]) (st1 := [.int (a 157 93)]) (H1 := H) (k1 := 0) (n1 := 0) (by with_unfolding_all rfl)) ?_
      rw [if_pos c2] at kk
      exact kk
    · refine ex_pc (if_neg c2) ?_
      refine ex_s (am_nb (m := 1) (pc1 := 18) (ls1 := [(0, .ref 157), (1, .int x0)]) (st1 := [.int 0]) (H1 := H) (k1 := 0) (n1 := 0) (by with_unfolding_all rfl)) ?_
      rw [if_neg c2] at kk
      exact kk
  · have e := (if_neg c1).symm.trans e
    refine ex_pc (if_neg c1) ?_
    cases e
    exact ex_r (st_vret rfl rfl) hS

set_option maxRecDepth 100000 in
theorem tj404_68 {sL : Nat} {sx : Nat → Int32} {h b N : Nat} {T : List am_C} {R : Option Value} {F : am_H → Prop} {w1 : Int32} {w2 : Int32} {z : Nat × xA} {rc : Int32 → xA → Option (Nat × xA)} (k0 : z.1 = 0 → ∀ H2 : am_H, xS h b T z.2 H2 → am_E sL sx am_cs 404 74 [(0, .ref 157)] [] H2 R F) (ih : ∀ (v3 : Int32) (a : xA) (H : am_H), xS h b T a H → rc v3 a = some z → am_E sL sx am_cs 404 25 [(0, .ref 157), (1, .int w1), (2, .int w2), (3, .int v3)] [] H R F) {q3 : Int32} {a : xA} {H : am_H} (hS : xS h b T a H) (e : j404_68 N h b rc w1 w2 q3 a = some z) : am_E sL sx am_cs 404 68 [(0, .ref 157), (1, .int w1), (2, .int w2), (3, .int q3)] [] H R F := by
  unfold j404_68 at e
  refine ex_s (am_nb (m := 2) (pc1 := 25) (ls1 := [(3, .int (q3 + 1)), (0, .ref 157), (1, .int w1), (2, .int w2)]) (st1 := []) (H1 := H) (k1 := 0) (n1 := 0) (by with_unfolding_all rfl)) ?_
  exact le_E (l1 := [(0, .ref 157), (1, .int w1), (2, .int w2), (3, .int (q3 + 1))]) ⟨rfl, rfl, rfl, rfl, trivial⟩ rfl (ih (q3 + 1) a H hS e)

set_option maxRecDepth 100000 in
theorem tl404_25 {sL : Nat} {sx : Nat → Int32} {h b N : Nat} {T : List am_C} {R : Option Value} {F : am_H → Prop} {w1 : Int32} {w2 : Int32} {z : Nat × xA} (k0 : z.1 = 0 → ∀ H2 : am_H, xS h b T z.2 H2 → am_E sL sx am_cs 404 74 [(0, .ref 157)] [] H2 R F) : ∀ (n : Nat) (v3 : Int32) (a : xA) (H : am_H), xS h b T a H → l404_25 N h b w1 w2 n v3 a = some z → am_E sL sx am_cs 404 25 [(0, .ref 157), (1, .int w1), (2, .int w2), (3, .int v3)] [] H R F := by
  intro n
  induction n with
  | zero =>
    intro v3 a H hS e
    cases e
  | succ n ih =>
    intro v3 a H hS e
    unfold l404_25 at e
    refine ex_s (am_nb (m := 3) (pc1 := 28) (ls1 := [(0, .ref 157), (1, .int w1), (2, .int w2), (3, .int v3)]) (st1 := [.ref 157, .int w2, .int v3]) (H1 := H) (k1 := 0) (n1 := 0) (by with_unfolding_all rfl)) ?_
    refine xe_get (v := .int (a 157 68)) hS rfl rfl (by decide) rfl ?_
    refine ex_s (am_nb (m := 1) (pc1 := 34) (ls1 := [(0, .ref 157), (1, .int w1), (2, .int w2), (3, .int v3)]) (st1 := [.int (xmin w2 (a 157 68)), .int v3]) (H1 := H) (k1 := 0) (n1 := 0) (by with_unfolding_all rfl)) ?_
    refine ex_s (st_icmp rfl) ?_
    by_cases c5 : (xmin w2 (a 157 68)) ≤ v3
    · have e := (if_pos c5).symm.trans e
      refine ex_pc (if_pos c5) ?_
      cases e
      exact le_E (l1 := [(0, .ref 157)]) ⟨rfl, trivial⟩ rfl (k0 rfl H hS)
    · have e := (if_neg c5).symm.trans e
      refine ex_pc (if_neg c5) ?_
      refine ex_s (am_nb (m := 1) (pc1 := 38) (ls1 := [(0, .ref 157), (1, .int w1), (2, .int w2), (3, .int v3)]) (st1 := [.int w1]) (H1 := H) (k1 := 0) (n1 := 0) (by with_unfolding_all rfl)) ?_
      refine ex_s (st_if rfl) ?_
      by_cases c7 : w1 = 0
      · have e := (if_pos c7).symm.trans e
        refine ex_pc (if_pos c7) ?_
        refine ex_s (am_nb (m := 2) (pc1 := 58) (ls1 := [(0, .ref 157), (1, .int w1), (2, .int w2), (3, .int v3)]) (st1 := [.ref 157, .ref 157]) (H1 := H) (k1 := 0) (n1 := 0) (by with_unfolding_all rfl)) ?_
        refine xe_get (v := .int (a 157 93)) hS rfl rfl (by decide) rfl ?_
        refine ex_s (am_nb (m := 1) (pc1 := 62) (ls1 := [(0, .ref 157), (1, .int w1), (2, .int w2), (3, .int v3)]) (st1 := [.ref 157, .int (a 157 93), .ref 157]) (H1 := H) (k1 := 0) (n1 := 0) (by with_unfolding_all rfl)) ?_
        refine xe_get (v := .int (a 157 96)) hS rfl rfl (by decide) rfl ?_
        obtain ⟨a11, e10, e⟩ := xb1_some e
        refine ex_cv0 (as := [.int (a 157 93), .int (a 157 96)]) (rest := []) rfl rfl rfl rfl (hS.obj rfl (by decide)) rfl (by with_unfolding_all rfl) (by with_unfolding_all rfl) (tf387_rollsUp hS e10) (fun H8 s9 => ?_)
        exact le_E (l1 := [(0, .ref 157), (1, .int w1), (2, .int w2), (3, .int v3)]) ⟨rfl, rfl, rfl, rfl, trivial⟩ rfl (tj404_68 k0 ih  s9 e)
      · have e := (if_neg c7).symm.trans e
        refine ex_pc (if_neg c7) ?_
        refine ex_s (am_nb (m := 2) (pc1 := 43) (ls1 := [(0, .ref 157), (1, .int w1), (2, .int w2), (3, .int v3)]) (st1 := [.ref 157, .ref 157]) (H1 := H) (k1 := 0) (n1 := 0) (by with_unfolding_all rfl)) ?_
        refine xe_get (v := .int (a 157 93)) hS rfl rfl (by decide) rfl ?_
        refine ex_s (am_nb (m := 1) (pc1 := 47) (ls1 := [(0, .ref 157), (1, .int w1), (2, .int w2), (3, .int v3)]) (st1 := [.ref 157, .int (a 157 93), .ref 157]) (H1 := H) (k1 := 0) (n1 := 0) (by with_unfolding_all rfl)) ?_
        refine xe_get (v := .int (a 157 96)) hS rfl rfl (by decide) rfl ?_
        obtain ⟨a15, e14, e⟩ := xb1_some e
        refine ex_cv0 (as := [.int (a 157 93), .int (a 157 96)]) (rest := []) rfl rfl rfl rfl (hS.obj rfl (by decide)) rfl (by with_unfolding_all rfl) (by with_unfolding_all rfl) (tf397_rollsDown hS e14) (fun H12 s13 => ?_)
        refine ex_s (am_nb (m := 1) (pc1 := 68) (ls1 := [(0, .ref 157), (1, .int w1), (2, .int w2), (3, .int v3)]) (st1 := []) (H1 := H12) (k1 := 0) (n1 := 0) (by with_unfolding_all rfl)) ?_
        exact le_E (l1 := [(0, .ref 157), (1, .int w1), (2, .int w2), (3, .int v3)]) ⟨rfl, rfl, rfl, rfl, trivial⟩ rfl (tj404_68 k0 ih  s13 e)

set_option maxRecDepth 100000 in
theorem tf404_rowsIn {sL : Nat} {sx : Nat → Int32} {h b N : Nat} {T : List am_C} {a' : xA} {x0 : Int32} {x1 : Int32} {a : xA} {H : am_H} (hS : xS h b T a H) (e : f404_rowsIn N h b x0 x1 a = some a') : am_E sL sx am_cs 404 0 [(0, .ref 157), (1, .int x0), (2, .int x1)] [] H none (fun H1 => xS h b T a' H1) := by
  unfold f404_rowsIn at e
  refine ex_s (am_nb (m := 1) (pc1 := 1) (ls1 := [(0, .ref 157), (1, .int x0), (2, .int x1)]) (st1 := [.ref 157]) (H1 := H) (k1 := 0) (n1 := 0) (by with_unfolding_all rfl)) ?_
  refine xe_get (v := .int (a 157 93)) hS rfl rfl (by decide) rfl ?_
  refine ex_s (am_nb (m := 1) (pc1 := 5) (ls1 := [(0, .ref 157), (1, .int x0), (2, .int x1)]) (st1 := [.ref 157, .int (a 157 93)]) (H1 := H) (k1 := 0) (n1 := 0) (by with_unfolding_all rfl)) ?_
  refine xe_get (v := .int (a 157 95)) hS rfl rfl (by decide) rfl ?_
  refine ex_s (st_icmp rfl) ?_
  by_cases c3 : (a 157 93) < (a 157 95)
  · have e := (if_pos c3).symm.trans e
    refine ex_pc (if_pos c3) ?_
    cases e
    exact ex_r (st_vret rfl rfl) hS
  · have e := (if_neg c3).symm.trans e
    refine ex_pc (if_neg c3) ?_
    refine ex_s (am_nb (m := 1) (pc1 := 12) (ls1 := [(0, .ref 157), (1, .int x0), (2, .int x1)]) (st1 := [.ref 157]) (H1 := H) (k1 := 0) (n1 := 0) (by with_unfolding_all rfl)) ?_
    refine xe_get (v := .int (a 157 93)) hS rfl rfl (by decide) rfl ?_
    refine ex_s (am_nb (m := 1) (pc1 := 16) (ls1 := [(0, .ref 157), (1, .int x0), (2, .int x1)]) (st1 := [.ref 157, .int (a 157 93)]) (H1 := H) (k1 := 0) (n1 := 0) (by with_unfolding_all rfl)) ?_
    refine xe_get (v := .int (a 157 96)) hS rfl rfl (by decide) rfl ?_
    refine ex_s (st_icmp rfl) ?_
    by_cases c4 : (a 157 93) ≤ (a 157 96)
    · have e := (if_pos c4).symm.trans e
      refine ex_pc (if_pos c4) ?_
      refine ex_s (am_nb (m := 2) (pc1 := 25) (ls1 := [(3, .int 0), (0, .ref 157), (1, .int x0), (2, .int x1)]) (st1 := []) (H1 := H) (k1 := 0) (n1 := 0) (by with_unfolding_all rfl)) ?_
      obtain ⟨z16, e17, e⟩ := Option.bind_eq_some_iff.mp e
      refine le_E (l1 := [(0, .ref 157), (1, .int x0), (2, .int x1), (3, .int 0)]) ⟨rfl, rfl, rfl, rfl, trivial⟩ rfl (tl404_25 (z := z16)  (fun uz16_0 Hz160 sz160 => ?_) N 0 a H hS e17)
      refine ex_s (am_nb (m := 2) (pc1 := 76) (ls1 := [(0, .ref 157)]) (st1 := [.ref 157, .ref 157]) (H1 := Hz160) (k1 := 0) (n1 := 0) (by with_unfolding_all rfl)) ?_
      refine xe_get (v := .int (z16.2 157 93)) sz160 rfl rfl (by decide) rfl ?_
      refine ex_s (am_nb (m := 1) (pc1 := 80) (ls1 := [(0, .ref 157)]) (st1 := [.int 0, .int (z16.2 157 93), .ref 157]) (H1 := Hz160) (k1 := 0) (n1 := 0) (by with_unfolding_all rfl)) ?_
      obtain ⟨a21, e20, e⟩ := xb1_some e
      refine ex_cv0 (as := [.int (z16.2 157 93), .int 0]) (rest := []) rfl rfl rfl rfl (sz160.obj rfl (by decide)) rfl (by with_unfolding_all rfl) (by with_unfolding_all rfl) (tf384_goes sz160 e20) (fun H18 s19 => ?_)
      refine ex_s (am_nb (m := 2) (pc1 := 85) (ls1 := [(0, .ref 157)]) (st1 := [.int 3, .ref 157]) (H1 := H18) (k1 := 0) (n1 := 0) (by with_unfolding_all rfl)) ?_
      obtain ⟨a22, ha22, e⟩ := xw_some e
      refine xe_put (w := 3) s19 rfl rfl (by decide) rfl rfl rfl rfl (fun H23 s24 => ?_)
      have s24 : xS h b T a22 H23 := by rw [ha22]; exact s24
      cases e
      exact ex_r (st_vret rfl rfl) s24
    · have e := (if_neg c4).symm.trans e
      refine ex_pc (if_neg c4) ?_
      cases e
      exact ex_r (st_vret rfl rfl) hS

set_option maxRecDepth 100000 in
theorem tl405_32 {sL : Nat} {sx : Nat → Int32} {h b N : Nat} {T : List am_C} {R : Option Value} {F : am_H → Prop} {w1 : Int32} {w3 : Int32} {w4 : Int32} {z : Nat × xA} (k0 : z.1 = 0 → ∀ H2 : am_H, xS h b T z.2 H2 → am_E sL sx am_cs 405 83 [(0, .ref 157), (1, .int w1), (3, .int w3), (4, .int w4)] [] H2 R F) : ∀ (n : Nat) (v5 : Int32) (a : xA) (H : am_H), xS h b T a H → l405_32 N h b w1 w3 w4 n v5 a = some z → am_E sL sx am_cs 405 32 [(0, .ref 157), (1, .int w1), (3, .int w3), (4, .int w4), (5, .int v5)] [] H R F := by
  intro n
  induction n with
  | zero =>
    intro v5 a H hS e
    cases e
  | succ n ih =>
    intro v5 a H hS e
    unfold l405_32 at e
    refine ex_s (am_nb (m := 2) (pc1 := 35) (ls1 := [(0, .ref 157), (1, .int w1), (3, .int w3), (4, .int w4), (5, .int v5)]) (st1 := [.ref 157, .int v5]) (H1 := H) (k1 := 0) (n1 := 0) (by with_unfolding_all rfl)) ?_
    refine xe_get (v := .int (a 157 94)) hS rfl rfl (by decide) rfl ?_
    refine ex_s (am_nb (m := 2) (pc1 := 41) (ls1 := [(0, .ref 157), (1, .int w1), (3, .int w3), (4, .int w4), (5, .int v5)]) (st1 := [.int ((a 157 94) + w4), .int v5]) (H1 := H) (k1 := 0) (n1 := 0) (by with_unfolding_all rfl)) ?_
    refine ex_s (st_icmp rfl) ?_
    by_cases c8 : v5 < ((a 157 94) + w4)
    · have e := (if_pos c8).symm.trans e
      refine ex_pc (if_pos c8) ?_
      cases e
      exact le_E (l1 := [(0, .ref 157), (1, .int w1), (3, .int w3), (4, .int w4)]) ⟨rfl, rfl, rfl, rfl, trivial⟩ rfl (k0 rfl H hS)
    · have e := (if_neg c8).symm.trans e
      refine ex_pc (if_neg c8) ?_
      refine ex_s (am_nb (m := 1) (pc1 := 45) (ls1 := [(0, .ref 157), (1, .int w1), (3, .int w3), (4, .int w4), (5, .int v5)]) (st1 := [.ref 157]) (H1 := H) (k1 := 0) (n1 := 0) (by with_unfolding_all rfl)) ?_
      refine xe_get (v := .ref 190) hS rfl rfl (by decide) rfl ?_
      refine ex_s (am_nb (m := 2) (pc1 := 51) (ls1 := [(0, .ref 157), (1, .int w1), (3, .int w3), (4, .int w4), (5, .int v5)]) (st1 := [.ref 157, .int 80, .ref 190]) (H1 := H) (k1 := 0) (n1 := 0) (by with_unfolding_all rfl)) ?_
      refine xe_get (v := .int (a 157 93)) hS rfl rfl (by decide) rfl ?_
      refine ex_s (am_nb (m := 4) (pc1 := 59) (ls1 := [(0, .ref 157), (1, .int w1), (3, .int w3), (4, .int w4), (5, .int v5)]) (st1 := [.ref 157, .int ((80 * (a 157 93)) + v5), .ref 190]) (H1 := H) (k1 := 0) (n1 := 0) (by with_unfolding_all rfl)) ?_
      refine xe_get (v := .ref 190) hS rfl rfl (by decide) rfl ?_
      refine ex_s (am_nb (m := 2) (pc1 := 65) (ls1 := [(0, .ref 157), (1, .int w1), (3, .int w3), (4, .int w4), (5, .int v5)]) (st1 := [.ref 157, .int 80, .ref 190, .int ((80 * (a 157 93)) + v5), .ref 190]) (H1 := H) (k1 := 0) (n1 := 0) (by with_unfolding_all rfl)) ?_
      refine xe_get (v := .int (a 157 93)) hS rfl rfl (by decide) rfl ?_
      refine ex_s (am_nb (m := 5) (pc1 := 75) (ls1 := [(0, .ref 157), (1, .int w1), (3, .int w3), (4, .int w4), (5, .int v5)]) (st1 := [.int (((80 * (a 157 93)) + v5) - w4), .ref 190, .int ((80 * (a 157 93)) + v5), .ref 190]) (H1 := H) (k1 := 0) (n1 := 0) (by with_unfolding_all rfl)) ?_
      obtain ⟨g9, e⟩ := xg_some e
      refine xe_iald hS rfl rfl g9 ?_
      obtain ⟨g13, e⟩ := xg_some e
      obtain ⟨a10, ha10, e⟩ := xw_some e
      refine xe_iast hS rfl rfl g13 (fun H11 s12 => ?_)
      have s12 : xS h b T a10 H11 := by rw [ha10]; exact s12
      refine ex_s (am_nb (m := 2) (pc1 := 32) (ls1 := [(5, .int (v5 + (-1))), (0, .ref 157), (1, .int w1), (3, .int w3), (4, .int w4)]) (st1 := []) (H1 := H11) (k1 := 0) (n1 := 0) (by with_unfolding_all rfl)) ?_
      exact le_E (l1 := [(0, .ref 157), (1, .int w1), (3, .int w3), (4, .int w4), (5, .int (v5 + (-1)))]) ⟨rfl, rfl, rfl, rfl, rfl, trivial⟩ rfl (ih (v5 + (-1)) a10 H11 s12 e)

set_option maxRecDepth 100000 in
theorem tl405_95 {sL : Nat} {sx : Nat → Int32} {h b N : Nat} {T : List am_C} {R : Option Value} {F : am_H → Prop} {w1 : Int32} {w3 : Int32} {w4 : Int32} {z : Nat × xA} (k0 : z.1 = 0 → ∀ H2 : am_H, xS h b T z.2 H2 → am_E sL sx am_cs 405 143 [(0, .ref 157), (1, .int w1), (3, .int w3), (4, .int w4)] [] H2 R F) : ∀ (n : Nat) (v5 : Int32) (a : xA) (H : am_H), xS h b T a H → l405_95 N h b w1 w3 w4 n v5 a = some z → am_E sL sx am_cs 405 95 [(0, .ref 157), (1, .int w1), (3, .int w3), (4, .int w4), (5, .int v5)] [] H R F := by
  intro n
  induction n with
  | zero =>
    intro v5 a H hS e
    cases e
  | succ n ih =>
    intro v5 a H hS e
    unfold l405_95 at e
    refine ex_s (am_nb (m := 4) (pc1 := 101) (ls1 := [(0, .ref 157), (1, .int w1), (3, .int w3), (4, .int w4), (5, .int v5)]) (st1 := [.int w3, .int (v5 + w4)]) (H1 := H) (k1 := 0) (n1 := 0) (by with_unfolding_all rfl)) ?_
    refine ex_s (st_icmp rfl) ?_
    by_cases c18 : w3 < (v5 + w4)
    · have e := (if_pos c18).symm.trans e
      refine ex_pc (if_pos c18) ?_
      cases e
      exact le_E (l1 := [(0, .ref 157), (1, .int w1), (3, .int w3), (4, .int w4)]) ⟨rfl, rfl, rfl, rfl, trivial⟩ rfl (k0 rfl H hS)
    · have e := (if_neg c18).symm.trans e
      refine ex_pc (if_neg c18) ?_
      refine ex_s (am_nb (m := 1) (pc1 := 105) (ls1 := [(0, .ref 157), (1, .int w1), (3, .int w3), (4, .int w4), (5, .int v5)]) (st1 := [.ref 157]) (H1 := H) (k1 := 0) (n1 := 0) (by with_unfolding_all rfl)) ?_
      refine xe_get (v := .ref 190) hS rfl rfl (by decide) rfl ?_
      refine ex_s (am_nb (m := 2) (pc1 := 111) (ls1 := [(0, .ref 157), (1, .int w1), (3, .int w3), (4, .int w4), (5, .int v5)]) (st1 := [.ref 157, .int 80, .ref 190]) (H1 := H) (k1 := 0) (n1 := 0) (by with_unfolding_all rfl)) ?_
      refine xe_get (v := .int (a 157 93)) hS rfl rfl (by decide) rfl ?_
      refine ex_s (am_nb (m := 4) (pc1 := 119) (ls1 := [(0, .ref 157), (1, .int w1), (3, .int w3), (4, .int w4), (5, .int v5)]) (st1 := [.ref 157, .int ((80 * (a 157 93)) + v5), .ref 190]) (H1 := H) (k1 := 0) (n1 := 0) (by with_unfolding_all rfl)) ?_
      refine xe_get (v := .ref 190) hS rfl rfl (by decide) rfl ?_
      refine ex_s (am_nb (m := 2) (pc1 := 125) (ls1 := [(0, .ref 157), (1, .int w1), (3, .int w3), (4, .int w4), (5, .int v5)]) (st1 := [.ref 157, .int 80, .ref 190, .int ((80 * (a 157 93)) + v5), .ref 190]) (H1 := H) (k1 := 0) (n1 := 0) (by with_unfolding_all rfl)) ?_
      refine xe_get (v := .int (a 157 93)) hS rfl rfl (by decide) rfl ?_
      refine ex_s (am_nb (m := 5) (pc1 := 135) (ls1 := [(0, .ref 157), (1, .int w1), (3, .int w3), (4, .int w4), (5, .int v5)]) (st1 := [.int (((80 * (a 157 93)) + v5) + w4), .ref 190, .int ((80 * (a 157 93)) + v5), .ref 190]) (H1 := H) (k1 := 0) (n1 := 0) (by with_unfolding_all rfl)) ?_
      obtain ⟨g19, e⟩ := xg_some e
      refine xe_iald hS rfl rfl g19 ?_
      obtain ⟨g23, e⟩ := xg_some e
      obtain ⟨a20, ha20, e⟩ := xw_some e
      refine xe_iast hS rfl rfl g23 (fun H21 s22 => ?_)
      have s22 : xS h b T a20 H21 := by rw [ha20]; exact s22
      refine ex_s (am_nb (m := 2) (pc1 := 95) (ls1 := [(5, .int (v5 + 1)), (0, .ref 157), (1, .int w1), (3, .int w3), (4, .int w4)]) (st1 := []) (H1 := H21) (k1 := 0) (n1 := 0) (by with_unfolding_all rfl)) ?_
      exact le_E (l1 := [(0, .ref 157), (1, .int w1), (3, .int w3), (4, .int w4), (5, .int (v5 + 1))]) ⟨rfl, rfl, rfl, rfl, rfl, trivial⟩ rfl (ih (v5 + 1) a20 H21 s22 e)

set_option maxRecDepth 100000 in
theorem tj405_188 {sL : Nat} {sx : Nat → Int32} {h b N : Nat} {T : List am_C} {a' : xA} {a : xA} {H : am_H} (hS : xS h b T a H) (e : j405_188 N h b a = some a') : am_E sL sx am_cs 405 188 [(0, .ref 157)] [] H none (fun H1 => xS h b T a' H1) := by
  unfold j405_188 at e
  refine ex_s (am_nb (m := 2) (pc1 := 190) (ls1 := [(0, .ref 157)]) (st1 := [.int 0, .ref 157]) (H1 := H) (k1 := 0) (n1 := 0) (by with_unfolding_all rfl)) ?_
  obtain ⟨a32, ha32, e⟩ := xw_some e
  refine xe_put (w := 0) hS rfl rfl (by decide) rfl rfl rfl rfl (fun H33 s34 => ?_)
  have s34 : xS h b T a32 H33 := by rw [ha32]; exact s34
  cases e
  exact ex_r (st_vret rfl rfl) s34

set_option maxRecDepth 100000 in
theorem tj405_143 {sL : Nat} {sx : Nat → Int32} {h b N : Nat} {T : List am_C} {a' : xA} {q1 : Int32} {q3 : Int32} {q4 : Int32} {a : xA} {H : am_H} (hS : xS h b T a H) (e : j405_143 N h b q1 q3 q4 a = some a') : am_E sL sx am_cs 405 143 [(0, .ref 157), (1, .int q1), (3, .int q3), (4, .int q4)] [] H none (fun H1 => xS h b T a' H1) := by
  unfold j405_143 at e
  refine ex_s (am_nb (m := 2) (pc1 := 146) (ls1 := [(0, .ref 157), (1, .int q1), (3, .int q3), (4, .int q4)]) (st1 := [.int 80, .int q1]) (H1 := H) (k1 := 0) (n1 := 0) (by with_unfolding_all rfl)) ?_
  refine ex_s (st_icmp rfl) ?_
  by_cases c27 : q1 = 80
  · have e := (if_pos c27).symm.trans e
    refine ex_pc (if_pos c27) ?_
    refine ex_s (am_nb (m := 2) (pc1 := 151) (ls1 := [(0, .ref 157), (1, .int q1), (3, .int q3), (4, .int q4)]) (st1 := [.ref 157, .ref 157]) (H1 := H) (k1 := 0) (n1 := 0) (by with_unfolding_all rfl)) ?_
    refine xe_get (v := .int (a 157 93)) hS rfl rfl (by decide) rfl ?_
    refine ex_s (am_nb (m := 8) (pc1 := 163) (ls1 := [(0, .ref 157), (1, .int q1), (3, .int q3), (4, .int q4)]) (st1 := [.int (q3 + 1), .int ((q3 + 1) - q4), .int (a 157 93), .ref 157]) (H1 := H) (k1 := 0) (n1 := 0) (by with_unfolding_all rfl)) ?_
    obtain ⟨a31, e30, e⟩ := xb1_some e
    refine ex_cv0 (as := [.int (a 157 93), .int ((q3 + 1) - q4), .int (q3 + 1)]) (rest := []) rfl rfl rfl rfl (hS.obj rfl (by decide)) rfl (by with_unfolding_all rfl) (by with_unfolding_all rfl) (tf390_blank hS e30) (fun H28 s29 => ?_)
    refine ex_s (am_nb (m := 1) (pc1 := 188) (ls1 := [(0, .ref 157), (1, .int q1), (3, .int q3), (4, .int q4)]) (st1 := []) (H1 := H28) (k1 := 0) (n1 := 0) (by with_unfolding_all rfl)) ?_
    exact le_E (l1 := [(0, .ref 157)]) ⟨rfl, trivial⟩ rfl (tj405_188  s29 e)
  · have e := (if_neg c27).symm.trans e
    refine ex_pc (if_neg c27) ?_
    refine ex_s (am_nb (m := 2) (pc1 := 171) (ls1 := [(0, .ref 157), (1, .int q1), (3, .int q3), (4, .int q4)]) (st1 := [.ref 157, .ref 157]) (H1 := H) (k1 := 0) (n1 := 0) (by with_unfolding_all rfl)) ?_
    refine xe_get (v := .int (a 157 93)) hS rfl rfl (by decide) rfl ?_
    refine ex_s (am_nb (m := 1) (pc1 := 175) (ls1 := [(0, .ref 157), (1, .int q1), (3, .int q3), (4, .int q4)]) (st1 := [.ref 157, .int (a 157 93), .ref 157]) (H1 := H) (k1 := 0) (n1 := 0) (by with_unfolding_all rfl)) ?_
    refine xe_get (v := .int (a 157 94)) hS rfl rfl (by decide) rfl ?_
    refine ex_s (am_nb (m := 1) (pc1 := 179) (ls1 := [(0, .ref 157), (1, .int q1), (3, .int q3), (4, .int q4)]) (st1 := [.ref 157, .int (a 157 94), .int (a 157 93), .ref 157]) (H1 := H) (k1 := 0) (n1 := 0) (by with_unfolding_all rfl)) ?_
    refine xe_get (v := .int (a 157 94)) hS rfl rfl (by decide) rfl ?_
    refine ex_s (am_nb (m := 2) (pc1 := 185) (ls1 := [(0, .ref 157), (1, .int q1), (3, .int q3), (4, .int q4)]) (st1 := [.int ((a 157 94) + q4), .int (a 157 94), .int (a 157 93), .ref 157]) (H1 := H) (k1 := 0) (n1 := 0) (by with_unfolding_all rfl)) ?_
    obtain ⟨a38, e37, e⟩ := xb1_some e
    refine ex_cv0 (as := [.int (a 157 93), .int (a 157 94), .int ((a 157 94) + q4)]) (rest := []) rfl rfl rfl rfl (hS.obj rfl (by decide)) rfl (by with_unfolding_all rfl) (by with_unfolding_all rfl) (tf390_blank hS e37) (fun H35 s36 => ?_)
    exact le_E (l1 := [(0, .ref 157)]) ⟨rfl, trivial⟩ rfl (tj405_188  s36 e)

set_option maxRecDepth 100000 in
theorem tj405_83 {sL : Nat} {sx : Nat → Int32} {h b N : Nat} {T : List am_C} {a' : xA} {q1 : Int32} {q3 : Int32} {q4 : Int32} {a : xA} {H : am_H} (hS : xS h b T a H) (e : j405_83 N h b q1 q3 q4 a = some a') : am_E sL sx am_cs 405 83 [(0, .ref 157), (1, .int q1), (3, .int q3), (4, .int q4)] [] H none (fun H1 => xS h b T a' H1) := by
  unfold j405_83 at e
  refine ex_s (am_nb (m := 2) (pc1 := 86) (ls1 := [(0, .ref 157), (1, .int q1), (3, .int q3), (4, .int q4)]) (st1 := [.int 80, .int q1]) (H1 := H) (k1 := 0) (n1 := 0) (by with_unfolding_all rfl)) ?_
  refine ex_s (st_icmp rfl) ?_
  by_cases c17 : q1 = 80
  · have e := (if_pos c17).symm.trans e
    refine ex_pc (if_pos c17) ?_
    refine ex_s (am_nb (m := 1) (pc1 := 90) (ls1 := [(0, .ref 157), (1, .int q1), (3, .int q3), (4, .int q4)]) (st1 := [.ref 157]) (H1 := H) (k1 := 0) (n1 := 0) (by with_unfolding_all rfl)) ?_
    refine xe_get (v := .int (a 157 94)) hS rfl rfl (by decide) rfl ?_
    refine ex_s (am_nb (m := 1) (pc1 := 95) (ls1 := [(5, .int (a 157 94)), (0, .ref 157), (1, .int q1), (3, .int q3), (4, .int q4)]) (st1 := []) (H1 := H) (k1 := 0) (n1 := 0) (by with_unfolding_all rfl)) ?_
    obtain ⟨z24, e25, e⟩ := Option.bind_eq_some_iff.mp e
    refine le_E (l1 := [(0, .ref 157), (1, .int q1), (3, .int q3), (4, .int q4), (5, .int (a 157 94))]) ⟨rfl, rfl, rfl, rfl, rfl, trivial⟩ rfl (tl405_95 (z := z24)  (fun uz24_0 Hz240 sz240 => ?_) N (a 157 94) a H hS e25)
    exact le_E (l1 := [(0, .ref 157), (1, .int q1), (3, .int q3), (4, .int q4)]) ⟨rfl, rfl, rfl, rfl, trivial⟩ rfl (tj405_143  sz240 e)
  · have e := (if_neg c17).symm.trans e
    refine ex_pc (if_neg c17) ?_
    exact le_E (l1 := [(0, .ref 157), (1, .int q1), (3, .int q3), (4, .int q4)]) ⟨rfl, rfl, rfl, rfl, trivial⟩ rfl (tj405_143  hS e)

set_option maxRecDepth 100000 in
theorem tf405_cellsIn {sL : Nat} {sx : Nat → Int32} {h b N : Nat} {T : List am_C} {a' : xA} {x0 : Int32} {x1 : Int32} {a : xA} {H : am_H} (hS : xS h b T a H) (e : f405_cellsIn N h b x0 x1 a = some a') : am_E sL sx am_cs 405 0 [(0, .ref 157), (1, .int x0), (2, .int x1)] [] H none (fun H1 => xS h b T a' H1) := by
  unfold f405_cellsIn at e
  refine ex_s (am_nb (m := 2) (pc1 := 2) (ls1 := [(0, .ref 157), (1, .int x0), (2, .int x1)]) (st1 := [.ref 157, .ref 157]) (H1 := H) (k1 := 0) (n1 := 0) (by with_unfolding_all rfl)) ?_
  refine xe_get (v := .int (a 157 93)) hS rfl rfl (by decide) rfl ?_
  obtain ⟨r4, a5, e3, e⟩ := xb2_some e
  refine ex_cv1 (as := [.int (a 157 93)]) (rest := []) rfl rfl rfl rfl (hS.obj rfl (by decide)) rfl (by with_unfolding_all rfl) (by with_unfolding_all rfl) (tf385_last hS e3) (fun H1 s2 => ?_)
  refine ex_s (am_nb (m := 6) (pc1 := 14) (ls1 := [(3, .int r4), (0, .ref 157), (1, .int x0), (2, .int x1)]) (st1 := [.ref 157, .int (r4 + 1), .int x1]) (H1 := H1) (k1 := 0) (n1 := 0) (by with_unfolding_all rfl)) ?_
  refine xe_get (v := .int (a5 157 94)) s2 rfl rfl (by decide) rfl ?_
  refine ex_s (am_nb (m := 5) (pc1 := 26) (ls1 := [(4, .int (xmin x1 ((r4 + 1) - (a5 157 94)))), (3, .int r4), (0, .ref 157), (1, .int x0), (2, .int x1)]) (st1 := [.int 64, .int x0]) (H1 := H1) (k1 := 0) (n1 := 0) (by with_unfolding_all rfl)) ?_
  refine ex_s (st_icmp rfl) ?_
  by_cases c7 : x0 = 64
  · have e := (if_pos c7).symm.trans e
    refine ex_pc (if_pos c7) ?_
    refine ex_s (am_nb (m := 2) (pc1 := 32) (ls1 := [(5, .int r4), (4, .int (xmin x1 ((r4 + 1) - (a5 157 94)))), (3, .int r4), (0, .ref 157), (1, .int x0), (2, .int x1)]) (st1 := []) (H1 := H1) (k1 := 0) (n1 := 0) (by with_unfolding_all rfl)) ?_
    obtain ⟨z14, e15, e⟩ := Option.bind_eq_some_iff.mp e
    refine le_E (l1 := [(0, .ref 157), (1, .int x0), (3, .int r4), (4, .int (xmin x1 ((r4 + 1) - (a5 157 94)))), (5, .int r4)]) ⟨rfl, rfl, rfl, rfl, rfl, trivial⟩ rfl (tl405_32 (z := z14)  (fun uz14_0 Hz140 sz140 => ?_) N r4 a5 H1 s2 e15)
    exact le_E (l1 := [(0, .ref 157), (1, .int x0), (3, .int r4), (4, .int (xmin x1 ((r4 + 1) - (a5 157 94))))]) ⟨rfl, rfl, rfl, rfl, trivial⟩ rfl (tj405_83  sz140 e)
  · have e := (if_neg c7).symm.trans e
    refine ex_pc (if_neg c7) ?_
    exact le_E (l1 := [(0, .ref 157), (1, .int x0), (3, .int r4), (4, .int (xmin x1 ((r4 + 1) - (a5 157 94))))]) ⟨rfl, rfl, rfl, rfl, trivial⟩ rfl (tj405_83  s2 e)

set_option maxRecDepth 100000 in
theorem tf406_attribute {sL : Nat} {sx : Nat → Int32} {h b N : Nat} {T : List am_C} {a' : xA} {x0 : Int32} {a : xA} {H : am_H} (hS : xS h b T a H) (e : f406_attribute N h b x0 a = some a') : am_E sL sx am_cs 406 0 [(0, .ref 157), (1, .int x0)] [] H none (fun H1 => xS h b T a' H1) := by
  unfold f406_attribute at e
  refine ex_s (am_nb (m := 1) (pc1 := 1) (ls1 := [(0, .ref 157), (1, .int x0)]) (st1 := [.int x0]) (H1 := H) (k1 := 0) (n1 := 0) (by with_unfolding_all rfl)) ?_
  refine ex_s (st_tsw rfl) ?_
  by_cases c1 : x0 = 0
  · have e := (if_pos c1).symm.trans e
    refine ex_pc (pc1 := 128) (by rw [c1]; with_unfolding_all rfl) ?_
    refine ex_s (am_nb (m := 2) (pc1 := 130) (ls1 := [(0, .ref 157), (1, .int x0)]) (st1 := [.int 0, .ref 157]) (H1 := H) (k1 := 0) (n1 := 0) (by with_unfolding_all rfl)) ?_
    obtain ⟨a2, ha2, e⟩ := xw_some e
    refine xe_put (w := 0) hS rfl rfl (by decide) rfl rfl rfl rfl (fun H3 s4 => ?_)
    have s4 : xS h b T a2 H3 := by rw [ha2]; exact s4
    refine ex_s (am_nb (m := 1) (pc1 := 245) (ls1 := [(0, .ref 157), (1, .int x0)]) (st1 := []) (H1 := H3) (k1 := 0) (n1 := 0) (by with_unfolding_all rfl)) ?_
    cases e
    exact ex_r (st_vret rfl rfl) s4
  · have e := (if_neg c1).symm.trans e
    by_cases c5 : x0 = 1
    · have e := (if_pos c5).symm.trans e
      refine ex_pc (pc1 := 136) (by rw [c5]; with_unfolding_all rfl) ?_
      refine ex_s (am_nb (m := 2) (pc1 := 138) (ls1 := [(0, .ref 157), (1, .int x0)]) (st1 := [.ref 157, .ref 157]) (H1 := H) (k1 := 0) (n1 := 0) (by with_unfolding_all rfl)) ?_
      refine xe_get (v := .int (a 157 97)) hS rfl rfl (by decide) rfl ?_
      refine ex_s (am_nb (m := 2) (pc1 := 143) (ls1 := [(0, .ref 157), (1, .int x0)]) (st1 := [.int ((a 157 97) ||| 1), .ref 157]) (H1 := H) (k1 := 0) (n1 := 0) (by with_unfolding_all rfl)) ?_
      obtain ⟨a6, ha6, e⟩ := xw_some e
      refine xe_put (w := ((a 157 97) ||| 1)) hS rfl rfl (by decide) rfl rfl rfl rfl (fun H7 s8 => ?_)
      have s8 : xS h b T a6 H7 := by rw [ha6]; exact s8
      refine ex_s (am_nb (m := 1) (pc1 := 245) (ls1 := [(0, .ref 157), (1, .int x0)]) (st1 := []) (H1 := H7) (k1 := 0) (n1 := 0) (by with_unfolding_all rfl)) ?_
      cases e
      exact ex_r (st_vret rfl rfl) s8
    · have e := (if_neg c5).symm.trans e
      by_cases c9 : x0 = 4
      · have e := (if_pos c9).symm.trans e
        refine ex_pc (pc1 := 149) (by rw [c9]; with_unfolding_all rfl) ?_
        refine ex_s (am_nb (m := 2) (pc1 := 151) (ls1 := [(0, .ref 157), (1, .int x0)]) (st1 := [.ref 157, .ref 157]) (H1 := H) (k1 := 0) (n1 := 0) (by with_unfolding_all rfl)) ?_
        refine xe_get (v := .int (a 157 97)) hS rfl rfl (by decide) rfl ?_
        refine ex_s (am_nb (m := 2) (pc1 := 156) (ls1 := [(0, .ref 157), (1, .int x0)]) (st1 := [.int ((a 157 97) ||| 2), .ref 157]) (H1 := H) (k1 := 0) (n1 := 0) (by with_unfolding_all rfl)) ?_
        obtain ⟨a10, ha10, e⟩ := xw_some e
        refine xe_put (w := ((a 157 97) ||| 2)) hS rfl rfl (by decide) rfl rfl rfl rfl (fun H11 s12 => ?_)
        have s12 : xS h b T a10 H11 := by rw [ha10]; exact s12
        refine ex_s (am_nb (m := 1) (pc1 := 245) (ls1 := [(0, .ref 157), (1, .int x0)]) (st1 := []) (H1 := H11) (k1 := 0) (n1 := 0) (by with_unfolding_all rfl)) ?_
        cases e
        exact ex_r (st_vret rfl rfl) s12
      · have e := (if_neg c9).symm.trans e
        by_cases c13 : x0 = 5
        · have e := (if_pos c13).symm.trans e
          refine ex_pc (pc1 := 162) (by rw [c13]; with_unfolding_all rfl) ?_
          refine ex_s (am_nb (m := 2) (pc1 := 164) (ls1 := [(0, .ref 157), (1, .int x0)]) (st1 := [.ref 157, .ref 157]) (H1 := H) (k1 := 0) (n1 := 0) (by with_unfolding_all rfl)) ?_
          refine xe_get (v := .int (a 157 97)) hS rfl rfl (by decide) rfl ?_
          refine ex_s (am_nb (m := 2) (pc1 := 169) (ls1 := [(0, .ref 157), (1, .int x0)]) (st1 := [.int ((a 157 97) ||| 4), .ref 157]) (H1 := H) (k1 := 0) (n1 := 0) (by with_unfolding_all rfl)) ?_
          obtain ⟨a14, ha14, e⟩ := xw_some e
          refine xe_put (w := ((a 157 97) ||| 4)) hS rfl rfl (by decide) rfl rfl rfl rfl (fun H15 s16 => ?_)
          have s16 : xS h b T a14 H15 := by rw [ha14]; exact s16
          refine ex_s (am_nb (m := 1) (pc1 := 245) (ls1 := [(0, .ref 157), (1, .int x0)]) (st1 := []) (H1 := H15) (k1 := 0) (n1 := 0) (by with_unfolding_all rfl)) ?_
          cases e
          exact ex_r (st_vret rfl rfl) s16
        · have e := (if_neg c13).symm.trans e
          by_cases c17 : x0 = 7
          · have e := (if_pos c17).symm.trans e
            refine ex_pc (pc1 := 175) (by rw [c17]; with_unfolding_all rfl) ?_
            refine ex_s (am_nb (m := 2) (pc1 := 177) (ls1 := [(0, .ref 157), (1, .int x0)]) (st1 := [.ref 157, .ref 157]) (H1 := H) (k1 := 0) (n1 := 0) (by with_unfolding_all rfl)) ?_
            refine xe_get (v := .int (a 157 97)) hS rfl rfl (by decide) rfl ?_
            refine ex_s (am_nb (m := 2) (pc1 := 183) (ls1 := [(0, .ref 157), (1, .int x0)]) (st1 := [.int ((a 157 97) ||| 8), .ref 157]) (H1 := H) (k1 := 0) (n1 := 0) (by with_unfolding_all rfl)) ?_
            obtain ⟨a18, ha18, e⟩ := xw_some e
            refine xe_put (w := ((a 157 97) ||| 8)) hS rfl rfl (by decide) rfl rfl rfl rfl (fun H19 s20 => ?_)
            have s20 : xS h b T a18 H19 := by rw [ha18]; exact s20
            refine ex_s (am_nb (m := 1) (pc1 := 245) (ls1 := [(0, .ref 157), (1, .int x0)]) (st1 := []) (H1 := H19) (k1 := 0) (n1 := 0) (by with_unfolding_all rfl)) ?_
            cases e
            exact ex_r (st_vret rfl rfl) s20
          · have e := (if_neg c17).symm.trans e
            by_cases c21 : x0 = 22
            · have e := (if_pos c21).symm.trans e
              refine ex_pc (pc1 := 189) (by rw [c21]; with_unfolding_all rfl) ?_
              refine ex_s (am_nb (m := 2) (pc1 := 191) (ls1 := [(0, .ref 157), (1, .int x0)]) (st1 := [.ref 157, .ref 157]) (H1 := H) (k1 := 0) (n1 := 0) (by with_unfolding_all rfl)) ?_
              refine xe_get (v := .int (a 157 97)) hS rfl rfl (by decide) rfl ?_
              refine ex_s (am_nb (m := 2) (pc1 := 197) (ls1 := [(0, .ref 157), (1, .int x0)]) (st1 := [.int ((a 157 97) &&& (-2)), .ref 157]) (H1 := H) (k1 := 0) (n1 := 0) (by with_unfolding_all rfl)) ?_
              obtain ⟨a22, ha22, e⟩ := xw_some e
              refine xe_put (w := ((a 157 97) &&& (-2))) hS rfl rfl (by decide) rfl rfl rfl rfl (fun H23 s24 => ?_)
              have s24 : xS h b T a22 H23 := by rw [ha22]; exact s24
              refine ex_s (am_nb (m := 1) (pc1 := 245) (ls1 := [(0, .ref 157), (1, .int x0)]) (st1 := []) (H1 := H23) (k1 := 0) (n1 := 0) (by with_unfolding_all rfl)) ?_
              cases e
              exact ex_r (st_vret rfl rfl) s24
            · have e := (if_neg c21).symm.trans e
              by_cases c25 : x0 = 24
              · have e := (if_pos c25).symm.trans e
                refine ex_pc (pc1 := 203) (by rw [c25]; with_unfolding_all rfl) ?_
                refine ex_s (am_nb (m := 2) (pc1 := 205) (ls1 := [(0, .ref 157), (1, .int x0)]) (st1 := [.ref 157, .ref 157]) (H1 := H) (k1 := 0) (n1 := 0) (by with_unfolding_all rfl)) ?_
                refine xe_get (v := .int (a 157 97)) hS rfl rfl (by decide) rfl ?_
                refine ex_s (am_nb (m := 2) (pc1 := 211) (ls1 := [(0, .ref 157), (1, .int x0)]) (st1 := [.int ((a 157 97) &&& (-3)), .ref 157]) (H1 := H) (k1 := 0) (n1 := 0) (by with_unfolding_all rfl)) ?_
                obtain ⟨a26, ha26, e⟩ := xw_some e
                refine xe_put (w := ((a 157 97) &&& (-3))) hS rfl rfl (by decide) rfl rfl rfl rfl (fun H27 s28 => ?_)
                have s28 : xS h b T a26 H27 := by rw [ha26]; exact s28
                refine ex_s (am_nb (m := 1) (pc1 := 245) (ls1 := [(0, .ref 157), (1, .int x0)]) (st1 := []) (H1 := H27) (k1 := 0) (n1 := 0) (by with_unfolding_all rfl)) ?_
                cases e
                exact ex_r (st_vret rfl rfl) s28
              · have e := (if_neg c25).symm.trans e
                by_cases c29 : x0 = 25
                · have e := (if_pos c29).symm.trans e
                  refine ex_pc (pc1 := 217) (by rw [c29]; with_unfolding_all rfl) ?_
                  refine ex_s (am_nb (m := 2) (pc1 := 219) (ls1 := [(0, .ref 157), (1, .int x0)]) (st1 := [.ref 157, .ref 157]) (H1 := H) (k1 := 0) (n1 := 0) (by with_unfolding_all rfl)) ?_
                  refine xe_get (v := .int (a 157 97)) hS rfl rfl (by decide) rfl ?_
                  refine ex_s (am_nb (m := 2) (pc1 := 225) (ls1 := [(0, .ref 157), (1, .int x0)]) (st1 := [.int ((a 157 97) &&& (-5)), .ref 157]) (H1 := H) (k1 := 0) (n1 := 0) (by with_unfolding_all rfl)) ?_
                  obtain ⟨a30, ha30, e⟩ := xw_some e
                  refine xe_put (w := ((a 157 97) &&& (-5))) hS rfl rfl (by decide) rfl rfl rfl rfl (fun H31 s32 => ?_)
                  have s32 : xS h b T a30 H31 := by rw [ha30]; exact s32
                  refine ex_s (am_nb (m := 1) (pc1 := 245) (ls1 := [(0, .ref 157), (1, .int x0)]) (st1 := []) (H1 := H31) (k1 := 0) (n1 := 0) (by with_unfolding_all rfl)) ?_
                  cases e
                  exact ex_r (st_vret rfl rfl) s32
                · have e := (if_neg c29).symm.trans e
                  by_cases c33 : x0 = 27
                  · have e := (if_pos c33).symm.trans e
                    refine ex_pc (pc1 := 231) (by rw [c33]; with_unfolding_all rfl) ?_
                    refine ex_s (am_nb (m := 2) (pc1 := 233) (ls1 := [(0, .ref 157), (1, .int x0)]) (st1 := [.ref 157, .ref 157]) (H1 := H) (k1 := 0) (n1 := 0) (by with_unfolding_all rfl)) ?_
                    refine xe_get (v := .int (a 157 97)) hS rfl rfl (by decide) rfl ?_
                    refine ex_s (am_nb (m := 2) (pc1 := 239) (ls1 := [(0, .ref 157), (1, .int x0)]) (st1 := [.int ((a 157 97) &&& (-9)), .ref 157]) (H1 := H) (k1 := 0) (n1 := 0) (by with_unfolding_all rfl)) ?_
                    obtain ⟨a34, ha34, e⟩ := xw_some e
                    refine xe_put (w := ((a 157 97) &&& (-9))) hS rfl rfl (by decide) rfl rfl rfl rfl (fun H35 s36 => ?_)
                    have s36 : xS h b T a34 H35 := by rw [ha34]; exact s36
                    refine ex_s (am_nb (m := 1) (pc1 := 245) (ls1 := [(0, .ref 157), (1, .int x0)]) (st1 := []) (H1 := H35) (k1 := 0) (n1 := 0) (by with_unfolding_all rfl)) ?_
                    cases e
                    exact ex_r (st_vret rfl rfl) s36
                  · have e := (if_neg c33).symm.trans e
                    refine ex_pc (pc1 := 245) (am_sw_n (sw_c (Or.inl c1) (sw_c (Or.inl c5) (sw_c (Or.inr rfl) (sw_c (Or.inr rfl) (sw_c (Or.inl c9) (sw_c (Or.inl c13) (sw_c (Or.inr rfl) (sw_c (Or.inl c17) (sw_c (Or.inr rfl) (sw_c (Or.inr rfl) (sw_c (Or.inr rfl) (sw_c (Or.inr rfl) (sw_c (Or.inr rfl) (sw_c (Or.inr rfl) (sw_c (Or.inr rfl) (sw_c (Or.inr rfl) (sw_c (Or.inr rfl) (sw_c (Or.inr rfl) (sw_c (Or.inr rfl) (sw_c (Or.inr rfl) (sw_c (Or.inr rfl) (sw_c (Or.inr rfl) (sw_c (Or.inl c21) (sw_c (Or.inr rfl) (sw_c (Or.inl c25) (sw_c (Or.inl c29) (sw_c (Or.inr rfl) (sw_c (Or.inl c33) sw_o))))))))))))))))))))))))))))) ?_
                    cases e
                    exact ex_r (st_vret rfl rfl) hS

set_option maxRecDepth 100000 in
theorem tf407_margins {sL : Nat} {sx : Nat → Int32} {h b N : Nat} {T : List am_C} {a' : xA} {x0 : Int32} {x1 : Int32} {a : xA} {H : am_H} (hS : xS h b T a H) (e : f407_margins N h b x0 x1 a = some a') : am_E sL sx am_cs 407 0 [(0, .ref 157), (1, .int x0), (2, .int x1)] [] H none (fun H1 => xS h b T a' H1) := by
  unfold f407_margins at e
  refine ex_s (am_nb (m := 2) (pc1 := 2) (ls1 := [(0, .ref 157), (1, .int x0), (2, .int x1)]) (st1 := [.int x1, .int x0]) (H1 := H) (k1 := 0) (n1 := 0) (by with_unfolding_all rfl)) ?_
  refine ex_s (st_icmp rfl) ?_
  by_cases c3 : x1 ≤ x0
  · have e := (if_pos c3).symm.trans e
    refine ex_pc (if_pos c3) ?_
    cases e
    exact ex_r (st_vret rfl rfl) hS
  · have e := (if_neg c3).symm.trans e
    refine ex_pc (if_neg c3) ?_
    refine ex_s (am_nb (m := 2) (pc1 := 7) (ls1 := [(0, .ref 157), (1, .int x0), (2, .int x1)]) (st1 := [.ref 157, .int x1]) (H1 := H) (k1 := 0) (n1 := 0) (by with_unfolding_all rfl)) ?_
    refine xe_get (v := .int (a 157 68)) hS rfl rfl (by decide) rfl ?_
    refine ex_s (st_icmp rfl) ?_
    by_cases c4 : x1 ≤ (a 157 68)
    · have e := (if_pos c4).symm.trans e
      refine ex_pc (if_pos c4) ?_
      refine ex_s (am_nb (m := 4) (pc1 := 18) (ls1 := [(0, .ref 157), (1, .int x0), (2, .int x1)]) (st1 := [.int (x0 - 1), .ref 157]) (H1 := H) (k1 := 0) (n1 := 0) (by with_unfolding_all rfl)) ?_
      obtain ⟨a5, ha5, e⟩ := xw_some e
      refine xe_put (w := (x0 - 1)) hS rfl rfl (by decide) rfl rfl rfl rfl (fun H6 s7 => ?_)
      have s7 : xS h b T a5 H6 := by rw [ha5]; exact s7
      refine ex_s (am_nb (m := 4) (pc1 := 25) (ls1 := [(0, .ref 157), (1, .int x0), (2, .int x1)]) (st1 := [.int (x1 - 1), .ref 157]) (H1 := H6) (k1 := 0) (n1 := 0) (by with_unfolding_all rfl)) ?_
      obtain ⟨a8, ha8, e⟩ := xw_some e
      refine xe_put (w := (x1 - 1)) s7 rfl rfl (by decide) rfl rfl rfl rfl (fun H9 s10 => ?_)
      have s10 : xS h b T a8 H9 := by rw [ha8]; exact s10
      refine ex_s (am_nb (m := 3) (pc1 := 32) (ls1 := [(0, .ref 157), (1, .int x0), (2, .int x1)]) (st1 := [.int 16, .ref 157, .ref 157]) (H1 := H9) (k1 := 0) (n1 := 0) (by with_unfolding_all rfl)) ?_
      obtain ⟨r14, a15, e13, e⟩ := xb2_some e
      refine ex_cv1 (as := [.int 16]) (rest := [.ref 157]) rfl rfl rfl rfl (s10.obj rfl (by decide)) rfl (by with_unfolding_all rfl) (by with_unfolding_all rfl) (tf363_mode s10 e13) (fun H11 s12 => ?_)
      have kk : am_E sL sx am_cs 407 46 [(0, .ref 157), (1, .int x0), (2, .int x1)] [.int (if r14 = 0 then (0 : Int32) else (a15 157 95)), .ref 157] H11 none (fun H1 => xS h b T a' H1) := by
        refine ex_s (am_nb (m := 1) (pc1 := 47) (ls1 := [(0, .ref 157), (1, .int x0), (2, .int x1)]) (st1 := [.int 0, .int (if r14 = 0 then (0 : Int32) else (a15 157 95)), .ref 157]) (H1 := H11) (k1 := 0) (n1 := 0) (by with_unfolding_all rfl)) ?_
        obtain ⟨a20, e19, e⟩ := xb1_some e
        refine ex_cv0 (as := [.int (if r14 = 0 then (0 : Int32) else (a15 157 95)), .int 0]) (rest := []) rfl rfl rfl rfl (s12.obj rfl (by decide)) rfl (by with_unfolding_all rfl) (by with_unfolding_all rfl) (tf384_goes s12 e19) (fun H17 s18 => ?_)
        cases e
        exact ex_r (st_vret rfl rfl) s18
      refine ex_s (st_if rfl) ?_
      by_cases c16 : r14 = 0
      · refine ex_pc (if_pos c16) ?_
        refine ex_s (am_nb (m := 1) (pc1 := 46) (ls1 := [(0, .ref 157), (1, .int x0), (2, .int x1)]) (st1 := [.int 0, .ref 157]) (H1 := H11) (k1 := 0) (n1 := 0) (by with_unfolding_all rfl)) ?_
        rw [if_pos c16] at kk
        exact kk
      · refine ex_pc (if_neg c16) ?_
        refine ex_s (am_nb (m := 1) (pc1 := 39) (ls1 := [(0, .ref 157), (1, .int x0), (2, .int x1)]) (st1 := [.ref 157, .ref 157]) (H1 := H11) (k1 := 0) (n1 := 0) (by with_unfolding_all rfl)) ?_
        refine xe_get (v := .int (a15 157 95)) s12 rfl rfl (by decide) rfl ?_
        refine ex_s (am_nb (m := 1) (pc1 := 46) (ls1 := [(0, .ref 157), (1, .int x0), (2, .int x1)]) (st1 := [.int (a15 157 95), .ref 157]) (H1 := H11) (k1 := 0) (n1 := 0) (by with_unfolding_all rfl)) ?_
        rw [if_neg c16] at kk
        exact kk
    · have e := (if_neg c4).symm.trans e
      refine ex_pc (if_neg c4) ?_
      cases e
      exact ex_r (st_vret rfl rfl) hS

set_option maxRecDepth 100000 in
theorem tj409_17 {sL : Nat} {sx : Nat → Int32} {h b N : Nat} {T : List am_C} {a' : xA} {q1 : Int32} {a : xA} {H : am_H} (hS : xS h b T a H) (e : j409_17 N h b q1 a = some a') : am_E sL sx am_cs 409 17 [(0, .ref 157), (1, .int q1)] [] H none (fun H1 => xS h b T a' H1) := by
  unfold j409_17 at e
  refine ex_s (am_nb (m := 6) (pc1 := 25) (ls1 := [(0, .ref 157), (1, .int q1)]) (st1 := [.int (48 + (q1 - q1 / 10 * 10)), .ref 157]) (H1 := H) (k1 := 0) (n1 := 0) (by with_unfolding_all rfl)) ?_
  obtain ⟨a6, e5, e⟩ := xb1_some e
  refine ex_cv0 (as := [.int (48 + (q1 - q1 / 10 * 10))]) (rest := []) rfl rfl rfl rfl (hS.obj rfl (by decide)) rfl (by with_unfolding_all rfl) (by with_unfolding_all rfl) (tf380_replies hS e5) (fun H3 s4 => ?_)
  cases e
  exact ex_r (st_vret rfl rfl) s4

set_option maxRecDepth 100000 in
theorem tf409_decimal {sL : Nat} {sx : Nat → Int32} {h b N : Nat} {T : List am_C} {a' : xA} {x0 : Int32} {a : xA} {H : am_H} (hS : xS h b T a H) (e : f409_decimal N h b x0 a = some a') : am_E sL sx am_cs 409 0 [(0, .ref 157), (1, .int x0)] [] H none (fun H1 => xS h b T a' H1) := by
  unfold f409_decimal at e
  refine ex_s (am_nb (m := 2) (pc1 := 3) (ls1 := [(0, .ref 157), (1, .int x0)]) (st1 := [.int 10, .int x0]) (H1 := H) (k1 := 0) (n1 := 0) (by with_unfolding_all rfl)) ?_
  refine ex_s (st_icmp rfl) ?_
  by_cases c2 : x0 < 10
  · have e := (if_pos c2).symm.trans e
    refine ex_pc (if_pos c2) ?_
    exact le_E (l1 := [(0, .ref 157), (1, .int x0)]) ⟨rfl, rfl, trivial⟩ rfl (tj409_17  hS e)
  · have e := (if_neg c2).symm.trans e
    refine ex_pc (if_neg c2) ?_
    refine ex_s (am_nb (m := 6) (pc1 := 14) (ls1 := [(0, .ref 157), (1, .int x0)]) (st1 := [.int (48 + (x0 / 10)), .ref 157]) (H1 := H) (k1 := 0) (n1 := 0) (by with_unfolding_all rfl)) ?_
    obtain ⟨a10, e9, e⟩ := xb1_some e
    refine ex_cv0 (as := [.int (48 + (x0 / 10))]) (rest := []) rfl rfl rfl rfl (hS.obj rfl (by decide)) rfl (by with_unfolding_all rfl) (by with_unfolding_all rfl) (tf380_replies hS e9) (fun H7 s8 => ?_)
    exact le_E (l1 := [(0, .ref 157), (1, .int x0)]) ⟨rfl, rfl, trivial⟩ rfl (tj409_17  s8 e)

set_option maxRecDepth 100000 in
theorem tj408_89 {sL : Nat} {sx : Nat → Int32} {h b N : Nat} {T : List am_C} {a' : xA} {t0 : Int32} {a : xA} {H : am_H} (hS : xS h b T a H) (e : j408_89 N h b t0 a = some a') : am_E sL sx am_cs 408 89 [(0, .ref 157)] [.int t0, .ref 157] H none (fun H1 => xS h b T a' H1) := by
  unfold j408_89 at e
  obtain ⟨a42, e41, e⟩ := xb1_some e
  refine ex_cv0 (as := [.int t0]) (rest := []) rfl rfl rfl rfl (hS.obj rfl (by decide)) rfl (by with_unfolding_all rfl) (by with_unfolding_all rfl) (tf409_decimal hS e41) (fun H39 s40 => ?_)
  refine ex_s (am_nb (m := 2) (pc1 := 95) (ls1 := [(0, .ref 157)]) (st1 := [.int 59, .ref 157]) (H1 := H39) (k1 := 0) (n1 := 0) (by with_unfolding_all rfl)) ?_
  obtain ⟨a46, e45, e⟩ := xb1_some e
  refine ex_cv0 (as := [.int 59]) (rest := []) rfl rfl rfl rfl (s40.obj rfl (by decide)) rfl (by with_unfolding_all rfl) (by with_unfolding_all rfl) (tf380_replies s40 e45) (fun H43 s44 => ?_)
  refine ex_s (am_nb (m := 2) (pc1 := 100) (ls1 := [(0, .ref 157)]) (st1 := [.ref 157, .ref 157]) (H1 := H43) (k1 := 0) (n1 := 0) (by with_unfolding_all rfl)) ?_
  refine xe_get (v := .int (a46 157 94)) s44 rfl rfl (by decide) rfl ?_
  refine ex_s (am_nb (m := 2) (pc1 := 105) (ls1 := [(0, .ref 157)]) (st1 := [.int ((a46 157 94) + 1), .ref 157]) (H1 := H43) (k1 := 0) (n1 := 0) (by with_unfolding_all rfl)) ?_
  obtain ⟨a50, e49, e⟩ := xb1_some e
  refine ex_cv0 (as := [.int ((a46 157 94) + 1)]) (rest := []) rfl rfl rfl rfl (s44.obj rfl (by decide)) rfl (by with_unfolding_all rfl) (by with_unfolding_all rfl) (tf409_decimal s44 e49) (fun H47 s48 => ?_)
  refine ex_s (am_nb (m := 2) (pc1 := 111) (ls1 := [(0, .ref 157)]) (st1 := [.int 82, .ref 157]) (H1 := H47) (k1 := 0) (n1 := 0) (by with_unfolding_all rfl)) ?_
  obtain ⟨a54, e53, e⟩ := xb1_some e
  refine ex_cv0 (as := [.int 82]) (rest := []) rfl rfl rfl rfl (s48.obj rfl (by decide)) rfl (by with_unfolding_all rfl) (by with_unfolding_all rfl) (tf380_replies s48 e53) (fun H51 s52 => ?_)
  refine ex_s (am_nb (m := 1) (pc1 := 115) (ls1 := [(0, .ref 157)]) (st1 := [.ref 157]) (H1 := H51) (k1 := 0) (n1 := 0) (by with_unfolding_all rfl)) ?_
  obtain ⟨r58, a59, e57, e⟩ := xb2_some e
  refine ex_cv1 (as := []) (rest := []) rfl rfl rfl rfl (s52.obj rfl (by decide)) rfl (by with_unfolding_all rfl) (by with_unfolding_all rfl) (tf381_answer s52 e57) (fun H55 s56 => ?_)
  refine ex_s (am_nb (m := 1) (pc1 := 119) (ls1 := [(0, .ref 157)]) (st1 := []) (H1 := H55) (k1 := 0) (n1 := 0) (by with_unfolding_all rfl)) ?_
  cases e
  exact ex_r (st_vret rfl rfl) s56

set_option maxRecDepth 100000 in
theorem tf408_reports {sL : Nat} {sx : Nat → Int32} {h b N : Nat} {T : List am_C} {a' : xA} {x0 : Int32} {a : xA} {H : am_H} (hS : xS h b T a H) (e : f408_reports N h b x0 a = some a') : am_E sL sx am_cs 408 0 [(0, .ref 157), (1, .int x0)] [] H none (fun H1 => xS h b T a' H1) := by
  unfold f408_reports at e
  refine ex_s (am_nb (m := 2) (pc1 := 2) (ls1 := [(0, .ref 157), (1, .int x0)]) (st1 := [.int 5, .int x0]) (H1 := H) (k1 := 0) (n1 := 0) (by with_unfolding_all rfl)) ?_
  refine ex_s (st_icmp rfl) ?_
  by_cases c1 : x0 = 5
  · have e := (if_pos c1).symm.trans e
    refine ex_pc (if_pos c1) ?_
    refine ex_s (am_nb (m := 2) (pc1 := 8) (ls1 := [(0, .ref 157), (1, .int x0)]) (st1 := [.int 27, .ref 157]) (H1 := H) (k1 := 0) (n1 := 0) (by with_unfolding_all rfl)) ?_
    obtain ⟨a5, e4, e⟩ := xb1_some e
    refine ex_cv0 (as := [.int 27]) (rest := []) rfl rfl rfl rfl (hS.obj rfl (by decide)) rfl (by with_unfolding_all rfl) (by with_unfolding_all rfl) (tf380_replies hS e4) (fun H2 s3 => ?_)
    refine ex_s (am_nb (m := 2) (pc1 := 14) (ls1 := [(0, .ref 157), (1, .int x0)]) (st1 := [.int 91, .ref 157]) (H1 := H2) (k1 := 0) (n1 := 0) (by with_unfolding_all rfl)) ?_
    obtain ⟨a9, e8, e⟩ := xb1_some e
    refine ex_cv0 (as := [.int 91]) (rest := []) rfl rfl rfl rfl (s3.obj rfl (by decide)) rfl (by with_unfolding_all rfl) (by with_unfolding_all rfl) (tf380_replies s3 e8) (fun H6 s7 => ?_)
    refine ex_s (am_nb (m := 2) (pc1 := 20) (ls1 := [(0, .ref 157), (1, .int x0)]) (st1 := [.int 48, .ref 157]) (H1 := H6) (k1 := 0) (n1 := 0) (by with_unfolding_all rfl)) ?_
    obtain ⟨a13, e12, e⟩ := xb1_some e
    refine ex_cv0 (as := [.int 48]) (rest := []) rfl rfl rfl rfl (s7.obj rfl (by decide)) rfl (by with_unfolding_all rfl) (by with_unfolding_all rfl) (tf380_replies s7 e12) (fun H10 s11 => ?_)
    refine ex_s (am_nb (m := 2) (pc1 := 26) (ls1 := [(0, .ref 157), (1, .int x0)]) (st1 := [.int 110, .ref 157]) (H1 := H10) (k1 := 0) (n1 := 0) (by with_unfolding_all rfl)) ?_
    obtain ⟨a17, e16, e⟩ := xb1_some e
    refine ex_cv0 (as := [.int 110]) (rest := []) rfl rfl rfl rfl (s11.obj rfl (by decide)) rfl (by with_unfolding_all rfl) (by with_unfolding_all rfl) (tf380_replies s11 e16) (fun H14 s15 => ?_)
    refine ex_s (am_nb (m := 1) (pc1 := 30) (ls1 := [(0, .ref 157), (1, .int x0)]) (st1 := [.ref 157]) (H1 := H14) (k1 := 0) (n1 := 0) (by with_unfolding_all rfl)) ?_
    obtain ⟨r21, a22, e20, e⟩ := xb2_some e
    refine ex_cv1 (as := []) (rest := []) rfl rfl rfl rfl (s15.obj rfl (by decide)) rfl (by with_unfolding_all rfl) (by with_unfolding_all rfl) (tf381_answer s15 e20) (fun H18 s19 => ?_)
    refine ex_s (am_nb (m := 2) (pc1 := 119) (ls1 := [(0, .ref 157), (1, .int x0)]) (st1 := []) (H1 := H18) (k1 := 0) (n1 := 0) (by with_unfolding_all rfl)) ?_
    cases e
    exact ex_r (st_vret rfl rfl) s19
  · have e := (if_neg c1).symm.trans e
    refine ex_pc (if_neg c1) ?_
    refine ex_s (am_nb (m := 2) (pc1 := 40) (ls1 := [(0, .ref 157), (1, .int x0)]) (st1 := [.int 6, .int x0]) (H1 := H) (k1 := 0) (n1 := 0) (by with_unfolding_all rfl)) ?_
    refine ex_s (st_icmp rfl) ?_
    by_cases c23 : x0 = 6
    · have e := (if_pos c23).symm.trans e
      refine ex_pc (if_pos c23) ?_
      refine ex_s (am_nb (m := 2) (pc1 := 46) (ls1 := [(0, .ref 157), (1, .int x0)]) (st1 := [.int 27, .ref 157]) (H1 := H) (k1 := 0) (n1 := 0) (by with_unfolding_all rfl)) ?_
      obtain ⟨a27, e26, e⟩ := xb1_some e
      refine ex_cv0 (as := [.int 27]) (rest := []) rfl rfl rfl rfl (hS.obj rfl (by decide)) rfl (by with_unfolding_all rfl) (by with_unfolding_all rfl) (tf380_replies hS e26) (fun H24 s25 => ?_)
      refine ex_s (am_nb (m := 2) (pc1 := 52) (ls1 := [(0, .ref 157), (1, .int x0)]) (st1 := [.int 91, .ref 157]) (H1 := H24) (k1 := 0) (n1 := 0) (by with_unfolding_all rfl)) ?_
      obtain ⟨a31, e30, e⟩ := xb1_some e
      refine ex_cv0 (as := [.int 91]) (rest := []) rfl rfl rfl rfl (s25.obj rfl (by decide)) rfl (by with_unfolding_all rfl) (by with_unfolding_all rfl) (tf380_replies s25 e30) (fun H28 s29 => ?_)
      refine ex_s (am_nb (m := 3) (pc1 := 59) (ls1 := [(0, .ref 157), (1, .int x0)]) (st1 := [.int 16, .ref 157, .ref 157]) (H1 := H28) (k1 := 0) (n1 := 0) (by with_unfolding_all rfl)) ?_
      obtain ⟨r35, a36, e34, e⟩ := xb2_some e
      refine ex_cv1 (as := [.int 16]) (rest := [.ref 157]) rfl rfl rfl rfl (s29.obj rfl (by decide)) rfl (by with_unfolding_all rfl) (by with_unfolding_all rfl) (tf363_mode s29 e34) (fun H32 s33 => ?_)
      refine ex_s (st_if rfl) ?_
      by_cases c38 : r35 = 0
      · have e := (if_pos c38).symm.trans e
        refine ex_pc (if_pos c38) ?_
        refine ex_s (am_nb (m := 1) (pc1 := 84) (ls1 := [(0, .ref 157), (1, .int x0)]) (st1 := [.ref 157, .ref 157]) (H1 := H32) (k1 := 0) (n1 := 0) (by with_unfolding_all rfl)) ?_
        refine xe_get (v := .int (a36 157 93)) s33 rfl rfl (by decide) rfl ?_
        refine ex_s (am_nb (m := 2) (pc1 := 89) (ls1 := [(0, .ref 157), (1, .int x0)]) (st1 := [.int ((a36 157 93) + 1), .ref 157]) (H1 := H32) (k1 := 0) (n1 := 0) (by with_unfolding_all rfl)) ?_
        exact le_E (l1 := [(0, .ref 157)]) ⟨rfl, trivial⟩ rfl (tj408_89  s33 e)
      · have e := (if_neg c38).symm.trans e
        refine ex_pc (if_neg c38) ?_
        refine ex_s (am_nb (m := 2) (pc1 := 67) (ls1 := [(0, .ref 157), (1, .int x0)]) (st1 := [.ref 157, .int 1, .ref 157]) (H1 := H32) (k1 := 0) (n1 := 0) (by with_unfolding_all rfl)) ?_
        refine xe_get (v := .int (a36 157 93)) s33 rfl rfl (by decide) rfl ?_
        refine ex_s (am_nb (m := 1) (pc1 := 71) (ls1 := [(0, .ref 157), (1, .int x0)]) (st1 := [.ref 157, .int (a36 157 93), .int 1, .ref 157]) (H1 := H32) (k1 := 0) (n1 := 0) (by with_unfolding_all rfl)) ?_
        refine xe_get (v := .int (a36 157 95)) s33 rfl rfl (by decide) rfl ?_
        refine ex_s (am_nb (m := 5) (pc1 := 89) (ls1 := [(0, .ref 157), (1, .int x0)]) (st1 := [.int (xmax 1 (((a36 157 93) - (a36 157 95)) + 1)), .ref 157]) (H1 := H32) (k1 := 0) (n1 := 0) (by with_unfolding_all rfl)) ?_
        exact le_E (l1 := [(0, .ref 157)]) ⟨rfl, trivial⟩ rfl (tj408_89  s33 e)
    · have e := (if_neg c23).symm.trans e
      refine ex_pc (if_neg c23) ?_
      cases e
      exact ex_r (st_vret rfl rfl) hS
