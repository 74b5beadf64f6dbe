/-! The program does what the functions say. -/
set_option maxRecDepth 100000 in
theorem tl401_620 {sL : Nat} {sx : Nat → Int32} {h b N : Nat} {T : List am_C} {R : Option Value} {F : am_H → Prop} {z : Nat × xA} (k0 : z.1 = 0 → ∀ H2 : am_H, xS h b T z.2 H2 → am_E sL sx am_cs 401 641 [] [] H2 R F) : ∀ (n : Nat) (v5 : Int32) (a : xA) (H : am_H), xS h b T a H → l401_620 N h b n v5 a = some z → am_E sL sx am_cs 401 620 [(0, .ref 157), (5, .int v5)] [] H R F := by
  intro n
  induction n with
  | zero =>
    intro v5 a H hS e
    cases e
  | succ n ih =>
    intro v5 a H hS e
    unfold l401_620 at e
    refine ex_s (am_nb (m := 2) (pc1 := 624) (ls1 := [(0, .ref 157), (5, .int v5)]) (st1 := [.int 80, .int v5]) (H1 := H) (k1 := 0) (n1 := 0) (by with_unfolding_all rfl)) ?_
    refine ex_s (st_icmp rfl) ?_
    by_cases c105 : 80 ≤ v5
    · have e := (if_pos c105).symm.trans e
      refine ex_pc (if_pos c105) ?_
      cases e
      exact le_E (l1 := []) trivial rfl (k0 rfl H hS)
    · have e := (if_neg c105).symm.trans e
      refine ex_pc (if_neg c105) ?_
      refine ex_s (am_nb (m := 1) (pc1 := 628) (ls1 := [(0, .ref 157), (5, .int v5)]) (st1 := [.ref 157]) (H1 := H) (k1 := 0) (n1 := 0) (by with_unfolding_all rfl)) ?_
      refine xe_get (v := .ref 192) hS rfl rfl (by decide) rfl ?_
      refine ex_s (am_nb (m := 2) (pc1 := 634) (ls1 := [(0, .ref 157), (5, .int v5)]) (st1 := [.int 0, .int v5, .ref 192]) (H1 := H) (k1 := 0) (n1 := 0) (by with_unfolding_all rfl)) ?_
      obtain ⟨g109, e⟩ := xg_some e
      obtain ⟨a106, ha106, e⟩ := xw_some e
      refine xe_zast hS rfl rfl g109 (fun H107 s108 => ?_)
      have s108 : xS h b T a106 H107 := by rw [ha106]; exact s108
      refine ex_s (am_nb (m := 2) (pc1 := 620) (ls1 := [(5, .int (v5 + 1)), (0, .ref 157)]) (st1 := []) (H1 := H107) (k1 := 0) (n1 := 0) (by with_unfolding_all rfl)) ?_
      exact le_E (l1 := [(0, .ref 157), (5, .int (v5 + 1))]) ⟨rfl, rfl, trivial⟩ rfl (ih (v5 + 1) a106 H107 s108 e)

set_option maxRecDepth 100000 in
theorem tj401_688 {sL : Nat} {sx : Nat → Int32} {h b N : Nat} {T : List am_C} {R : Option Value} {F : am_H → Prop} {w1 : Int32} {z : Nat × xA} {rc : Int32 → xA → Option (Nat × xA)} (k0 : z.1 = 0 → ∀ H2 : am_H, xS h b T z.2 H2 → am_E sL sx am_cs 401 725 [] [] H2 R F) (ih : ∀ (v5 : Int32) (a : xA) (H : am_H), xS h b T a H → rc v5 a = some z → am_E sL sx am_cs 401 647 [(0, .ref 157), (1, .int w1), (5, .int v5)] [] H R F) {q5 : Int32} {t0 : Int32} {a : xA} {H : am_H} (hS : xS h b T a H) (e : j401_688 N h b rc w1 q5 t0 a = some z) : am_E sL sx am_cs 401 688 [(0, .ref 157), (1, .int w1), (5, .int q5)] [.int t0] H R F := by
  unfold j401_688 at e
  refine ex_s (am_nb (m := 4) (pc1 := 694) (ls1 := [(6, .int t0), (0, .ref 157), (1, .int w1), (5, .int q5)]) (st1 := [.int 104, .int w1, .ref 157]) (H1 := H) (k1 := 0) (n1 := 0) (by with_unfolding_all rfl)) ?_
  have kk : am_E sL sx am_cs 401 716 [(6, .int t0), (0, .ref 157), (1, .int w1), (5, .int q5)] [.int (if w1 = 104 then ((a 157 98) ||| t0) else ((a 157 98) &&& (t0 ^^^ (-1)))), .ref 157] H R F := by
    obtain ⟨a118, ha118, e⟩ := xw_some e
    refine xe_put (w := (if w1 = 104 then ((a 157 98) ||| t0) else ((a 157 98) &&& (t0 ^^^ (-1))))) hS rfl rfl (by decide) rfl rfl rfl rfl (fun H119 s120 => ?_)
    have s120 : xS h b T a118 H119 := by rw [ha118]; exact s120
    refine ex_s (am_nb (m := 2) (pc1 := 647) (ls1 := [(5, .int (q5 + 1)), (6, .int t0), (0, .ref 157), (1, .int w1)]) (st1 := []) (H1 := H119) (k1 := 0) (n1 := 0) (by with_unfolding_all rfl)) ?_
    exact le_E (l1 := [(0, .ref 157), (1, .int w1), (5, .int (q5 + 1))]) ⟨rfl, rfl, rfl, trivial⟩ rfl (ih (q5 + 1) a118 H119 s120 e)
  refine ex_s (st_icmp rfl) ?_
  by_cases c117 : w1 = 104
  · refine ex_pc (if_pos c117) ?_
    refine ex_s (am_nb (m := 1) (pc1 := 698) (ls1 := [(6, .int t0), (0, .ref 157), (1, .int w1), (5, .int q5)]) (st1 := [.ref 157, .ref 157]) (H1 := H) (k1 := 0) (n1 := 0) (by with_unfolding_all rfl)) ?_
    refine xe_get (v := .int (a 157 98)) hS rfl rfl (by decide) rfl ?_
    refine ex_s (am_nb (m := 3) (pc1 := 716) (ls1 := [(6, .int t0), (0, .ref 157), (1, .int w1), (5, .int q5)]) (st1 := [.int ((a 157 98) ||| t0), .ref 157]) (H1 := H) (k1 := 0) (n1 := 0) (by with_unfolding_all rfl)) ?_
    rw [if_pos c117] at kk
    exact kk
  · refine ex_pc (if_neg c117) ?_
    refine ex_s (am_nb (m := 1) (pc1 := 708) (ls1 := [(6, .int t0), (0, .ref 157), (1, .int w1), (5, .int q5)]) (st1 := [.ref 157, .ref 157]) (H1 := H) (k1 := 0) (n1 := 0) (by with_unfolding_all rfl)) ?_
    refine xe_get (v := .int (a 157 98)) hS rfl rfl (by decide) rfl ?_
    refine ex_s (am_nb (m := 4) (pc1 := 716) (ls1 := [(6, .int t0), (0, .ref 157), (1, .int w1), (5, .int q5)]) (st1 := [.int ((a 157 98) &&& (t0 ^^^ (-1))), .ref 157]) (H1 := H) (k1 := 0) (n1 := 0) (by with_unfolding_all rfl)) ?_
    rw [if_neg c117] at kk
    exact kk

set_option maxRecDepth 100000 in
theorem tl401_647 {sL : Nat} {sx : Nat → Int32} {h b N : Nat} {T : List am_C} {R : Option Value} {F : am_H → Prop} {w1 : Int32} {z : Nat × xA} (k0 : z.1 = 0 → ∀ H2 : am_H, xS h b T z.2 H2 → am_E sL sx am_cs 401 725 [] [] H2 R F) : ∀ (n : Nat) (v5 : Int32) (a : xA) (H : am_H), xS h b T a H → l401_647 N h b w1 n v5 a = some z → am_E sL sx am_cs 401 647 [(0, .ref 157), (1, .int w1), (5, .int v5)] [] H R F := by
  intro n
  induction n with
  | zero =>
    intro v5 a H hS e
    cases e
  | succ n ih =>
    intro v5 a H hS e
    unfold l401_647 at e
    refine ex_s (am_nb (m := 2) (pc1 := 650) (ls1 := [(0, .ref 157), (1, .int w1), (5, .int v5)]) (st1 := [.ref 157, .int v5]) (H1 := H) (k1 := 0) (n1 := 0) (by with_unfolding_all rfl)) ?_
    refine xe_get (v := .int (a 157 115)) hS rfl rfl (by decide) rfl ?_
    refine ex_s (st_icmp rfl) ?_
    by_cases c113 : (a 157 115) ≤ v5
    · have e := (if_pos c113).symm.trans e
      refine ex_pc (if_pos c113) ?_
      cases e
      exact le_E (l1 := []) trivial rfl (k0 rfl H hS)
    · have e := (if_neg c113).symm.trans e
      refine ex_pc (if_neg c113) ?_
      refine ex_s (am_nb (m := 1) (pc1 := 657) (ls1 := [(0, .ref 157), (1, .int w1), (5, .int v5)]) (st1 := [.ref 157]) (H1 := H) (k1 := 0) (n1 := 0) (by with_unfolding_all rfl)) ?_
      refine xe_get (v := .ref 193) hS rfl rfl (by decide) rfl ?_
      refine ex_s (am_nb (m := 1) (pc1 := 662) (ls1 := [(0, .ref 157), (1, .int w1), (5, .int v5)]) (st1 := [.int v5, .ref 193]) (H1 := H) (k1 := 0) (n1 := 0) (by with_unfolding_all rfl)) ?_
      obtain ⟨g114, e⟩ := xg_some e
      refine xe_iald hS rfl rfl g114 ?_
      refine ex_s (am_nb (m := 1) (pc1 := 664) (ls1 := [(0, .ref 157), (1, .int w1), (5, .int v5)]) (st1 := [.int 4, .int (a 193 (v5.toNatClampNeg))]) (H1 := H) (k1 := 0) (n1 := 0) (by with_unfolding_all rfl)) ?_
      refine ex_s (st_icmp rfl) ?_
      by_cases c116 : (a 193 (v5.toNatClampNeg)) = 4
      · have e := (if_pos c116).symm.trans e
        refine ex_pc (if_pos c116) ?_
        refine ex_s (am_nb (m := 2) (pc1 := 688) (ls1 := [(0, .ref 157), (1, .int w1), (5, .int v5)]) (st1 := [.int 1]) (H1 := H) (k1 := 0) (n1 := 0) (by with_unfolding_all rfl)) ?_
        exact le_E (l1 := [(0, .ref 157), (1, .int w1), (5, .int v5)]) ⟨rfl, rfl, rfl, trivial⟩ rfl (tj401_688 k0 ih  hS e)
      · have e := (if_neg c116).symm.trans e
        refine ex_pc (if_neg c116) ?_
        refine ex_s (am_nb (m := 1) (pc1 := 672) (ls1 := [(0, .ref 157), (1, .int w1), (5, .int v5)]) (st1 := [.ref 157]) (H1 := H) (k1 := 0) (n1 := 0) (by with_unfolding_all rfl)) ?_
        refine xe_get (v := .ref 193) hS rfl rfl (by decide) rfl ?_
        refine ex_s (am_nb (m := 1) (pc1 := 677) (ls1 := [(0, .ref 157), (1, .int w1), (5, .int v5)]) (st1 := [.int v5, .ref 193]) (H1 := H) (k1 := 0) (n1 := 0) (by with_unfolding_all rfl)) ?_
        refine xe_iald hS rfl rfl g114 ?_
        refine ex_s (am_nb (m := 1) (pc1 := 680) (ls1 := [(0, .ref 157), (1, .int w1), (5, .int v5)]) (st1 := [.int 20, .int (a 193 (v5.toNatClampNeg))]) (H1 := H) (k1 := 0) (n1 := 0) (by with_unfolding_all rfl)) ?_
        have kk : am_E sL sx am_cs 401 688 [(0, .ref 157), (1, .int w1), (5, .int v5)] [.int (if (a 193 (v5.toNatClampNeg)) = 20 then (2 : Int32) else (0 : Int32))] H R F := by
          refine ex_s (am_nb (m := 4) (pc1 := 694) (ls1 := [(6, .int (if (a 193 (v5.toNatClampNeg)) = 20 then (2 : Int32) else (0 : Int32))), (0, .ref 157), (1, .int w1), (5, .int v5)]) (st1 := [.int 104, .int w1, .ref 157]) (H1 := H) (k1 := 0) (n1 := 0) (by with_unfolding_all rfl)) ?_
          have kk : am_E sL sx am_cs 401 716 [(6, .int (if (a 193 (v5.toNatClampNeg)) = 20 then (2 : Int32) else (0 : Int32))), (0, .ref 157), (1, .int w1), (5, .int v5)] [.int (if w1 = 104 then ((a 157 98) ||| (if (a 193 (v5.toNatClampNeg)) = 20 then (2 : Int32) else (0 : Int32))) else ((a 157 98) &&& ((if (a 193 (v5.toNatClampNeg)) = 20 then (2 : Int32) else (0 : Int32)) ^^^ (-1)))), .ref 157] H R F := by
            obtain ⟨a123, ha123, e⟩ := xw_some e
            refine xe_put (w := (if w1 = 104 then ((a 157 98) ||| (if (a 193 (v5.toNatClampNeg)) = 20 then (2 : Int32) else (0 : Int32))) else ((a 157 98) &&& ((if (a 193 (v5.toNatClampNeg)) = 20 then (2 : Int32) else (0 : Int32)) ^^^ (-1))))) hS rfl rfl (by decide) rfl rfl rfl rfl (fun H124 s125 => ?_)
            have s125 : xS h b T a123 H124 := by rw [ha123]; exact s125
            refine ex_s (am_nb (m := 2) (pc1 := 647) (ls1 := [(5, .int (v5 + 1)), (6, .int (if (a 193 (v5.toNatClampNeg)) = 20 then (2 : Int32) else (0 : Int32))), (0, .ref 157), (1, .int w1)]) (st1 := []) (H1 := H124) (k1 := 0) (n1 := 0) (by with_unfolding_all rfl)) ?_
            exact le_E (l1 := [(0, .ref 157), (1, .int w1), (5, .int (v5 + 1))]) ⟨rfl, rfl, rfl, trivial⟩ rfl (ih (v5 + 1) a123 H124 s125 e)
          refine ex_s (st_icmp rfl) ?_
          by_cases c122 : w1 = 104
          · refine ex_pc (if_pos c122) ?_
            refine ex_s (am_nb (m := 1) (pc1 := 698) (ls1 := [(6, .int (if (a 193 (v5.toNatClampNeg)) = 20 then (2 : Int32) else (0 : Int32))), (0, .ref 157), (1, .int w1), (5, .int v5)]) (st1 := [.ref 157, .ref 157]) (H1 := H) (k1 := 0) (n1 := 0) (by with_unfolding_all rfl)) ?_
            refine xe_get (v := .int (a 157 98)) hS rfl rfl (by decide) rfl ?_
            refine ex_s (am_nb (m := 3) (pc1 := 716) (ls1 := [(6, .int (if (a 193 (v5.toNatClampNeg)) = 20 then (2 : Int32) else (0 : Int32))), (0, .ref 157), (1, .int w1), (5, .int v5)]) (st1 := [.int ((a 157 98) ||| (if (a 193 (v5.toNatClampNeg)) = 20 then (2 : Int32) else (0 : Int32))), .ref 157]) (H1 := H) (k1 := 0) (n1 := 0) (by with_unfolding_all rfl)) ?_
            rw [if_pos c122] at kk
            exact kk
          · refine ex_pc (if_neg c122) ?_
            refine ex_s (am_nb (m := 1) (pc1 := 708) (ls1 := [(6, .int (if (a 193 (v5.toNatClampNeg)) = 20 then (2 : Int32) else (0 : Int32))), (0, .ref 157), (1, .int w1), (5, .int v5)]) (st1 := [.ref 157, .ref 157]) (H1 := H) (k1 := 0) (n1 := 0) (by with_unfolding_all rfl)) ?_
            refine xe_get (v := .int (a 157 98)) hS rfl rfl (by decide) rfl ?_
            refine ex_s (am_nb (m := 4) (pc1 := 716) (ls1 := [(6, .int (if (a 193 (v5.toNatClampNeg)) = 20 then (2 : Int32) else (0 : Int32))), (0, .ref 157), (1, .int w1), (5, .int v5)]) (st1 := [.int ((a 157 98) &&& ((if (a 193 (v5.toNatClampNeg)) = 20 then (2 : Int32) else (0 : Int32)) ^^^ (-1))), .ref 157]) (H1 := H) (k1 := 0) (n1 := 0) (by with_unfolding_all rfl)) ?_
            rw [if_neg c122] at kk
            exact kk
        refine ex_s (st_icmp rfl) ?_
        by_cases c121 : (a 193 (v5.toNatClampNeg)) = 20
        · refine ex_pc (if_pos c121) ?_
          refine ex_s (am_nb (m := 2) (pc1 := 688) (ls1 := [(0, .ref 157), (1, .int w1), (5, .int v5)]) (st1 := [.int 2]) (H1 := H) (k1 := 0) (n1 := 0) (by with_unfolding_all rfl)) ?_
          rw [if_pos c121] at kk
          exact kk
        · refine ex_pc (if_neg c121) ?_
          refine ex_s (am_nb (m := 1) (pc1 := 688) (ls1 := [(0, .ref 157), (1, .int w1), (5, .int v5)]) (st1 := [.int 0]) (H1 := H) (k1 := 0) (n1 := 0) (by with_unfolding_all rfl)) ?_
          rw [if_neg c121] at kk
          exact kk

set_option maxRecDepth 100000 in
theorem tl401_545 {sL : Nat} {sx : Nat → Int32} {h b N : Nat} {T : List am_C} {R : Option Value} {F : am_H → Prop} {z : Nat × xA} (k0 : z.1 = 0 → ∀ H2 : am_H, xS h b T z.2 H2 → am_E sL sx am_cs 401 571 [] [] H2 R F) : ∀ (n : Nat) (v5 : Int32) (a : xA) (H : am_H), xS h b T a H → l401_545 N h b n v5 a = some z → am_E sL sx am_cs 401 545 [(0, .ref 157), (5, .int v5)] [] H R F := by
  intro n
  induction n with
  | zero =>
    intro v5 a H hS e
    cases e
  | succ n ih =>
    intro v5 a H hS e
    unfold l401_545 at e
    refine ex_s (am_nb (m := 2) (pc1 := 548) (ls1 := [(0, .ref 157), (5, .int v5)]) (st1 := [.ref 157, .int v5]) (H1 := H) (k1 := 0) (n1 := 0) (by with_unfolding_all rfl)) ?_
    refine xe_get (v := .int (a 157 115)) hS rfl rfl (by decide) rfl ?_
    refine ex_s (st_icmp rfl) ?_
    by_cases c129 : (a 157 115) ≤ v5
    · have e := (if_pos c129).symm.trans e
      refine ex_pc (if_pos c129) ?_
      cases e
      exact le_E (l1 := []) trivial rfl (k0 rfl H hS)
    · have e := (if_neg c129).symm.trans e
      refine ex_pc (if_neg c129) ?_
      refine ex_s (am_nb (m := 2) (pc1 := 556) (ls1 := [(0, .ref 157), (5, .int v5)]) (st1 := [.ref 157, .ref 157]) (H1 := H) (k1 := 0) (n1 := 0) (by with_unfolding_all rfl)) ?_
      refine xe_get (v := .ref 193) hS rfl rfl (by decide) rfl ?_
      refine ex_s (am_nb (m := 1) (pc1 := 561) (ls1 := [(0, .ref 157), (5, .int v5)]) (st1 := [.int v5, .ref 193, .ref 157]) (H1 := H) (k1 := 0) (n1 := 0) (by with_unfolding_all rfl)) ?_
      obtain ⟨g130, e⟩ := xg_some e
      refine xe_iald hS rfl rfl g130 ?_
      obtain ⟨a134, e133, e⟩ := xb1_some e
      refine ex_cv0 (as := [.int (a 193 (v5.toNatClampNeg))]) (rest := []) rfl rfl rfl rfl (hS.obj rfl (by decide)) rfl (by with_unfolding_all rfl) (by with_unfolding_all rfl) (tf406_attribute hS e133) (fun H131 s132 => ?_)
      refine ex_s (am_nb (m := 2) (pc1 := 545) (ls1 := [(5, .int (v5 + 1)), (0, .ref 157)]) (st1 := []) (H1 := H131) (k1 := 0) (n1 := 0) (by with_unfolding_all rfl)) ?_
      exact le_E (l1 := [(0, .ref 157), (5, .int (v5 + 1))]) ⟨rfl, rfl, trivial⟩ rfl (ih (v5 + 1) a134 H131 s132 e)

set_option maxRecDepth 100000 in
theorem tj401_808 {sL : Nat} {sx : Nat → Int32} {h b N : Nat} {T : List am_C} {R : Option Value} {F : am_H → Prop} {z : Nat × xA} {rc : Int32 → xA → Option (Nat × xA)} (k0 : z.1 = 0 → ∀ H2 : am_H, xS h b T z.2 H2 → am_E sL sx am_cs 401 817 [] [] H2 R F) (ih : ∀ (v5 : Int32) (a : xA) (H : am_H), xS h b T a H → rc v5 a = some z → am_E sL sx am_cs 401 750 [(0, .ref 157), (5, .int v5)] [] H R F) {q5 : Int32} {t0 : Int32} {a : xA} {H : am_H} (hS : xS h b T a H) (e : j401_808 N h b rc q5 t0 a = some z) : am_E sL sx am_cs 401 808 [(0, .ref 157), (5, .int q5)] [.int t0, .ref 157] H R F := by
  unfold j401_808 at e
  obtain ⟨a147, ha147, e⟩ := xw_some e
  refine xe_put (w := t0) hS rfl rfl (by decide) rfl rfl rfl rfl (fun H148 s149 => ?_)
  have s149 : xS h b T a147 H148 := by rw [ha147]; exact s149
  refine ex_s (am_nb (m := 2) (pc1 := 750) (ls1 := [(5, .int (q5 + 1)), (0, .ref 157)]) (st1 := []) (H1 := H148) (k1 := 0) (n1 := 0) (by with_unfolding_all rfl)) ?_
  exact le_E (l1 := [(0, .ref 157), (5, .int (q5 + 1))]) ⟨rfl, rfl, trivial⟩ rfl (ih (q5 + 1) a147 H148 s149 e)

set_option maxRecDepth 100000 in
theorem tl401_750 {sL : Nat} {sx : Nat → Int32} {h b N : Nat} {T : List am_C} {R : Option Value} {F : am_H → Prop} {z : Nat × xA} (k0 : z.1 = 0 → ∀ H2 : am_H, xS h b T z.2 H2 → am_E sL sx am_cs 401 817 [] [] H2 R F) : ∀ (n : Nat) (v5 : Int32) (a : xA) (H : am_H), xS h b T a H → l401_750 N h b n v5 a = some z → am_E sL sx am_cs 401 750 [(0, .ref 157), (5, .int v5)] [] H R F := by
  intro n
  induction n with
  | zero =>
    intro v5 a H hS e
    cases e
  | succ n ih =>
    intro v5 a H hS e
    unfold l401_750 at e
    refine ex_s (am_nb (m := 2) (pc1 := 753) (ls1 := [(0, .ref 157), (5, .int v5)]) (st1 := [.ref 157, .int v5]) (H1 := H) (k1 := 0) (n1 := 0) (by with_unfolding_all rfl)) ?_
    refine xe_get (v := .int (a 157 115)) hS rfl rfl (by decide) rfl ?_
    refine ex_s (st_icmp rfl) ?_
    by_cases c143 : (a 157 115) ≤ v5
    · have e := (if_pos c143).symm.trans e
      refine ex_pc (if_pos c143) ?_
      cases e
      exact le_E (l1 := []) trivial rfl (k0 rfl H hS)
    · have e := (if_neg c143).symm.trans e
      refine ex_pc (if_neg c143) ?_
      refine ex_s (am_nb (m := 2) (pc1 := 761) (ls1 := [(0, .ref 157), (5, .int v5)]) (st1 := [.ref 157, .ref 157]) (H1 := H) (k1 := 0) (n1 := 0) (by with_unfolding_all rfl)) ?_
      refine xe_get (v := .ref 193) hS rfl rfl (by decide) rfl ?_
      refine ex_s (am_nb (m := 1) (pc1 := 766) (ls1 := [(0, .ref 157), (5, .int v5)]) (st1 := [.int v5, .ref 193, .ref 157]) (H1 := H) (k1 := 0) (n1 := 0) (by with_unfolding_all rfl)) ?_
      obtain ⟨g144, e⟩ := xg_some e
      refine xe_iald hS rfl rfl g144 ?_
      refine ex_s (st_if rfl) ?_
      by_cases c146 : (a 193 (v5.toNatClampNeg)) = 0
      · have e := (if_pos c146).symm.trans e
        refine ex_pc (if_pos c146) ?_
        refine ex_s (am_nb (m := 2) (pc1 := 808) (ls1 := [(0, .ref 157), (5, .int v5)]) (st1 := [.int 0, .ref 157]) (H1 := H) (k1 := 0) (n1 := 0) (by with_unfolding_all rfl)) ?_
        exact le_E (l1 := [(0, .ref 157), (5, .int v5)]) ⟨rfl, rfl, trivial⟩ rfl (tj401_808 k0 ih  hS e)
      · have e := (if_neg c146).symm.trans e
        refine ex_pc (if_neg c146) ?_
        refine ex_s (am_nb (m := 1) (pc1 := 775) (ls1 := [(0, .ref 157), (5, .int v5)]) (st1 := [.ref 157, .ref 157]) (H1 := H) (k1 := 0) (n1 := 0) (by with_unfolding_all rfl)) ?_
        refine xe_get (v := .ref 193) hS rfl rfl (by decide) rfl ?_
        refine ex_s (am_nb (m := 1) (pc1 := 780) (ls1 := [(0, .ref 157), (5, .int v5)]) (st1 := [.int v5, .ref 193, .ref 157]) (H1 := H) (k1 := 0) (n1 := 0) (by with_unfolding_all rfl)) ?_
        refine xe_iald hS rfl rfl g144 ?_
        refine ex_s (am_nb (m := 1) (pc1 := 782) (ls1 := [(0, .ref 157), (5, .int v5)]) (st1 := [.int 4, .int (a 193 (v5.toNatClampNeg)), .ref 157]) (H1 := H) (k1 := 0) (n1 := 0) (by with_unfolding_all rfl)) ?_
        refine ex_s (st_icmp rfl) ?_
        by_cases c151 : 4 < (a 193 (v5.toNatClampNeg))
        · have e := (if_pos c151).symm.trans e
          refine ex_pc (if_pos c151) ?_
          refine ex_s (am_nb (m := 1) (pc1 := 805) (ls1 := [(0, .ref 157), (5, .int v5)]) (st1 := [.ref 157, .ref 157]) (H1 := H) (k1 := 0) (n1 := 0) (by with_unfolding_all rfl)) ?_
          refine xe_get (v := .int (a 157 99)) hS rfl rfl (by decide) rfl ?_
          exact le_E (l1 := [(0, .ref 157), (5, .int v5)]) ⟨rfl, rfl, trivial⟩ rfl (tj401_808 k0 ih  hS e)
        · have e := (if_neg c151).symm.trans e
          refine ex_pc (if_neg c151) ?_
          refine ex_s (am_nb (m := 1) (pc1 := 786) (ls1 := [(0, .ref 157), (5, .int v5)]) (st1 := [.ref 157, .ref 157]) (H1 := H) (k1 := 0) (n1 := 0) (by with_unfolding_all rfl)) ?_
          refine xe_get (v := .int (a 157 99)) hS rfl rfl (by decide) rfl ?_
          refine ex_s (am_nb (m := 2) (pc1 := 791) (ls1 := [(0, .ref 157), (5, .int v5)]) (st1 := [.ref 157, .int 1, .int (a 157 99), .ref 157]) (H1 := H) (k1 := 0) (n1 := 0) (by with_unfolding_all rfl)) ?_
          refine xe_get (v := .ref 193) hS rfl rfl (by decide) rfl ?_
          refine ex_s (am_nb (m := 1) (pc1 := 796) (ls1 := [(0, .ref 157), (5, .int v5)]) (st1 := [.int v5, .ref 193, .int 1, .int (a 157 99), .ref 157]) (H1 := H) (k1 := 0) (n1 := 0) (by with_unfolding_all rfl)) ?_
          refine xe_iald hS rfl rfl g144 ?_
          refine ex_s (am_nb (m := 5) (pc1 := 808) (ls1 := [(0, .ref 157), (5, .int v5)]) (st1 := [.int ((a 157 99) ||| ((1 : Int32) <<< (((a 193 (v5.toNatClampNeg)) - 1) &&& 31))), .ref 157]) (H1 := H) (k1 := 0) (n1 := 0) (by with_unfolding_all rfl)) ?_
          exact le_E (l1 := [(0, .ref 157), (5, .int v5)]) ⟨rfl, rfl, trivial⟩ rfl (tj401_808 k0 ih  hS e)

set_option maxRecDepth 100000 in
theorem tj401_25 {sL : Nat} {sx : Nat → Int32} {h b N : Nat} {T : List am_C} {a' : xA} {q1 : Int32} {q2 : Int32} {t0 : Int32} {a : xA} {H : am_H} (hS : xS h b T a H) (e : j401_25 N h b q1 q2 t0 a = some a') : am_E sL sx am_cs 401 25 [(0, .ref 157), (1, .int q1), (2, .int q2)] [.int t0] H none (fun H1 => xS h b T a' H1) := by
  unfold j401_25 at e
  refine ex_s (am_nb (m := 6) (pc1 := 34) (ls1 := [(4, .int (xmax 1 q2)), (3, .int t0), (0, .ref 157), (1, .int q1), (2, .int q2)]) (st1 := [.int q1]) (H1 := H) (k1 := 0) (n1 := 0) (by with_unfolding_all rfl)) ?_
  refine ex_s (st_tsw rfl) ?_
  by_cases c3 : q1 = 64 ∨ q1 = 80 ∨ q1 = 88
  · have e := (if_pos c3).symm.trans e
    refine ex_pc (pc1 := 532) (by rcases c3 with c3 | c3 | c3 <;> (rw [c3]; with_unfolding_all rfl)) ?_
    refine ex_s (am_nb (m := 3) (pc1 := 536) (ls1 := [(4, .int (xmax 1 q2)), (3, .int t0), (0, .ref 157), (1, .int q1), (2, .int q2)]) (st1 := [.int (xmax 1 q2), .int q1, .ref 157]) (H1 := H) (k1 := 0) (n1 := 0) (by with_unfolding_all rfl)) ?_
    obtain ⟨a7, e6, e⟩ := xb1_some e
    refine ex_cv0 (as := [.int q1, .int (xmax 1 q2)]) (rest := []) rfl rfl rfl rfl (hS.obj rfl (by decide)) rfl (by with_unfolding_all rfl) (by with_unfolding_all rfl) (tf405_cellsIn hS e6) (fun H4 s5 => ?_)
    refine ex_s (am_nb (m := 1) (pc1 := 820) (ls1 := [(4, .int (xmax 1 q2)), (3, .int t0), (0, .ref 157), (1, .int q1), (2, .int q2)]) (st1 := []) (H1 := H4) (k1 := 0) (n1 := 0) (by with_unfolding_all rfl)) ?_
    cases e
    exact ex_r (st_vret rfl rfl) s5
  · have e := (if_neg c3).symm.trans e
    by_cases c8 : q1 = 65
    · have e := (if_pos c8).symm.trans e
      refine ex_pc (pc1 := 252) (by rw [c8]; with_unfolding_all rfl) ?_
      refine ex_s (am_nb (m := 2) (pc1 := 254) (ls1 := [(4, .int (xmax 1 q2)), (3, .int t0), (0, .ref 157), (1, .int q1), (2, .int q2)]) (st1 := [.ref 157, .ref 157]) (H1 := H) (k1 := 0) (n1 := 0) (by with_unfolding_all rfl)) ?_
      refine xe_get (v := .int (a 157 93)) hS rfl rfl (by decide) rfl ?_
      refine ex_s (am_nb (m := 3) (pc1 := 261) (ls1 := [(4, .int (xmax 1 q2)), (3, .int t0), (0, .ref 157), (1, .int q1), (2, .int q2)]) (st1 := [.ref 157, .int ((a 157 93) - (xmax 1 q2)), .ref 157]) (H1 := H) (k1 := 0) (n1 := 0) (by with_unfolding_all rfl)) ?_
      refine xe_get (v := .int (a 157 93)) hS rfl rfl (by decide) rfl ?_
      refine ex_s (am_nb (m := 1) (pc1 := 265) (ls1 := [(4, .int (xmax 1 q2)), (3, .int t0), (0, .ref 157), (1, .int q1), (2, .int q2)]) (st1 := [.ref 157, .int (a 157 93), .int ((a 157 93) - (xmax 1 q2)), .ref 157]) (H1 := H) (k1 := 0) (n1 := 0) (by with_unfolding_all rfl)) ?_
      refine xe_get (v := .int (a 157 95)) hS rfl rfl (by decide) rfl ?_
      have kk : am_E sL sx am_cs 401 279 [(4, .int (xmax 1 q2)), (3, .int t0), (0, .ref 157), (1, .int q1), (2, .int q2)] [.int (if (a 157 93) < (a 157 95) then (0 : Int32) else (a 157 95)), .int ((a 157 93) - (xmax 1 q2)), .ref 157] H none (fun H1 => xS h b T a' H1) := by
        refine ex_s (am_nb (m := 2) (pc1 := 283) (ls1 := [(4, .int (xmax 1 q2)), (3, .int t0), (0, .ref 157), (1, .int q1), (2, .int q2)]) (st1 := [.ref 157, .int (xmax ((a 157 93) - (xmax 1 q2)) (if (a 157 93) < (a 157 95) then (0 : Int32) else (a 157 95))), .ref 157]) (H1 := H) (k1 := 0) (n1 := 0) (by with_unfolding_all rfl)) ?_
        refine xe_get (v := .int (a 157 94)) hS rfl rfl (by decide) rfl ?_
        obtain ⟨a13, e12, e⟩ := xb1_some e
        refine ex_cv0 (as := [.int (xmax ((a 157 93) - (xmax 1 q2)) (if (a 157 93) < (a 157 95) then (0 : Int32) else (a 157 95))), .int (a 157 94)]) (rest := []) rfl rfl rfl rfl (hS.obj rfl (by decide)) rfl (by with_unfolding_all rfl) (by with_unfolding_all rfl) (tf384_goes hS e12) (fun H10 s11 => ?_)
        refine ex_s (am_nb (m := 1) (pc1 := 820) (ls1 := [(4, .int (xmax 1 q2)), (3, .int t0), (0, .ref 157), (1, .int q1), (2, .int q2)]) (st1 := []) (H1 := H10) (k1 := 0) (n1 := 0) (by with_unfolding_all rfl)) ?_
        cases e
        exact ex_r (st_vret rfl rfl) s11
      refine ex_s (st_icmp rfl) ?_
      by_cases c9 : (a 157 93) < (a 157 95)
      · refine ex_pc (if_pos c9) ?_
        refine ex_s (am_nb (m := 1) (pc1 := 279) (ls1 := [(4, .int (xmax 1 q2)), (3, .int t0), (0, .ref 157), (1, .int q1), (2, .int q2)]) (st1 := [.int 0, .int ((a 157 93) - (xmax 1 q2)), .ref 157]) (H1 := H) (k1 := 0) (n1 := 0) (by with_unfolding_all rfl)) ?_
        rw [if_pos c9] at kk
        exact kk
      · refine ex_pc (if_neg c9) ?_
        refine ex_s (am_nb (m := 1) (pc1 := 272) (ls1 := [(4, .int (xmax 1 q2)), (3, .int t0), (0, .ref 157), (1, .int q1), (2, .int q2)]) (st1 := [.ref 157, .int ((a 157 93) - (xmax 1 q2)), .ref 157]) (H1 := H) (k1 := 0) (n1 := 0) (by with_unfolding_all rfl)) ?_
        refine xe_get (v := .int (a 157 95)) hS rfl rfl (by decide) rfl ?_
        refine ex_s (am_nb (m := 1) (pc1 := 279) (ls1 := [(4, .int (xmax 1 q2)), (3, .int t0), (0, .ref 157), (1, .int q1), (2, .int q2)]) (st1 := [.int (a 157 95), .int ((a 157 93) - (xmax 1 q2)), .ref 157]) (H1 := H) (k1 := 0) (n1 := 0) (by with_unfolding_all rfl)) ?_
        rw [if_neg c9] at kk
        exact kk
    · have e := (if_neg c8).symm.trans e
      by_cases c14 : q1 = 66
      · have e := (if_pos c14).symm.trans e
        refine ex_pc (pc1 := 292) (by rw [c14]; with_unfolding_all rfl) ?_
        refine ex_s (am_nb (m := 2) (pc1 := 294) (ls1 := [(4, .int (xmax 1 q2)), (3, .int t0), (0, .ref 157), (1, .int q1), (2, .int q2)]) (st1 := [.ref 157, .ref 157]) (H1 := H) (k1 := 0) (n1 := 0) (by with_unfolding_all rfl)) ?_
        refine xe_get (v := .int (a 157 93)) hS rfl rfl (by decide) rfl ?_
        refine ex_s (am_nb (m := 3) (pc1 := 301) (ls1 := [(4, .int (xmax 1 q2)), (3, .int t0), (0, .ref 157), (1, .int q1), (2, .int q2)]) (st1 := [.ref 157, .int ((a 157 93) + (xmax 1 q2)), .ref 157]) (H1 := H) (k1 := 0) (n1 := 0) (by with_unfolding_all rfl)) ?_
        refine xe_get (v := .int (a 157 93)) hS rfl rfl (by decide) rfl ?_
        refine ex_s (am_nb (m := 1) (pc1 := 305) (ls1 := [(4, .int (xmax 1 q2)), (3, .int t0), (0, .ref 157), (1, .int q1), (2, .int q2)]) (st1 := [.ref 157, .int (a 157 93), .int ((a 157 93) + (xmax 1 q2)), .ref 157]) (H1 := H) (k1 := 0) (n1 := 0) (by with_unfolding_all rfl)) ?_
        refine xe_get (v := .int (a 157 96)) hS rfl rfl (by decide) rfl ?_
        have kk : am_E sL sx am_cs 401 324 [(4, .int (xmax 1 q2)), (3, .int t0), (0, .ref 157), (1, .int q1), (2, .int q2)] [.int (if (a 157 96) < (a 157 93) then ((a 157 68) - 1) else (a 157 96)), .int ((a 157 93) + (xmax 1 q2)), .ref 157] H none (fun H1 => xS h b T a' H1) := by
          refine ex_s (am_nb (m := 2) (pc1 := 328) (ls1 := [(4, .int (xmax 1 q2)), (3, .int t0), (0, .ref 157), (1, .int q1), (2, .int q2)]) (st1 := [.ref 157, .int (xmin ((a 157 93) + (xmax 1 q2)) (if (a 157 96) < (a 157 93) then ((a 157 68) - 1) else (a 157 96))), .ref 157]) (H1 := H) (k1 := 0) (n1 := 0) (by with_unfolding_all rfl)) ?_
          refine xe_get (v := .int (a 157 94)) hS rfl rfl (by decide) rfl ?_
          obtain ⟨a19, e18, e⟩ := xb1_some e
          refine ex_cv0 (as := [.int (xmin ((a 157 93) + (xmax 1 q2)) (if (a 157 96) < (a 157 93) then ((a 157 68) - 1) else (a 157 96))), .int (a 157 94)]) (rest := []) rfl rfl rfl rfl (hS.obj rfl (by decide)) rfl (by with_unfolding_all rfl) (by with_unfolding_all rfl) (tf384_goes hS e18) (fun H16 s17 => ?_)
          refine ex_s (am_nb (m := 1) (pc1 := 820) (ls1 := [(4, .int (xmax 1 q2)), (3, .int t0), (0, .ref 157), (1, .int q1), (2, .int q2)]) (st1 := []) (H1 := H16) (k1 := 0) (n1 := 0) (by with_unfolding_all rfl)) ?_
          cases e
          exact ex_r (st_vret rfl rfl) s17
        refine ex_s (st_icmp rfl) ?_
        by_cases c15 : (a 157 96) < (a 157 93)
        · refine ex_pc (if_pos c15) ?_
          refine ex_s (am_nb (m := 1) (pc1 := 319) (ls1 := [(4, .int (xmax 1 q2)), (3, .int t0), (0, .ref 157), (1, .int q1), (2, .int q2)]) (st1 := [.ref 157, .int ((a 157 93) + (xmax 1 q2)), .ref 157]) (H1 := H) (k1 := 0) (n1 := 0) (by with_unfolding_all rfl)) ?_
          refine xe_get (v := .int (a 157 68)) hS rfl rfl (by decide) rfl ?_
          refine ex_s (am_nb (m := 2) (pc1 := 324) (ls1 := [(4, .int (xmax 1 q2)), (3, .int t0), (0, .ref 157), (1, .int q1), (2, .int q2)]) (st1 := [.int ((a 157 68) - 1), .int ((a 157 93) + (xmax 1 q2)), .ref 157]) (H1 := H) (k1 := 0) (n1 := 0) (by with_unfolding_all rfl)) ?_
          rw [if_pos c15] at kk
          exact kk
        · refine ex_pc (if_neg c15) ?_
          refine ex_s (am_nb (m := 1) (pc1 := 312) (ls1 := [(4, .int (xmax 1 q2)), (3, .int t0), (0, .ref 157), (1, .int q1), (2, .int q2)]) (st1 := [.ref 157, .int ((a 157 93) + (xmax 1 q2)), .ref 157]) (H1 := H) (k1 := 0) (n1 := 0) (by with_unfolding_all rfl)) ?_
          refine xe_get (v := .int (a 157 96)) hS rfl rfl (by decide) rfl ?_
          refine ex_s (am_nb (m := 1) (pc1 := 324) (ls1 := [(4, .int (xmax 1 q2)), (3, .int t0), (0, .ref 157), (1, .int q1), (2, .int q2)]) (st1 := [.int (a 157 96), .int ((a 157 93) + (xmax 1 q2)), .ref 157]) (H1 := H) (k1 := 0) (n1 := 0) (by with_unfolding_all rfl)) ?_
          rw [if_neg c15] at kk
          exact kk
      · have e := (if_neg c14).symm.trans e
        by_cases c20 : q1 = 67
        · have e := (if_pos c20).symm.trans e
          refine ex_pc (pc1 := 337) (by rw [c20]; with_unfolding_all rfl) ?_
          refine ex_s (am_nb (m := 2) (pc1 := 339) (ls1 := [(4, .int (xmax 1 q2)), (3, .int t0), (0, .ref 157), (1, .int q1), (2, .int q2)]) (st1 := [.ref 157, .ref 157]) (H1 := H) (k1 := 0) (n1 := 0) (by with_unfolding_all rfl)) ?_
          refine xe_get (v := .int (a 157 93)) hS rfl rfl (by decide) rfl ?_
          refine ex_s (am_nb (m := 1) (pc1 := 343) (ls1 := [(4, .int (xmax 1 q2)), (3, .int t0), (0, .ref 157), (1, .int q1), (2, .int q2)]) (st1 := [.ref 157, .int (a 157 93), .ref 157]) (H1 := H) (k1 := 0) (n1 := 0) (by with_unfolding_all rfl)) ?_
          refine xe_get (v := .int (a 157 94)) hS rfl rfl (by decide) rfl ?_
          refine ex_s (am_nb (m := 2) (pc1 := 349) (ls1 := [(4, .int (xmax 1 q2)), (3, .int t0), (0, .ref 157), (1, .int q1), (2, .int q2)]) (st1 := [.int ((a 157 94) + (xmax 1 q2)), .int (a 157 93), .ref 157]) (H1 := H) (k1 := 0) (n1 := 0) (by with_unfolding_all rfl)) ?_
          obtain ⟨a24, e23, e⟩ := xb1_some e
          refine ex_cv0 (as := [.int (a 157 93), .int ((a 157 94) + (xmax 1 q2))]) (rest := []) rfl rfl rfl rfl (hS.obj rfl (by decide)) rfl (by with_unfolding_all rfl) (by with_unfolding_all rfl) (tf384_goes hS e23) (fun H21 s22 => ?_)
          refine ex_s (am_nb (m := 1) (pc1 := 820) (ls1 := [(4, .int (xmax 1 q2)), (3, .int t0), (0, .ref 157), (1, .int q1), (2, .int q2)]) (st1 := []) (H1 := H21) (k1 := 0) (n1 := 0) (by with_unfolding_all rfl)) ?_
          cases e
          exact ex_r (st_vret rfl rfl) s22
        · have e := (if_neg c20).symm.trans e
          by_cases c25 : q1 = 68
          · have e := (if_pos c25).symm.trans e
            refine ex_pc (pc1 := 355) (by rw [c25]; with_unfolding_all rfl) ?_
            refine ex_s (am_nb (m := 2) (pc1 := 357) (ls1 := [(4, .int (xmax 1 q2)), (3, .int t0), (0, .ref 157), (1, .int q1), (2, .int q2)]) (st1 := [.ref 157, .ref 157]) (H1 := H) (k1 := 0) (n1 := 0) (by with_unfolding_all rfl)) ?_
            refine xe_get (v := .int (a 157 93)) hS rfl rfl (by decide) rfl ?_
            refine ex_s (am_nb (m := 1) (pc1 := 361) (ls1 := [(4, .int (xmax 1 q2)), (3, .int t0), (0, .ref 157), (1, .int q1), (2, .int q2)]) (st1 := [.ref 157, .int (a 157 93), .ref 157]) (H1 := H) (k1 := 0) (n1 := 0) (by with_unfolding_all rfl)) ?_
            refine xe_get (v := .int (a 157 94)) hS rfl rfl (by decide) rfl ?_
            refine ex_s (am_nb (m := 2) (pc1 := 367) (ls1 := [(4, .int (xmax 1 q2)), (3, .int t0), (0, .ref 157), (1, .int q1), (2, .int q2)]) (st1 := [.int ((a 157 94) - (xmax 1 q2)), .int (a 157 93), .ref 157]) (H1 := H) (k1 := 0) (n1 := 0) (by with_unfolding_all rfl)) ?_
            obtain ⟨a29, e28, e⟩ := xb1_some e
            refine ex_cv0 (as := [.int (a 157 93), .int ((a 157 94) - (xmax 1 q2))]) (rest := []) rfl rfl rfl rfl (hS.obj rfl (by decide)) rfl (by with_unfolding_all rfl) (by with_unfolding_all rfl) (tf384_goes hS e28) (fun H26 s27 => ?_)
            refine ex_s (am_nb (m := 1) (pc1 := 820) (ls1 := [(4, .int (xmax 1 q2)), (3, .int t0), (0, .ref 157), (1, .int q1), (2, .int q2)]) (st1 := []) (H1 := H26) (k1 := 0) (n1 := 0) (by with_unfolding_all rfl)) ?_
            cases e
            exact ex_r (st_vret rfl rfl) s27
          · have e := (if_neg c25).symm.trans e
            by_cases c30 : q1 = 71
            · have e := (if_pos c30).symm.trans e
              refine ex_pc (pc1 := 373) (by rw [c30]; with_unfolding_all rfl) ?_
              refine ex_s (am_nb (m := 2) (pc1 := 375) (ls1 := [(4, .int (xmax 1 q2)), (3, .int t0), (0, .ref 157), (1, .int q1), (2, .int q2)]) (st1 := [.ref 157, .ref 157]) (H1 := H) (k1 := 0) (n1 := 0) (by with_unfolding_all rfl)) ?_
              refine xe_get (v := .int (a 157 93)) hS rfl rfl (by decide) rfl ?_
              refine ex_s (am_nb (m := 3) (pc1 := 382) (ls1 := [(4, .int (xmax 1 q2)), (3, .int t0), (0, .ref 157), (1, .int q1), (2, .int q2)]) (st1 := [.int ((xmax 1 q2) - 1), .int (a 157 93), .ref 157]) (H1 := H) (k1 := 0) (n1 := 0) (by with_unfolding_all rfl)) ?_
              obtain ⟨a34, e33, e⟩ := xb1_some e
              refine ex_cv0 (as := [.int (a 157 93), .int ((xmax 1 q2) - 1)]) (rest := []) rfl rfl rfl rfl (hS.obj rfl (by decide)) rfl (by with_unfolding_all rfl) (by with_unfolding_all rfl) (tf384_goes hS e33) (fun H31 s32 => ?_)
              refine ex_s (am_nb (m := 1) (pc1 := 820) (ls1 := [(4, .int (xmax 1 q2)), (3, .int t0), (0, .ref 157), (1, .int q1), (2, .int q2)]) (st1 := []) (H1 := H31) (k1 := 0) (n1 := 0) (by with_unfolding_all rfl)) ?_
              cases e
              exact ex_r (st_vret rfl rfl) s32
            · have e := (if_neg c30).symm.trans e
              by_cases c35 : q1 = 72 ∨ q1 = 102
              · have e := (if_pos c35).symm.trans e
                refine ex_pc (pc1 := 405) (by rcases c35 with c35 | c35 <;> (rw [c35]; with_unfolding_all rfl)) ?_
                refine ex_s (am_nb (m := 3) (pc1 := 409) (ls1 := [(4, .int (xmax 1 q2)), (3, .int t0), (0, .ref 157), (1, .int q1), (2, .int q2)]) (st1 := [.int (xmax 1 q2), .ref 157, .ref 157]) (H1 := H) (k1 := 0) (n1 := 0) (by with_unfolding_all rfl)) ?_
                obtain ⟨r39, a40, e38, e⟩ := xb2_some e
                refine ex_cv1 (as := [.int (xmax 1 q2)]) (rest := [.ref 157]) rfl rfl rfl rfl (hS.obj rfl (by decide)) rfl (by with_unfolding_all rfl) (by with_unfolding_all rfl) (tf402_rowOf hS e38) (fun H36 s37 => ?_)
                refine ex_s (am_nb (m := 5) (pc1 := 419) (ls1 := [(4, .int (xmax 1 q2)), (3, .int t0), (0, .ref 157), (1, .int q1), (2, .int q2)]) (st1 := [.int ((xmax 1 t0) - 1), .int r39, .ref 157]) (H1 := H36) (k1 := 0) (n1 := 0) (by with_unfolding_all rfl)) ?_
                obtain ⟨a44, e43, e⟩ := xb1_some e
                refine ex_cv0 (as := [.int r39, .int ((xmax 1 t0) - 1)]) (rest := []) rfl rfl rfl rfl (s37.obj rfl (by decide)) rfl (by with_unfolding_all rfl) (by with_unfolding_all rfl) (tf384_goes s37 e43) (fun H41 s42 => ?_)
                refine ex_s (am_nb (m := 1) (pc1 := 820) (ls1 := [(4, .int (xmax 1 q2)), (3, .int t0), (0, .ref 157), (1, .int q1), (2, .int q2)]) (st1 := []) (H1 := H41) (k1 := 0) (n1 := 0) (by with_unfolding_all rfl)) ?_
                cases e
                exact ex_r (st_vret rfl rfl) s42
              · have e := (if_neg c35).symm.trans e
                by_cases c45 : q1 = 74
                · have e := (if_pos c45).symm.trans e
                  refine ex_pc (pc1 := 425) (by rw [c45]; with_unfolding_all rfl) ?_
                  refine ex_s (am_nb (m := 2) (pc1 := 427) (ls1 := [(4, .int (xmax 1 q2)), (3, .int t0), (0, .ref 157), (1, .int q1), (2, .int q2)]) (st1 := [.int q2, .ref 157]) (H1 := H) (k1 := 0) (n1 := 0) (by with_unfolding_all rfl)) ?_
                  obtain ⟨a49, e48, e⟩ := xb1_some e
                  refine ex_cv0 (as := [.int q2]) (rest := []) rfl rfl rfl rfl (hS.obj rfl (by decide)) rfl (by with_unfolding_all rfl) (by with_unfolding_all rfl) (tf403_erases hS e48) (fun H46 s47 => ?_)
                  refine ex_s (am_nb (m := 1) (pc1 := 820) (ls1 := [(4, .int (xmax 1 q2)), (3, .int t0), (0, .ref 157), (1, .int q1), (2, .int q2)]) (st1 := []) (H1 := H46) (k1 := 0) (n1 := 0) (by with_unfolding_all rfl)) ?_
                  cases e
                  exact ex_r (st_vret rfl rfl) s47
                · have e := (if_neg c45).symm.trans e
                  by_cases c50 : q1 = 75
                  · have e := (if_pos c50).symm.trans e
                    refine ex_pc (pc1 := 433) (by rw [c50]; with_unfolding_all rfl) ?_
                    refine ex_s (am_nb (m := 1) (pc1 := 434) (ls1 := [(4, .int (xmax 1 q2)), (3, .int t0), (0, .ref 157), (1, .int q1), (2, .int q2)]) (st1 := [.int q2]) (H1 := H) (k1 := 0) (n1 := 0) (by with_unfolding_all rfl)) ?_
                    refine ex_s (st_if rfl) ?_
                    by_cases c51 : q2 = 0
                    · have e := (if_pos c51).symm.trans e
                      refine ex_pc (if_pos c51) ?_
                      refine ex_s (am_nb (m := 2) (pc1 := 439) (ls1 := [(4, .int (xmax 1 q2)), (3, .int t0), (0, .ref 157), (1, .int q1), (2, .int q2)]) (st1 := [.ref 157, .ref 157]) (H1 := H) (k1 := 0) (n1 := 0) (by with_unfolding_all rfl)) ?_
                      refine xe_get (v := .int (a 157 93)) hS rfl rfl (by decide) rfl ?_
                      refine ex_s (am_nb (m := 1) (pc1 := 443) (ls1 := [(4, .int (xmax 1 q2)), (3, .int t0), (0, .ref 157), (1, .int q1), (2, .int q2)]) (st1 := [.ref 157, .int (a 157 93), .ref 157]) (H1 := H) (k1 := 0) (n1 := 0) (by with_unfolding_all rfl)) ?_
                      refine xe_get (v := .int (a 157 94)) hS rfl rfl (by decide) rfl ?_
                      refine ex_s (am_nb (m := 2) (pc1 := 448) (ls1 := [(4, .int (xmax 1 q2)), (3, .int t0), (0, .ref 157), (1, .int q1), (2, .int q2)]) (st1 := [.ref 157, .ref 157, .int (a 157 94), .int (a 157 93), .ref 157]) (H1 := H) (k1 := 0) (n1 := 0) (by with_unfolding_all rfl)) ?_
                      refine xe_get (v := .int (a 157 93)) hS rfl rfl (by decide) rfl ?_
                      obtain ⟨r55, a56, e54, e⟩ := xb2_some e
                      refine ex_cv1 (as := [.int (a 157 93)]) (rest := [.int (a 157 94), .int (a 157 93), .ref 157]) rfl rfl rfl rfl (hS.obj rfl (by decide)) rfl (by with_unfolding_all rfl) (by with_unfolding_all rfl) (tf385_last hS e54) (fun H52 s53 => ?_)
                      refine ex_s (am_nb (m := 2) (pc1 := 456) (ls1 := [(4, .int (xmax 1 q2)), (3, .int t0), (0, .ref 157), (1, .int q1), (2, .int q2)]) (st1 := [.int (r55 + 1), .int (a 157 94), .int (a 157 93), .ref 157]) (H1 := H52) (k1 := 0) (n1 := 0) (by with_unfolding_all rfl)) ?_
                      obtain ⟨a60, e59, e⟩ := xb1_some e
                      refine ex_cv0 (as := [.int (a 157 93), .int (a 157 94), .int (r55 + 1)]) (rest := []) rfl rfl rfl rfl (s53.obj rfl (by decide)) rfl (by with_unfolding_all rfl) (by with_unfolding_all rfl) (tf390_blank s53 e59) (fun H57 s58 => ?_)
                      refine ex_s (am_nb (m := 1) (pc1 := 820) (ls1 := [(4, .int (xmax 1 q2)), (3, .int t0), (0, .ref 157), (1, .int q1), (2, .int q2)]) (st1 := []) (H1 := H57) (k1 := 0) (n1 := 0) (by with_unfolding_all rfl)) ?_
                      cases e
                      exact ex_r (st_vret rfl rfl) s58
                    · have e := (if_neg c51).symm.trans e
                      refine ex_pc (if_neg c51) ?_
                      refine ex_s (am_nb (m := 2) (pc1 := 464) (ls1 := [(4, .int (xmax 1 q2)), (3, .int t0), (0, .ref 157), (1, .int q1), (2, .int q2)]) (st1 := [.int 1, .int q2]) (H1 := H) (k1 := 0) (n1 := 0) (by with_unfolding_all rfl)) ?_
                      refine ex_s (st_icmp rfl) ?_
                      by_cases c61 : q2 = 1
                      · have e := (if_pos c61).symm.trans e
                        refine ex_pc (if_pos c61) ?_
                        refine ex_s (am_nb (m := 2) (pc1 := 469) (ls1 := [(4, .int (xmax 1 q2)), (3, .int t0), (0, .ref 157), (1, .int q1), (2, .int q2)]) (st1 := [.ref 157, .ref 157]) (H1 := H) (k1 := 0) (n1 := 0) (by with_unfolding_all rfl)) ?_
                        refine xe_get (v := .int (a 157 93)) hS rfl rfl (by decide) rfl ?_
                        refine ex_s (am_nb (m := 2) (pc1 := 474) (ls1 := [(4, .int (xmax 1 q2)), (3, .int t0), (0, .ref 157), (1, .int q1), (2, .int q2)]) (st1 := [.ref 157, .int 0, .int (a 157 93), .ref 157]) (H1 := H) (k1 := 0) (n1 := 0) (by with_unfolding_all rfl)) ?_
                        refine xe_get (v := .int (a 157 94)) hS rfl rfl (by decide) rfl ?_
                        refine ex_s (am_nb (m := 2) (pc1 := 479) (ls1 := [(4, .int (xmax 1 q2)), (3, .int t0), (0, .ref 157), (1, .int q1), (2, .int q2)]) (st1 := [.int ((a 157 94) + 1), .int 0, .int (a 157 93), .ref 157]) (H1 := H) (k1 := 0) (n1 := 0) (by with_unfolding_all rfl)) ?_
                        obtain ⟨a65, e64, e⟩ := xb1_some e
                        refine ex_cv0 (as := [.int (a 157 93), .int 0, .int ((a 157 94) + 1)]) (rest := []) rfl rfl rfl rfl (hS.obj rfl (by decide)) rfl (by with_unfolding_all rfl) (by with_unfolding_all rfl) (tf390_blank hS e64) (fun H62 s63 => ?_)
                        refine ex_s (am_nb (m := 1) (pc1 := 820) (ls1 := [(4, .int (xmax 1 q2)), (3, .int t0), (0, .ref 157), (1, .int q1), (2, .int q2)]) (st1 := []) (H1 := H62) (k1 := 0) (n1 := 0) (by with_unfolding_all rfl)) ?_
                        cases e
                        exact ex_r (st_vret rfl rfl) s63
                      · have e := (if_neg c61).symm.trans e
                        refine ex_pc (if_neg c61) ?_
                        refine ex_s (am_nb (m := 2) (pc1 := 487) (ls1 := [(4, .int (xmax 1 q2)), (3, .int t0), (0, .ref 157), (1, .int q1), (2, .int q2)]) (st1 := [.int 2, .int q2]) (H1 := H) (k1 := 0) (n1 := 0) (by with_unfolding_all rfl)) ?_
                        refine ex_s (st_icmp rfl) ?_
                        by_cases c66 : q2 = 2
                        · have e := (if_pos c66).symm.trans e
                          refine ex_pc (if_pos c66) ?_
                          refine ex_s (am_nb (m := 2) (pc1 := 492) (ls1 := [(4, .int (xmax 1 q2)), (3, .int t0), (0, .ref 157), (1, .int q1), (2, .int q2)]) (st1 := [.ref 157, .ref 157]) (H1 := H) (k1 := 0) (n1 := 0) (by with_unfolding_all rfl)) ?_
                          refine xe_get (v := .int (a 157 93)) hS rfl rfl (by decide) rfl ?_
                          refine ex_s (am_nb (m := 3) (pc1 := 498) (ls1 := [(4, .int (xmax 1 q2)), (3, .int t0), (0, .ref 157), (1, .int q1), (2, .int q2)]) (st1 := [.ref 157, .ref 157, .int 0, .int (a 157 93), .ref 157]) (H1 := H) (k1 := 0) (n1 := 0) (by with_unfolding_all rfl)) ?_
                          refine xe_get (v := .int (a 157 93)) hS rfl rfl (by decide) rfl ?_
                          obtain ⟨r70, a71, e69, e⟩ := xb2_some e
                          refine ex_cv1 (as := [.int (a 157 93)]) (rest := [.int 0, .int (a 157 93), .ref 157]) rfl rfl rfl rfl (hS.obj rfl (by decide)) rfl (by with_unfolding_all rfl) (by with_unfolding_all rfl) (tf385_last hS e69) (fun H67 s68 => ?_)
                          refine ex_s (am_nb (m := 2) (pc1 := 506) (ls1 := [(4, .int (xmax 1 q2)), (3, .int t0), (0, .ref 157), (1, .int q1), (2, .int q2)]) (st1 := [.int (r70 + 1), .int 0, .int (a 157 93), .ref 157]) (H1 := H67) (k1 := 0) (n1 := 0) (by with_unfolding_all rfl)) ?_
                          obtain ⟨a75, e74, e⟩ := xb1_some e
                          refine ex_cv0 (as := [.int (a 157 93), .int 0, .int (r70 + 1)]) (rest := []) rfl rfl rfl rfl (s68.obj rfl (by decide)) rfl (by with_unfolding_all rfl) (by with_unfolding_all rfl) (tf390_blank s68 e74) (fun H72 s73 => ?_)
                          refine ex_s (am_nb (m := 1) (pc1 := 820) (ls1 := [(4, .int (xmax 1 q2)), (3, .int t0), (0, .ref 157), (1, .int q1), (2, .int q2)]) (st1 := []) (H1 := H72) (k1 := 0) (n1 := 0) (by with_unfolding_all rfl)) ?_
                          cases e
                          exact ex_r (st_vret rfl rfl) s73
                        · have e := (if_neg c66).symm.trans e
                          refine ex_pc (if_neg c66) ?_
                          cases e
                          exact ex_r (st_vret rfl rfl) hS
                  · have e := (if_neg c50).symm.trans e
                    by_cases c76 : q1 = 76 ∨ q1 = 77
                    · have e := (if_pos c76).symm.trans e
                      refine ex_pc (pc1 := 512) (by rcases c76 with c76 | c76 <;> (rw [c76]; with_unfolding_all rfl)) ?_
                      refine ex_s (am_nb (m := 3) (pc1 := 516) (ls1 := [(4, .int (xmax 1 q2)), (3, .int t0), (0, .ref 157), (1, .int q1), (2, .int q2)]) (st1 := [.int 76, .int q1, .ref 157]) (H1 := H) (k1 := 0) (n1 := 0) (by with_unfolding_all rfl)) ?_
                      have kk : am_E sL sx am_cs 401 524 [(4, .int (xmax 1 q2)), (3, .int t0), (0, .ref 157), (1, .int q1), (2, .int q2)] [.int (if q1 = 76 then (1 : Int32) else (0 : Int32)), .ref 157] H none (fun H1 => xS h b T a' H1) := by
                        refine ex_s (am_nb (m := 1) (pc1 := 526) (ls1 := [(4, .int (xmax 1 q2)), (3, .int t0), (0, .ref 157), (1, .int q1), (2, .int q2)]) (st1 := [.int (xmax 1 q2), .int (if q1 = 76 then (1 : Int32) else (0 : Int32)), .ref 157]) (H1 := H) (k1 := 0) (n1 := 0) (by with_unfolding_all rfl)) ?_
                        obtain ⟨a81, e80, e⟩ := xb1_some e
                        refine ex_cv0 (as := [.int (if q1 = 76 then (1 : Int32) else (0 : Int32)), .int (xmax 1 q2)]) (rest := []) rfl rfl rfl rfl (hS.obj rfl (by decide)) rfl (by with_unfolding_all rfl) (by with_unfolding_all rfl) (tf404_rowsIn hS e80) (fun H78 s79 => ?_)
                        refine ex_s (am_nb (m := 1) (pc1 := 820) (ls1 := [(4, .int (xmax 1 q2)), (3, .int t0), (0, .ref 157), (1, .int q1), (2, .int q2)]) (st1 := []) (H1 := H78) (k1 := 0) (n1 := 0) (by with_unfolding_all rfl)) ?_
                        cases e
                        exact ex_r (st_vret rfl rfl) s79
                      refine ex_s (st_icmp rfl) ?_
                      by_cases c77 : q1 = 76
                      · refine ex_pc (if_pos c77) ?_
                        refine ex_s (am_nb (m := 2) (pc1 := 524) (ls1 := [(4, .int (xmax 1 q2)), (3, .int t0), (0, .ref 157), (1, .int q1), (2, .int q2)]) (st1 := [.int 1, .ref 157]) (H1 := H) (k1 := 0) (n1 := 0) (by with_unfolding_all rfl)) ?_
                        rw [if_pos c77] at kk
                        exact kk
                      · refine ex_pc (if_neg c77) ?_
                        refine ex_s (am_nb (m := 1) (pc1 := 524) (ls1 := [(4, .int (xmax 1 q2)), (3, .int t0), (0, .ref 157), (1, .int q1), (2, .int q2)]) (st1 := [.int 0, .ref 157]) (H1 := H) (k1 := 0) (n1 := 0) (by with_unfolding_all rfl)) ?_
                        rw [if_neg c77] at kk
                        exact kk
                    · have e := (if_neg c76).symm.trans e
                      by_cases c82 : q1 = 99
                      · have e := (if_pos c82).symm.trans e
                        refine ex_pc (pc1 := 728) (by rw [c82]; with_unfolding_all rfl) ?_
                        refine ex_s (am_nb (m := 1) (pc1 := 729) (ls1 := [(4, .int (xmax 1 q2)), (3, .int t0), (0, .ref 157), (1, .int q1), (2, .int q2)]) (st1 := [.int q2]) (H1 := H) (k1 := 0) (n1 := 0) (by with_unfolding_all rfl)) ?_
                        refine ex_s (st_if rfl) ?_
                        by_cases c83 : q2 = 0
                        · have e := (if_pos c83).symm.trans e
                          refine ex_pc (if_pos c83) ?_
                          refine ex_s (am_nb (m := 1) (pc1 := 733) (ls1 := [(4, .int (xmax 1 q2)), (3, .int t0), (0, .ref 157), (1, .int q1), (2, .int q2)]) (st1 := [.ref 157]) (H1 := H) (k1 := 0) (n1 := 0) (by with_unfolding_all rfl)) ?_
                          obtain ⟨a87, e86, e⟩ := xb1_some e
                          refine ex_cv0 (as := []) (rest := []) rfl rfl rfl rfl (hS.obj rfl (by decide)) rfl (by with_unfolding_all rfl) (by with_unfolding_all rfl) (tf398_tells hS e86) (fun H84 s85 => ?_)
                          refine ex_s (am_nb (m := 1) (pc1 := 820) (ls1 := [(4, .int (xmax 1 q2)), (3, .int t0), (0, .ref 157), (1, .int q1), (2, .int q2)]) (st1 := []) (H1 := H84) (k1 := 0) (n1 := 0) (by with_unfolding_all rfl)) ?_
                          cases e
                          exact ex_r (st_vret rfl rfl) s85
                        · have e := (if_neg c83).symm.trans e
                          refine ex_pc (if_neg c83) ?_
                          cases e
                          exact ex_r (st_vret rfl rfl) hS
                      · have e := (if_neg c82).symm.trans e
                        by_cases c88 : q1 = 100
                        · have e := (if_pos c88).symm.trans e
                          refine ex_pc (pc1 := 388) (by rw [c88]; with_unfolding_all rfl) ?_
                          refine ex_s (am_nb (m := 3) (pc1 := 392) (ls1 := [(4, .int (xmax 1 q2)), (3, .int t0), (0, .ref 157), (1, .int q1), (2, .int q2)]) (st1 := [.int (xmax 1 q2), .ref 157, .ref 157]) (H1 := H) (k1 := 0) (n1 := 0) (by with_unfolding_all rfl)) ?_
                          obtain ⟨r92, a93, e91, e⟩ := xb2_some e
                          refine ex_cv1 (as := [.int (xmax 1 q2)]) (rest := [.ref 157]) rfl rfl rfl rfl (hS.obj rfl (by decide)) rfl (by with_unfolding_all rfl) (by with_unfolding_all rfl) (tf402_rowOf hS e91) (fun H89 s90 => ?_)
                          refine ex_s (am_nb (m := 1) (pc1 := 396) (ls1 := [(4, .int (xmax 1 q2)), (3, .int t0), (0, .ref 157), (1, .int q1), (2, .int q2)]) (st1 := [.ref 157, .int r92, .ref 157]) (H1 := H89) (k1 := 0) (n1 := 0) (by with_unfolding_all rfl)) ?_
                          refine xe_get (v := .int (a93 157 94)) s90 rfl rfl (by decide) rfl ?_
                          obtain ⟨a97, e96, e⟩ := xb1_some e
                          refine ex_cv0 (as := [.int r92, .int (a93 157 94)]) (rest := []) rfl rfl rfl rfl (s90.obj rfl (by decide)) rfl (by with_unfolding_all rfl) (by with_unfolding_all rfl) (tf384_goes s90 e96) (fun H94 s95 => ?_)
                          refine ex_s (am_nb (m := 1) (pc1 := 820) (ls1 := [(4, .int (xmax 1 q2)), (3, .int t0), (0, .ref 157), (1, .int q1), (2, .int q2)]) (st1 := []) (H1 := H94) (k1 := 0) (n1 := 0) (by with_unfolding_all rfl)) ?_
                          cases e
                          exact ex_r (st_vret rfl rfl) s95
                        · have e := (if_neg c88).symm.trans e
                          by_cases c98 : q1 = 103
                          · have e := (if_pos c98).symm.trans e
                            refine ex_pc (pc1 := 595) (by rw [c98]; with_unfolding_all rfl) ?_
                            refine ex_s (am_nb (m := 1) (pc1 := 596) (ls1 := [(4, .int (xmax 1 q2)), (3, .int t0), (0, .ref 157), (1, .int q1), (2, .int q2)]) (st1 := [.int q2]) (H1 := H) (k1 := 0) (n1 := 0) (by with_unfolding_all rfl)) ?_
                            refine ex_s (st_if rfl) ?_
                            by_cases c99 : q2 = 0
                            · have e := (if_pos c99).symm.trans e
                              refine ex_pc (if_pos c99) ?_
                              refine ex_s (am_nb (m := 1) (pc1 := 600) (ls1 := [(4, .int (xmax 1 q2)), (3, .int t0), (0, .ref 157), (1, .int q1), (2, .int q2)]) (st1 := [.ref 157]) (H1 := H) (k1 := 0) (n1 := 0) (by with_unfolding_all rfl)) ?_
                              refine xe_get (v := .ref 192) hS rfl rfl (by decide) rfl ?_
                              refine ex_s (am_nb (m := 1) (pc1 := 604) (ls1 := [(4, .int (xmax 1 q2)), (3, .int t0), (0, .ref 157), (1, .int q1), (2, .int q2)]) (st1 := [.ref 157, .ref 192]) (H1 := H) (k1 := 0) (n1 := 0) (by with_unfolding_all rfl)) ?_
                              refine xe_get (v := .int (a 157 94)) hS rfl rfl (by decide) rfl ?_
                              refine ex_s (am_nb (m := 1) (pc1 := 608) (ls1 := [(4, .int (xmax 1 q2)), (3, .int t0), (0, .ref 157), (1, .int q1), (2, .int q2)]) (st1 := [.int 0, .int (a 157 94), .ref 192]) (H1 := H) (k1 := 0) (n1 := 0) (by with_unfolding_all rfl)) ?_
                              obtain ⟨g103, e⟩ := xg_some e
                              obtain ⟨a100, ha100, e⟩ := xw_some e
                              refine xe_zast hS rfl rfl g103 (fun H101 s102 => ?_)
                              have s102 : xS h b T a100 H101 := by rw [ha100]; exact s102
                              refine ex_s (am_nb (m := 1) (pc1 := 820) (ls1 := [(4, .int (xmax 1 q2)), (3, .int t0), (0, .ref 157), (1, .int q1), (2, .int q2)]) (st1 := []) (H1 := H101) (k1 := 0) (n1 := 0) (by with_unfolding_all rfl)) ?_
                              cases e
                              exact ex_r (st_vret rfl rfl) s102
                            · have e := (if_neg c99).symm.trans e
                              refine ex_pc (if_neg c99) ?_
                              refine ex_s (am_nb (m := 2) (pc1 := 614) (ls1 := [(4, .int (xmax 1 q2)), (3, .int t0), (0, .ref 157), (1, .int q1), (2, .int q2)]) (st1 := [.int 3, .int q2]) (H1 := H) (k1 := 0) (n1 := 0) (by with_unfolding_all rfl)) ?_
                              refine ex_s (st_icmp rfl) ?_
                              by_cases c104 : q2 = 3
                              · have e := (if_pos c104).symm.trans e
                                refine ex_pc (if_pos c104) ?_
                                refine ex_s (am_nb (m := 2) (pc1 := 620) (ls1 := [(5, .int 0), (4, .int (xmax 1 q2)), (3, .int t0), (0, .ref 157), (1, .int q1), (2, .int q2)]) (st1 := []) (H1 := H) (k1 := 0) (n1 := 0) (by with_unfolding_all rfl)) ?_
                                obtain ⟨z110, e111, e⟩ := Option.bind_eq_some_iff.mp e
                                refine le_E (l1 := [(0, .ref 157), (5, .int 0)]) ⟨rfl, rfl, trivial⟩ rfl (tl401_620 (z := z110)  (fun uz110_0 Hz1100 sz1100 => ?_) N 0 a H hS e111)
                                refine ex_s (am_nb (m := 1) (pc1 := 820) (ls1 := []) (st1 := []) (H1 := Hz1100) (k1 := 0) (n1 := 0) (by with_unfolding_all rfl)) ?_
                                cases e
                                exact ex_r (st_vret rfl rfl) sz1100
                              · have e := (if_neg c104).symm.trans e
                                refine ex_pc (if_neg c104) ?_
                                cases e
                                exact ex_r (st_vret rfl rfl) hS
                          · have e := (if_neg c98).symm.trans e
                            by_cases c112 : q1 = 104 ∨ q1 = 108
                            · have e := (if_pos c112).symm.trans e
                              refine ex_pc (pc1 := 644) (by rcases c112 with c112 | c112 <;> (rw [c112]; with_unfolding_all rfl)) ?_
                              refine ex_s (am_nb (m := 2) (pc1 := 647) (ls1 := [(5, .int 0), (4, .int (xmax 1 q2)), (3, .int t0), (0, .ref 157), (1, .int q1), (2, .int q2)]) (st1 := []) (H1 := H) (k1 := 0) (n1 := 0) (by with_unfolding_all rfl)) ?_
                              obtain ⟨z126, e127, e⟩ := Option.bind_eq_some_iff.mp e
                              refine le_E (l1 := [(0, .ref 157), (1, .int q1), (5, .int 0)]) ⟨rfl, rfl, rfl, trivial⟩ rfl (tl401_647 (z := z126)  (fun uz126_0 Hz1260 sz1260 => ?_) N 0 a H hS e127)
                              refine ex_s (am_nb (m := 1) (pc1 := 820) (ls1 := []) (st1 := []) (H1 := Hz1260) (k1 := 0) (n1 := 0) (by with_unfolding_all rfl)) ?_
                              cases e
                              exact ex_r (st_vret rfl rfl) sz1260
                            · have e := (if_neg c112).symm.trans e
                              by_cases c128 : q1 = 109
                              · have e := (if_pos c128).symm.trans e
                                refine ex_pc (pc1 := 542) (by rw [c128]; with_unfolding_all rfl) ?_
                                refine ex_s (am_nb (m := 2) (pc1 := 545) (ls1 := [(5, .int 0), (4, .int (xmax 1 q2)), (3, .int t0), (0, .ref 157), (1, .int q1), (2, .int q2)]) (st1 := []) (H1 := H) (k1 := 0) (n1 := 0) (by with_unfolding_all rfl)) ?_
                                obtain ⟨z135, e136, e⟩ := Option.bind_eq_some_iff.mp e
                                refine le_E (l1 := [(0, .ref 157), (5, .int 0)]) ⟨rfl, rfl, trivial⟩ rfl (tl401_545 (z := z135)  (fun uz135_0 Hz1350 sz1350 => ?_) N 0 a H hS e136)
                                refine ex_s (am_nb (m := 1) (pc1 := 820) (ls1 := []) (st1 := []) (H1 := Hz1350) (k1 := 0) (n1 := 0) (by with_unfolding_all rfl)) ?_
                                cases e
                                exact ex_r (st_vret rfl rfl) sz1350
                              · have e := (if_neg c128).symm.trans e
                                by_cases c137 : q1 = 110
                                · have e := (if_pos c137).symm.trans e
                                  refine ex_pc (pc1 := 739) (by rw [c137]; with_unfolding_all rfl) ?_
                                  refine ex_s (am_nb (m := 2) (pc1 := 741) (ls1 := [(4, .int (xmax 1 q2)), (3, .int t0), (0, .ref 157), (1, .int q1), (2, .int q2)]) (st1 := [.int q2, .ref 157]) (H1 := H) (k1 := 0) (n1 := 0) (by with_unfolding_all rfl)) ?_
                                  obtain ⟨a141, e140, e⟩ := xb1_some e
                                  refine ex_cv0 (as := [.int q2]) (rest := []) rfl rfl rfl rfl (hS.obj rfl (by decide)) rfl (by with_unfolding_all rfl) (by with_unfolding_all rfl) (tf408_reports hS e140) (fun H138 s139 => ?_)
                                  refine ex_s (am_nb (m := 1) (pc1 := 820) (ls1 := [(4, .int (xmax 1 q2)), (3, .int t0), (0, .ref 157), (1, .int q1), (2, .int q2)]) (st1 := []) (H1 := H138) (k1 := 0) (n1 := 0) (by with_unfolding_all rfl)) ?_
                                  cases e
                                  exact ex_r (st_vret rfl rfl) s139
                                · have e := (if_neg c137).symm.trans e
                                  by_cases c142 : q1 = 113
                                  · have e := (if_pos c142).symm.trans e
                                    refine ex_pc (pc1 := 747) (by rw [c142]; with_unfolding_all rfl) ?_
                                    refine ex_s (am_nb (m := 2) (pc1 := 750) (ls1 := [(5, .int 0), (4, .int (xmax 1 q2)), (3, .int t0), (0, .ref 157), (1, .int q1), (2, .int q2)]) (st1 := []) (H1 := H) (k1 := 0) (n1 := 0) (by with_unfolding_all rfl)) ?_
                                    obtain ⟨z152, e153, e⟩ := Option.bind_eq_some_iff.mp e
                                    refine le_E (l1 := [(0, .ref 157), (5, .int 0)]) ⟨rfl, rfl, trivial⟩ rfl (tl401_750 (z := z152)  (fun uz152_0 Hz1520 sz1520 => ?_) N 0 a H hS e153)
                                    refine ex_s (am_nb (m := 1) (pc1 := 820) (ls1 := []) (st1 := []) (H1 := Hz1520) (k1 := 0) (n1 := 0) (by with_unfolding_all rfl)) ?_
                                    cases e
                                    exact ex_r (st_vret rfl rfl) sz1520
                                  · have e := (if_neg c142).symm.trans e
                                    by_cases c154 : q1 = 114
                                    · have e := (if_pos c154).symm.trans e
                                      refine ex_pc (pc1 := 574) (by rw [c154]; with_unfolding_all rfl) ?_
                                      refine ex_s (am_nb (m := 3) (pc1 := 578) (ls1 := [(4, .int (xmax 1 q2)), (3, .int t0), (0, .ref 157), (1, .int q1), (2, .int q2)]) (st1 := [.int t0, .int (xmax 1 q2), .ref 157]) (H1 := H) (k1 := 0) (n1 := 0) (by with_unfolding_all rfl)) ?_
                                      have kk : am_E sL sx am_cs 401 589 [(4, .int (xmax 1 q2)), (3, .int t0), (0, .ref 157), (1, .int q1), (2, .int q2)] [.int (if t0 = 0 then (a 157 68) else (t0)), .int (xmax 1 q2), .ref 157] H none (fun H1 => xS h b T a' H1) := by
                                        obtain ⟨a159, e158, e⟩ := xb1_some e
                                        refine ex_cv0 (as := [.int (xmax 1 q2), .int (if t0 = 0 then (a 157 68) else (t0))]) (rest := []) rfl rfl rfl rfl (hS.obj rfl (by decide)) rfl (by with_unfolding_all rfl) (by with_unfolding_all rfl) (tf407_margins hS e158) (fun H156 s157 => ?_)
                                        refine ex_s (am_nb (m := 1) (pc1 := 820) (ls1 := [(4, .int (xmax 1 q2)), (3, .int t0), (0, .ref 157), (1, .int q1), (2, .int q2)]) (st1 := []) (H1 := H156) (k1 := 0) (n1 := 0) (by with_unfolding_all rfl)) ?_
                                        cases e
                                        exact ex_r (st_vret rfl rfl) s157
                                      refine ex_s (st_if rfl) ?_
                                      by_cases c155 : t0 = 0
                                      · refine ex_pc (if_pos c155) ?_
                                        refine ex_s (am_nb (m := 1) (pc1 := 582) (ls1 := [(4, .int (xmax 1 q2)), (3, .int t0), (0, .ref 157), (1, .int q1), (2, .int q2)]) (st1 := [.ref 157, .int (xmax 1 q2), .ref 157]) (H1 := H) (k1 := 0) (n1 := 0) (by with_unfolding_all rfl)) ?_
                                        refine xe_get (v := .int (a 157 68)) hS rfl rfl (by decide) rfl ?_
                                        refine ex_s (am_nb (m := 1) (pc1 := 589) (ls1 := [(4, .int (xmax 1 q2)), (3, .int t0), (0, .ref 157), (1, .int q1), (2, .int q2)]) (st1 := [.int (a 157 68), .int (xmax 1 q2), .ref 157]) (H1 := H) (k1 := 0) (n1 := 0) (by with_unfolding_all rfl)) ?_
                                        rw [if_pos c155] at kk
                                        exact kk
                                      · refine ex_pc (if_neg c155) ?_
                                        refine ex_s (am_nb (m := 1) (pc1 := 589) (ls1 := [(4, .int (xmax 1 q2)), (3, .int t0), (0, .ref 157), (1, .int q1), (2, .int q2)]) (st1 := [.int t0, .int (xmax 1 q2), .ref 157]) (H1 := H) (k1 := 0) (n1 := 0) (by with_unfolding_all rfl)) ?_
                                        rw [if_neg c155] at kk
                                        exact kk
                                    · have e := (if_neg c154).symm.trans e
                                      refine ex_pc (pc1 := 820) (am_sw_n (sw_c (Or.inl (fun q => c3 (Or.inl q))) (sw_c (Or.inl c8) (sw_c (Or.inl c14) (sw_c (Or.inl c20) (sw_c (Or.inl c25) (sw_c (Or.inr rfl) (sw_c (Or.inr rfl) (sw_c (Or.inl c30) (sw_c (Or.inl (fun q => c35 (Or.inl q))) (sw_c (Or.inr rfl) (sw_c (Or.inl c45) (sw_c (Or.inl c50) (sw_c (Or.inl (fun q => c76 (Or.inl q))) (sw_c (Or.inl (fun q => c76 (Or.inr q))) (sw_c (Or.inr rfl) (sw_c (Or.inr rfl) (sw_c (Or.inl (fun q => c3 (Or.inr (Or.inl q)))) (sw_c (Or.inr rfl) (sw_c (Or.inr rfl) (sw_c (Or.inr rfl) (sw_c (Or.inr rfl) (sw_c (Or.inr rfl) (sw_c (Or.inr rfl) (sw_c (Or.inr rfl) (sw_c (Or.inl (fun q => c3 (Or.inr (Or.inr q)))) (sw_c (Or.inr rfl) (sw_c (Or.inr rfl) (sw_c (Or.inr rfl) (sw_c (Or.inr rfl) (sw_c (Or.inr rfl) (sw_c (Or.inr rfl) (sw_c (Or.inr rfl) (sw_c (Or.inr rfl) (sw_c (Or.inr rfl) (sw_c (Or.inr rfl) (sw_c (Or.inl c82) (sw_c (Or.inl c88) (sw_c (Or.inr rfl) (sw_c (Or.inl (fun q => c35 (Or.inr q))) (sw_c (Or.inl c98) (sw_c (Or.inl (fun q => c112 (Or.inl q))) (sw_c (Or.inr rfl) (sw_c (Or.inr rfl) (sw_c (Or.inr rfl) (sw_c (Or.inl (fun q => c112 (Or.inr q))) (sw_c (Or.inl c128) (sw_c (Or.inl c137) (sw_c (Or.inr rfl) (sw_c (Or.inr rfl) (sw_c (Or.inl c142) (sw_c (Or.inl c154) sw_o)))))))))))))))))))))))))))))))))))))))))))))))))))) ?_
                                      cases e
                                      exact ex_r (st_vret rfl rfl) hS

set_option maxRecDepth 100000 in
theorem tf401_done {sL : Nat} {sx : Nat → Int32} {h b N : Nat} {T : List am_C} {a' : xA} {x0 : Int32} {a : xA} {H : am_H} (hS : xS h b T a H) (e : f401_done N h b x0 a = some a') : am_E sL sx am_cs 401 0 [(0, .ref 157), (1, .int x0)] [] H none (fun H1 => xS h b T a' H1) := by
  unfold f401_done at e
  refine ex_s (am_nb (m := 1) (pc1 := 1) (ls1 := [(0, .ref 157), (1, .int x0)]) (st1 := [.ref 157]) (H1 := H) (k1 := 0) (n1 := 0) (by with_unfolding_all rfl)) ?_
  refine xe_get (v := .ref 193) hS rfl rfl (by decide) rfl ?_
  refine ex_s (am_nb (m := 1) (pc1 := 5) (ls1 := [(0, .ref 157), (1, .int x0)]) (st1 := [.int 0, .ref 193]) (H1 := H) (k1 := 0) (n1 := 0) (by with_unfolding_all rfl)) ?_
  refine xe_ialdc (v := a 193 0) hS rfl rfl (show ¬ ((0 : Int32) < 0 ∨ 8 ≤ ((0 : Int32)).toNatClampNeg) by decide) rfl ?_
  refine ex_s (am_nb (m := 2) (pc1 := 8) (ls1 := [(2, .int (a 193 0)), (0, .ref 157), (1, .int x0)]) (st1 := [.ref 157]) (H1 := H) (k1 := 0) (n1 := 0) (by with_unfolding_all rfl)) ?_
  refine xe_get (v := .int (a 157 115)) hS rfl rfl (by decide) rfl ?_
  refine ex_s (am_nb (m := 1) (pc1 := 12) (ls1 := [(2, .int (a 193 0)), (0, .ref 157), (1, .int x0)]) (st1 := [.int 1, .int (a 157 115)]) (H1 := H) (k1 := 0) (n1 := 0) (by with_unfolding_all rfl)) ?_
  refine ex_s (st_icmp rfl) ?_
  by_cases c2 : (a 157 115) ≤ 1
  · have e := (if_pos c2).symm.trans e
    refine ex_pc (if_pos c2) ?_
    refine ex_s (am_nb (m := 1) (pc1 := 25) (ls1 := [(2, .int (a 193 0)), (0, .ref 157), (1, .int x0)]) (st1 := [.int 0]) (H1 := H) (k1 := 0) (n1 := 0) (by with_unfolding_all rfl)) ?_
    exact le_E (l1 := [(0, .ref 157), (1, .int x0), (2, .int (a 193 0))]) ⟨rfl, rfl, rfl, trivial⟩ rfl (tj401_25  hS e)
  · have e := (if_neg c2).symm.trans e
    refine ex_pc (if_neg c2) ?_
    refine ex_s (am_nb (m := 1) (pc1 := 16) (ls1 := [(2, .int (a 193 0)), (0, .ref 157), (1, .int x0)]) (st1 := [.ref 157]) (H1 := H) (k1 := 0) (n1 := 0) (by with_unfolding_all rfl)) ?_
    refine xe_get (v := .ref 193) hS rfl rfl (by decide) rfl ?_
    refine ex_s (am_nb (m := 1) (pc1 := 20) (ls1 := [(2, .int (a 193 0)), (0, .ref 157), (1, .int x0)]) (st1 := [.int 1, .ref 193]) (H1 := H) (k1 := 0) (n1 := 0) (by with_unfolding_all rfl)) ?_
    refine xe_ialdc (v := a 193 1) hS rfl rfl (show ¬ ((1 : Int32) < 0 ∨ 8 ≤ ((1 : Int32)).toNatClampNeg) by decide) rfl ?_
    refine ex_s (am_nb (m := 1) (pc1 := 25) (ls1 := [(2, .int (a 193 0)), (0, .ref 157), (1, .int x0)]) (st1 := [.int (a 193 1)]) (H1 := H) (k1 := 0) (n1 := 0) (by with_unfolding_all rfl)) ?_
    exact le_E (l1 := [(0, .ref 157), (1, .int x0), (2, .int (a 193 0))]) ⟨rfl, rfl, rfl, trivial⟩ rfl (tj401_25  hS e)

set_option maxRecDepth 100000 in
theorem tj399_121 {sL : Nat} {sx : Nat → Int32} {h b N : Nat} {T : List am_C} {a' : xA} {q1 : Int32} {a : xA} {H : am_H} (hS : xS h b T a H) (e : j399_121 N h b q1 a = some a') : am_E sL sx am_cs 399 121 [(0, .ref 157), (1, .int q1)] [] H none (fun H1 => xS h b T a' H1) := by
  unfold j399_121 at e
  refine ex_s (am_nb (m := 2) (pc1 := 124) (ls1 := [(0, .ref 157), (1, .int q1)]) (st1 := [.int 64, .int q1]) (H1 := H) (k1 := 0) (n1 := 0) (by with_unfolding_all rfl)) ?_
  refine ex_s (st_icmp rfl) ?_
  by_cases c26 : q1 < 64
  · have e := (if_pos c26).symm.trans e
    refine ex_pc (if_pos c26) ?_
    refine ex_s (am_nb (m := 2) (pc1 := 167) (ls1 := [(0, .ref 157), (1, .int q1)]) (st1 := [.int 4, .ref 157]) (H1 := H) (k1 := 0) (n1 := 0) (by with_unfolding_all rfl)) ?_
    obtain ⟨a27, ha27, e⟩ := xw_some e
    refine xe_put (w := 4) hS rfl rfl (by decide) rfl rfl rfl rfl (fun H28 s29 => ?_)
    have s29 : xS h b T a27 H28 := by rw [ha27]; exact s29
    cases e
    exact ex_r (st_vret rfl rfl) s29
  · have e := (if_neg c26).symm.trans e
    refine ex_pc (if_neg c26) ?_
    refine ex_s (am_nb (m := 2) (pc1 := 129) (ls1 := [(0, .ref 157), (1, .int q1)]) (st1 := [.int 0, .ref 157]) (H1 := H) (k1 := 0) (n1 := 0) (by with_unfolding_all rfl)) ?_
    obtain ⟨a30, ha30, e⟩ := xw_some e
    refine xe_put (w := 0) hS rfl rfl (by decide) rfl rfl rfl rfl (fun H31 s32 => ?_)
    have s32 : xS h b T a30 H31 := by rw [ha30]; exact s32
    refine ex_s (am_nb (m := 2) (pc1 := 134) (ls1 := [(0, .ref 157), (1, .int q1)]) (st1 := [.ref 157, .ref 157]) (H1 := H31) (k1 := 0) (n1 := 0) (by with_unfolding_all rfl)) ?_
    refine xe_get (v := .int (a30 157 115)) s32 rfl rfl (by decide) rfl ?_
    refine ex_s (am_nb (m := 2) (pc1 := 139) (ls1 := [(0, .ref 157), (1, .int q1)]) (st1 := [.int ((a30 157 115) + 1), .ref 157]) (H1 := H31) (k1 := 0) (n1 := 0) (by with_unfolding_all rfl)) ?_
    obtain ⟨a33, ha33, e⟩ := xw_some e
    refine xe_put (w := ((a30 157 115) + 1)) s32 rfl rfl (by decide) rfl rfl rfl rfl (fun H34 s35 => ?_)
    have s35 : xS h b T a33 H34 := by rw [ha33]; exact s35
    refine ex_s (am_nb (m := 1) (pc1 := 143) (ls1 := [(0, .ref 157), (1, .int q1)]) (st1 := [.ref 157]) (H1 := H34) (k1 := 0) (n1 := 0) (by with_unfolding_all rfl)) ?_
    refine xe_get (v := .int (a33 157 116)) s35 rfl rfl (by decide) rfl ?_
    refine ex_s (st_if rfl) ?_
    by_cases c37 : (a33 157 116) = 0
    · have e := (if_pos c37).symm.trans e
      refine ex_pc (if_pos c37) ?_
      refine ex_s (am_nb (m := 2) (pc1 := 159) (ls1 := [(0, .ref 157), (1, .int q1)]) (st1 := [.int q1, .ref 157]) (H1 := H34) (k1 := 0) (n1 := 0) (by with_unfolding_all rfl)) ?_
      obtain ⟨a41, e40, e⟩ := xb1_some e
      refine ex_cv0 (as := [.int q1]) (rest := []) rfl rfl rfl rfl (s35.obj rfl (by decide)) rfl (by with_unfolding_all rfl) (by with_unfolding_all rfl) (tf401_done s35 e40) (fun H38 s39 => ?_)
      refine ex_s (am_nb (m := 1) (pc1 := 170) (ls1 := [(0, .ref 157), (1, .int q1)]) (st1 := []) (H1 := H38) (k1 := 0) (n1 := 0) (by with_unfolding_all rfl)) ?_
      cases e
      exact ex_r (st_vret rfl rfl) s39
    · have e := (if_neg c37).symm.trans e
      refine ex_pc (if_neg c37) ?_
      refine ex_s (am_nb (m := 2) (pc1 := 151) (ls1 := [(0, .ref 157), (1, .int q1)]) (st1 := [.int q1, .ref 157]) (H1 := H34) (k1 := 0) (n1 := 0) (by with_unfolding_all rfl)) ?_
      obtain ⟨a45, e44, e⟩ := xb1_some e
      refine ex_cv0 (as := [.int q1]) (rest := []) rfl rfl rfl rfl (s35.obj rfl (by decide)) rfl (by with_unfolding_all rfl) (by with_unfolding_all rfl) (tf400_privately s35 e44) (fun H42 s43 => ?_)
      refine ex_s (am_nb (m := 1) (pc1 := 170) (ls1 := [(0, .ref 157), (1, .int q1)]) (st1 := []) (H1 := H42) (k1 := 0) (n1 := 0) (by with_unfolding_all rfl)) ?_
      cases e
      exact ex_r (st_vret rfl rfl) s43

set_option maxRecDepth 100000 in
theorem tj399_57 {sL : Nat} {sx : Nat → Int32} {h b N : Nat} {T : List am_C} {a' : xA} {q1 : Int32} {q2 : Int32} {a : xA} {H : am_H} (hS : xS h b T a H) (e : j399_57 N h b q1 q2 a = some a') : am_E sL sx am_cs 399 57 [(0, .ref 157), (1, .int q1), (2, .int q2)] [] H none (fun H1 => xS h b T a' H1) := by
  unfold j399_57 at e
  refine ex_s (am_nb (m := 2) (pc1 := 60) (ls1 := [(0, .ref 157), (1, .int q1), (2, .int q2)]) (st1 := [.int 59, .int q1]) (H1 := H) (k1 := 0) (n1 := 0) (by with_unfolding_all rfl)) ?_
  refine ex_s (st_icmp rfl) ?_
  by_cases c7 : q1 = 59
  · have e := (if_pos c7).symm.trans e
    refine ex_pc (if_pos c7) ?_
    refine ex_s (am_nb (m := 2) (pc1 := 65) (ls1 := [(0, .ref 157), (1, .int q1), (2, .int q2)]) (st1 := [.ref 157, .ref 157]) (H1 := H) (k1 := 0) (n1 := 0) (by with_unfolding_all rfl)) ?_
    refine xe_get (v := .int (a 157 115)) hS rfl rfl (by decide) rfl ?_
    refine ex_s (am_nb (m := 2) (pc1 := 70) (ls1 := [(0, .ref 157), (1, .int q1), (2, .int q2)]) (st1 := [.int ((a 157 115) + 1), .ref 157]) (H1 := H) (k1 := 0) (n1 := 0) (by with_unfolding_all rfl)) ?_
    obtain ⟨a8, ha8, e⟩ := xw_some e
    refine xe_put (w := ((a 157 115) + 1)) hS rfl rfl (by decide) rfl rfl rfl rfl (fun H9 s10 => ?_)
    have s10 : xS h b T a8 H9 := by rw [ha8]; exact s10
    refine ex_s (am_nb (m := 1) (pc1 := 74) (ls1 := [(0, .ref 157), (1, .int q1), (2, .int q2)]) (st1 := [.ref 157]) (H1 := H9) (k1 := 0) (n1 := 0) (by with_unfolding_all rfl)) ?_
    refine xe_get (v := .int (a8 157 115)) s10 rfl rfl (by decide) rfl ?_
    refine ex_s (am_nb (m := 1) (pc1 := 79) (ls1 := [(0, .ref 157), (1, .int q1), (2, .int q2)]) (st1 := [.int 8, .int (a8 157 115)]) (H1 := H9) (k1 := 0) (n1 := 0) (by with_unfolding_all rfl)) ?_
    refine ex_s (st_icmp rfl) ?_
    by_cases c11 : (a8 157 115) = 8
    · have e := (if_pos c11).symm.trans e
      refine ex_pc (if_pos c11) ?_
      refine ex_s (am_nb (m := 2) (pc1 := 84) (ls1 := [(0, .ref 157), (1, .int q1), (2, .int q2)]) (st1 := [.int 4, .ref 157]) (H1 := H9) (k1 := 0) (n1 := 0) (by with_unfolding_all rfl)) ?_
      obtain ⟨a12, ha12, e⟩ := xw_some e
      refine xe_put (w := 4) s10 rfl rfl (by decide) rfl rfl rfl rfl (fun H13 s14 => ?_)
      have s14 : xS h b T a12 H13 := by rw [ha12]; exact s14
      refine ex_s (am_nb (m := 1) (pc1 := 170) (ls1 := [(0, .ref 157), (1, .int q1), (2, .int q2)]) (st1 := []) (H1 := H13) (k1 := 0) (n1 := 0) (by with_unfolding_all rfl)) ?_
      cases e
      exact ex_r (st_vret rfl rfl) s14
    · have e := (if_neg c11).symm.trans e
      refine ex_pc (if_neg c11) ?_
      refine ex_s (am_nb (m := 1) (pc1 := 91) (ls1 := [(0, .ref 157), (1, .int q1), (2, .int q2)]) (st1 := [.ref 157]) (H1 := H9) (k1 := 0) (n1 := 0) (by with_unfolding_all rfl)) ?_
      refine xe_get (v := .ref 193) s10 rfl rfl (by decide) rfl ?_
      refine ex_s (am_nb (m := 1) (pc1 := 95) (ls1 := [(0, .ref 157), (1, .int q1), (2, .int q2)]) (st1 := [.ref 157, .ref 193]) (H1 := H9) (k1 := 0) (n1 := 0) (by with_unfolding_all rfl)) ?_
      refine xe_get (v := .int (a8 157 115)) s10 rfl rfl (by decide) rfl ?_
      refine ex_s (am_nb (m := 1) (pc1 := 99) (ls1 := [(0, .ref 157), (1, .int q1), (2, .int q2)]) (st1 := [.int 0, .int (a8 157 115), .ref 193]) (H1 := H9) (k1 := 0) (n1 := 0) (by with_unfolding_all rfl)) ?_
      obtain ⟨g18, e⟩ := xg_some e
      obtain ⟨a15, ha15, e⟩ := xw_some e
      refine xe_iast s10 rfl rfl g18 (fun H16 s17 => ?_)
      have s17 : xS h b T a15 H16 := by rw [ha15]; exact s17
      refine ex_s (am_nb (m := 1) (pc1 := 170) (ls1 := [(0, .ref 157), (1, .int q1), (2, .int q2)]) (st1 := []) (H1 := H16) (k1 := 0) (n1 := 0) (by with_unfolding_all rfl)) ?_
      cases e
      exact ex_r (st_vret rfl rfl) s17
  · have e := (if_neg c7).symm.trans e
    refine ex_pc (if_neg c7) ?_
    refine ex_s (am_nb (m := 2) (pc1 := 106) (ls1 := [(0, .ref 157), (1, .int q1), (2, .int q2)]) (st1 := [.int 63, .int q1]) (H1 := H) (k1 := 0) (n1 := 0) (by with_unfolding_all rfl)) ?_
    refine ex_s (st_icmp rfl) ?_
    by_cases c21 : q1 = 63
    · have e := (if_pos c21).symm.trans e
      refine ex_pc (if_pos c21) ?_
      refine ex_s (am_nb (m := 1) (pc1 := 110) (ls1 := [(0, .ref 157), (1, .int q1), (2, .int q2)]) (st1 := [.int q2]) (H1 := H) (k1 := 0) (n1 := 0) (by with_unfolding_all rfl)) ?_
      refine ex_s (st_if rfl) ?_
      by_cases c24 : q2 = 0
      · have e := (if_pos c24).symm.trans e
        refine ex_pc (if_pos c24) ?_
        exact le_E (l1 := [(0, .ref 157), (1, .int q1)]) ⟨rfl, rfl, trivial⟩ rfl (tj399_121  hS e)
      · have e := (if_neg c24).symm.trans e
        refine ex_pc (if_neg c24) ?_
        refine ex_s (am_nb (m := 2) (pc1 := 115) (ls1 := [(0, .ref 157), (1, .int q1), (2, .int q2)]) (st1 := [.int 1, .ref 157]) (H1 := H) (k1 := 0) (n1 := 0) (by with_unfolding_all rfl)) ?_
        obtain ⟨a46, ha46, e⟩ := xw_some e
        refine xe_put (w := 1) hS rfl rfl (by decide) rfl rfl rfl rfl (fun H47 s48 => ?_)
        have s48 : xS h b T a46 H47 := by rw [ha46]; exact s48
        refine ex_s (am_nb (m := 1) (pc1 := 170) (ls1 := [(0, .ref 157), (1, .int q1), (2, .int q2)]) (st1 := []) (H1 := H47) (k1 := 0) (n1 := 0) (by with_unfolding_all rfl)) ?_
        cases e
        exact ex_r (st_vret rfl rfl) s48
    · have e := (if_neg c21).symm.trans e
      refine ex_pc (if_neg c21) ?_
      exact le_E (l1 := [(0, .ref 157), (1, .int q1)]) ⟨rfl, rfl, trivial⟩ rfl (tj399_121  hS e)

set_option maxRecDepth 100000 in
theorem tf399_sequence {sL : Nat} {sx : Nat → Int32} {h b N : Nat} {T : List am_C} {a' : xA} {x0 : Int32} {a : xA} {H : am_H} (hS : xS h b T a H) (e : f399_sequence N h b x0 a = some a') : am_E sL sx am_cs 399 0 [(0, .ref 157), (1, .int x0)] [] H none (fun H1 => xS h b T a' H1) := by
  unfold f399_sequence at e
  refine ex_s (am_nb (m := 1) (pc1 := 1) (ls1 := [(0, .ref 157), (1, .int x0)]) (st1 := [.ref 157]) (H1 := H) (k1 := 0) (n1 := 0) (by with_unfolding_all rfl)) ?_
  refine xe_get (v := .int (a 157 117)) hS rfl rfl (by decide) rfl ?_
  refine ex_s (am_nb (m := 3) (pc1 := 7) (ls1 := [(2, .int (a 157 117)), (0, .ref 157), (1, .int x0)]) (st1 := [.int 0, .ref 157]) (H1 := H) (k1 := 0) (n1 := 0) (by with_unfolding_all rfl)) ?_
  obtain ⟨a1, ha1, e⟩ := xw_some e
  refine xe_put (w := 0) hS rfl rfl (by decide) rfl rfl rfl rfl (fun H2 s3 => ?_)
  have s3 : xS h b T a1 H2 := by rw [ha1]; exact s3
  refine ex_s (am_nb (m := 2) (pc1 := 13) (ls1 := [(2, .int (a 157 117)), (0, .ref 157), (1, .int x0)]) (st1 := [.int 48, .int x0]) (H1 := H2) (k1 := 0) (n1 := 0) (by with_unfolding_all rfl)) ?_
  refine ex_s (st_icmp rfl) ?_
  by_cases c6 : x0 < 48
  · have e := (if_pos c6).symm.trans e
    refine ex_pc (if_pos c6) ?_
    exact le_E (l1 := [(0, .ref 157), (1, .int x0), (2, .int (a 157 117))]) ⟨rfl, rfl, rfl, trivial⟩ rfl (tj399_57  s3 e)
  · have e := (if_neg c6).symm.trans e
    refine ex_pc (if_neg c6) ?_
    refine ex_s (am_nb (m := 2) (pc1 := 19) (ls1 := [(2, .int (a 157 117)), (0, .ref 157), (1, .int x0)]) (st1 := [.int 57, .int x0]) (H1 := H2) (k1 := 0) (n1 := 0) (by with_unfolding_all rfl)) ?_
    refine ex_s (st_icmp rfl) ?_
    by_cases c49 : 57 < x0
    · have e := (if_pos c49).symm.trans e
      refine ex_pc (if_pos c49) ?_
      exact le_E (l1 := [(0, .ref 157), (1, .int x0), (2, .int (a 157 117))]) ⟨rfl, rfl, rfl, trivial⟩ rfl (tj399_57  s3 e)
    · have e := (if_neg c49).symm.trans e
      refine ex_pc (if_neg c49) ?_
      refine ex_s (am_nb (m := 1) (pc1 := 23) (ls1 := [(2, .int (a 157 117)), (0, .ref 157), (1, .int x0)]) (st1 := [.ref 157]) (H1 := H2) (k1 := 0) (n1 := 0) (by with_unfolding_all rfl)) ?_
      refine xe_get (v := .ref 193) s3 rfl rfl (by decide) rfl ?_
      refine ex_s (am_nb (m := 1) (pc1 := 27) (ls1 := [(2, .int (a 157 117)), (0, .ref 157), (1, .int x0)]) (st1 := [.ref 157, .ref 193]) (H1 := H2) (k1 := 0) (n1 := 0) (by with_unfolding_all rfl)) ?_
      refine xe_get (v := .int (a1 157 115)) s3 rfl rfl (by decide) rfl ?_
      refine ex_s (am_nb (m := 3) (pc1 := 36) (ls1 := [(2, .int (a 157 117)), (0, .ref 157), (1, .int x0)]) (st1 := [.ref 157, .int 10, .int 9999, .int (a1 157 115), .ref 193]) (H1 := H2) (k1 := 0) (n1 := 0) (by with_unfolding_all rfl)) ?_
      refine xe_get (v := .ref 193) s3 rfl rfl (by decide) rfl ?_
      refine ex_s (am_nb (m := 1) (pc1 := 40) (ls1 := [(2, .int (a 157 117)), (0, .ref 157), (1, .int x0)]) (st1 := [.ref 157, .ref 193, .int 10, .int 9999, .int (a1 157 115), .ref 193]) (H1 := H2) (k1 := 0) (n1 := 0) (by with_unfolding_all rfl)) ?_
      refine xe_get (v := .int (a1 157 115)) s3 rfl rfl (by decide) rfl ?_
      obtain ⟨g50, e⟩ := xg_some e
      refine xe_iald s3 rfl rfl g50 ?_
      refine ex_s (am_nb (m := 6) (pc1 := 53) (ls1 := [(2, .int (a 157 117)), (0, .ref 157), (1, .int x0)]) (st1 := [.int (xmin 9999 (((10 * (a1 193 ((a1 157 115).toNatClampNeg))) + x0) - 48)), .int (a1 157 115), .ref 193]) (H1 := H2) (k1 := 0) (n1 := 0) (by with_unfolding_all rfl)) ?_
      obtain ⟨a51, ha51, e⟩ := xw_some e
      refine xe_iast s3 rfl rfl g50 (fun H52 s53 => ?_)
      have s53 : xS h b T a51 H52 := by rw [ha51]; exact s53
      refine ex_s (am_nb (m := 1) (pc1 := 170) (ls1 := [(2, .int (a 157 117)), (0, .ref 157), (1, .int x0)]) (st1 := []) (H1 := H52) (k1 := 0) (n1 := 0) (by with_unfolding_all rfl)) ?_
      cases e
      exact ex_r (st_vret rfl rfl) s53

set_option maxRecDepth 100000 in
theorem tj382_200 {sL : Nat} {sx : Nat → Int32} {h b N : Nat} {T : List am_C} {a' : xA} {a : xA} {H : am_H} (hS : xS h b T a H) (e : j382_200 N h b a = some a') : am_E sL sx am_cs 382 200 [(0, .ref 157)] [] H none (fun H1 => xS h b T a' H1) := by
  unfold j382_200 at e
  refine ex_s (am_nb (m := 2) (pc1 := 202) (ls1 := [(0, .ref 157)]) (st1 := [.int 0, .ref 157]) (H1 := H) (k1 := 0) (n1 := 0) (by with_unfolding_all rfl)) ?_
  obtain ⟨a66, ha66, e⟩ := xw_some e
  refine xe_put (w := 0) hS rfl rfl (by decide) rfl rfl rfl rfl (fun H67 s68 => ?_)
  have s68 : xS h b T a66 H67 := by rw [ha66]; exact s68
  cases e
  exact ex_r (st_vret rfl rfl) s68

set_option maxRecDepth 100000 in
theorem tf382_reads {sL : Nat} {sx : Nat → Int32} {h b N : Nat} {T : List am_C} {a' : xA} {x0 : Int32} {a : xA} {H : am_H} (hS : xS h b T a H) (e : f382_reads N h b x0 a = some a') : am_E sL sx am_cs 382 0 [(0, .ref 157), (1, .int x0)] [] H none (fun H1 => xS h b T a' H1) := by
  unfold f382_reads at e
  refine ex_s (am_nb (m := 2) (pc1 := 4) (ls1 := [(0, .ref 157), (1, .int x0)]) (st1 := [.int 256, .int x0]) (H1 := H) (k1 := 0) (n1 := 0) (by with_unfolding_all rfl)) ?_
  refine ex_s (st_icmp rfl) ?_
  by_cases c1 : x0 = 256
  · have e := (if_pos c1).symm.trans e
    refine ex_pc (if_pos c1) ?_
    refine ex_s (am_nb (m := 2) (pc1 := 9) (ls1 := [(0, .ref 157), (1, .int x0)]) (st1 := [.int 0, .ref 157]) (H1 := H) (k1 := 0) (n1 := 0) (by with_unfolding_all rfl)) ?_
    obtain ⟨a2, ha2, e⟩ := xw_some e
    refine xe_put (w := 0) hS rfl rfl (by decide) rfl rfl rfl rfl (fun H3 s4 => ?_)
    have s4 : xS h b T a2 H3 := by rw [ha2]; exact s4
    refine ex_s (am_nb (m := 2) (pc1 := 16) (ls1 := [(0, .ref 157), (1, .int x0)]) (st1 := [.int 225, .ref 157]) (H1 := H3) (k1 := 0) (n1 := 0) (by with_unfolding_all rfl)) ?_
    obtain ⟨a8, e7, e⟩ := xb1_some e
    refine ex_cv0 (as := [.int 225]) (rest := []) rfl rfl rfl rfl (s4.obj rfl (by decide)) rfl (by with_unfolding_all rfl) (by with_unfolding_all rfl) (tf383_prints s4 e7) (fun H5 s6 => ?_)
    refine ex_s (am_nb (m := 1) (pc1 := 205) (ls1 := [(0, .ref 157), (1, .int x0)]) (st1 := []) (H1 := H5) (k1 := 0) (n1 := 0) (by with_unfolding_all rfl)) ?_
    cases e
    exact ex_r (st_vret rfl rfl) s6
  · have e := (if_neg c1).symm.trans e
    refine ex_pc (if_neg c1) ?_
    refine ex_s (am_nb (m := 2) (pc1 := 26) (ls1 := [(0, .ref 157), (1, .int x0)]) (st1 := [.int 128, .int x0]) (H1 := H) (k1 := 0) (n1 := 0) (by with_unfolding_all rfl)) ?_
    refine ex_s (st_icmp rfl) ?_
    by_cases c13 : 128 ≤ x0
    · have e := (if_pos c13).symm.trans e
      refine ex_pc (if_pos c13) ?_
      cases e
      exact ex_r (st_vret rfl rfl) hS
    · have e := (if_neg c13).symm.trans e
      refine ex_pc (if_neg c13) ?_
      refine ex_s (am_nb (m := 1) (pc1 := 30) (ls1 := [(0, .ref 157), (1, .int x0)]) (st1 := [.int x0]) (H1 := H) (k1 := 0) (n1 := 0) (by with_unfolding_all rfl)) ?_
      refine ex_s (st_if rfl) ?_
      by_cases c17 : x0 = 0
      · have e := (if_pos c17).symm.trans e
        refine ex_pc (if_pos c17) ?_
        cases e
        exact ex_r (st_vret rfl rfl) hS
      · have e := (if_neg c17).symm.trans e
        refine ex_pc (if_neg c17) ?_
        refine ex_s (am_nb (m := 2) (pc1 := 36) (ls1 := [(0, .ref 157), (1, .int x0)]) (st1 := [.int 127, .int x0]) (H1 := H) (k1 := 0) (n1 := 0) (by with_unfolding_all rfl)) ?_
        refine ex_s (st_icmp rfl) ?_
        by_cases c18 : x0 = 127
        · have e := (if_pos c18).symm.trans e
          refine ex_pc (if_pos c18) ?_
          cases e
          exact ex_r (st_vret rfl rfl) hS
        · have e := (if_neg c18).symm.trans e
          refine ex_pc (if_neg c18) ?_
          refine ex_s (am_nb (m := 2) (pc1 := 43) (ls1 := [(0, .ref 157), (1, .int x0)]) (st1 := [.int 24, .int x0]) (H1 := H) (k1 := 0) (n1 := 0) (by with_unfolding_all rfl)) ?_
          refine ex_s (st_icmp rfl) ?_
          by_cases c19 : x0 = 24
          · have e := (if_pos c19).symm.trans e
            refine ex_pc (if_pos c19) ?_
            refine ex_s (am_nb (m := 2) (pc1 := 48) (ls1 := [(0, .ref 157), (1, .int x0)]) (st1 := [.int 0, .ref 157]) (H1 := H) (k1 := 0) (n1 := 0) (by with_unfolding_all rfl)) ?_
            obtain ⟨a20, ha20, e⟩ := xw_some e
            refine xe_put (w := 0) hS rfl rfl (by decide) rfl rfl rfl rfl (fun H21 s22 => ?_)
            have s22 : xS h b T a20 H21 := by rw [ha20]; exact s22
            refine ex_s (am_nb (m := 1) (pc1 := 205) (ls1 := [(0, .ref 157), (1, .int x0)]) (st1 := []) (H1 := H21) (k1 := 0) (n1 := 0) (by with_unfolding_all rfl)) ?_
            cases e
            exact ex_r (st_vret rfl rfl) s22
          · have e := (if_neg c19).symm.trans e
            refine ex_pc (if_neg c19) ?_
            refine ex_s (am_nb (m := 2) (pc1 := 57) (ls1 := [(0, .ref 157), (1, .int x0)]) (st1 := [.int 26, .int x0]) (H1 := H) (k1 := 0) (n1 := 0) (by with_unfolding_all rfl)) ?_
            refine ex_s (st_icmp rfl) ?_
            by_cases c23 : x0 = 26
            · have e := (if_pos c23).symm.trans e
              refine ex_pc (if_pos c23) ?_
              refine ex_s (am_nb (m := 2) (pc1 := 62) (ls1 := [(0, .ref 157), (1, .int x0)]) (st1 := [.int 0, .ref 157]) (H1 := H) (k1 := 0) (n1 := 0) (by with_unfolding_all rfl)) ?_
              obtain ⟨a24, ha24, e⟩ := xw_some e
              refine xe_put (w := 0) hS rfl rfl (by decide) rfl rfl rfl rfl (fun H25 s26 => ?_)
              have s26 : xS h b T a24 H25 := by rw [ha24]; exact s26
              refine ex_s (am_nb (m := 2) (pc1 := 69) (ls1 := [(0, .ref 157), (1, .int x0)]) (st1 := [.int 225, .ref 157]) (H1 := H25) (k1 := 0) (n1 := 0) (by with_unfolding_all rfl)) ?_
              obtain ⟨a30, e29, e⟩ := xb1_some e
              refine ex_cv0 (as := [.int 225]) (rest := []) rfl rfl rfl rfl (s26.obj rfl (by decide)) rfl (by with_unfolding_all rfl) (by with_unfolding_all rfl) (tf383_prints s26 e29) (fun H27 s28 => ?_)
              refine ex_s (am_nb (m := 1) (pc1 := 205) (ls1 := [(0, .ref 157), (1, .int x0)]) (st1 := []) (H1 := H27) (k1 := 0) (n1 := 0) (by with_unfolding_all rfl)) ?_
              cases e
              exact ex_r (st_vret rfl rfl) s28
            · have e := (if_neg c23).symm.trans e
              refine ex_pc (if_neg c23) ?_
              refine ex_s (am_nb (m := 2) (pc1 := 78) (ls1 := [(0, .ref 157), (1, .int x0)]) (st1 := [.int 27, .int x0]) (H1 := H) (k1 := 0) (n1 := 0) (by with_unfolding_all rfl)) ?_
              refine ex_s (st_icmp rfl) ?_
              by_cases c31 : x0 = 27
              · have e := (if_pos c31).symm.trans e
                refine ex_pc (if_pos c31) ?_
                refine ex_s (am_nb (m := 2) (pc1 := 83) (ls1 := [(0, .ref 157), (1, .int x0)]) (st1 := [.int 1, .ref 157]) (H1 := H) (k1 := 0) (n1 := 0) (by with_unfolding_all rfl)) ?_
                obtain ⟨a32, ha32, e⟩ := xw_some e
                refine xe_put (w := 1) hS rfl rfl (by decide) rfl rfl rfl rfl (fun H33 s34 => ?_)
                have s34 : xS h b T a32 H33 := by rw [ha32]; exact s34
                refine ex_s (am_nb (m := 2) (pc1 := 88) (ls1 := [(0, .ref 157), (1, .int x0)]) (st1 := [.int 0, .ref 157]) (H1 := H33) (k1 := 0) (n1 := 0) (by with_unfolding_all rfl)) ?_
                obtain ⟨a35, ha35, e⟩ := xw_some e
                refine xe_put (w := 0) s34 rfl rfl (by decide) rfl rfl rfl rfl (fun H36 s37 => ?_)
                have s37 : xS h b T a35 H36 := by rw [ha35]; exact s37
                refine ex_s (am_nb (m := 1) (pc1 := 205) (ls1 := [(0, .ref 157), (1, .int x0)]) (st1 := []) (H1 := H36) (k1 := 0) (n1 := 0) (by with_unfolding_all rfl)) ?_
                cases e
                exact ex_r (st_vret rfl rfl) s37
              · have e := (if_neg c31).symm.trans e
                refine ex_pc (if_neg c31) ?_
                refine ex_s (am_nb (m := 1) (pc1 := 95) (ls1 := [(0, .ref 157), (1, .int x0)]) (st1 := [.ref 157]) (H1 := H) (k1 := 0) (n1 := 0) (by with_unfolding_all rfl)) ?_
                refine xe_get (v := .int (a 157 101)) hS rfl rfl (by decide) rfl ?_
                refine ex_s (am_nb (m := 1) (pc1 := 99) (ls1 := [(0, .ref 157), (1, .int x0)]) (st1 := [.int 5, .int (a 157 101)]) (H1 := H) (k1 := 0) (n1 := 0) (by with_unfolding_all rfl)) ?_
                refine ex_s (st_icmp rfl) ?_
                by_cases c38 : (a 157 101) = 5
                · have e := (if_pos c38).symm.trans e
                  refine ex_pc (if_pos c38) ?_
                  refine ex_s (am_nb (m := 2) (pc1 := 105) (ls1 := [(0, .ref 157), (1, .int x0)]) (st1 := [.int 7, .int x0]) (H1 := H) (k1 := 0) (n1 := 0) (by with_unfolding_all rfl)) ?_
                  refine ex_s (st_icmp rfl) ?_
                  by_cases c39 : x0 = 7
                  · have e := (if_pos c39).symm.trans e
                    refine ex_pc (if_pos c39) ?_
                    refine ex_s (am_nb (m := 2) (pc1 := 110) (ls1 := [(0, .ref 157), (1, .int x0)]) (st1 := [.int 0, .ref 157]) (H1 := H) (k1 := 0) (n1 := 0) (by with_unfolding_all rfl)) ?_
                    obtain ⟨a40, ha40, e⟩ := xw_some e
                    refine xe_put (w := 0) hS rfl rfl (by decide) rfl rfl rfl rfl (fun H41 s42 => ?_)
                    have s42 : xS h b T a40 H41 := by rw [ha40]; exact s42
                    refine ex_s (am_nb (m := 1) (pc1 := 205) (ls1 := [(0, .ref 157), (1, .int x0)]) (st1 := []) (H1 := H41) (k1 := 0) (n1 := 0) (by with_unfolding_all rfl)) ?_
                    cases e
                    exact ex_r (st_vret rfl rfl) s42
                  · have e := (if_neg c39).symm.trans e
                    refine ex_pc (if_neg c39) ?_
                    cases e
                    exact ex_r (st_vret rfl rfl) hS
                · have e := (if_neg c38).symm.trans e
                  refine ex_pc (if_neg c38) ?_
                  refine ex_s (am_nb (m := 2) (pc1 := 119) (ls1 := [(0, .ref 157), (1, .int x0)]) (st1 := [.int 32, .int x0]) (H1 := H) (k1 := 0) (n1 := 0) (by with_unfolding_all rfl)) ?_
                  refine ex_s (st_icmp rfl) ?_
                  by_cases c43 : 32 ≤ x0
                  · have e := (if_pos c43).symm.trans e
                    refine ex_pc (if_pos c43) ?_
                    refine ex_s (am_nb (m := 1) (pc1 := 131) (ls1 := [(0, .ref 157), (1, .int x0)]) (st1 := [.ref 157]) (H1 := H) (k1 := 0) (n1 := 0) (by with_unfolding_all rfl)) ?_
                    refine xe_get (v := .int (a 157 101)) hS rfl rfl (by decide) rfl ?_
                    refine ex_s (st_if rfl) ?_
                    by_cases c44 : (a 157 101) = 0
                    · have e := (if_pos c44).symm.trans e
                      refine ex_pc (if_pos c44) ?_
                      refine ex_s (am_nb (m := 2) (pc1 := 139) (ls1 := [(0, .ref 157), (1, .int x0)]) (st1 := [.int x0, .ref 157]) (H1 := H) (k1 := 0) (n1 := 0) (by with_unfolding_all rfl)) ?_
                      obtain ⟨a48, e47, e⟩ := xb1_some e
                      refine ex_cv0 (as := [.int x0]) (rest := []) rfl rfl rfl rfl (hS.obj rfl (by decide)) rfl (by with_unfolding_all rfl) (by with_unfolding_all rfl) (tf392_letterSeen hS e47) (fun H45 s46 => ?_)
                      refine ex_s (am_nb (m := 1) (pc1 := 205) (ls1 := [(0, .ref 157), (1, .int x0)]) (st1 := []) (H1 := H45) (k1 := 0) (n1 := 0) (by with_unfolding_all rfl)) ?_
                      cases e
                      exact ex_r (st_vret rfl rfl) s46
                    · have e := (if_neg c44).symm.trans e
                      refine ex_pc (if_neg c44) ?_
                      refine ex_s (am_nb (m := 1) (pc1 := 146) (ls1 := [(0, .ref 157), (1, .int x0)]) (st1 := [.ref 157]) (H1 := H) (k1 := 0) (n1 := 0) (by with_unfolding_all rfl)) ?_
                      refine xe_get (v := .int (a 157 101)) hS rfl rfl (by decide) rfl ?_
                      refine ex_s (am_nb (m := 1) (pc1 := 150) (ls1 := [(0, .ref 157), (1, .int x0)]) (st1 := [.int 1, .int (a 157 101)]) (H1 := H) (k1 := 0) (n1 := 0) (by with_unfolding_all rfl)) ?_
                      refine ex_s (st_icmp rfl) ?_
                      by_cases c50 : (a 157 101) = 1
                      · have e := (if_pos c50).symm.trans e
                        refine ex_pc (if_pos c50) ?_
                        refine ex_s (am_nb (m := 2) (pc1 := 155) (ls1 := [(0, .ref 157), (1, .int x0)]) (st1 := [.int x0, .ref 157]) (H1 := H) (k1 := 0) (n1 := 0) (by with_unfolding_all rfl)) ?_
                        obtain ⟨a54, e53, e⟩ := xb1_some e
                        refine ex_cv0 (as := [.int x0]) (rest := []) rfl rfl rfl rfl (hS.obj rfl (by decide)) rfl (by with_unfolding_all rfl) (by with_unfolding_all rfl) (tf393_escapes hS e53) (fun H51 s52 => ?_)
                        refine ex_s (am_nb (m := 1) (pc1 := 205) (ls1 := [(0, .ref 157), (1, .int x0)]) (st1 := []) (H1 := H51) (k1 := 0) (n1 := 0) (by with_unfolding_all rfl)) ?_
                        cases e
                        exact ex_r (st_vret rfl rfl) s52
                      · have e := (if_neg c50).symm.trans e
                        refine ex_pc (if_neg c50) ?_
                        refine ex_s (am_nb (m := 1) (pc1 := 162) (ls1 := [(0, .ref 157), (1, .int x0)]) (st1 := [.ref 157]) (H1 := H) (k1 := 0) (n1 := 0) (by with_unfolding_all rfl)) ?_
                        refine xe_get (v := .int (a 157 101)) hS rfl rfl (by decide) rfl ?_
                        refine ex_s (am_nb (m := 1) (pc1 := 166) (ls1 := [(0, .ref 157), (1, .int x0)]) (st1 := [.int 3, .int (a 157 101)]) (H1 := H) (k1 := 0) (n1 := 0) (by with_unfolding_all rfl)) ?_
                        refine ex_s (st_icmp rfl) ?_
                        by_cases c56 : (a 157 101) = 3
                        · have e := (if_pos c56).symm.trans e
                          refine ex_pc (if_pos c56) ?_
                          refine ex_s (am_nb (m := 2) (pc1 := 171) (ls1 := [(0, .ref 157), (1, .int x0)]) (st1 := [.int x0, .ref 157]) (H1 := H) (k1 := 0) (n1 := 0) (by with_unfolding_all rfl)) ?_
                          obtain ⟨a60, e59, e⟩ := xb1_some e
                          refine ex_cv0 (as := [.int x0]) (rest := []) rfl rfl rfl rfl (hS.obj rfl (by decide)) rfl (by with_unfolding_all rfl) (by with_unfolding_all rfl) (tf399_sequence hS e59) (fun H57 s58 => ?_)
                          refine ex_s (am_nb (m := 1) (pc1 := 205) (ls1 := [(0, .ref 157), (1, .int x0)]) (st1 := []) (H1 := H57) (k1 := 0) (n1 := 0) (by with_unfolding_all rfl)) ?_
                          cases e
                          exact ex_r (st_vret rfl rfl) s58
                        · have e := (if_neg c56).symm.trans e
                          refine ex_pc (if_neg c56) ?_
                          refine ex_s (am_nb (m := 1) (pc1 := 178) (ls1 := [(0, .ref 157), (1, .int x0)]) (st1 := [.ref 157]) (H1 := H) (k1 := 0) (n1 := 0) (by with_unfolding_all rfl)) ?_
                          refine xe_get (v := .int (a 157 101)) hS rfl rfl (by decide) rfl ?_
                          refine ex_s (am_nb (m := 1) (pc1 := 182) (ls1 := [(0, .ref 157), (1, .int x0)]) (st1 := [.int 2, .int (a 157 101)]) (H1 := H) (k1 := 0) (n1 := 0) (by with_unfolding_all rfl)) ?_
                          refine ex_s (st_icmp rfl) ?_
                          by_cases c63 : (a 157 101) = 2
                          · have e := (if_pos c63).symm.trans e
                            refine ex_pc (if_pos c63) ?_
                            refine ex_s (am_nb (m := 2) (pc1 := 188) (ls1 := [(0, .ref 157), (1, .int x0)]) (st1 := [.int 48, .int x0]) (H1 := H) (k1 := 0) (n1 := 0) (by with_unfolding_all rfl)) ?_
                            refine ex_s (st_icmp rfl) ?_
                            by_cases c65 : x0 < 48
                            · have e := (if_pos c65).symm.trans e
                              refine ex_pc (if_pos c65) ?_
                              cases e
                              exact ex_r (st_vret rfl rfl) hS
                            · have e := (if_neg c65).symm.trans e
                              refine ex_pc (if_neg c65) ?_
                              refine ex_s (am_nb (m := 1) (pc1 := 200) (ls1 := [(0, .ref 157), (1, .int x0)]) (st1 := []) (H1 := H) (k1 := 0) (n1 := 0) (by with_unfolding_all rfl)) ?_
                              exact le_E (l1 := [(0, .ref 157)]) ⟨rfl, trivial⟩ rfl (tj382_200  hS e)
                          · have e := (if_neg c63).symm.trans e
                            refine ex_pc (if_neg c63) ?_
                            refine ex_s (am_nb (m := 2) (pc1 := 197) (ls1 := [(0, .ref 157), (1, .int x0)]) (st1 := [.int 64, .int x0]) (H1 := H) (k1 := 0) (n1 := 0) (by with_unfolding_all rfl)) ?_
                            refine ex_s (st_icmp rfl) ?_
                            by_cases c70 : x0 < 64
                            · have e := (if_pos c70).symm.trans e
                              refine ex_pc (if_pos c70) ?_
                              cases e
                              exact ex_r (st_vret rfl rfl) hS
                            · have e := (if_neg c70).symm.trans e
                              refine ex_pc (if_neg c70) ?_
                              exact le_E (l1 := [(0, .ref 157)]) ⟨rfl, trivial⟩ rfl (tj382_200  hS e)
                  · have e := (if_neg c43).symm.trans e
                    refine ex_pc (if_neg c43) ?_
                    refine ex_s (am_nb (m := 2) (pc1 := 124) (ls1 := [(0, .ref 157), (1, .int x0)]) (st1 := [.int x0, .ref 157]) (H1 := H) (k1 := 0) (n1 := 0) (by with_unfolding_all rfl)) ?_
                    obtain ⟨a74, e73, e⟩ := xb1_some e
                    refine ex_cv0 (as := [.int x0]) (rest := []) rfl rfl rfl rfl (hS.obj rfl (by decide)) rfl (by with_unfolding_all rfl) (by with_unfolding_all rfl) (tf391_control hS e73) (fun H71 s72 => ?_)
                    refine ex_s (am_nb (m := 1) (pc1 := 205) (ls1 := [(0, .ref 157), (1, .int x0)]) (st1 := []) (H1 := H71) (k1 := 0) (n1 := 0) (by with_unfolding_all rfl)) ?_
                    cases e
                    exact ex_r (st_vret rfl rfl) s72

set_option maxRecDepth 100000 in
theorem tj410_135 {sL : Nat} {sx : Nat → Int32} {h b N : Nat} {T : List am_C} {a' : xA} {q2 : Int32} {a : xA} {H : am_H} (hS : xS h b T a H) (e : j410_135 N h b q2 a = some a') : am_E sL sx am_cs 410 135 [(0, .ref 157), (2, .int q2)] [] H none (fun H1 => xS h b T a' H1) := by
  unfold j410_135 at e
  refine ex_s (am_nb (m := 2) (pc1 := 137) (ls1 := [(0, .ref 157), (2, .int q2)]) (st1 := [.int (-1), .int q2]) (H1 := H) (k1 := 0) (n1 := 0) (by with_unfolding_all rfl)) ?_
  refine ex_s (st_icmp rfl) ?_
  by_cases c17 : q2 = (-1)
  · have e := (if_pos c17).symm.trans e
    refine ex_pc (if_pos c17) ?_
    cases e
    exact ex_r (st_vret rfl rfl) hS
  · have e := (if_neg c17).symm.trans e
    refine ex_pc (if_neg c17) ?_
    refine ex_s (am_nb (m := 2) (pc1 := 143) (ls1 := [(0, .ref 157), (2, .int q2)]) (st1 := [.int q2, .ref 157]) (H1 := H) (k1 := 0) (n1 := 0) (by with_unfolding_all rfl)) ?_
    obtain ⟨a18, ha18, e⟩ := xw_some e
    refine xe_put (w := q2) hS rfl rfl (by decide) rfl rfl rfl rfl (fun H19 s20 => ?_)
    have s20 : xS h b T a18 H19 := by rw [ha18]; exact s20
    refine ex_s (am_nb (m := 2) (pc1 := 148) (ls1 := [(0, .ref 157), (2, .int q2)]) (st1 := [.ref 157, .ref 157]) (H1 := H19) (k1 := 0) (n1 := 0) (by with_unfolding_all rfl)) ?_
    refine xe_get (v := .int (a18 157 71)) s20 rfl rfl (by decide) rfl ?_
    refine ex_s (am_nb (m := 1) (pc1 := 152) (ls1 := [(0, .ref 157), (2, .int q2)]) (st1 := [.ref 157, .int (a18 157 71), .ref 157]) (H1 := H19) (k1 := 0) (n1 := 0) (by with_unfolding_all rfl)) ?_
    refine xe_get (v := .int (a18 157 70)) s20 rfl rfl (by decide) rfl ?_
    refine ex_s (am_nb (m := 1) (pc1 := 156) (ls1 := [(0, .ref 157), (2, .int q2)]) (st1 := [.int ((a18 157 71) + (a18 157 70)), .ref 157]) (H1 := H19) (k1 := 0) (n1 := 0) (by with_unfolding_all rfl)) ?_
    obtain ⟨a21, ha21, e⟩ := xw_some e
    refine xe_put (w := ((a18 157 71) + (a18 157 70))) s20 rfl rfl (by decide) rfl rfl rfl rfl (fun H22 s23 => ?_)
    have s23 : xS h b T a21 H22 := by rw [ha21]; exact s23
    refine ex_s (am_nb (m := 2) (pc1 := 161) (ls1 := [(0, .ref 157), (2, .int q2)]) (st1 := [.ref 157, .ref 157]) (H1 := H22) (k1 := 0) (n1 := 0) (by with_unfolding_all rfl)) ?_
    refine xe_get (v := .int (a21 157 73)) s23 rfl rfl (by decide) rfl ?_
    refine ex_s (am_nb (m := 2) (pc1 := 166) (ls1 := [(0, .ref 157), (2, .int q2)]) (st1 := [.int ((a21 157 73) + 1), .ref 157]) (H1 := H22) (k1 := 0) (n1 := 0) (by with_unfolding_all rfl)) ?_
    obtain ⟨a24, ha24, e⟩ := xw_some e
    refine xe_put (w := ((a21 157 73) + 1)) s23 rfl rfl (by decide) rfl rfl rfl rfl (fun H25 s26 => ?_)
    have s26 : xS h b T a24 H25 := by rw [ha24]; exact s26
    cases e
    exact ex_r (st_vret rfl rfl) s26

set_option maxRecDepth 100000 in
theorem tl410_107 {sL : Nat} {sx : Nat → Int32} {h b N : Nat} {T : List am_C} {R : Option Value} {F : am_H → Prop} {w2 : Int32} {z : Nat × xA} (k0 : z.1 = 0 → ∀ H2 : am_H, xS h b T z.2 H2 → am_E sL sx am_cs 410 135 [(0, .ref 157), (2, .int w2)] [] H2 R F) : ∀ (n : Nat) (v3 : Int32) (a : xA) (H : am_H), xS h b T a H → l410_107 N h b w2 n v3 a = some z → am_E sL sx am_cs 410 107 [(0, .ref 157), (2, .int w2), (3, .int v3)] [] H R F := by
  intro n
  induction n with
  | zero =>
    intro v3 a H hS e
    cases e
  | succ n ih =>
    intro v3 a H hS e
    unfold l410_107 at e
    refine ex_s (am_nb (m := 2) (pc1 := 109) (ls1 := [(0, .ref 157), (2, .int w2), (3, .int v3)]) (st1 := [.ref 157, .int v3]) (H1 := H) (k1 := 0) (n1 := 0) (by with_unfolding_all rfl)) ?_
    refine xe_get (v := .int (a 157 87)) hS rfl rfl (by decide) rfl ?_
    refine ex_s (st_icmp rfl) ?_
    by_cases c30 : (a 157 87) ≤ v3
    · have e := (if_pos c30).symm.trans e
      refine ex_pc (if_pos c30) ?_
      cases e
      exact le_E (l1 := [(0, .ref 157), (2, .int w2)]) ⟨rfl, rfl, trivial⟩ rfl (k0 rfl H hS)
    · have e := (if_neg c30).symm.trans e
      refine ex_pc (if_neg c30) ?_
      refine ex_s (am_nb (m := 1) (pc1 := 116) (ls1 := [(0, .ref 157), (2, .int w2), (3, .int v3)]) (st1 := [.ref 157]) (H1 := H) (k1 := 0) (n1 := 0) (by with_unfolding_all rfl)) ?_
      refine xe_get (v := .ref 188) hS rfl rfl (by decide) rfl ?_
      refine ex_s (am_nb (m := 2) (pc1 := 121) (ls1 := [(0, .ref 157), (2, .int w2), (3, .int v3)]) (st1 := [.ref 157, .int v3, .ref 188]) (H1 := H) (k1 := 0) (n1 := 0) (by with_unfolding_all rfl)) ?_
      refine xe_get (v := .ref 188) hS rfl rfl (by decide) rfl ?_
      refine ex_s (am_nb (m := 3) (pc1 := 127) (ls1 := [(0, .ref 157), (2, .int w2), (3, .int v3)]) (st1 := [.int (v3 + 1), .ref 188, .int v3, .ref 188]) (H1 := H) (k1 := 0) (n1 := 0) (by with_unfolding_all rfl)) ?_
      obtain ⟨g31, e⟩ := xg_some e
      refine xe_bald hS rfl rfl g31 ?_
      obtain ⟨g35, e⟩ := xg_some e
      obtain ⟨a32, ha32, e⟩ := xw_some e
      refine xe_bast hS rfl rfl g35 (fun H33 s34 => ?_)
      have s34 : xS h b T a32 H33 := by rw [ha32]; exact s34
      refine ex_s (am_nb (m := 2) (pc1 := 107) (ls1 := [(3, .int (v3 + 1)), (0, .ref 157), (2, .int w2)]) (st1 := []) (H1 := H33) (k1 := 0) (n1 := 0) (by with_unfolding_all rfl)) ?_
      exact le_E (l1 := [(0, .ref 157), (2, .int w2), (3, .int (v3 + 1))]) ⟨rfl, rfl, rfl, trivial⟩ rfl (ih (v3 + 1) a32 H33 s34 e)

set_option maxRecDepth 100000 in
theorem tj410_57 {sL : Nat} {sx : Nat → Int32} {h b N : Nat} {T : List am_C} {a' : xA} {q2 : Int32} {a : xA} {H : am_H} (hS : xS h b T a H) (e : j410_57 N h b q2 a = some a') : am_E sL sx am_cs 410 57 [(0, .ref 157), (2, .int q2)] [] H none (fun H1 => xS h b T a' H1) := by
  unfold j410_57 at e
  refine ex_s (am_nb (m := 2) (pc1 := 59) (ls1 := [(0, .ref 157), (2, .int q2)]) (st1 := [.int (-1), .int q2]) (H1 := H) (k1 := 0) (n1 := 0) (by with_unfolding_all rfl)) ?_
  refine ex_s (st_icmp rfl) ?_
  by_cases c13 : q2 = (-1)
  · have e := (if_pos c13).symm.trans e
    refine ex_pc (if_pos c13) ?_
    refine ex_s (am_nb (m := 1) (pc1 := 71) (ls1 := [(0, .ref 157), (2, .int q2)]) (st1 := [.ref 157]) (H1 := H) (k1 := 0) (n1 := 0) (by with_unfolding_all rfl)) ?_
    refine xe_get (v := .int (a 157 85)) hS rfl rfl (by decide) rfl ?_
    refine ex_s (st_if rfl) ?_
    by_cases c14 : (a 157 85) = 0
    · have e := (if_pos c14).symm.trans e
      refine ex_pc (if_pos c14) ?_
      refine ex_s (am_nb (m := 1) (pc1 := 78) (ls1 := [(0, .ref 157), (2, .int q2)]) (st1 := [.ref 157]) (H1 := H) (k1 := 0) (n1 := 0) (by with_unfolding_all rfl)) ?_
      refine xe_get (v := .int (a 157 87)) hS rfl rfl (by decide) rfl ?_
      refine ex_s (st_if rfl) ?_
      by_cases c16 : (a 157 87) ≤ 0
      · have e := (if_pos c16).symm.trans e
        refine ex_pc (if_pos c16) ?_
        exact le_E (l1 := [(0, .ref 157), (2, .int q2)]) ⟨rfl, rfl, trivial⟩ rfl (tj410_135  hS e)
      · have e := (if_neg c16).symm.trans e
        refine ex_pc (if_neg c16) ?_
        refine ex_s (am_nb (m := 1) (pc1 := 85) (ls1 := [(0, .ref 157), (2, .int q2)]) (st1 := [.ref 157]) (H1 := H) (k1 := 0) (n1 := 0) (by with_unfolding_all rfl)) ?_
        refine xe_get (v := .ref 188) hS rfl rfl (by decide) rfl ?_
        refine ex_s (am_nb (m := 1) (pc1 := 89) (ls1 := [(0, .ref 157), (2, .int q2)]) (st1 := [.int 0, .ref 188]) (H1 := H) (k1 := 0) (n1 := 0) (by with_unfolding_all rfl)) ?_
        refine xe_baldc (v := a 188 0) hS rfl rfl (show ¬ ((0 : Int32) < 0 ∨ 32 ≤ ((0 : Int32)).toNatClampNeg) by decide) rfl ?_
        refine ex_s (am_nb (m := 5) (pc1 := 97) (ls1 := [(2, .int ((a 188 0) &&& 255)), (0, .ref 157)]) (st1 := [.ref 157, .ref 157]) (H1 := H) (k1 := 0) (n1 := 0) (by with_unfolding_all rfl)) ?_
        refine xe_get (v := .int (a 157 87)) hS rfl rfl (by decide) rfl ?_
        refine ex_s (am_nb (m := 2) (pc1 := 102) (ls1 := [(2, .int ((a 188 0) &&& 255)), (0, .ref 157)]) (st1 := [.int ((a 157 87) - 1), .ref 157]) (H1 := H) (k1 := 0) (n1 := 0) (by with_unfolding_all rfl)) ?_
        obtain ⟨a27, ha27, e⟩ := xw_some e
        refine xe_put (w := ((a 157 87) - 1)) hS rfl rfl (by decide) rfl rfl rfl rfl (fun H28 s29 => ?_)
        have s29 : xS h b T a27 H28 := by rw [ha27]; exact s29
        refine ex_s (am_nb (m := 2) (pc1 := 107) (ls1 := [(3, .int 0), (2, .int ((a 188 0) &&& 255)), (0, .ref 157)]) (st1 := []) (H1 := H28) (k1 := 0) (n1 := 0) (by with_unfolding_all rfl)) ?_
        obtain ⟨z36, e37, e⟩ := Option.bind_eq_some_iff.mp e
        refine le_E (l1 := [(0, .ref 157), (2, .int ((a 188 0) &&& 255)), (3, .int 0)]) ⟨rfl, rfl, rfl, trivial⟩ rfl (tl410_107 (z := z36)  (fun uz36_0 Hz360 sz360 => ?_) N 0 a27 H28 s29 e37)
        exact le_E (l1 := [(0, .ref 157), (2, .int ((a 188 0) &&& 255))]) ⟨rfl, rfl, trivial⟩ rfl (tj410_135  sz360 e)
    · have e := (if_neg c14).symm.trans e
      refine ex_pc (if_neg c14) ?_
      exact le_E (l1 := [(0, .ref 157), (2, .int q2)]) ⟨rfl, rfl, trivial⟩ rfl (tj410_135  hS e)
  · have e := (if_neg c13).symm.trans e
    refine ex_pc (if_neg c13) ?_
    refine ex_s (am_nb (m := 2) (pc1 := 64) (ls1 := [(0, .ref 157), (2, .int q2)]) (st1 := [.int q2, .ref 157]) (H1 := H) (k1 := 0) (n1 := 0) (by with_unfolding_all rfl)) ?_
    obtain ⟨a38, ha38, e⟩ := xw_some e
    refine xe_put (w := q2) hS rfl rfl (by decide) rfl rfl rfl rfl (fun H39 s40 => ?_)
    have s40 : xS h b T a38 H39 := by rw [ha38]; exact s40
    refine ex_s (am_nb (m := 1) (pc1 := 135) (ls1 := [(0, .ref 157), (2, .int q2)]) (st1 := []) (H1 := H39) (k1 := 0) (n1 := 0) (by with_unfolding_all rfl)) ?_
    exact le_E (l1 := [(0, .ref 157), (2, .int q2)]) ⟨rfl, rfl, trivial⟩ rfl (tj410_135  s40 e)

set_option maxRecDepth 100000 in
theorem tj410_41 {sL : Nat} {sx : Nat → Int32} {h b N : Nat} {T : List am_C} {a' : xA} {q1 : Int32} {q2 : Int32} {a : xA} {H : am_H} (hS : xS h b T a H) (e : j410_41 N h b q1 q2 a = some a') : am_E sL sx am_cs 410 41 [(0, .ref 157), (1, .int q1), (2, .int q2)] [] H none (fun H1 => xS h b T a' H1) := by
  unfold j410_41 at e
  refine ex_s (am_nb (m := 1) (pc1 := 42) (ls1 := [(0, .ref 157), (1, .int q1), (2, .int q2)]) (st1 := [.int q1]) (H1 := H) (k1 := 0) (n1 := 0) (by with_unfolding_all rfl)) ?_
  refine ex_s (st_if rfl) ?_
  by_cases c10 : q1 = 0
  · have e := (if_pos c10).symm.trans e
    refine ex_pc (if_pos c10) ?_
    refine ex_s (am_nb (m := 1) (pc1 := 46) (ls1 := [(0, .ref 157), (1, .int q1), (2, .int q2)]) (st1 := [.ref 157]) (H1 := H) (k1 := 0) (n1 := 0) (by with_unfolding_all rfl)) ?_
    refine xe_get (v := .int (a 157 82)) hS rfl rfl (by decide) rfl ?_
    refine ex_s (am_nb (m := 1) (pc1 := 51) (ls1 := [(0, .ref 157), (1, .int q1), (2, .int q2)]) (st1 := [.int 19, .int (a 157 82)]) (H1 := H) (k1 := 0) (n1 := 0) (by with_unfolding_all rfl)) ?_
    refine ex_s (st_icmp rfl) ?_
    by_cases c12 : (a 157 82) = 19
    · have e := (if_pos c12).symm.trans e
      refine ex_pc (if_pos c12) ?_
      refine ex_s (am_nb (m := 2) (pc1 := 57) (ls1 := [(2, .int 17), (0, .ref 157), (1, .int q1)]) (st1 := []) (H1 := H) (k1 := 0) (n1 := 0) (by with_unfolding_all rfl)) ?_
      exact le_E (l1 := [(0, .ref 157), (2, .int 17)]) ⟨rfl, rfl, trivial⟩ rfl (tj410_57  hS e)
    · have e := (if_neg c12).symm.trans e
      refine ex_pc (if_neg c12) ?_
      exact le_E (l1 := [(0, .ref 157), (2, .int q2)]) ⟨rfl, rfl, trivial⟩ rfl (tj410_57  hS e)
  · have e := (if_neg c10).symm.trans e
    refine ex_pc (if_neg c10) ?_
    exact le_E (l1 := [(0, .ref 157), (2, .int q2)]) ⟨rfl, rfl, trivial⟩ rfl (tj410_57  hS e)

set_option maxRecDepth 100000 in
theorem tj410_19 {sL : Nat} {sx : Nat → Int32} {h b N : Nat} {T : List am_C} {a' : xA} {t0 : Int32} {a : xA} {H : am_H} (hS : xS h b T a H) (e : j410_19 N h b t0 a = some a') : am_E sL sx am_cs 410 19 [(0, .ref 157)] [.int t0] H none (fun H1 => xS h b T a' H1) := by
  unfold j410_19 at e
  refine ex_s (am_nb (m := 4) (pc1 := 23) (ls1 := [(2, .int (-1)), (1, .int t0), (0, .ref 157)]) (st1 := [.int t0]) (H1 := H) (k1 := 0) (n1 := 0) (by with_unfolding_all rfl)) ?_
  refine ex_s (st_if rfl) ?_
  by_cases c47 : t0 = 0
  · have e := (if_pos c47).symm.trans e
    refine ex_pc (if_pos c47) ?_
    exact le_E (l1 := [(0, .ref 157), (1, .int t0), (2, .int (-1))]) ⟨rfl, rfl, rfl, trivial⟩ rfl (tj410_41  hS e)
  · have e := (if_neg c47).symm.trans e
    refine ex_pc (if_neg c47) ?_
    refine ex_s (am_nb (m := 1) (pc1 := 27) (ls1 := [(2, .int (-1)), (1, .int t0), (0, .ref 157)]) (st1 := [.ref 157]) (H1 := H) (k1 := 0) (n1 := 0) (by with_unfolding_all rfl)) ?_
    refine xe_get (v := .int (a 157 82)) hS rfl rfl (by decide) rfl ?_
    refine ex_s (am_nb (m := 1) (pc1 := 32) (ls1 := [(2, .int (-1)), (1, .int t0), (0, .ref 157)]) (st1 := [.int 19, .int (a 157 82)]) (H1 := H) (k1 := 0) (n1 := 0) (by with_unfolding_all rfl)) ?_
    refine ex_s (st_icmp rfl) ?_
    by_cases c51 : (a 157 82) = 19
    · have e := (if_pos c51).symm.trans e
      refine ex_pc (if_pos c51) ?_
      exact le_E (l1 := [(0, .ref 157), (1, .int t0), (2, .int (-1))]) ⟨rfl, rfl, rfl, trivial⟩ rfl (tj410_41  hS e)
    · have e := (if_neg c51).symm.trans e
      refine ex_pc (if_neg c51) ?_
      refine ex_s (am_nb (m := 3) (pc1 := 57) (ls1 := [(2, .int 19), (1, .int t0), (0, .ref 157)]) (st1 := []) (H1 := H) (k1 := 0) (n1 := 0) (by with_unfolding_all rfl)) ?_
      exact le_E (l1 := [(0, .ref 157), (2, .int 19)]) ⟨rfl, rfl, trivial⟩ rfl (tj410_57  hS e)

set_option maxRecDepth 100000 in
theorem tj410_14 {sL : Nat} {sx : Nat → Int32} {h b N : Nat} {T : List am_C} {a' : xA} {a : xA} {H : am_H} (hS : xS h b T a H) (e : j410_14 N h b a = some a') : am_E sL sx am_cs 410 14 [(0, .ref 157)] [] H none (fun H1 => xS h b T a' H1) := by
  unfold j410_14 at e
  refine ex_s (am_nb (m := 2) (pc1 := 19) (ls1 := [(0, .ref 157)]) (st1 := [.int 1]) (H1 := H) (k1 := 0) (n1 := 0) (by with_unfolding_all rfl)) ?_
  exact le_E (l1 := [(0, .ref 157)]) ⟨rfl, trivial⟩ rfl (tj410_19  hS e)

set_option maxRecDepth 100000 in
theorem tf410_answers {sL : Nat} {sx : Nat → Int32} {h b N : Nat} {T : List am_C} {a' : xA} {a : xA} {H : am_H} (hS : xS h b T a H) (e : f410_answers N h b a = some a') : am_E sL sx am_cs 410 0 [(0, .ref 157)] [] H none (fun H1 => xS h b T a' H1) := by
  unfold f410_answers at e
  refine ex_s (am_nb (m := 1) (pc1 := 1) (ls1 := [(0, .ref 157)]) (st1 := [.ref 157]) (H1 := H) (k1 := 0) (n1 := 0) (by with_unfolding_all rfl)) ?_
  refine xe_get (v := .int (a 157 83)) hS rfl rfl (by decide) rfl ?_
  refine ex_s (st_if rfl) ?_
  by_cases c3 : (a 157 83) = 0
  · have e := (if_pos c3).symm.trans e
    refine ex_pc (if_pos c3) ?_
    refine ex_s (am_nb (m := 1) (pc1 := 8) (ls1 := [(0, .ref 157)]) (st1 := [.ref 157]) (H1 := H) (k1 := 0) (n1 := 0) (by with_unfolding_all rfl)) ?_
    refine xe_get (v := .int (a 157 84)) hS rfl rfl (by decide) rfl ?_
    have kk : am_E sL sx am_cs 410 19 [(0, .ref 157)] [.int (if (a 157 84) = 0 then (0 : Int32) else (1 : Int32))] H none (fun H1 => xS h b T a' H1) := by
      refine ex_s (am_nb (m := 4) (pc1 := 23) (ls1 := [(2, .int (-1)), (1, .int (if (a 157 84) = 0 then (0 : Int32) else (1 : Int32))), (0, .ref 157)]) (st1 := [.int (if (a 157 84) = 0 then (0 : Int32) else (1 : Int32))]) (H1 := H) (k1 := 0) (n1 := 0) (by with_unfolding_all rfl)) ?_
      refine ex_s (st_if rfl) ?_
      by_cases c7 : (if (a 157 84) = 0 then (0 : Int32) else (1 : Int32)) = 0
      · have e := (if_pos c7).symm.trans e
        refine ex_pc (if_pos c7) ?_
        exact le_E (l1 := [(0, .ref 157), (1, .int (if (a 157 84) = 0 then (0 : Int32) else (1 : Int32))), (2, .int (-1))]) ⟨rfl, rfl, rfl, trivial⟩ rfl (tj410_41  hS e)
      · have e := (if_neg c7).symm.trans e
        refine ex_pc (if_neg c7) ?_
        refine ex_s (am_nb (m := 1) (pc1 := 27) (ls1 := [(2, .int (-1)), (1, .int (if (a 157 84) = 0 then (0 : Int32) else (1 : Int32))), (0, .ref 157)]) (st1 := [.ref 157]) (H1 := H) (k1 := 0) (n1 := 0) (by with_unfolding_all rfl)) ?_
        refine xe_get (v := .int (a 157 82)) hS rfl rfl (by decide) rfl ?_
        refine ex_s (am_nb (m := 1) (pc1 := 32) (ls1 := [(2, .int (-1)), (1, .int (if (a 157 84) = 0 then (0 : Int32) else (1 : Int32))), (0, .ref 157)]) (st1 := [.int 19, .int (a 157 82)]) (H1 := H) (k1 := 0) (n1 := 0) (by with_unfolding_all rfl)) ?_
        refine ex_s (st_icmp rfl) ?_
        by_cases c44 : (a 157 82) = 19
        · have e := (if_pos c44).symm.trans e
          refine ex_pc (if_pos c44) ?_
          exact le_E (l1 := [(0, .ref 157), (1, .int (if (a 157 84) = 0 then (0 : Int32) else (1 : Int32))), (2, .int (-1))]) ⟨rfl, rfl, rfl, trivial⟩ rfl (tj410_41  hS e)
        · have e := (if_neg c44).symm.trans e
          refine ex_pc (if_neg c44) ?_
          refine ex_s (am_nb (m := 3) (pc1 := 57) (ls1 := [(2, .int 19), (1, .int (if (a 157 84) = 0 then (0 : Int32) else (1 : Int32))), (0, .ref 157)]) (st1 := []) (H1 := H) (k1 := 0) (n1 := 0) (by with_unfolding_all rfl)) ?_
          exact le_E (l1 := [(0, .ref 157), (2, .int 19)]) ⟨rfl, rfl, trivial⟩ rfl (tj410_57  hS e)
    refine ex_s (st_if rfl) ?_
    by_cases c4 : (a 157 84) = 0
    · refine ex_pc (if_pos c4) ?_
      refine ex_s (am_nb (m := 1) (pc1 := 19) (ls1 := [(0, .ref 157)]) (st1 := [.int 0]) (H1 := H) (k1 := 0) (n1 := 0) (by with_unfolding_all rfl)) ?_
      rw [if_pos c4] at kk
      exact kk
    · refine ex_pc (if_neg c4) ?_
      refine ex_s (am_nb (m := 2) (pc1 := 19) (ls1 := [(0, .ref 157)]) (st1 := [.int 1]) (H1 := H) (k1 := 0) (n1 := 0) (by with_unfolding_all rfl)) ?_
      rw [if_neg c4] at kk
      exact kk
  · have e := (if_neg c3).symm.trans e
    refine ex_pc (if_neg c3) ?_
    exact le_E (l1 := [(0, .ref 157)]) ⟨rfl, trivial⟩ rfl (tj410_14  hS e)

set_option maxRecDepth 100000 in
theorem tj366_221 {sL : Nat} {sx : Nat → Int32} {h b N : Nat} {T : List am_C} {a' : xA} {a : xA} {H : am_H} (hS : xS h b T a H) (e : j366_221 N h b a = some a') : am_E sL sx am_cs 366 221 [(0, .ref 157)] [] H none (fun H1 => xS h b T a' H1) := by
  unfold j366_221 at e
  refine ex_s (am_nb (m := 1) (pc1 := 222) (ls1 := [(0, .ref 157)]) (st1 := [.ref 157]) (H1 := H) (k1 := 0) (n1 := 0) (by with_unfolding_all rfl)) ?_
  refine xe_get (v := .int (a 157 74)) hS rfl rfl (by decide) rfl ?_
  refine ex_s (am_nb (m := 1) (pc1 := 226) (ls1 := [(0, .ref 157)]) (st1 := [.int (-1), .int (a 157 74)]) (H1 := H) (k1 := 0) (n1 := 0) (by with_unfolding_all rfl)) ?_
  refine ex_s (st_icmp rfl) ?_
  by_cases c25 : (a 157 74) = (-1)
  · have e := (if_pos c25).symm.trans e
    refine ex_pc (if_pos c25) ?_
    refine ex_s (am_nb (m := 1) (pc1 := 230) (ls1 := [(0, .ref 157)]) (st1 := [.ref 157]) (H1 := H) (k1 := 0) (n1 := 0) (by with_unfolding_all rfl)) ?_
    refine xe_get (v := .int (a 157 62)) hS rfl rfl (by decide) rfl ?_
    refine ex_s (st_if rfl) ?_
    by_cases c26 : (a 157 62) = 0
    · have e := (if_pos c26).symm.trans e
      refine ex_pc (if_pos c26) ?_
      refine ex_s (am_nb (m := 1) (pc1 := 237) (ls1 := [(0, .ref 157)]) (st1 := [.ref 157]) (H1 := H) (k1 := 0) (n1 := 0) (by with_unfolding_all rfl)) ?_
      refine xe_get (v := .int (a 157 56)) hS rfl rfl (by decide) rfl ?_
      refine ex_s (st_if rfl) ?_
      by_cases c27 : (a 157 56) ≤ 0
      · have e := (if_pos c27).symm.trans e
        refine ex_pc (if_pos c27) ?_
        cases e
        exact ex_r (st_vret rfl rfl) hS
      · have e := (if_neg c27).symm.trans e
        refine ex_pc (if_neg c27) ?_
        refine ex_s (am_nb (m := 2) (pc1 := 245) (ls1 := [(0, .ref 157)]) (st1 := [.ref 157, .ref 157]) (H1 := H) (k1 := 0) (n1 := 0) (by with_unfolding_all rfl)) ?_
        refine xe_get (v := .ref 184) hS rfl rfl (by decide) rfl ?_
        refine ex_s (am_nb (m := 1) (pc1 := 249) (ls1 := [(0, .ref 157)]) (st1 := [.ref 157, .ref 184, .ref 157]) (H1 := H) (k1 := 0) (n1 := 0) (by with_unfolding_all rfl)) ?_
        refine xe_get (v := .int (a 157 55)) hS rfl rfl (by decide) rfl ?_
        obtain ⟨g28, e⟩ := xg_some e
        refine xe_bald hS rfl rfl g28 ?_
        refine ex_s (am_nb (m := 2) (pc1 := 257) (ls1 := [(0, .ref 157)]) (st1 := [.int ((a 184 ((a 157 55).toNatClampNeg)) &&& 255), .ref 157]) (H1 := H) (k1 := 0) (n1 := 0) (by with_unfolding_all rfl)) ?_
        obtain ⟨a29, ha29, e⟩ := xw_some e
        refine xe_put (w := ((a 184 ((a 157 55).toNatClampNeg)) &&& 255)) hS rfl rfl (by decide) rfl rfl rfl rfl (fun H30 s31 => ?_)
        have s31 : xS h b T a29 H30 := by rw [ha29]; exact s31
        refine ex_s (am_nb (m := 2) (pc1 := 262) (ls1 := [(0, .ref 157)]) (st1 := [.ref 157, .ref 157]) (H1 := H30) (k1 := 0) (n1 := 0) (by with_unfolding_all rfl)) ?_
        refine xe_get (v := .int (a29 157 55)) s31 rfl rfl (by decide) rfl ?_
        refine ex_s (am_nb (m := 4) (pc1 := 271) (ls1 := [(0, .ref 157)]) (st1 := [.int (((a29 157 55) + 1) - ((a29 157 55) + 1) / 8000 * 8000), .ref 157]) (H1 := H30) (k1 := 0) (n1 := 0) (by with_unfolding_all rfl)) ?_
        obtain ⟨a32, ha32, e⟩ := xw_some e
        refine xe_put (w := (((a29 157 55) + 1) - ((a29 157 55) + 1) / 8000 * 8000)) s31 rfl rfl (by decide) rfl rfl rfl rfl (fun H33 s34 => ?_)
        have s34 : xS h b T a32 H33 := by rw [ha32]; exact s34
        refine ex_s (am_nb (m := 2) (pc1 := 276) (ls1 := [(0, .ref 157)]) (st1 := [.ref 157, .ref 157]) (H1 := H33) (k1 := 0) (n1 := 0) (by with_unfolding_all rfl)) ?_
        refine xe_get (v := .int (a32 157 56)) s34 rfl rfl (by decide) rfl ?_
        refine ex_s (am_nb (m := 2) (pc1 := 281) (ls1 := [(0, .ref 157)]) (st1 := [.int ((a32 157 56) - 1), .ref 157]) (H1 := H33) (k1 := 0) (n1 := 0) (by with_unfolding_all rfl)) ?_
        obtain ⟨a35, ha35, e⟩ := xw_some e
        refine xe_put (w := ((a32 157 56) - 1)) s34 rfl rfl (by decide) rfl rfl rfl rfl (fun H36 s37 => ?_)
        have s37 : xS h b T a35 H36 := by rw [ha35]; exact s37
        refine ex_s (am_nb (m := 2) (pc1 := 286) (ls1 := [(0, .ref 157)]) (st1 := [.ref 157, .ref 157]) (H1 := H36) (k1 := 0) (n1 := 0) (by with_unfolding_all rfl)) ?_
        refine xe_get (v := .int (a35 157 71)) s37 rfl rfl (by decide) rfl ?_
        refine ex_s (am_nb (m := 1) (pc1 := 290) (ls1 := [(0, .ref 157)]) (st1 := [.ref 157, .int (a35 157 71), .ref 157]) (H1 := H36) (k1 := 0) (n1 := 0) (by with_unfolding_all rfl)) ?_
        refine xe_get (v := .int (a35 157 70)) s37 rfl rfl (by decide) rfl ?_
        refine ex_s (am_nb (m := 1) (pc1 := 294) (ls1 := [(0, .ref 157)]) (st1 := [.int ((a35 157 71) + (a35 157 70)), .ref 157]) (H1 := H36) (k1 := 0) (n1 := 0) (by with_unfolding_all rfl)) ?_
        obtain ⟨a38, ha38, e⟩ := xw_some e
        refine xe_put (w := ((a35 157 71) + (a35 157 70))) s37 rfl rfl (by decide) rfl rfl rfl rfl (fun H39 s40 => ?_)
        have s40 : xS h b T a38 H39 := by rw [ha38]; exact s40
        refine ex_s (am_nb (m := 2) (pc1 := 299) (ls1 := [(0, .ref 157)]) (st1 := [.ref 157, .ref 157]) (H1 := H39) (k1 := 0) (n1 := 0) (by with_unfolding_all rfl)) ?_
        refine xe_get (v := .int (a38 157 72)) s40 rfl rfl (by decide) rfl ?_
        refine ex_s (am_nb (m := 2) (pc1 := 304) (ls1 := [(0, .ref 157)]) (st1 := [.int ((a38 157 72) + 1), .ref 157]) (H1 := H39) (k1 := 0) (n1 := 0) (by with_unfolding_all rfl)) ?_
        obtain ⟨a41, ha41, e⟩ := xw_some e
        refine xe_put (w := ((a38 157 72) + 1)) s40 rfl rfl (by decide) rfl rfl rfl rfl (fun H42 s43 => ?_)
        have s43 : xS h b T a41 H42 := by rw [ha41]; exact s43
        cases e
        exact ex_r (st_vret rfl rfl) s43
    · have e := (if_neg c26).symm.trans e
      refine ex_pc (if_neg c26) ?_
      cases e
      exact ex_r (st_vret rfl rfl) hS
  · have e := (if_neg c25).symm.trans e
    refine ex_pc (if_neg c25) ?_
    cases e
    exact ex_r (st_vret rfl rfl) hS

set_option maxRecDepth 100000 in
theorem tj366_209 {sL : Nat} {sx : Nat → Int32} {h b N : Nat} {T : List am_C} {a' : xA} {a : xA} {H : am_H} (hS : xS h b T a H) (e : j366_209 N h b a = some a') : am_E sL sx am_cs 366 209 [(0, .ref 157)] [] H none (fun H1 => xS h b T a' H1) := by
  unfold j366_209 at e
  refine ex_s (am_nb (m := 1) (pc1 := 210) (ls1 := [(0, .ref 157)]) (st1 := [.ref 157]) (H1 := H) (k1 := 0) (n1 := 0) (by with_unfolding_all rfl)) ?_
  refine xe_get (v := .int (a 157 75)) hS rfl rfl (by decide) rfl ?_
  refine ex_s (am_nb (m := 1) (pc1 := 214) (ls1 := [(0, .ref 157)]) (st1 := [.int (-1), .int (a 157 75)]) (H1 := H) (k1 := 0) (n1 := 0) (by with_unfolding_all rfl)) ?_
  refine ex_s (st_icmp rfl) ?_
  by_cases c20 : (a 157 75) = (-1)
  · have e := (if_pos c20).symm.trans e
    refine ex_pc (if_pos c20) ?_
    refine ex_s (am_nb (m := 1) (pc1 := 218) (ls1 := [(0, .ref 157)]) (st1 := [.ref 157]) (H1 := H) (k1 := 0) (n1 := 0) (by with_unfolding_all rfl)) ?_
    obtain ⟨a24, e23, e⟩ := xb1_some e
    refine ex_cv0 (as := []) (rest := []) rfl rfl rfl rfl (hS.obj rfl (by decide)) rfl (by with_unfolding_all rfl) (by with_unfolding_all rfl) (tf410_answers hS e23) (fun H21 s22 => ?_)
    exact le_E (l1 := [(0, .ref 157)]) ⟨rfl, trivial⟩ rfl (tj366_221  s22 e)
  · have e := (if_neg c20).symm.trans e
    refine ex_pc (if_neg c20) ?_
    exact le_E (l1 := [(0, .ref 157)]) ⟨rfl, trivial⟩ rfl (tj366_221  hS e)

set_option maxRecDepth 100000 in
theorem tl366_151 {sL : Nat} {sx : Nat → Int32} {h b N : Nat} {T : List am_C} {R : Option Value} {F : am_H → Prop} {w1 : Int32} {z : Nat × xA} (k0 : z.1 = 0 → ∀ H2 : am_H, xS h b T z.2 H2 → am_E sL sx am_cs 366 179 [(0, .ref 157), (1, .int w1)] [] H2 R F) : ∀ (n : Nat) (v2 : Int32) (a : xA) (H : am_H), xS h b T a H → l366_151 N h b w1 n v2 a = some z → am_E sL sx am_cs 366 151 [(0, .ref 157), (1, .int w1), (2, .int v2)] [] H R F := by
  intro n
  induction n with
  | zero =>
    intro v2 a H hS e
    cases e
  | succ n ih =>
    intro v2 a H hS e
    unfold l366_151 at e
    refine ex_s (am_nb (m := 2) (pc1 := 153) (ls1 := [(0, .ref 157), (1, .int w1), (2, .int v2)]) (st1 := [.ref 157, .int v2]) (H1 := H) (k1 := 0) (n1 := 0) (by with_unfolding_all rfl)) ?_
    refine xe_get (v := .int (a 157 79)) hS rfl rfl (by decide) rfl ?_
    refine ex_s (st_icmp rfl) ?_
    by_cases c47 : (a 157 79) ≤ v2
    · have e := (if_pos c47).symm.trans e
      refine ex_pc (if_pos c47) ?_
      cases e
      exact le_E (l1 := [(0, .ref 157), (1, .int w1)]) ⟨rfl, rfl, trivial⟩ rfl (k0 rfl H hS)
    · have e := (if_neg c47).symm.trans e
      refine ex_pc (if_neg c47) ?_
      refine ex_s (am_nb (m := 1) (pc1 := 160) (ls1 := [(0, .ref 157), (1, .int w1), (2, .int v2)]) (st1 := [.ref 157]) (H1 := H) (k1 := 0) (n1 := 0) (by with_unfolding_all rfl)) ?_
      refine xe_get (v := .ref 187) hS rfl rfl (by decide) rfl ?_
      refine ex_s (am_nb (m := 2) (pc1 := 165) (ls1 := [(0, .ref 157), (1, .int w1), (2, .int v2)]) (st1 := [.ref 157, .int v2, .ref 187]) (H1 := H) (k1 := 0) (n1 := 0) (by with_unfolding_all rfl)) ?_
      refine xe_get (v := .ref 187) hS rfl rfl (by decide) rfl ?_
      refine ex_s (am_nb (m := 3) (pc1 := 171) (ls1 := [(0, .ref 157), (1, .int w1), (2, .int v2)]) (st1 := [.int (v2 + 1), .ref 187, .int v2, .ref 187]) (H1 := H) (k1 := 0) (n1 := 0) (by with_unfolding_all rfl)) ?_
      obtain ⟨g48, e⟩ := xg_some e
      refine xe_iald hS rfl rfl g48 ?_
      obtain ⟨g52, e⟩ := xg_some e
      obtain ⟨a49, ha49, e⟩ := xw_some e
      refine xe_iast hS rfl rfl g52 (fun H50 s51 => ?_)
      have s51 : xS h b T a49 H50 := by rw [ha49]; exact s51
      refine ex_s (am_nb (m := 2) (pc1 := 151) (ls1 := [(2, .int (v2 + 1)), (0, .ref 157), (1, .int w1)]) (st1 := []) (H1 := H50) (k1 := 0) (n1 := 0) (by with_unfolding_all rfl)) ?_
      exact le_E (l1 := [(0, .ref 157), (1, .int w1), (2, .int (v2 + 1))]) ⟨rfl, rfl, rfl, trivial⟩ rfl (ih (v2 + 1) a49 H50 s51 e)

set_option maxRecDepth 100000 in
theorem tj366_201 {sL : Nat} {sx : Nat → Int32} {h b N : Nat} {T : List am_C} {a' : xA} {q1 : Int32} {t0 : Int32} {a : xA} {H : am_H} (hS : xS h b T a H) (e : j366_201 N h b q1 t0 a = some a') : am_E sL sx am_cs 366 201 [(0, .ref 157), (1, .int q1)] [.int t0, .ref 157] H none (fun H1 => xS h b T a' H1) := by
  unfold j366_201 at e
  obtain ⟨g61, e⟩ := xg_some e
  obtain ⟨a58, ha58, e⟩ := xw_some e
  refine xe_put (w := t0) hS rfl rfl (by decide) rfl rfl (xfit_z g61) rfl (fun H59 s60 => ?_)
  have s60 : xS h b T a58 H59 := by rw [ha58]; exact s60
  refine ex_s (am_nb (m := 2) (pc1 := 206) (ls1 := [(0, .ref 157), (1, .int q1)]) (st1 := [.int q1, .ref 157]) (H1 := H59) (k1 := 0) (n1 := 0) (by with_unfolding_all rfl)) ?_
  obtain ⟨a65, e64, e⟩ := xb1_some e
  refine ex_cv0 (as := [.int q1]) (rest := []) rfl rfl rfl rfl (s60.obj rfl (by decide)) rfl (by with_unfolding_all rfl) (by with_unfolding_all rfl) (tf382_reads s60 e64) (fun H62 s63 => ?_)
  exact le_E (l1 := [(0, .ref 157)]) ⟨rfl, trivial⟩ rfl (tj366_209  s63 e)

set_option maxRecDepth 100000 in
theorem tj366_200 {sL : Nat} {sx : Nat → Int32} {h b N : Nat} {T : List am_C} {a' : xA} {q1 : Int32} {a : xA} {H : am_H} (hS : xS h b T a H) (e : j366_200 N h b q1 a = some a') : am_E sL sx am_cs 366 200 [(0, .ref 157), (1, .int q1)] [.ref 157] H none (fun H1 => xS h b T a' H1) := by
  unfold j366_200 at e
  refine ex_s (am_nb (m := 1) (pc1 := 201) (ls1 := [(0, .ref 157), (1, .int q1)]) (st1 := [.int 0, .ref 157]) (H1 := H) (k1 := 0) (n1 := 0) (by with_unfolding_all rfl)) ?_
  exact le_E (l1 := [(0, .ref 157), (1, .int q1)]) ⟨rfl, rfl, trivial⟩ rfl (tj366_201  hS e)

set_option maxRecDepth 100000 in
theorem tj366_98 {sL : Nat} {sx : Nat → Int32} {h b N : Nat} {T : List am_C} {a' : xA} {a : xA} {H : am_H} (hS : xS h b T a H) (e : j366_98 N h b a = some a') : am_E sL sx am_cs 366 98 [(0, .ref 157)] [] H none (fun H1 => xS h b T a' H1) := by
  unfold j366_98 at e
  refine ex_s (am_nb (m := 1) (pc1 := 99) (ls1 := [(0, .ref 157)]) (st1 := [.ref 157]) (H1 := H) (k1 := 0) (n1 := 0) (by with_unfolding_all rfl)) ?_
  refine xe_get (v := .int (a 157 81)) hS rfl rfl (by decide) rfl ?_
  refine ex_s (st_if rfl) ?_
  by_cases c16 : (a 157 81) ≤ 0
  · have e := (if_pos c16).symm.trans e
    refine ex_pc (if_pos c16) ?_
    refine ex_s (am_nb (m := 1) (pc1 := 119) (ls1 := [(0, .ref 157)]) (st1 := [.ref 157]) (H1 := H) (k1 := 0) (n1 := 0) (by with_unfolding_all rfl)) ?_
    refine xe_get (v := .int (a 157 84)) hS rfl rfl (by decide) rfl ?_
    refine ex_s (st_if rfl) ?_
    by_cases c17 : (a 157 84) = 0
    · have e := (if_pos c17).symm.trans e
      refine ex_pc (if_pos c17) ?_
      refine ex_s (am_nb (m := 1) (pc1 := 126) (ls1 := [(0, .ref 157)]) (st1 := [.ref 157]) (H1 := H) (k1 := 0) (n1 := 0) (by with_unfolding_all rfl)) ?_
      refine xe_get (v := .int (a 157 79)) hS rfl rfl (by decide) rfl ?_
      refine ex_s (st_if rfl) ?_
      by_cases c18 : (a 157 79) ≤ 0
      · have e := (if_pos c18).symm.trans e
        refine ex_pc (if_pos c18) ?_
        exact le_E (l1 := [(0, .ref 157)]) ⟨rfl, trivial⟩ rfl (tj366_209  hS e)
      · have e := (if_neg c18).symm.trans e
        refine ex_pc (if_neg c18) ?_
        refine ex_s (am_nb (m := 1) (pc1 := 133) (ls1 := [(0, .ref 157)]) (st1 := [.ref 157]) (H1 := H) (k1 := 0) (n1 := 0) (by with_unfolding_all rfl)) ?_
        refine xe_get (v := .ref 187) hS rfl rfl (by decide) rfl ?_
        refine ex_s (am_nb (m := 1) (pc1 := 137) (ls1 := [(0, .ref 157)]) (st1 := [.int 0, .ref 187]) (H1 := H) (k1 := 0) (n1 := 0) (by with_unfolding_all rfl)) ?_
        refine xe_ialdc (v := a 187 0) hS rfl rfl (show ¬ ((0 : Int32) < 0 ∨ 64 ≤ ((0 : Int32)).toNatClampNeg) by decide) rfl ?_
        refine ex_s (am_nb (m := 3) (pc1 := 141) (ls1 := [(1, .int (a 187 0)), (0, .ref 157)]) (st1 := [.ref 157, .ref 157]) (H1 := H) (k1 := 0) (n1 := 0) (by with_unfolding_all rfl)) ?_
        refine xe_get (v := .int (a 157 79)) hS rfl rfl (by decide) rfl ?_
        refine ex_s (am_nb (m := 2) (pc1 := 146) (ls1 := [(1, .int (a 187 0)), (0, .ref 157)]) (st1 := [.int ((a 157 79) - 1), .ref 157]) (H1 := H) (k1 := 0) (n1 := 0) (by with_unfolding_all rfl)) ?_
        obtain ⟨a44, ha44, e⟩ := xw_some e
        refine xe_put (w := ((a 157 79) - 1)) hS rfl rfl (by decide) rfl rfl rfl rfl (fun H45 s46 => ?_)
        have s46 : xS h b T a44 H45 := by rw [ha44]; exact s46
        refine ex_s (am_nb (m := 2) (pc1 := 151) (ls1 := [(2, .int 0), (1, .int (a 187 0)), (0, .ref 157)]) (st1 := []) (H1 := H45) (k1 := 0) (n1 := 0) (by with_unfolding_all rfl)) ?_
        obtain ⟨z53, e54, e⟩ := Option.bind_eq_some_iff.mp e
        refine le_E (l1 := [(0, .ref 157), (1, .int (a 187 0)), (2, .int 0)]) ⟨rfl, rfl, rfl, trivial⟩ rfl (tl366_151 (z := z53)  (fun uz53_0 Hz530 sz530 => ?_) N 0 a44 H45 s46 e54)
        refine ex_s (am_nb (m := 2) (pc1 := 181) (ls1 := [(0, .ref 157), (1, .int (a 187 0))]) (st1 := [.ref 157, .ref 157]) (H1 := Hz530) (k1 := 0) (n1 := 0) (by with_unfolding_all rfl)) ?_
        refine xe_get (v := .int (z53.2 157 83)) sz530 rfl rfl (by decide) rfl ?_
        refine ex_s (st_if rfl) ?_
        by_cases c57 : (z53.2 157 83) = 0
        · have e := (if_pos c57).symm.trans e
          refine ex_pc (if_pos c57) ?_
          exact le_E (l1 := [(0, .ref 157), (1, .int (a 187 0))]) ⟨rfl, rfl, trivial⟩ rfl (tj366_200  sz530 e)
        · have e := (if_neg c57).symm.trans e
          refine ex_pc (if_neg c57) ?_
          refine ex_s (am_nb (m := 1) (pc1 := 188) (ls1 := [(0, .ref 157), (1, .int (a 187 0))]) (st1 := [.ref 157, .ref 157]) (H1 := Hz530) (k1 := 0) (n1 := 0) (by with_unfolding_all rfl)) ?_
          refine xe_get (v := .int (z53.2 157 79)) sz530 rfl rfl (by decide) rfl ?_
          refine ex_s (am_nb (m := 1) (pc1 := 193) (ls1 := [(0, .ref 157), (1, .int (a 187 0))]) (st1 := [.int 16, .int (z53.2 157 79), .ref 157]) (H1 := Hz530) (k1 := 0) (n1 := 0) (by with_unfolding_all rfl)) ?_
          have kk : am_E sL sx am_cs 366 201 [(0, .ref 157), (1, .int (a 187 0))] [.int (if (z53.2 157 79) ≤ 16 then (0 : Int32) else (1 : Int32)), .ref 157] Hz530 none (fun H1 => xS h b T a' H1) := by
            obtain ⟨g70, e⟩ := xg_some e
            obtain ⟨a67, ha67, e⟩ := xw_some e
            refine xe_put (w := (if (z53.2 157 79) ≤ 16 then (0 : Int32) else (1 : Int32))) sz530 rfl rfl (by decide) rfl rfl (xfit_z g70) rfl (fun H68 s69 => ?_)
            have s69 : xS h b T a67 H68 := by rw [ha67]; exact s69
            refine ex_s (am_nb (m := 2) (pc1 := 206) (ls1 := [(0, .ref 157), (1, .int (a 187 0))]) (st1 := [.int (a 187 0), .ref 157]) (H1 := H68) (k1 := 0) (n1 := 0) (by with_unfolding_all rfl)) ?_
            obtain ⟨a74, e73, e⟩ := xb1_some e
            refine ex_cv0 (as := [.int (a 187 0)]) (rest := []) rfl rfl rfl rfl (s69.obj rfl (by decide)) rfl (by with_unfolding_all rfl) (by with_unfolding_all rfl) (tf382_reads s69 e73) (fun H71 s72 => ?_)
            exact le_E (l1 := [(0, .ref 157)]) ⟨rfl, trivial⟩ rfl (tj366_209  s72 e)
          refine ex_s (st_icmp rfl) ?_
          by_cases c66 : (z53.2 157 79) ≤ 16
          · refine ex_pc (if_pos c66) ?_
            refine ex_s (am_nb (m := 1) (pc1 := 201) (ls1 := [(0, .ref 157), (1, .int (a 187 0))]) (st1 := [.int 0, .ref 157]) (H1 := Hz530) (k1 := 0) (n1 := 0) (by with_unfolding_all rfl)) ?_
            rw [if_pos c66] at kk
            exact kk
          · refine ex_pc (if_neg c66) ?_
            refine ex_s (am_nb (m := 2) (pc1 := 201) (ls1 := [(0, .ref 157), (1, .int (a 187 0))]) (st1 := [.int 1, .ref 157]) (H1 := Hz530) (k1 := 0) (n1 := 0) (by with_unfolding_all rfl)) ?_
            rw [if_neg c66] at kk
            exact kk
    · have e := (if_neg c17).symm.trans e
      refine ex_pc (if_neg c17) ?_
      exact le_E (l1 := [(0, .ref 157)]) ⟨rfl, trivial⟩ rfl (tj366_209  hS e)
  · have e := (if_neg c16).symm.trans e
    refine ex_pc (if_neg c16) ?_
    refine ex_s (am_nb (m := 2) (pc1 := 107) (ls1 := [(0, .ref 157)]) (st1 := [.ref 157, .ref 157]) (H1 := H) (k1 := 0) (n1 := 0) (by with_unfolding_all rfl)) ?_
    refine xe_get (v := .int (a 157 81)) hS rfl rfl (by decide) rfl ?_
    refine ex_s (am_nb (m := 2) (pc1 := 112) (ls1 := [(0, .ref 157)]) (st1 := [.int ((a 157 81) - 1), .ref 157]) (H1 := H) (k1 := 0) (n1 := 0) (by with_unfolding_all rfl)) ?_
    obtain ⟨a75, ha75, e⟩ := xw_some e
    refine xe_put (w := ((a 157 81) - 1)) hS rfl rfl (by decide) rfl rfl rfl rfl (fun H76 s77 => ?_)
    have s77 : xS h b T a75 H76 := by rw [ha75]; exact s77
    refine ex_s (am_nb (m := 1) (pc1 := 209) (ls1 := [(0, .ref 157)]) (st1 := []) (H1 := H76) (k1 := 0) (n1 := 0) (by with_unfolding_all rfl)) ?_
    exact le_E (l1 := [(0, .ref 157)]) ⟨rfl, trivial⟩ rfl (tj366_209  s77 e)

set_option maxRecDepth 100000 in
theorem tj366_85 {sL : Nat} {sx : Nat → Int32} {h b N : Nat} {T : List am_C} {a' : xA} {a : xA} {H : am_H} (hS : xS h b T a H) (e : j366_85 N h b a = some a') : am_E sL sx am_cs 366 85 [(0, .ref 157)] [] H none (fun H1 => xS h b T a' H1) := by
  unfold j366_85 at e
  refine ex_s (am_nb (m := 1) (pc1 := 86) (ls1 := [(0, .ref 157)]) (st1 := [.ref 157]) (H1 := H) (k1 := 0) (n1 := 0) (by with_unfolding_all rfl)) ?_
  refine xe_get (v := .int (a 157 71)) hS rfl rfl (by decide) rfl ?_
  refine ex_s (am_nb (m := 2) (pc1 := 91) (ls1 := [(0, .ref 157)]) (st1 := [.int ((a 157 71) - (a 157 71) / 4 * 4)]) (H1 := H) (k1 := 0) (n1 := 0) (by with_unfolding_all rfl)) ?_
  refine ex_s (st_if rfl) ?_
  by_cases c11 : ((a 157 71) - (a 157 71) / 4 * 4) = 0
  · have e := (if_pos c11).symm.trans e
    refine ex_pc (if_pos c11) ?_
    refine ex_s (am_nb (m := 1) (pc1 := 95) (ls1 := [(0, .ref 157)]) (st1 := [.ref 157]) (H1 := H) (k1 := 0) (n1 := 0) (by with_unfolding_all rfl)) ?_
    obtain ⟨a15, e14, e⟩ := xb1_some e
    refine ex_cv0 (as := []) (rest := []) rfl rfl rfl rfl (hS.obj rfl (by decide)) rfl (by with_unfolding_all rfl) (by with_unfolding_all rfl) (tf377_scan hS e14) (fun H12 s13 => ?_)
    exact le_E (l1 := [(0, .ref 157)]) ⟨rfl, trivial⟩ rfl (tj366_98  s13 e)
  · have e := (if_neg c11).symm.trans e
    refine ex_pc (if_neg c11) ?_
    exact le_E (l1 := [(0, .ref 157)]) ⟨rfl, trivial⟩ rfl (tj366_98  hS e)

set_option maxRecDepth 100000 in
theorem tj366_44 {sL : Nat} {sx : Nat → Int32} {h b N : Nat} {T : List am_C} {a' : xA} {a : xA} {H : am_H} (hS : xS h b T a H) (e : j366_44 N h b a = some a') : am_E sL sx am_cs 366 44 [(0, .ref 157)] [] H none (fun H1 => xS h b T a' H1) := by
  unfold j366_44 at e
  refine ex_s (am_nb (m := 1) (pc1 := 45) (ls1 := [(0, .ref 157)]) (st1 := [.ref 157]) (H1 := H) (k1 := 0) (n1 := 0) (by with_unfolding_all rfl)) ?_
  refine xe_get (v := .int (a 157 75)) hS rfl rfl (by decide) rfl ?_
  refine ex_s (am_nb (m := 1) (pc1 := 49) (ls1 := [(0, .ref 157)]) (st1 := [.int (-1), .int (a 157 75)]) (H1 := H) (k1 := 0) (n1 := 0) (by with_unfolding_all rfl)) ?_
  refine ex_s (st_icmp rfl) ?_
  by_cases c9 : (a 157 75) = (-1)
  · have e := (if_pos c9).symm.trans e
    refine ex_pc (if_pos c9) ?_
    exact le_E (l1 := [(0, .ref 157)]) ⟨rfl, trivial⟩ rfl (tj366_85  hS e)
  · have e := (if_neg c9).symm.trans e
    refine ex_pc (if_neg c9) ?_
    refine ex_s (am_nb (m := 1) (pc1 := 53) (ls1 := [(0, .ref 157)]) (st1 := [.ref 157]) (H1 := H) (k1 := 0) (n1 := 0) (by with_unfolding_all rfl)) ?_
    refine xe_get (v := .int (a 157 77)) hS rfl rfl (by decide) rfl ?_
    refine ex_s (am_nb (m := 1) (pc1 := 57) (ls1 := [(0, .ref 157)]) (st1 := [.ref 157, .int (a 157 77)]) (H1 := H) (k1 := 0) (n1 := 0) (by with_unfolding_all rfl)) ?_
    refine xe_get (v := .int (a 157 71)) hS rfl rfl (by decide) rfl ?_
    refine ex_s (st_icmp rfl) ?_
    by_cases c79 : (a 157 77) = (a 157 71)
    · have e := (if_pos c79).symm.trans e
      refine ex_pc (if_pos c79) ?_
      refine ex_s (am_nb (m := 1) (pc1 := 64) (ls1 := [(0, .ref 157)]) (st1 := [.ref 157]) (H1 := H) (k1 := 0) (n1 := 0) (by with_unfolding_all rfl)) ?_
      refine xe_get (v := .int (a 157 75)) hS rfl rfl (by decide) rfl ?_
      refine ex_s (am_nb (m := 3) (pc1 := 70) (ls1 := [(1, .int (a 157 75)), (0, .ref 157)]) (st1 := [.int (-1), .ref 157]) (H1 := H) (k1 := 0) (n1 := 0) (by with_unfolding_all rfl)) ?_
      obtain ⟨a80, ha80, e⟩ := xw_some e
      refine xe_put (w := (-1)) hS rfl rfl (by decide) rfl rfl rfl rfl (fun H81 s82 => ?_)
      have s82 : xS h b T a80 H81 := by rw [ha80]; exact s82
      refine ex_s (am_nb (m := 2) (pc1 := 77) (ls1 := [(1, .int (a 157 75)), (0, .ref 157)]) (st1 := [.int 256, .int (a 157 75)]) (H1 := H81) (k1 := 0) (n1 := 0) (by with_unfolding_all rfl)) ?_
      refine ex_s (st_icmp rfl) ?_
      by_cases c84 : (a 157 75) = 256
      · have e := (if_pos c84).symm.trans e
        refine ex_pc (if_pos c84) ?_
        exact le_E (l1 := [(0, .ref 157)]) ⟨rfl, trivial⟩ rfl (tj366_85  s82 e)
      · have e := (if_neg c84).symm.trans e
        refine ex_pc (if_neg c84) ?_
        refine ex_s (am_nb (m := 2) (pc1 := 82) (ls1 := [(1, .int (a 157 75)), (0, .ref 157)]) (st1 := [.int (a 157 75), .ref 157]) (H1 := H81) (k1 := 0) (n1 := 0) (by with_unfolding_all rfl)) ?_
        obtain ⟨a88, e87, e⟩ := xb1_some e
        refine ex_cv0 (as := [.int (a 157 75)]) (rest := []) rfl rfl rfl rfl (s82.obj rfl (by decide)) rfl (by with_unfolding_all rfl) (by with_unfolding_all rfl) (tf368_comes s82 e87) (fun H85 s86 => ?_)
        exact le_E (l1 := [(0, .ref 157)]) ⟨rfl, trivial⟩ rfl (tj366_85  s86 e)
    · have e := (if_neg c79).symm.trans e
      refine ex_pc (if_neg c79) ?_
      exact le_E (l1 := [(0, .ref 157)]) ⟨rfl, trivial⟩ rfl (tj366_85  hS e)

set_option maxRecDepth 100000 in
theorem tf366_tick {sL : Nat} {sx : Nat → Int32} {h b N : Nat} {T : List am_C} {a' : xA} {a : xA} {H : am_H} (hS : xS h b T a H) (e : f366_tick N h b a = some a') : am_E sL sx am_cs 366 0 [(0, .ref 157)] [] H none (fun H1 => xS h b T a' H1) := by
  unfold f366_tick at e
  refine ex_s (am_nb (m := 2) (pc1 := 2) (ls1 := [(0, .ref 157)]) (st1 := [.ref 157, .ref 157]) (H1 := H) (k1 := 0) (n1 := 0) (by with_unfolding_all rfl)) ?_
  refine xe_get (v := .int (a 157 71)) hS rfl rfl (by decide) rfl ?_
  refine ex_s (am_nb (m := 2) (pc1 := 7) (ls1 := [(0, .ref 157)]) (st1 := [.int ((a 157 71) + 1), .ref 157]) (H1 := H) (k1 := 0) (n1 := 0) (by with_unfolding_all rfl)) ?_
  obtain ⟨a1, ha1, e⟩ := xw_some e
  refine xe_put (w := ((a 157 71) + 1)) hS rfl rfl (by decide) rfl rfl rfl rfl (fun H2 s3 => ?_)
  have s3 : xS h b T a1 H2 := by rw [ha1]; exact s3
  refine ex_s (am_nb (m := 1) (pc1 := 11) (ls1 := [(0, .ref 157)]) (st1 := [.ref 157]) (H1 := H2) (k1 := 0) (n1 := 0) (by with_unfolding_all rfl)) ?_
  refine xe_get (v := .int (a1 157 74)) s3 rfl rfl (by decide) rfl ?_
  refine ex_s (am_nb (m := 1) (pc1 := 15) (ls1 := [(0, .ref 157)]) (st1 := [.int (-1), .int (a1 157 74)]) (H1 := H2) (k1 := 0) (n1 := 0) (by with_unfolding_all rfl)) ?_
  refine ex_s (st_icmp rfl) ?_
  by_cases c6 : (a1 157 74) = (-1)
  · have e := (if_pos c6).symm.trans e
    refine ex_pc (if_pos c6) ?_
    exact le_E (l1 := [(0, .ref 157)]) ⟨rfl, trivial⟩ rfl (tj366_44  s3 e)
  · have e := (if_neg c6).symm.trans e
    refine ex_pc (if_neg c6) ?_
    refine ex_s (am_nb (m := 1) (pc1 := 19) (ls1 := [(0, .ref 157)]) (st1 := [.ref 157]) (H1 := H2) (k1 := 0) (n1 := 0) (by with_unfolding_all rfl)) ?_
    refine xe_get (v := .int (a1 157 76)) s3 rfl rfl (by decide) rfl ?_
    refine ex_s (am_nb (m := 1) (pc1 := 23) (ls1 := [(0, .ref 157)]) (st1 := [.ref 157, .int (a1 157 76)]) (H1 := H2) (k1 := 0) (n1 := 0) (by with_unfolding_all rfl)) ?_
    refine xe_get (v := .int (a1 157 71)) s3 rfl rfl (by decide) rfl ?_
    refine ex_s (st_icmp rfl) ?_
    by_cases c90 : (a1 157 76) = (a1 157 71)
    · have e := (if_pos c90).symm.trans e
      refine ex_pc (if_pos c90) ?_
      refine ex_s (am_nb (m := 1) (pc1 := 30) (ls1 := [(0, .ref 157)]) (st1 := [.ref 157]) (H1 := H2) (k1 := 0) (n1 := 0) (by with_unfolding_all rfl)) ?_
      refine xe_get (v := .int (a1 157 74)) s3 rfl rfl (by decide) rfl ?_
      refine ex_s (am_nb (m := 3) (pc1 := 36) (ls1 := [(1, .int (a1 157 74)), (0, .ref 157)]) (st1 := [.int (-1), .ref 157]) (H1 := H2) (k1 := 0) (n1 := 0) (by with_unfolding_all rfl)) ?_
      obtain ⟨a91, ha91, e⟩ := xw_some e
      refine xe_put (w := (-1)) s3 rfl rfl (by decide) rfl rfl rfl rfl (fun H92 s93 => ?_)
      have s93 : xS h b T a91 H92 := by rw [ha91]; exact s93
      refine ex_s (am_nb (m := 2) (pc1 := 41) (ls1 := [(1, .int (a1 157 74)), (0, .ref 157)]) (st1 := [.int (a1 157 74), .ref 157]) (H1 := H92) (k1 := 0) (n1 := 0) (by with_unfolding_all rfl)) ?_
      obtain ⟨a97, e96, e⟩ := xb1_some e
      refine ex_cv0 (as := [.int (a1 157 74)]) (rest := []) rfl rfl rfl rfl (s93.obj rfl (by decide)) rfl (by with_unfolding_all rfl) (by with_unfolding_all rfl) (tf367_arrives s93 e96) (fun H94 s95 => ?_)
      exact le_E (l1 := [(0, .ref 157)]) ⟨rfl, trivial⟩ rfl (tj366_44  s95 e)
    · have e := (if_neg c90).symm.trans e
      refine ex_pc (if_neg c90) ?_
      exact le_E (l1 := [(0, .ref 157)]) ⟨rfl, trivial⟩ rfl (tj366_44  s3 e)

set_option maxRecDepth 100000 in
theorem tl365_21 {sL : Nat} {sx : Nat → Int32} {h b N : Nat} {T : List am_C} {R : Option Value} {F : am_H → Prop} {w1 : Int32} {z : Nat × Int32 × xA} (k0 : z.1 = 0 → ∀ H2 : am_H, xS h b T z.2.2 H2 → am_E sL sx am_cs 365 46 [(2, .int z.2.1)] [] H2 R F) : ∀ (n : Nat) (v2 : Int32) (a : xA) (H : am_H), xS h b T a H → l365_21 N h b w1 n v2 a = some z → am_E sL sx am_cs 365 21 [(0, .ref 157), (1, .int w1), (2, .int v2)] [] H R F := by
  intro n
  induction n with
  | zero =>
    intro v2 a H hS e
    cases e
  | succ n ih =>
    intro v2 a H hS e
    unfold l365_21 at e
    refine ex_s (am_nb (m := 2) (pc1 := 23) (ls1 := [(0, .ref 157), (1, .int w1), (2, .int v2)]) (st1 := [.int w1, .int v2]) (H1 := H) (k1 := 0) (n1 := 0) (by with_unfolding_all rfl)) ?_
    refine ex_s (st_icmp rfl) ?_
    by_cases c10 : w1 ≤ v2
    · have e := (if_pos c10).symm.trans e
      refine ex_pc (if_pos c10) ?_
      cases e
      exact le_E (l1 := [(2, .int v2)]) ⟨rfl, trivial⟩ rfl (k0 rfl H hS)
    · have e := (if_neg c10).symm.trans e
      refine ex_pc (if_neg c10) ?_
      refine ex_s (am_nb (m := 1) (pc1 := 27) (ls1 := [(0, .ref 157), (1, .int w1), (2, .int v2)]) (st1 := [.ref 157]) (H1 := H) (k1 := 0) (n1 := 0) (by with_unfolding_all rfl)) ?_
      refine xe_get (v := .int (a 157 71)) hS rfl rfl (by decide) rfl ?_
      refine ex_s (am_nb (m := 1) (pc1 := 33) (ls1 := [(0, .ref 157), (1, .int w1), (2, .int v2)]) (st1 := [.int 1000000000, .int (a 157 71)]) (H1 := H) (k1 := 0) (n1 := 0) (by with_unfolding_all rfl)) ?_
      refine ex_s (st_icmp rfl) ?_
      by_cases c11 : 1000000000 ≤ (a 157 71)
      · have e := (if_pos c11).symm.trans e
        refine ex_pc (if_pos c11) ?_
        cases e
        exact le_E (l1 := [(2, .int v2)]) ⟨rfl, trivial⟩ rfl (k0 rfl H hS)
      · have e := (if_neg c11).symm.trans e
        refine ex_pc (if_neg c11) ?_
        refine ex_s (am_nb (m := 1) (pc1 := 37) (ls1 := [(0, .ref 157), (1, .int w1), (2, .int v2)]) (st1 := [.ref 157]) (H1 := H) (k1 := 0) (n1 := 0) (by with_unfolding_all rfl)) ?_
        obtain ⟨a15, e14, e⟩ := xb1_some e
        refine ex_cv0 (as := []) (rest := []) rfl rfl rfl rfl (hS.obj rfl (by decide)) rfl (by with_unfolding_all rfl) (by with_unfolding_all rfl) (tf366_tick hS e14) (fun H12 s13 => ?_)
        refine ex_s (am_nb (m := 2) (pc1 := 21) (ls1 := [(2, .int (v2 + 1)), (0, .ref 157), (1, .int w1)]) (st1 := []) (H1 := H12) (k1 := 0) (n1 := 0) (by with_unfolding_all rfl)) ?_
        exact le_E (l1 := [(0, .ref 157), (1, .int w1), (2, .int (v2 + 1))]) ⟨rfl, rfl, rfl, trivial⟩ rfl (ih (v2 + 1) a15 H12 s13 e)

set_option maxRecDepth 100000 in
theorem tf365_ticks {sL : Nat} {sx : Nat → Int32} {h b N : Nat} {T : List am_C} {r : Int32} {a' : xA} {x0 : Int32} {a : xA} {H : am_H} (hS : xS h b T a H) (e : f365_ticks N h b x0 a = some (r, a')) : am_E sL sx am_cs 365 0 [(0, .ref 157), (1, .int x0)] [] H (some (.int r)) (fun H1 => xS h b T a' H1) := by
  unfold f365_ticks at e
  refine ex_s (am_nb (m := 2) (pc1 := 2) (ls1 := [(0, .ref 157), (1, .int x0)]) (st1 := [.int 0, .ref 157]) (H1 := H) (k1 := 0) (n1 := 0) (by with_unfolding_all rfl)) ?_
  obtain ⟨a1, ha1, e⟩ := xw_some e
  refine xe_put (w := 0) hS rfl rfl (by decide) rfl rfl rfl rfl (fun H2 s3 => ?_)
  have s3 : xS h b T a1 H2 := by rw [ha1]; exact s3
  refine ex_s (am_nb (m := 2) (pc1 := 7) (ls1 := [(0, .ref 157), (1, .int x0)]) (st1 := [.int 1, .int x0]) (H1 := H2) (k1 := 0) (n1 := 0) (by with_unfolding_all rfl)) ?_
  refine ex_s (st_icmp rfl) ?_
  by_cases c6 : x0 < 1
  · have e := (if_pos c6).symm.trans e
    refine ex_pc (if_pos c6) ?_
    refine ex_s (am_nb (m := 1) (pc1 := 18) (ls1 := [(0, .ref 157), (1, .int x0)]) (st1 := [.int (-1)]) (H1 := H2) (k1 := 0) (n1 := 0) (by with_unfolding_all rfl)) ?_
    cases e
    exact ex_r (st_iret rfl rfl rfl) s3
  · have e := (if_neg c6).symm.trans e
    refine ex_pc (if_neg c6) ?_
    refine ex_s (am_nb (m := 2) (pc1 := 14) (ls1 := [(0, .ref 157), (1, .int x0)]) (st1 := [.int 2000, .int x0]) (H1 := H2) (k1 := 0) (n1 := 0) (by with_unfolding_all rfl)) ?_
    refine ex_s (st_icmp rfl) ?_
    by_cases c7 : x0 ≤ 2000
    · have e := (if_pos c7).symm.trans e
      refine ex_pc (if_pos c7) ?_
      refine ex_s (am_nb (m := 2) (pc1 := 21) (ls1 := [(2, .int 0), (0, .ref 157), (1, .int x0)]) (st1 := []) (H1 := H2) (k1 := 0) (n1 := 0) (by with_unfolding_all rfl)) ?_
      obtain ⟨z16, e17, e⟩ := Option.bind_eq_some_iff.mp e
      refine le_E (l1 := [(0, .ref 157), (1, .int x0), (2, .int 0)]) ⟨rfl, rfl, rfl, trivial⟩ rfl (tl365_21 (z := z16)  (fun uz16_0 Hz160 sz160 => ?_) N 0 a1 H2 s3 e17)
      refine ex_s (am_nb (m := 1) (pc1 := 47) (ls1 := [(2, .int z16.2.1)]) (st1 := [.int z16.2.1]) (H1 := Hz160) (k1 := 0) (n1 := 0) (by with_unfolding_all rfl)) ?_
      cases e
      exact ex_r (st_iret rfl rfl rfl) sz160
    · have e := (if_neg c7).symm.trans e
      refine ex_pc (if_neg c7) ?_
      refine ex_s (am_nb (m := 1) (pc1 := 18) (ls1 := [(0, .ref 157), (1, .int x0)]) (st1 := [.int (-1)]) (H1 := H2) (k1 := 0) (n1 := 0) (by with_unfolding_all rfl)) ?_
      cases e
      exact ex_r (st_iret rfl rfl rfl) s3

set_option maxRecDepth 100000 in
theorem tf411_key {sL : Nat} {sx : Nat → Int32} {h b N : Nat} {T : List am_C} {r : Int32} {a' : xA} {x0 : Int32} {x1 : Int32} {a : xA} {H : am_H} (hS : xS h b T a H) (e : f411_key N h b x0 x1 a = some (r, a')) : am_E sL sx am_cs 411 0 [(0, .ref 157), (1, .int x0), (2, .int x1)] [] H (some (.int r)) (fun H1 => xS h b T a' H1) := by
  unfold f411_key at e
  refine ex_s (am_nb (m := 2) (pc1 := 2) (ls1 := [(0, .ref 157), (1, .int x0), (2, .int x1)]) (st1 := [.int 0, .ref 157]) (H1 := H) (k1 := 0) (n1 := 0) (by with_unfolding_all rfl)) ?_
  obtain ⟨a1, ha1, e⟩ := xw_some e
  refine xe_put (w := 0) hS rfl rfl (by decide) rfl rfl rfl rfl (fun H2 s3 => ?_)
  have s3 : xS h b T a1 H2 := by rw [ha1]; exact s3
  refine ex_s (am_nb (m := 1) (pc1 := 6) (ls1 := [(0, .ref 157), (1, .int x0), (2, .int x1)]) (st1 := [.int x0]) (H1 := H2) (k1 := 0) (n1 := 0) (by with_unfolding_all rfl)) ?_
  obtain ⟨r7, a8, e6, e⟩ := xb2_some e
  refine ex_cs1 (as := [.int x0]) (rest := []) rfl (by decide) rfl rfl (by with_unfolding_all rfl) (by with_unfolding_all rfl) (tf378_isKey s3 e6) (fun H4 s5 => ?_)
  refine ex_s (st_if rfl) ?_
  by_cases c9 : r7 = 0
  · have e := (if_pos c9).symm.trans e
    refine ex_pc (if_pos c9) ?_
    refine ex_s (am_nb (m := 1) (pc1 := 13) (ls1 := [(0, .ref 157), (1, .int x0), (2, .int x1)]) (st1 := [.int 0]) (H1 := H4) (k1 := 0) (n1 := 0) (by with_unfolding_all rfl)) ?_
    cases e
    exact ex_r (st_iret rfl rfl rfl) s5
  · have e := (if_neg c9).symm.trans e
    refine ex_pc (if_neg c9) ?_
    refine ex_s (am_nb (m := 1) (pc1 := 15) (ls1 := [(0, .ref 157), (1, .int x0), (2, .int x1)]) (st1 := [.ref 157]) (H1 := H4) (k1 := 0) (n1 := 0) (by with_unfolding_all rfl)) ?_
    refine xe_get (v := .ref 194) s5 rfl rfl (by decide) rfl ?_
    refine ex_s (am_nb (m := 2) (pc1 := 20) (ls1 := [(0, .ref 157), (1, .int x0), (2, .int x1)]) (st1 := [.int x1, .int x0, .ref 194]) (H1 := H4) (k1 := 0) (n1 := 0) (by with_unfolding_all rfl)) ?_
    obtain ⟨g13, e⟩ := xg_some e
    obtain ⟨a10, ha10, e⟩ := xw_some e
    refine xe_zast s5 rfl rfl g13 (fun H11 s12 => ?_)
    have s12 : xS h b T a10 H11 := by rw [ha10]; exact s12
    refine ex_s (am_nb (m := 1) (pc1 := 22) (ls1 := [(0, .ref 157), (1, .int x0), (2, .int x1)]) (st1 := [.int 1]) (H1 := H11) (k1 := 0) (n1 := 0) (by with_unfolding_all rfl)) ?_
    cases e
    exact ex_r (st_iret rfl rfl rfl) s12

set_option maxRecDepth 100000 in
theorem tj412_29 {sL : Nat} {sx : Nat → Int32} {h b N : Nat} {T : List am_C} {r : Int32} {a' : xA} {a : xA} {H : am_H} (hS : xS h b T a H) (e : j412_29 N h b a = some (r, a')) : am_E sL sx am_cs 412 29 [] [] H (some (.int r)) (fun H1 => xS h b T a' H1) := by
  unfold j412_29 at e
  refine ex_s (am_nb (m := 2) (pc1 := 44) (ls1 := []) (st1 := [.int (-1)]) (H1 := H) (k1 := 0) (n1 := 0) (by with_unfolding_all rfl)) ?_
  cases e
  exact ex_r (st_iret rfl rfl rfl) hS

set_option maxRecDepth 100000 in
theorem tf412_screen {sL : Nat} {sx : Nat → Int32} {h b N : Nat} {T : List am_C} {r : Int32} {a' : xA} {x0 : Int32} {x1 : Int32} {a : xA} {H : am_H} (hS : xS h b T a H) (e : f412_screen N h b x0 x1 a = some (r, a')) : am_E sL sx am_cs 412 0 [(0, .ref 157), (1, .int x0), (2, .int x1)] [] H (some (.int r)) (fun H1 => xS h b T a' H1) := by
  unfold f412_screen at e
  refine ex_s (am_nb (m := 2) (pc1 := 2) (ls1 := [(0, .ref 157), (1, .int x0), (2, .int x1)]) (st1 := [.int 0, .ref 157]) (H1 := H) (k1 := 0) (n1 := 0) (by with_unfolding_all rfl)) ?_
  obtain ⟨a1, ha1, e⟩ := xw_some e
  refine xe_put (w := 0) hS rfl rfl (by decide) rfl rfl rfl rfl (fun H2 s3 => ?_)
  have s3 : xS h b T a1 H2 := by rw [ha1]; exact s3
  refine ex_s (am_nb (m := 1) (pc1 := 6) (ls1 := [(0, .ref 157), (1, .int x0), (2, .int x1)]) (st1 := [.int x0]) (H1 := H2) (k1 := 0) (n1 := 0) (by with_unfolding_all rfl)) ?_
  refine ex_s (st_if rfl) ?_
  by_cases c8 : x0 < 0
  · have e := (if_pos c8).symm.trans e
    refine ex_pc (if_pos c8) ?_
    exact le_E (l1 := []) trivial rfl (tj412_29  s3 e)
  · have e := (if_neg c8).symm.trans e
    refine ex_pc (if_neg c8) ?_
    refine ex_s (am_nb (m := 1) (pc1 := 10) (ls1 := [(0, .ref 157), (1, .int x0), (2, .int x1)]) (st1 := [.int x1]) (H1 := H2) (k1 := 0) (n1 := 0) (by with_unfolding_all rfl)) ?_
    refine ex_s (st_if rfl) ?_
    by_cases c12 : x1 < 0
    · have e := (if_pos c12).symm.trans e
      refine ex_pc (if_pos c12) ?_
      exact le_E (l1 := []) trivial rfl (tj412_29  s3 e)
    · have e := (if_neg c12).symm.trans e
      refine ex_pc (if_neg c12) ?_
      refine ex_s (am_nb (m := 2) (pc1 := 15) (ls1 := [(0, .ref 157), (1, .int x0), (2, .int x1)]) (st1 := [.ref 157, .int x0]) (H1 := H2) (k1 := 0) (n1 := 0) (by with_unfolding_all rfl)) ?_
      refine xe_get (v := .int (a1 157 68)) s3 rfl rfl (by decide) rfl ?_
      refine ex_s (st_icmp rfl) ?_
      by_cases c15 : (a1 157 68) ≤ x0
      · have e := (if_pos c15).symm.trans e
        refine ex_pc (if_pos c15) ?_
        exact le_E (l1 := []) trivial rfl (tj412_29  s3 e)
      · have e := (if_neg c15).symm.trans e
        refine ex_pc (if_neg c15) ?_
        refine ex_s (am_nb (m := 2) (pc1 := 23) (ls1 := [(0, .ref 157), (1, .int x0), (2, .int x1)]) (st1 := [.ref 157, .int x1]) (H1 := H2) (k1 := 0) (n1 := 0) (by with_unfolding_all rfl)) ?_
        refine xe_get (v := .int (a1 157 69)) s3 rfl rfl (by decide) rfl ?_
        refine ex_s (st_icmp rfl) ?_
        by_cases c17 : x1 < (a1 157 69)
        · have e := (if_pos c17).symm.trans e
          refine ex_pc (if_pos c17) ?_
          refine ex_s (am_nb (m := 1) (pc1 := 34) (ls1 := [(0, .ref 157), (1, .int x0), (2, .int x1)]) (st1 := [.ref 157]) (H1 := H2) (k1 := 0) (n1 := 0) (by with_unfolding_all rfl)) ?_
          refine xe_get (v := .ref 190) s3 rfl rfl (by decide) rfl ?_
          refine ex_s (am_nb (m := 5) (pc1 := 43) (ls1 := [(0, .ref 157), (1, .int x0), (2, .int x1)]) (st1 := [.int ((80 * x0) + x1), .ref 190]) (H1 := H2) (k1 := 0) (n1 := 0) (by with_unfolding_all rfl)) ?_
          obtain ⟨g18, e⟩ := xg_some e
          refine xe_iald s3 rfl rfl g18 ?_
          cases e
          exact ex_r (st_iret rfl rfl rfl) s3
        · have e := (if_neg c17).symm.trans e
          refine ex_pc (if_neg c17) ?_
          exact le_E (l1 := []) trivial rfl (tj412_29  s3 e)

set_option maxRecDepth 100000 in
theorem tj413_17 {sL : Nat} {sx : Nat → Int32} {h b N : Nat} {T : List am_C} {r : Int32} {a' : xA} {a : xA} {H : am_H} (hS : xS h b T a H) (e : j413_17 N h b a = some (r, a')) : am_E sL sx am_cs 413 17 [] [] H (some (.int r)) (fun H1 => xS h b T a' H1) := by
  unfold j413_17 at e
  refine ex_s (am_nb (m := 2) (pc1 := 27) (ls1 := []) (st1 := [.int (-1)]) (H1 := H) (k1 := 0) (n1 := 0) (by with_unfolding_all rfl)) ?_
  cases e
  exact ex_r (st_iret rfl rfl rfl) hS

set_option maxRecDepth 100000 in
theorem tf413_width {sL : Nat} {sx : Nat → Int32} {h b N : Nat} {T : List am_C} {r : Int32} {a' : xA} {x0 : Int32} {a : xA} {H : am_H} (hS : xS h b T a H) (e : f413_width N h b x0 a = some (r, a')) : am_E sL sx am_cs 413 0 [(0, .ref 157), (1, .int x0)] [] H (some (.int r)) (fun H1 => xS h b T a' H1) := by
  unfold f413_width at e
  refine ex_s (am_nb (m := 2) (pc1 := 2) (ls1 := [(0, .ref 157), (1, .int x0)]) (st1 := [.int 0, .ref 157]) (H1 := H) (k1 := 0) (n1 := 0) (by with_unfolding_all rfl)) ?_
  obtain ⟨a1, ha1, e⟩ := xw_some e
  refine xe_put (w := 0) hS rfl rfl (by decide) rfl rfl rfl rfl (fun H2 s3 => ?_)
  have s3 : xS h b T a1 H2 := by rw [ha1]; exact s3
  refine ex_s (am_nb (m := 1) (pc1 := 6) (ls1 := [(0, .ref 157), (1, .int x0)]) (st1 := [.int x0]) (H1 := H2) (k1 := 0) (n1 := 0) (by with_unfolding_all rfl)) ?_
  refine ex_s (st_if rfl) ?_
  by_cases c6 : x0 < 0
  · have e := (if_pos c6).symm.trans e
    refine ex_pc (if_pos c6) ?_
    exact le_E (l1 := []) trivial rfl (tj413_17  s3 e)
  · have e := (if_neg c6).symm.trans e
    refine ex_pc (if_neg c6) ?_
    refine ex_s (am_nb (m := 2) (pc1 := 11) (ls1 := [(0, .ref 157), (1, .int x0)]) (st1 := [.ref 157, .int x0]) (H1 := H2) (k1 := 0) (n1 := 0) (by with_unfolding_all rfl)) ?_
    refine xe_get (v := .int (a1 157 68)) s3 rfl rfl (by decide) rfl ?_
    refine ex_s (st_icmp rfl) ?_
    by_cases c8 : x0 < (a1 157 68)
    · have e := (if_pos c8).symm.trans e
      refine ex_pc (if_pos c8) ?_
      refine ex_s (am_nb (m := 1) (pc1 := 22) (ls1 := [(0, .ref 157), (1, .int x0)]) (st1 := [.ref 157]) (H1 := H2) (k1 := 0) (n1 := 0) (by with_unfolding_all rfl)) ?_
      refine xe_get (v := .ref 191) s3 rfl rfl (by decide) rfl ?_
      refine ex_s (am_nb (m := 1) (pc1 := 26) (ls1 := [(0, .ref 157), (1, .int x0)]) (st1 := [.int x0, .ref 191]) (H1 := H2) (k1 := 0) (n1 := 0) (by with_unfolding_all rfl)) ?_
      obtain ⟨g9, e⟩ := xg_some e
      refine xe_iald s3 rfl rfl g9 ?_
      cases e
      exact ex_r (st_iret rfl rfl rfl) s3
    · have e := (if_neg c8).symm.trans e
      refine ex_pc (if_neg c8) ?_
      exact le_E (l1 := []) trivial rfl (tj413_17  s3 e)

set_option maxRecDepth 100000 in
theorem tf414_state {sL : Nat} {sx : Nat → Int32} {h b N : Nat} {T : List am_C} {r : Int32} {a' : xA} {x0 : Int32} {a : xA} {H : am_H} (hS : xS h b T a H) (e : f414_state N h b x0 a = some (r, a')) : am_E sL sx am_cs 414 0 [(0, .ref 157), (1, .int x0)] [] H (some (.int r)) (fun H1 => xS h b T a' H1) := by
  unfold f414_state at e
  refine ex_s (am_nb (m := 2) (pc1 := 2) (ls1 := [(0, .ref 157), (1, .int x0)]) (st1 := [.int 0, .ref 157]) (H1 := H) (k1 := 0) (n1 := 0) (by with_unfolding_all rfl)) ?_
  obtain ⟨a1, ha1, e⟩ := xw_some e
  refine xe_put (w := 0) hS rfl rfl (by decide) rfl rfl rfl rfl (fun H2 s3 => ?_)
  have s3 : xS h b T a1 H2 := by rw [ha1]; exact s3
  refine ex_s (am_nb (m := 1) (pc1 := 6) (ls1 := [(0, .ref 157), (1, .int x0)]) (st1 := [.int x0]) (H1 := H2) (k1 := 0) (n1 := 0) (by with_unfolding_all rfl)) ?_
  refine ex_s (st_tsw rfl) ?_
  by_cases c4 : x0 = 0
  · have e := (if_pos c4).symm.trans e
    refine ex_pc (pc1 := 96) (by rw [c4]; with_unfolding_all rfl) ?_
    refine ex_s (am_nb (m := 1) (pc1 := 97) (ls1 := [(0, .ref 157), (1, .int x0)]) (st1 := [.ref 157]) (H1 := H2) (k1 := 0) (n1 := 0) (by with_unfolding_all rfl)) ?_
    refine xe_get (v := .int (a1 157 93)) s3 rfl rfl (by decide) rfl ?_
    cases e
    exact ex_r (st_iret rfl rfl rfl) s3
  · have e := (if_neg c4).symm.trans e
    by_cases c5 : x0 = 1
    · have e := (if_pos c5).symm.trans e
      refine ex_pc (pc1 := 101) (by rw [c5]; with_unfolding_all rfl) ?_
      refine ex_s (am_nb (m := 1) (pc1 := 102) (ls1 := [(0, .ref 157), (1, .int x0)]) (st1 := [.ref 157]) (H1 := H2) (k1 := 0) (n1 := 0) (by with_unfolding_all rfl)) ?_
      refine xe_get (v := .int (a1 157 94)) s3 rfl rfl (by decide) rfl ?_
      cases e
      exact ex_r (st_iret rfl rfl rfl) s3
    · have e := (if_neg c5).symm.trans e
      by_cases c6 : x0 = 2
      · have e := (if_pos c6).symm.trans e
        refine ex_pc (pc1 := 106) (by rw [c6]; with_unfolding_all rfl) ?_
        refine ex_s (am_nb (m := 1) (pc1 := 107) (ls1 := [(0, .ref 157), (1, .int x0)]) (st1 := [.ref 157]) (H1 := H2) (k1 := 0) (n1 := 0) (by with_unfolding_all rfl)) ?_
        refine xe_get (v := .int (a1 157 108)) s3 rfl rfl (by decide) rfl ?_
        have kk : am_E sL sx am_cs 414 118 [(0, .ref 157), (1, .int x0)] [.int (if (a1 157 108) = 0 then (0 : Int32) else (1 : Int32))] H2 (some (.int r)) (fun H1 => xS h b T a' H1) := by
          cases e
          exact ex_r (st_iret rfl rfl rfl) s3
        refine ex_s (st_if rfl) ?_
        by_cases c7 : (a1 157 108) = 0
        · refine ex_pc (if_pos c7) ?_
          refine ex_s (am_nb (m := 1) (pc1 := 118) (ls1 := [(0, .ref 157), (1, .int x0)]) (st1 := [.int 0]) (H1 := H2) (k1 := 0) (n1 := 0) (by with_unfolding_all rfl)) ?_
          rw [if_pos c7] at kk
          exact kk
        · refine ex_pc (if_neg c7) ?_
          refine ex_s (am_nb (m := 2) (pc1 := 118) (ls1 := [(0, .ref 157), (1, .int x0)]) (st1 := [.int 1]) (H1 := H2) (k1 := 0) (n1 := 0) (by with_unfolding_all rfl)) ?_
          rw [if_neg c7] at kk
          exact kk
      · have e := (if_neg c6).symm.trans e
        by_cases c8 : x0 = 3
        · have e := (if_pos c8).symm.trans e
          refine ex_pc (pc1 := 119) (by rw [c8]; with_unfolding_all rfl) ?_
          refine ex_s (am_nb (m := 1) (pc1 := 120) (ls1 := [(0, .ref 157), (1, .int x0)]) (st1 := [.ref 157]) (H1 := H2) (k1 := 0) (n1 := 0) (by with_unfolding_all rfl)) ?_
          refine xe_get (v := .int (a1 157 95)) s3 rfl rfl (by decide) rfl ?_
          cases e
          exact ex_r (st_iret rfl rfl rfl) s3
        · have e := (if_neg c8).symm.trans e
          by_cases c9 : x0 = 4
          · have e := (if_pos c9).symm.trans e
            refine ex_pc (pc1 := 124) (by rw [c9]; with_unfolding_all rfl) ?_
            refine ex_s (am_nb (m := 1) (pc1 := 125) (ls1 := [(0, .ref 157), (1, .int x0)]) (st1 := [.ref 157]) (H1 := H2) (k1 := 0) (n1 := 0) (by with_unfolding_all rfl)) ?_
            refine xe_get (v := .int (a1 157 96)) s3 rfl rfl (by decide) rfl ?_
            cases e
            exact ex_r (st_iret rfl rfl rfl) s3
          · have e := (if_neg c9).symm.trans e
            by_cases c10 : x0 = 5
            · have e := (if_pos c10).symm.trans e
              refine ex_pc (pc1 := 129) (by rw [c10]; with_unfolding_all rfl) ?_
              refine ex_s (am_nb (m := 1) (pc1 := 130) (ls1 := [(0, .ref 157), (1, .int x0)]) (st1 := [.ref 157]) (H1 := H2) (k1 := 0) (n1 := 0) (by with_unfolding_all rfl)) ?_
              refine xe_get (v := .int (a1 157 97)) s3 rfl rfl (by decide) rfl ?_
              cases e
              exact ex_r (st_iret rfl rfl rfl) s3
            · have e := (if_neg c10).symm.trans e
              by_cases c11 : x0 = 6
              · have e := (if_pos c11).symm.trans e
                refine ex_pc (pc1 := 134) (by rw [c11]; with_unfolding_all rfl) ?_
                refine ex_s (am_nb (m := 1) (pc1 := 135) (ls1 := [(0, .ref 157), (1, .int x0)]) (st1 := [.ref 157]) (H1 := H2) (k1 := 0) (n1 := 0) (by with_unfolding_all rfl)) ?_
                refine xe_get (v := .int (a1 157 98)) s3 rfl rfl (by decide) rfl ?_
                cases e
                exact ex_r (st_iret rfl rfl rfl) s3
              · have e := (if_neg c11).symm.trans e
                by_cases c12 : x0 = 7
                · have e := (if_pos c12).symm.trans e
                  refine ex_pc (pc1 := 139) (by rw [c12]; with_unfolding_all rfl) ?_
                  refine ex_s (am_nb (m := 1) (pc1 := 140) (ls1 := [(0, .ref 157), (1, .int x0)]) (st1 := [.ref 157]) (H1 := H2) (k1 := 0) (n1 := 0) (by with_unfolding_all rfl)) ?_
                  refine xe_get (v := .int (a1 157 99)) s3 rfl rfl (by decide) rfl ?_
                  cases e
                  exact ex_r (st_iret rfl rfl rfl) s3
                · have e := (if_neg c12).symm.trans e
                  by_cases c13 : x0 = 8
                  · have e := (if_pos c13).symm.trans e
                    refine ex_pc (pc1 := 144) (by rw [c13]; with_unfolding_all rfl) ?_
                    refine ex_s (am_nb (m := 1) (pc1 := 145) (ls1 := [(0, .ref 157), (1, .int x0)]) (st1 := [.ref 157]) (H1 := H2) (k1 := 0) (n1 := 0) (by with_unfolding_all rfl)) ?_
                    refine xe_get (v := .int (a1 157 100)) s3 rfl rfl (by decide) rfl ?_
                    cases e
                    exact ex_r (st_iret rfl rfl rfl) s3
                  · have e := (if_neg c13).symm.trans e
                    by_cases c14 : x0 = 9
                    · have e := (if_pos c14).symm.trans e
                      refine ex_pc (pc1 := 149) (by rw [c14]; with_unfolding_all rfl) ?_
                      refine ex_s (am_nb (m := 1) (pc1 := 150) (ls1 := [(0, .ref 157), (1, .int x0)]) (st1 := [.ref 157]) (H1 := H2) (k1 := 0) (n1 := 0) (by with_unfolding_all rfl)) ?_
                      refine xe_get (v := .int (a1 157 79)) s3 rfl rfl (by decide) rfl ?_
                      cases e
                      exact ex_r (st_iret rfl rfl rfl) s3
                    · have e := (if_neg c14).symm.trans e
                      by_cases c15 : x0 = 10
                      · have e := (if_pos c15).symm.trans e
                        refine ex_pc (pc1 := 154) (by rw [c15]; with_unfolding_all rfl) ?_
                        refine ex_s (am_nb (m := 1) (pc1 := 155) (ls1 := [(0, .ref 157), (1, .int x0)]) (st1 := [.ref 157]) (H1 := H2) (k1 := 0) (n1 := 0) (by with_unfolding_all rfl)) ?_
                        refine xe_get (v := .int (a1 157 81)) s3 rfl rfl (by decide) rfl ?_
                        cases e
                        exact ex_r (st_iret rfl rfl rfl) s3
                      · have e := (if_neg c15).symm.trans e
                        by_cases c16 : x0 = 11
                        · have e := (if_pos c16).symm.trans e
                          refine ex_pc (pc1 := 159) (by rw [c16]; with_unfolding_all rfl) ?_
                          refine ex_s (am_nb (m := 1) (pc1 := 160) (ls1 := [(0, .ref 157), (1, .int x0)]) (st1 := [.ref 157]) (H1 := H2) (k1 := 0) (n1 := 0) (by with_unfolding_all rfl)) ?_
                          refine xe_get (v := .int (a1 157 84)) s3 rfl rfl (by decide) rfl ?_
                          have kk : am_E sL sx am_cs 414 171 [(0, .ref 157), (1, .int x0)] [.int (if (a1 157 84) = 0 then (0 : Int32) else (1 : Int32))] H2 (some (.int r)) (fun H1 => xS h b T a' H1) := by
                            cases e
                            exact ex_r (st_iret rfl rfl rfl) s3
                          refine ex_s (st_if rfl) ?_
                          by_cases c17 : (a1 157 84) = 0
                          · refine ex_pc (if_pos c17) ?_
                            refine ex_s (am_nb (m := 1) (pc1 := 171) (ls1 := [(0, .ref 157), (1, .int x0)]) (st1 := [.int 0]) (H1 := H2) (k1 := 0) (n1 := 0) (by with_unfolding_all rfl)) ?_
                            rw [if_pos c17] at kk
                            exact kk
                          · refine ex_pc (if_neg c17) ?_
                            refine ex_s (am_nb (m := 2) (pc1 := 171) (ls1 := [(0, .ref 157), (1, .int x0)]) (st1 := [.int 1]) (H1 := H2) (k1 := 0) (n1 := 0) (by with_unfolding_all rfl)) ?_
                            rw [if_neg c17] at kk
                            exact kk
                        · have e := (if_neg c16).symm.trans e
                          by_cases c18 : x0 = 12
                          · have e := (if_pos c18).symm.trans e
                            refine ex_pc (pc1 := 172) (by rw [c18]; with_unfolding_all rfl) ?_
                            refine ex_s (am_nb (m := 1) (pc1 := 173) (ls1 := [(0, .ref 157), (1, .int x0)]) (st1 := [.ref 157]) (H1 := H2) (k1 := 0) (n1 := 0) (by with_unfolding_all rfl)) ?_
                            refine xe_get (v := .int (a1 157 85)) s3 rfl rfl (by decide) rfl ?_
                            have kk : am_E sL sx am_cs 414 184 [(0, .ref 157), (1, .int x0)] [.int (if (a1 157 85) = 0 then (0 : Int32) else (1 : Int32))] H2 (some (.int r)) (fun H1 => xS h b T a' H1) := by
                              cases e
                              exact ex_r (st_iret rfl rfl rfl) s3
                            refine ex_s (st_if rfl) ?_
                            by_cases c19 : (a1 157 85) = 0
                            · refine ex_pc (if_pos c19) ?_
                              refine ex_s (am_nb (m := 1) (pc1 := 184) (ls1 := [(0, .ref 157), (1, .int x0)]) (st1 := [.int 0]) (H1 := H2) (k1 := 0) (n1 := 0) (by with_unfolding_all rfl)) ?_
                              rw [if_pos c19] at kk
                              exact kk
                            · refine ex_pc (if_neg c19) ?_
                              refine ex_s (am_nb (m := 2) (pc1 := 184) (ls1 := [(0, .ref 157), (1, .int x0)]) (st1 := [.int 1]) (H1 := H2) (k1 := 0) (n1 := 0) (by with_unfolding_all rfl)) ?_
                              rw [if_neg c19] at kk
                              exact kk
                          · have e := (if_neg c18).symm.trans e
                            by_cases c20 : x0 = 13
                            · have e := (if_pos c20).symm.trans e
                              refine ex_pc (pc1 := 185) (by rw [c20]; with_unfolding_all rfl) ?_
                              refine ex_s (am_nb (m := 1) (pc1 := 186) (ls1 := [(0, .ref 157), (1, .int x0)]) (st1 := [.ref 157]) (H1 := H2) (k1 := 0) (n1 := 0) (by with_unfolding_all rfl)) ?_
                              refine xe_get (v := .int (a1 157 83)) s3 rfl rfl (by decide) rfl ?_
                              have kk : am_E sL sx am_cs 414 197 [(0, .ref 157), (1, .int x0)] [.int (if (a1 157 83) = 0 then (0 : Int32) else (1 : Int32))] H2 (some (.int r)) (fun H1 => xS h b T a' H1) := by
                                refine ex_s (am_nb (m := 1) (pc1 := 198) (ls1 := [(0, .ref 157), (1, .int x0)]) (st1 := [.ref 157, .int (if (a1 157 83) = 0 then (0 : Int32) else (1 : Int32))]) (H1 := H2) (k1 := 0) (n1 := 0) (by with_unfolding_all rfl)) ?_
                                refine xe_get (v := .int (a1 157 84)) s3 rfl rfl (by decide) rfl ?_
                                have kk : am_E sL sx am_cs 414 209 [(0, .ref 157), (1, .int x0)] [.int (if (a1 157 84) = 0 then (0 : Int32) else (2 : Int32)), .int (if (a1 157 83) = 0 then (0 : Int32) else (1 : Int32))] H2 (some (.int r)) (fun H1 => xS h b T a' H1) := by
                                  refine ex_s (am_nb (m := 1) (pc1 := 210) (ls1 := [(0, .ref 157), (1, .int x0)]) (st1 := [.int ((if (a1 157 83) = 0 then (0 : Int32) else (1 : Int32)) + (if (a1 157 84) = 0 then (0 : Int32) else (2 : Int32)))]) (H1 := H2) (k1 := 0) (n1 := 0) (by with_unfolding_all rfl)) ?_
                                  cases e
                                  exact ex_r (st_iret rfl rfl rfl) s3
                                refine ex_s (st_if rfl) ?_
                                by_cases c22 : (a1 157 84) = 0
                                · refine ex_pc (if_pos c22) ?_
                                  refine ex_s (am_nb (m := 1) (pc1 := 209) (ls1 := [(0, .ref 157), (1, .int x0)]) (st1 := [.int 0, .int (if (a1 157 83) = 0 then (0 : Int32) else (1 : Int32))]) (H1 := H2) (k1 := 0) (n1 := 0) (by with_unfolding_all rfl)) ?_
                                  rw [if_pos c22] at kk
                                  exact kk
                                · refine ex_pc (if_neg c22) ?_
                                  refine ex_s (am_nb (m := 2) (pc1 := 209) (ls1 := [(0, .ref 157), (1, .int x0)]) (st1 := [.int 2, .int (if (a1 157 83) = 0 then (0 : Int32) else (1 : Int32))]) (H1 := H2) (k1 := 0) (n1 := 0) (by with_unfolding_all rfl)) ?_
                                  rw [if_neg c22] at kk
                                  exact kk
                              refine ex_s (st_if rfl) ?_
                              by_cases c21 : (a1 157 83) = 0
                              · refine ex_pc (if_pos c21) ?_
                                refine ex_s (am_nb (m := 1) (pc1 := 197) (ls1 := [(0, .ref 157), (1, .int x0)]) (st1 := [.int 0]) (H1 := H2) (k1 := 0) (n1 := 0) (by with_unfolding_all rfl)) ?_
                                rw [if_pos c21] at kk
                                exact kk
                              · refine ex_pc (if_neg c21) ?_
                                refine ex_s (am_nb (m := 2) (pc1 := 197) (ls1 := [(0, .ref 157), (1, .int x0)]) (st1 := [.int 1]) (H1 := H2) (k1 := 0) (n1 := 0) (by with_unfolding_all rfl)) ?_
                                rw [if_neg c21] at kk
                                exact kk
                            · have e := (if_neg c20).symm.trans e
                              by_cases c23 : x0 = 14
                              · have e := (if_pos c23).symm.trans e
                                refine ex_pc (pc1 := 211) (by rw [c23]; with_unfolding_all rfl) ?_
                                refine ex_s (am_nb (m := 1) (pc1 := 212) (ls1 := [(0, .ref 157), (1, .int x0)]) (st1 := [.ref 157]) (H1 := H2) (k1 := 0) (n1 := 0) (by with_unfolding_all rfl)) ?_
                                refine xe_get (v := .int (a1 157 87)) s3 rfl rfl (by decide) rfl ?_
                                cases e
                                exact ex_r (st_iret rfl rfl rfl) s3
                              · have e := (if_neg c23).symm.trans e
                                by_cases c24 : x0 = 15
                                · have e := (if_pos c24).symm.trans e
                                  refine ex_pc (pc1 := 216) (by rw [c24]; with_unfolding_all rfl) ?_
                                  refine ex_s (am_nb (m := 1) (pc1 := 217) (ls1 := [(0, .ref 157), (1, .int x0)]) (st1 := [.ref 157]) (H1 := H2) (k1 := 0) (n1 := 0) (by with_unfolding_all rfl)) ?_
                                  refine xe_get (v := .int (a1 157 101)) s3 rfl rfl (by decide) rfl ?_
                                  cases e
                                  exact ex_r (st_iret rfl rfl rfl) s3
                                · have e := (if_neg c24).symm.trans e
                                  by_cases c25 : x0 = 16
                                  · have e := (if_pos c25).symm.trans e
                                    refine ex_pc (pc1 := 221) (by rw [c25]; with_unfolding_all rfl) ?_
                                    refine ex_s (am_nb (m := 1) (pc1 := 222) (ls1 := [(0, .ref 157), (1, .int x0)]) (st1 := [.ref 157]) (H1 := H2) (k1 := 0) (n1 := 0) (by with_unfolding_all rfl)) ?_
                                    refine xe_get (v := .int (a1 157 80)) s3 rfl rfl (by decide) rfl ?_
                                    cases e
                                    exact ex_r (st_iret rfl rfl rfl) s3
                                  · have e := (if_neg c25).symm.trans e
                                    by_cases c26 : x0 = 17
                                    · have e := (if_pos c26).symm.trans e
                                      refine ex_pc (pc1 := 226) (by rw [c26]; with_unfolding_all rfl) ?_
                                      refine ex_s (am_nb (m := 1) (pc1 := 227) (ls1 := [(0, .ref 157), (1, .int x0)]) (st1 := [.ref 157]) (H1 := H2) (k1 := 0) (n1 := 0) (by with_unfolding_all rfl)) ?_
                                      refine xe_get (v := .int (a1 157 103)) s3 rfl rfl (by decide) rfl ?_
                                      cases e
                                      exact ex_r (st_iret rfl rfl rfl) s3
                                    · have e := (if_neg c26).symm.trans e
                                      by_cases c27 : x0 = 18
                                      · have e := (if_pos c27).symm.trans e
                                        refine ex_pc (pc1 := 231) (by rw [c27]; with_unfolding_all rfl) ?_
                                        refine ex_s (am_nb (m := 1) (pc1 := 232) (ls1 := [(0, .ref 157), (1, .int x0)]) (st1 := [.ref 157]) (H1 := H2) (k1 := 0) (n1 := 0) (by with_unfolding_all rfl)) ?_
                                        refine xe_get (v := .int (a1 157 120)) s3 rfl rfl (by decide) rfl ?_
                                        cases e
                                        exact ex_r (st_iret rfl rfl rfl) s3
                                      · have e := (if_neg c27).symm.trans e
                                        refine ex_pc (pc1 := 236) (am_sw_n (sw_c (Or.inl c4) (sw_c (Or.inl c5) (sw_c (Or.inl c6) (sw_c (Or.inl c8) (sw_c (Or.inl c9) (sw_c (Or.inl c10) (sw_c (Or.inl c11) (sw_c (Or.inl c12) (sw_c (Or.inl c13) (sw_c (Or.inl c14) (sw_c (Or.inl c15) (sw_c (Or.inl c16) (sw_c (Or.inl c18) (sw_c (Or.inl c20) (sw_c (Or.inl c23) (sw_c (Or.inl c24) (sw_c (Or.inl c25) (sw_c (Or.inl c26) (sw_c (Or.inl c27) sw_o)))))))))))))))))))) ?_
                                        refine ex_s (am_nb (m := 1) (pc1 := 237) (ls1 := [(0, .ref 157), (1, .int x0)]) (st1 := [.int (-1)]) (H1 := H2) (k1 := 0) (n1 := 0) (by with_unfolding_all rfl)) ?_
                                        cases e
                                        exact ex_r (st_iret rfl rfl rfl) s3
