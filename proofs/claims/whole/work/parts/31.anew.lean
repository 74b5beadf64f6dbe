/-! The loops of the reference's anew. -/
section ANEW
variable {sL : Nat} {sx : Nat → Int32} {cs : Nat → Nat → Option Int32} {H : am_H} {k n : Nat}
theorem st_pc {y pc pc2 : Nat} {ls : am_L} {st : List Value} (e : pc = pc2) : aX sL sx cs y pc ls st H k n = aX sL sx cs y pc2 ls st H k n := by rw [e]
theorem ma_loop {o c : Nat} {vs : List Value} {f : Nat → Int32} (ho : H[o]? = some (.inr (12, vs))) (h1 : vs[90]? = some (.ref c)) (hc : H[c]? = some (.inl (.int, (1920, .inl f)))) (hne : c ≠ o) : ∀ (r j : Nat), j + r = 1920 →
    aX sL sx cs 361 2 [(1, .int (Int32.ofNat j)), (0, .ref o)] [] (H.set c (.inl (.int, (1920, .inl (am_fll f 0 j 32))))) k n = aX sL sx cs 361 23 [(1, .int (Int32.ofNat 1920)), (0, .ref o)] [] (H.set c (.inl (.int, (1920, .inl (am_fll f 0 1920 32))))) k n
  | 0, j, hj => by
    have e : j = 1920 := by omega
    subst e
    refine (am_nb (m := 2) (pc1 := 6) (ls1 := [(1, .int (Int32.ofNat 1920)), (0, .ref o)]) (st1 := [.int (Int32.ofNat 1920), .int (Int32.ofNat 1920)]) (H1 := H.set c (.inl (.int, (1920, .inl (am_fll f 0 1920 32))))) (k1 := k) (n1 := n) (by with_unfolding_all rfl)).trans ?_
    refine (st_icmp rfl).trans ?_
    exact st_pc (by decide)
  | r + 1, j, hj => by
    have hlt : ¬ Int32.ofNat 1920 ≤ Int32.ofNat j := fun h => by
      have := (Int32.ofNat_le_ofNat (by omega) (by omega)).mp h
      omega
    refine (am_nb (m := 2) (pc1 := 6) (ls1 := [(1, .int (Int32.ofNat j)), (0, .ref o)]) (st1 := [.int (Int32.ofNat 1920), .int (Int32.ofNat j)]) (H1 := H.set c (.inl (.int, (1920, .inl (am_fll f 0 j 32))))) (k1 := k) (n1 := n) (by with_unfolding_all rfl)).trans ?_
    refine (st_icmp rfl).trans ?_
    refine (st_pc (pc2 := 9) (if_neg hlt)).trans ?_
    refine (am_nb (m := 1) (pc1 := 10) (ls1 := [(1, .int (Int32.ofNat j)), (0, .ref o)]) (st1 := [.ref o]) (H1 := H.set c (.inl (.int, (1920, .inl (am_fll f 0 j 32))))) (k1 := k) (n1 := n) (by with_unfolding_all rfl)).trans ?_
    refine (st_get rfl (am_gn hne ho) h1).trans ?_
    refine (am_nb (m := 2) (pc1 := 16) (ls1 := [(1, .int (Int32.ofNat j)), (0, .ref o)]) (st1 := [.int 32, .int (Int32.ofNat j), .ref c]) (H1 := H.set c (.inl (.int, (1920, .inl (am_fll f 0 j 32))))) (k1 := k) (n1 := n) (by with_unfolding_all rfl)).trans ?_
    refine (st_iast rfl (am_gs hc) (within rfl (by omega) (by omega))).trans ?_
    refine (am_nb (m := 2) (pc1 := 2) (ls1 := [(1, .int (Int32.ofNat j + 1)), (0, .ref o)]) (st1 := []) (H1 := _) (k1 := k) (n1 := n) (by with_unfolding_all rfl)).trans ?_
    rw [List.set_set, clamp_of rfl (by omega : j < 2 ^ 31), am_fll_up f (Nat.zero_le j) 32, ← inc_ofNat]
    exact ma_loop ho h1 hc hne r (j + 1) (by omega)
theorem ma_ok {o c : Nat} {vs : List Value} {f : Nat → Int32} (ho : H[o]? = some (.inr (12, vs))) (h1 : vs[90]? = some (.ref c)) (hc : H[c]? = some (.inl (.int, (1920, .inl f)))) (hne : c ≠ o) :
    aX sL sx cs 361 2 [(1, .int 0), (0, .ref o)] [] H k n = aX sL sx cs 361 23 [(1, .int (Int32.ofNat 1920)), (0, .ref o)] [] (H.set c (.inl (.int, (1920, .inl (am_fll f 0 1920 32))))) k n := by
  have h := ma_loop (sL := sL) (sx := sx) (cs := cs) (k := k) (n := n) ho h1 hc hne 1920 0 (by omega)
  rw [am_fll_id, am_set_id hc] at h
  exact h
theorem mb_loop {o c : Nat} {vs : List Value} {f : Nat → Int32} (ho : H[o]? = some (.inr (12, vs))) (h1 : vs[91]? = some (.ref c)) (hc : H[c]? = some (.inl (.int, (24, .inl f)))) (hne : c ≠ o) : ∀ (r j : Nat), j + r = 24 →
    aX sL sx cs 361 25 [(1, .int (Int32.ofNat j)), (0, .ref o)] [] (H.set c (.inl (.int, (24, .inl (am_fll f 0 j 0))))) k n = aX sL sx cs 361 44 [(1, .int (Int32.ofNat 24)), (0, .ref o)] [] (H.set c (.inl (.int, (24, .inl (am_fll f 0 24 0))))) k n
  | 0, j, hj => by
    have e : j = 24 := by omega
    subst e
    refine (am_nb (m := 2) (pc1 := 28) (ls1 := [(1, .int (Int32.ofNat 24)), (0, .ref o)]) (st1 := [.int (Int32.ofNat 24), .int (Int32.ofNat 24)]) (H1 := H.set c (.inl (.int, (24, .inl (am_fll f 0 24 0))))) (k1 := k) (n1 := n) (by with_unfolding_all rfl)).trans ?_
    refine (st_icmp rfl).trans ?_
    exact st_pc (by decide)
  | r + 1, j, hj => by
    have hlt : ¬ Int32.ofNat 24 ≤ Int32.ofNat j := fun h => by
      have := (Int32.ofNat_le_ofNat (by omega) (by omega)).mp h
      omega
    refine (am_nb (m := 2) (pc1 := 28) (ls1 := [(1, .int (Int32.ofNat j)), (0, .ref o)]) (st1 := [.int (Int32.ofNat 24), .int (Int32.ofNat j)]) (H1 := H.set c (.inl (.int, (24, .inl (am_fll f 0 j 0))))) (k1 := k) (n1 := n) (by with_unfolding_all rfl)).trans ?_
    refine (st_icmp rfl).trans ?_
    refine (st_pc (pc2 := 31) (if_neg hlt)).trans ?_
    refine (am_nb (m := 1) (pc1 := 32) (ls1 := [(1, .int (Int32.ofNat j)), (0, .ref o)]) (st1 := [.ref o]) (H1 := H.set c (.inl (.int, (24, .inl (am_fll f 0 j 0))))) (k1 := k) (n1 := n) (by with_unfolding_all rfl)).trans ?_
    refine (st_get rfl (am_gn hne ho) h1).trans ?_
    refine (am_nb (m := 2) (pc1 := 37) (ls1 := [(1, .int (Int32.ofNat j)), (0, .ref o)]) (st1 := [.int 0, .int (Int32.ofNat j), .ref c]) (H1 := H.set c (.inl (.int, (24, .inl (am_fll f 0 j 0))))) (k1 := k) (n1 := n) (by with_unfolding_all rfl)).trans ?_
    refine (st_iast rfl (am_gs hc) (within rfl (by omega) (by omega))).trans ?_
    refine (am_nb (m := 2) (pc1 := 25) (ls1 := [(1, .int (Int32.ofNat j + 1)), (0, .ref o)]) (st1 := []) (H1 := _) (k1 := k) (n1 := n) (by with_unfolding_all rfl)).trans ?_
    rw [List.set_set, clamp_of rfl (by omega : j < 2 ^ 31), am_fll_up f (Nat.zero_le j) 0, ← inc_ofNat]
    exact mb_loop ho h1 hc hne r (j + 1) (by omega)
theorem mb_ok {o c : Nat} {vs : List Value} {f : Nat → Int32} (ho : H[o]? = some (.inr (12, vs))) (h1 : vs[91]? = some (.ref c)) (hc : H[c]? = some (.inl (.int, (24, .inl f)))) (hne : c ≠ o) :
    aX sL sx cs 361 25 [(1, .int 0), (0, .ref o)] [] H k n = aX sL sx cs 361 44 [(1, .int (Int32.ofNat 24)), (0, .ref o)] [] (H.set c (.inl (.int, (24, .inl (am_fll f 0 24 0))))) k n := by
  have h := mb_loop (sL := sL) (sx := sx) (cs := cs) (k := k) (n := n) ho h1 hc hne 24 0 (by omega)
  rw [am_fll_id, am_set_id hc] at h
  exact h
theorem mc_one {o c j : Nat} {vs : List Value} {f : Nat → Int32} (ho : H[o]? = some (.inr (12, vs))) (h4 : vs[92]? = some (.ref c)) (hc : H[c]? = some (.inl (.boolean, (80, .inl f)))) (hj : j < 80) :
    aX sL sx cs 361 46 [(1, .int (Int32.ofNat j)), (0, .ref o)] [] H k n = aX sL sx cs 361 46 [(1, .int (Int32.ofNat j + 1)), (0, .ref o)] [] (H.set c (.inl (.boolean, (80, .inl (upd f j (am_stv (Int32.ofNat j))))))) k n := by
  have hlt : ¬ Int32.ofNat 80 ≤ Int32.ofNat j := fun h => by
    have := (Int32.ofNat_le_ofNat (by omega) (by omega)).mp h
    omega
  have hin : ¬ (Int32.ofNat j < 0 ∨ 80 ≤ (Int32.ofNat j).toNatClampNeg) := within rfl hj (by omega)
  refine (am_nb (m := 2) (pc1 := 49) (ls1 := [(1, .int (Int32.ofNat j)), (0, .ref o)]) (st1 := [.int (Int32.ofNat 80), .int (Int32.ofNat j)]) (H1 := H) (k1 := k) (n1 := n) (by with_unfolding_all rfl)).trans ?_
  refine (st_icmp rfl).trans ?_
  refine (st_pc (pc2 := 52) (if_neg hlt)).trans ?_
  refine (am_nb (m := 1) (pc1 := 53) (ls1 := [(1, .int (Int32.ofNat j)), (0, .ref o)]) (st1 := [.ref o]) (H1 := H) (k1 := k) (n1 := n) (by with_unfolding_all rfl)).trans ?_
  refine (st_get rfl ho h4).trans ?_
  refine (am_nb (m := 2) (pc1 := 58) (ls1 := [(1, .int (Int32.ofNat j)), (0, .ref o)]) (st1 := [.int (Int32.ofNat j), .int (Int32.ofNat j), .ref c]) (H1 := H) (k1 := k) (n1 := n) (by with_unfolding_all rfl)).trans ?_
  refine (st_if rfl).trans ?_
  have hst : ∀ (w : Int32) (pc0 : Nat), aX sL sx cs 361 73 [(1, .int (Int32.ofNat j)), (0, .ref o)] [.int w, .int (Int32.ofNat j), .ref c] H k n = aX sL sx cs 361 46 [(1, .int (Int32.ofNat j + 1)), (0, .ref o)] [] (H.set c (.inl (.boolean, (80, .inl (upd f j (vp_nar .boolean w)))))) k n := fun w _ => by
    refine (st_zast rfl hc hin).trans ?_
    rw [clamp_of rfl (by omega : j < 2 ^ 31)]
    exact am_nb (m := 2) (by with_unfolding_all rfl)
  unfold am_stv
  by_cases c1 : Int32.ofNat j ≤ 0
  · rw [if_pos c1, show am_br ClassFile.Cond.le (Int32.ofNat j) 0 72 61 = 72 from if_pos c1]
    refine (am_nb (m := 1) (pc1 := 73) (ls1 := [(1, .int (Int32.ofNat j)), (0, .ref o)]) (st1 := [.int 0, .int (Int32.ofNat j), .ref c]) (H1 := H) (k1 := k) (n1 := n) (by with_unfolding_all rfl)).trans ?_
    exact hst 0 0
  · rw [if_neg c1, show am_br ClassFile.Cond.le (Int32.ofNat j) 0 72 61 = 61 from if_neg c1]
    refine (am_nb (m := 3) (pc1 := 65) (ls1 := [(1, .int (Int32.ofNat j)), (0, .ref o)]) (st1 := [.int (Int32.ofNat j - Int32.ofNat j / 8 * 8), .int (Int32.ofNat j), .ref c]) (H1 := H) (k1 := k) (n1 := n) (by with_unfolding_all rfl)).trans ?_
    refine (st_if rfl).trans ?_
    by_cases c2 : Int32.ofNat j - Int32.ofNat j / 8 * 8 = 0
    · rw [if_pos c2, show am_br ClassFile.Cond.ne (Int32.ofNat j - Int32.ofNat j / 8 * 8) 0 72 68 = 68 from if_pos c2]
      refine (am_nb (m := 2) (pc1 := 73) (ls1 := [(1, .int (Int32.ofNat j)), (0, .ref o)]) (st1 := [.int 1, .int (Int32.ofNat j), .ref c]) (H1 := H) (k1 := k) (n1 := n) (by with_unfolding_all rfl)).trans ?_
      exact hst 1 0
    · rw [if_neg c2, show am_br ClassFile.Cond.ne (Int32.ofNat j - Int32.ofNat j / 8 * 8) 0 72 68 = 72 from if_neg c2]
      refine (am_nb (m := 1) (pc1 := 73) (ls1 := [(1, .int (Int32.ofNat j)), (0, .ref o)]) (st1 := [.int 0, .int (Int32.ofNat j), .ref c]) (H1 := H) (k1 := k) (n1 := n) (by with_unfolding_all rfl)).trans ?_
      exact hst 0 0
theorem mc_loop {o c : Nat} {vs : List Value} {f : Nat → Int32} (ho : H[o]? = some (.inr (12, vs))) (h4 : vs[92]? = some (.ref c)) (hc : H[c]? = some (.inl (.boolean, (80, .inl f)))) (hne : c ≠ o) : ∀ (r j : Nat), j + r = 80 →
    aX sL sx cs 361 46 [(1, .int (Int32.ofNat j)), (0, .ref o)] [] (H.set c (.inl (.boolean, (80, .inl (am_stp f j))))) k n = aX sL sx cs 361 80 [(1, .int (Int32.ofNat 80)), (0, .ref o)] [] (H.set c (.inl (.boolean, (80, .inl (am_stp f 80))))) k n
  | 0, j, hj => by
    have e : j = 80 := by omega
    subst e
    refine (am_nb (m := 2) (pc1 := 49) (ls1 := [(1, .int (Int32.ofNat 80)), (0, .ref o)]) (st1 := [.int (Int32.ofNat 80), .int (Int32.ofNat 80)]) (H1 := H.set c (.inl (.boolean, (80, .inl (am_stp f 80))))) (k1 := k) (n1 := n) (by with_unfolding_all rfl)).trans ?_
    refine (st_icmp rfl).trans ?_
    exact st_pc (by decide)
  | r + 1, j, hj => by
    refine (mc_one (am_gn hne ho) h4 (am_gs hc) (by omega)).trans ?_
    rw [List.set_set, am_stp_up, ← inc_ofNat]
    exact mc_loop ho h4 hc hne r (j + 1) (by omega)
/-- the loop of the stops -/
theorem mc_ok {o c : Nat} {vs : List Value} {f : Nat → Int32} (ho : H[o]? = some (.inr (12, vs))) (h4 : vs[92]? = some (.ref c)) (hc : H[c]? = some (.inl (.boolean, (80, .inl f)))) (hne : c ≠ o) :
    aX sL sx cs 361 46 [(1, .int 0), (0, .ref o)] [] H k n = aX sL sx cs 361 80 [(1, .int (Int32.ofNat 80)), (0, .ref o)] [] (H.set c (.inl (.boolean, (80, .inl (am_stp f 80))))) k n := by
  have h := mc_loop (sL := sL) (sx := sx) (cs := cs) (k := k) (n := n) ho h4 hc hne 80 0 (by omega)
  rw [am_stp_0, am_set_id hc] at h
  exact h
end ANEW
