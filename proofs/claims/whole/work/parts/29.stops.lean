/-! The stops: where x is above 0 and 8 divides it. -/
def am_stv (x : Int32) : Int32 := if x ≤ 0 then 0 else if x - x / 8 * 8 = 0 then 1 else 0
def am_stp (f : Nat → Int32) (j : Nat) : Nat → Int32 := fun i => if i < j then am_stv (Int32.ofNat i) else f i
theorem am_stp_0 (f : Nat → Int32) : am_stp f 0 = f := by
  funext i
  unfold am_stp
  rw [if_neg (Nat.not_lt_zero _)]
theorem am_stp_up (f : Nat → Int32) (j : Nat) : upd (am_stp f j) j (am_stv (Int32.ofNat j)) = am_stp f (j + 1) := by
  funext i
  unfold upd am_stp
  by_cases h : i = j
  · subst h
    rw [if_pos rfl, if_pos (Nat.lt_succ_self _)]
  · rw [if_neg h]
    by_cases h2 : i < j
    · rw [if_pos h2, if_pos (by omega)]
    · rw [if_neg h2, if_neg (by omega)]
theorem am_fll_z (A T : Nat) : am_fll (fun _ => 0) A T 0 = fun _ => 0 := by
  funext i
  unfold am_fll
  split <;> rfl
section STOPS
variable {sL : Nat} {sx : Nat → Int32} {cs : Nat → Nat → Option Int32} {H : am_H} {k n : Nat}
theorem gs_one {o c b j : Nat} {vs : List Value} {f : Nat → Int32} (ho : H[o]? = some (.inr (3, vs))) (h1 : vs[1]? = some (.int (Int32.ofNat b))) (h4 : vs[4]? = some (.ref c)) (hc : H[c]? = some (.inl (.boolean, (b, .inl f)))) (hb : b < 2 ^ 31) (hj : j < b) :
    aX sL sx cs 13 30 [(1, .int (Int32.ofNat j)), (0, .ref o)] [] H k n = aX sL sx cs 13 30 [(1, .int (Int32.ofNat j + 1)), (0, .ref o)] [] (H.set c (.inl (.boolean, (b, .inl (upd f j (am_stv (Int32.ofNat j))))))) k n := by
  have hlt : ¬ Int32.ofNat b ≤ Int32.ofNat j := fun h => by
    have := (Int32.ofNat_le_ofNat (by omega) (by omega)).mp h
    omega
  have hin : ¬ (Int32.ofNat j < 0 ∨ b ≤ (Int32.ofNat j).toNatClampNeg) := within rfl hj hb
  refine (am_nb (m := 2) (pc1 := 32) (ls1 := [(1, .int (Int32.ofNat j)), (0, .ref o)]) (st1 := [.ref o, .int (Int32.ofNat j)]) (H1 := H) (k1 := k) (n1 := n) (by with_unfolding_all rfl)).trans ?_
  refine (st_get rfl ho h1).trans ?_
  refine (st_icmp rfl).trans ?_
  rw [show am_br ClassFile.Cond.ge (Int32.ofNat j) (Int32.ofNat b) 66 38 = 38 from if_neg hlt]
  refine (am_nb (m := 1) (pc1 := 39) (ls1 := [(1, .int (Int32.ofNat j)), (0, .ref o)]) (st1 := [.ref o]) (H1 := H) (k1 := k) (n1 := n) (by with_unfolding_all rfl)).trans ?_
  refine (st_get rfl ho h4).trans ?_
  refine (am_nb (m := 2) (pc1 := 44) (ls1 := [(1, .int (Int32.ofNat j)), (0, .ref o)]) (st1 := [.int (Int32.ofNat j), .int (Int32.ofNat j), .ref c]) (H1 := H) (k1 := k) (n1 := n) (by with_unfolding_all rfl)).trans ?_
  refine (st_if rfl).trans ?_
  have hst : ∀ (w : Int32) (pc0 : Nat), aX sL sx cs 13 59 [(1, .int (Int32.ofNat j)), (0, .ref o)] [.int w, .int (Int32.ofNat j), .ref c] H k n = aX sL sx cs 13 30 [(1, .int (Int32.ofNat j + 1)), (0, .ref o)] [] (H.set c (.inl (.boolean, (b, .inl (upd f j (vp_nar .boolean w)))))) k n := fun w _ => by
    refine (st_zast rfl hc hin).trans ?_
    rw [clamp_of rfl (by omega : j < 2 ^ 31)]
    exact am_nb (m := 2) (by with_unfolding_all rfl)
  unfold am_stv
  by_cases c1 : Int32.ofNat j ≤ 0
  · rw [if_pos c1, show am_br ClassFile.Cond.le (Int32.ofNat j) 0 58 47 = 58 from if_pos c1]
    refine (am_nb (m := 1) (pc1 := 59) (ls1 := [(1, .int (Int32.ofNat j)), (0, .ref o)]) (st1 := [.int 0, .int (Int32.ofNat j), .ref c]) (H1 := H) (k1 := k) (n1 := n) (by with_unfolding_all rfl)).trans ?_
    exact hst 0 0
  · rw [if_neg c1, show am_br ClassFile.Cond.le (Int32.ofNat j) 0 58 47 = 47 from if_neg c1]
    refine (am_nb (m := 3) (pc1 := 51) (ls1 := [(1, .int (Int32.ofNat j)), (0, .ref o)]) (st1 := [.int (Int32.ofNat j - Int32.ofNat j / 8 * 8), .int (Int32.ofNat j), .ref c]) (H1 := H) (k1 := k) (n1 := n) (by with_unfolding_all rfl)).trans ?_
    refine (st_if rfl).trans ?_
    by_cases c2 : Int32.ofNat j - Int32.ofNat j / 8 * 8 = 0
    · rw [if_pos c2, show am_br ClassFile.Cond.ne (Int32.ofNat j - Int32.ofNat j / 8 * 8) 0 58 54 = 54 from if_pos c2]
      refine (am_nb (m := 2) (pc1 := 59) (ls1 := [(1, .int (Int32.ofNat j)), (0, .ref o)]) (st1 := [.int 1, .int (Int32.ofNat j), .ref c]) (H1 := H) (k1 := k) (n1 := n) (by with_unfolding_all rfl)).trans ?_
      exact hst 1 0
    · rw [if_neg c2, show am_br ClassFile.Cond.ne (Int32.ofNat j - Int32.ofNat j / 8 * 8) 0 58 54 = 58 from if_neg c2]
      refine (am_nb (m := 1) (pc1 := 59) (ls1 := [(1, .int (Int32.ofNat j)), (0, .ref o)]) (st1 := [.int 0, .int (Int32.ofNat j), .ref c]) (H1 := H) (k1 := k) (n1 := n) (by with_unfolding_all rfl)).trans ?_
      exact hst 0 0
theorem gs_loop {o c b : Nat} {vs : List Value} {f : Nat → Int32} (ho : H[o]? = some (.inr (3, vs))) (h1 : vs[1]? = some (.int (Int32.ofNat b))) (h4 : vs[4]? = some (.ref c)) (hc : H[c]? = some (.inl (.boolean, (b, .inl f)))) (hb : b < 2 ^ 31) (hne : c ≠ o) : ∀ (r j : Nat), j + r = b →
    aX sL sx cs 13 30 [(1, .int (Int32.ofNat j)), (0, .ref o)] [] (H.set c (.inl (.boolean, (b, .inl (am_stp f j))))) k n = aX sL sx cs 13 66 [(1, .int (Int32.ofNat b)), (0, .ref o)] [] (H.set c (.inl (.boolean, (b, .inl (am_stp f b))))) k n
  | 0, j, hj => by
    have e : j = b := by omega
    subst e
    refine (am_nb (m := 2) (pc1 := 32) (ls1 := [(1, .int (Int32.ofNat j)), (0, .ref o)]) (st1 := [.ref o, .int (Int32.ofNat j)]) (H1 := H.set c (.inl (.boolean, (j, .inl (am_stp f j))))) (k1 := k) (n1 := n) (by with_unfolding_all rfl)).trans ?_
    refine (st_get rfl (am_gn hne ho) h1).trans ?_
    refine (st_icmp rfl).trans ?_
    rw [show am_br ClassFile.Cond.ge (Int32.ofNat j) (Int32.ofNat j) 66 38 = 66 from if_pos (Int32.le_refl _)]
  | r + 1, j, hj => by
    refine (gs_one (am_gn hne ho) h1 h4 (am_gs hc) hb (by omega)).trans ?_
    rw [List.set_set, am_stp_up, ← inc_ofNat]
    exact gs_loop ho h1 h4 hc hb hne r (j + 1) (by omega)
/-- the loop of the stops -/
theorem gs_ok {o c b : Nat} {vs : List Value} {f : Nat → Int32} (ho : H[o]? = some (.inr (3, vs))) (h1 : vs[1]? = some (.int (Int32.ofNat b))) (h4 : vs[4]? = some (.ref c)) (hc : H[c]? = some (.inl (.boolean, (b, .inl f)))) (hb : b < 2 ^ 31) (hne : c ≠ o) :
    aX sL sx cs 13 30 [(1, .int 0), (0, .ref o)] [] H k n = aX sL sx cs 13 66 [(1, .int (Int32.ofNat b)), (0, .ref o)] [] (H.set c (.inl (.boolean, (b, .inl (am_stp f b))))) k n := by
  have h := gs_loop (sL := sL) (sx := sx) (cs := cs) (k := k) (n := n) ho h1 h4 hc hb hne b 0 (by omega)
  rw [am_stp_0, am_set_id hc] at h
  exact h
end STOPS
