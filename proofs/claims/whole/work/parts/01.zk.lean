/-! What is told of the terminal. -/
section T
variable {N h b : Nat} {c0 r0 c r c' r' : xA} {x y z s v w t u : Int32} {j : Nat}
def Rd0 (c r : xA) (p q : Int32 × xA) : Prop := p.1 = q.1 ∧ p.2 = c ∧ q.2 = xU r 157 0 0
theorem e_cell {a : xA} (h0 : a 136 0 = Int32.ofNat h) (h1 : a 136 1 = Int32.ofNat b) : f249_hasCell N h b x y a = some (zb (0 ≤ x ∧ x < Int32.ofNat h ∧ 0 ≤ y ∧ y < Int32.ofNat b), a) := by
  unfold f249_hasCell xg zb
  rw [h0, h1]
  grind
theorem t_screen (hd : Dim N h b) (H : RT h b c0 r0 c r) : Q2 (f248_screen N h b x y c) (f412_screen N h b x y r) (Rd0 c r) := by
  obtain ⟨hf, ⟨Y, X, Tp, Bt, hs⟩, ho, hv, hc⟩ := H.2.1
  obtain ⟨⟨a1, a2, a3, a4⟩, _, _⟩ := hs
  unfold f248_screen f412_screen j412_29
  refine q_wr.mpr (q_l2 (e_cell a1 a2) ?_)
  rw [xU_s (show (68 : Nat) ≠ 0 by decide), xU_s (show (69 : Nat) ≠ 0 by decide), a3, a4]
  by_cases z1 : x < 0
  · exact q_pl (zb_f (by grind)) (q_pr z1 ⟨_, _, rfl, rfl, rfl, rfl, rfl⟩)
  by_cases z2 : y < 0
  · exact q_pl (zb_f (by grind)) (q_nr z1 (q_pr z2 ⟨_, _, rfl, rfl, rfl, rfl, rfl⟩))
  by_cases z3 : Int32.ofNat h ≤ x
  · exact q_pl (zb_f (by grind)) (q_nr z1 (q_nr z2 (q_pr z3 ⟨_, _, rfl, rfl, rfl, rfl, rfl⟩)))
  by_cases z4 : y < Int32.ofNat b
  · refine q_nl (by rw [zb_t (by grind)]; decide) (q_nr z1 (q_nr z2 (q_nr z3 (q_pr z4 ?_))))
    obtain ⟨i, hi, ei, _⟩ := i_nat (Int32.not_lt.mp z1)
    obtain ⟨k, hk, ek, _⟩ := i_nat (Int32.not_lt.mp z2)
    obtain ⟨m0, m1, m2, m3, m4, m5⟩ := hd
    have hi2 : i < h := by rw [ei, i_le (by omega) hi] at z3; omega
    have hk2 : k < b := by rw [ek, i_lt hk (by omega)] at z4; exact z4
    subst ei ek
    have hm := mul_ub (y := i) (x := k) (H := h) (B := b) hi2 hk2
    have hHB := hb_ub (H := h) (B := b) m2 m4
    rw [a2, ← Int32.ofNat_mul, ← Int32.ofNat_add, o80]
    refine q_hl (g_ix (by omega) (by omega)) (q_hr (g_ix (by omega) (by omega)) ?_)
    rw [i_cl (by omega), i_cl (by omega)]
    exact ⟨_, _, rfl, rfl, by dsimp only; rw [xU_o (by decide)]; exact hc.2.2.1 i k hi2 hk2, rfl, rfl⟩
  · exact q_pl (zb_f (by grind)) (q_nr z1 (q_nr z2 (q_nr z3 (q_nr z4 ⟨_, _, rfl, rfl, rfl, rfl, rfl⟩))))
theorem t_width (hd : Dim N h b) (H : RT h b c0 r0 c r) : Q2 (f250_width N h b x c) (f413_width N h b x r) (Rd0 c r) := by
  obtain ⟨hf, ⟨Y, X, Tp, Bt, hs⟩, ho, hv, hc⟩ := H.2.1
  obtain ⟨⟨a1, a2, a3, a4⟩, _, _⟩ := hs
  obtain ⟨m0, m1, m2, m3, m4, m5⟩ := hd
  unfold f250_width f413_width j413_17
  refine q_wr.mpr (q_l2 (e_cell a1 a2) ?_)
  rw [xU_s (show (68 : Nat) ≠ 0 by decide), a3]
  by_cases z1 : x < 0
  · exact q_pl (zb_f (by grind)) (q_pr z1 ⟨_, _, rfl, rfl, rfl, rfl, rfl⟩)
  by_cases z3 : x < Int32.ofNat h
  · have b0 : (0 : Int32) < Int32.ofNat b := by rw [show (0 : Int32) = Int32.ofNat 0 from rfl, i_lt (by omega) (by omega)]; omega
    refine q_nl (by rw [zb_t ⟨Int32.not_lt.mp z1, z3, by decide, b0⟩]; decide) (q_nr z1 (q_pr z3 ?_))
    obtain ⟨i, hi, ei, _⟩ := i_nat (Int32.not_lt.mp z1)
    have hi2 : i < h := by rw [ei, i_lt hi (by omega)] at z3; exact z3
    subst ei
    refine q_hl (g_ix (by omega) (by omega)) (q_hr (g_ix (by omega) (by omega)) ?_)
    rw [i_cl (by omega)]
    exact ⟨_, _, rfl, rfl, by dsimp only; rw [xU_o (by decide)]; exact hc.1 i hi2, rfl, rfl⟩
  · exact q_pl (zb_f (fun q => z3 q.2.1)) (q_nr z1 (q_nr z3 ⟨_, _, rfl, rfl, rfl, rfl, rfl⟩))
theorem t_stop (hd : Dim N h b) (H : RT h b c0 r0 c r) : Q2 (f257_stop N h b x y c) (f416_stop N h b x y r) (Rd0 c r) := by
  obtain ⟨hf, ⟨Y, X, Tp, Bt, hs⟩, ho, hv, hc⟩ := H.2.1
  obtain ⟨⟨a1, a2, a3, a4⟩, _, _⟩ := hs
  unfold f257_stop f416_stop j416_29
  refine q_wr.mpr (q_l2 (e_cell a1 a2) ?_)
  rw [xU_s (show (68 : Nat) ≠ 0 by decide), xU_s (show (69 : Nat) ≠ 0 by decide), a3, a4]
  by_cases z1 : x < 0
  · exact q_pl (zb_f (by grind)) (q_pr z1 ⟨_, _, rfl, rfl, rfl, rfl, rfl⟩)
  by_cases z2 : y < 0
  · exact q_pl (zb_f (by grind)) (q_nr z1 (q_pr z2 ⟨_, _, rfl, rfl, rfl, rfl, rfl⟩))
  by_cases z3 : Int32.ofNat h ≤ x
  · exact q_pl (zb_f (by grind)) (q_nr z1 (q_nr z2 (q_pr z3 ⟨_, _, rfl, rfl, rfl, rfl, rfl⟩)))
  by_cases z4 : y < Int32.ofNat b
  · refine q_nl (by rw [zb_t (by grind)]; decide) (q_nr z1 (q_nr z2 (q_nr z3 (q_pr z4 ?_))))
    obtain ⟨k, hk, ek, _⟩ := i_nat (Int32.not_lt.mp z2)
    obtain ⟨m0, m1, m2, m3, m4, m5⟩ := hd
    have hk2 : k < b := by rw [ek, i_lt hk (by omega)] at z4; exact z4
    subst ek
    refine q_hl (g_ix (by omega) (by omega)) (q_hr (g_ix (by omega) (by omega)) ?_)
    rw [i_cl (by omega)]
    exact ⟨_, _, rfl, rfl, by dsimp only; rw [xU_o (by decide), hc.2.1 k hk2], rfl, rfl⟩
  · exact q_pl (zb_f (by grind)) (q_nr z1 (q_nr z2 (q_nr z3 (q_nr z4 ⟨_, _, rfl, rfl, rfl, rfl, rfl⟩))))
theorem t_state (hT : RT h b c0 r0 c r) (hk : KB c r) : Q2 (f251_state N h b x c) (f414_state N h b x r) (Rd0 c r) := by
  obtain ⟨hf, ⟨Y, X, Tp, Bt, hs⟩, ⟨o1, o2, o3, o4, o5, o6, o7, o8, o9, o10, o11, o12⟩, hv, hc⟩ := hT.2.1
  obtain ⟨⟨a1, a2, a3, a4⟩, _, ⟨d1, d2, d3, d4, d5, d6, d7, d8⟩⟩ := hs
  obtain ⟨s1, s2, s3, s4, s5, s6, s7, s8, s9, s10⟩ := hT.2.2.2.2.1
  have q1 : c 130 2 = r 157 79 := hT.2.2.1.1
  have q2 : c 132 2 = r 157 87 := hT.2.2.2.1.1
  have k3 : c 123 3 = r 157 120 := hk.2.2.1.1
  have e5 : c 136 5 = r 157 93 := d1.trans d2.symm
  have e6 : c 136 6 = r 157 94 := d3.trans d4.symm
  have e8 : c 136 8 = r 157 95 := d5.trans d6.symm
  have e9 : c 136 9 = r 157 96 := d7.trans d8.symm
  have sz : ∀ {o : Nat}, xk o = 1 → xb2 (f163_size N h b o c) (fun v a => some (v, a)) = some (c o 2, c) := fun hk => by rw [e_size hk]; rfl
  unfold f251_state f414_state j251_41 f252_tell f253_tell
  refine q_wr.mpr ?_
  simp only [b2_id, e_size (show xk 130 = 1 from rfl), e_size (show xk 132 = 1 from rfl)]
  have n0 : ∀ i, i ≠ 0 → xU r 157 0 0 157 i = r 157 i := fun i hi => xU_s hi
  rw [n0 93 (by decide), n0 94 (by decide), n0 108 (by decide), n0 95 (by decide), n0 96 (by decide), n0 97 (by decide), n0 98 (by decide), n0 99 (by decide), n0 100 (by decide), n0 79 (by decide), n0 81 (by decide), n0 84 (by decide), n0 85 (by decide), n0 83 (by decide), n0 87 (by decide), n0 101 (by decide), n0 80 (by decide), n0 103 (by decide), n0 120 (by decide)]
  rw [e5, e6, e8, e9, o1, o3, o4, o8, o10, o11, o12, q1, q2, k3, s1, s3, s5, s8, s9]
  have big : ∀ {A B : Option (Int32 × xA)} {v : Int32}, A = some (v, c) → B = some (v, xU r 157 0 0) → Q2 A B (Rd0 c r) := fun e1 e2 => ⟨_, _, e1, e2, rfl, rfl, rfl⟩
  by_cases z0 : x = 0
  · subst z0; exact big rfl rfl
  by_cases z1 : x = 1
  · subst z1; exact big rfl rfl
  by_cases z2 : x = 2
  · subst z2; exact big rfl rfl
  by_cases z3 : x = 3
  · subst z3; exact big rfl rfl
  by_cases z4 : x = 4
  · subst z4; exact big rfl rfl
  by_cases z5 : x = 5
  · subst z5; exact big rfl rfl
  by_cases z6 : x = 6
  · subst z6; exact big rfl rfl
  by_cases z7 : x = 7
  · subst z7; exact big rfl rfl
  by_cases z8 : x = 8
  · subst z8; exact big rfl rfl
  by_cases z9 : x = 9
  · subst z9; exact big rfl rfl
  by_cases y0 : x = 10
  · subst y0; exact big rfl rfl
  by_cases y1 : x = 11
  · subst y1; exact big rfl rfl
  by_cases y2 : x = 12
  · subst y2; exact big rfl rfl
  by_cases y3 : x = 13
  · subst y3; exact big rfl rfl
  by_cases y4 : x = 14
  · subst y4; exact big rfl rfl
  by_cases y5 : x = 15
  · subst y5; exact big rfl rfl
  by_cases y6 : x = 16
  · subst y6; exact big rfl rfl
  by_cases y7 : x = 17
  · subst y7; exact big rfl rfl
  by_cases y8 : x = 18
  · subst y8; exact big rfl rfl
  refine big (v := -1) ?_ ?_
  · simp only [z0, z1, z2, z3, z4, z5, z6, z7, z8, z9, y0, y1, y2, y3, y4, y5, y6, y7, y8, if_false, ite_self]
  · simp only [z0, z1, z2, z3, z4, z5, z6, z7, z8, z9, y0, y1, y2, y3, y4, y5, y6, y7, y8, if_false]
end T
