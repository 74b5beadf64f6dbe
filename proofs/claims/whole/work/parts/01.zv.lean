/-! A string put together; expand, fault, octet. -/
section T
variable {N h b : Nat} {c0 r0 c r c' r' : xA} {x y z s v w u1 u2 u3 u4 : Int32} {len p i f k m q l a e K n : Nat}
theorem d_ptog (hN : 100000 ≤ N) (he : e < 12) (ha : a < 39) (ha6 : 6 ≤ a) (hE : Ea e a c r) (h1 : c (9 + 7 * e + 3) a = 1) (ht : r 157 21 = Int32.ofNat e) (hq : MQb r) (p1 : c 95 0 = u1) (p2 : c 95 1 = u2) (p3 : c 95 2 = u3) (p4 : c 95 3 = u4) : ∃ (L : Nat) (c1 r1 : xA), f82_putTogether N h b (9 + 7 * e) (Int32.ofNat a) c = some (Int32.ofNat L, c1) ∧ f299_puts N h b (Int32.ofNat a) u1 u2 u3 u4 r = some r1 ∧ L ≤ 60 ∧ r1 157 23 = Int32.ofNat L ∧ c1 93 4 = Int32.ofNat L ∧ (∀ i, i < L → c1 96 i = r1 168 i &&& 255) ∧ MQb r1 ∧ PF c r c1 r1 := by
  obtain ⟨n, n1, n2, n3, n4, n5⟩ := Vw_s (h := h) (b := b) he ha ha6 ((hE.2.2 h1).2 ha6)
  obtain ⟨k1, k2, k3, k4, k5, k6, k7, k8⟩ := pl (h := h) (b := b) he
  have em : Int32.ofNat a - 6 = Int32.ofNat (a - 6) := by rw [show (6 : Int32) = Int32.ofNat 6 from rfl, ← Int32.ofNat_sub _ _ ha6]
  have e40 : Int32.ofNat (a - 6) * 40 = Int32.ofNat ((a - 6) * 40) := by rw [Int32.ofNat_mul]; rfl
  have hV : Vw h b (9 + 7 * e + 5) ((a - 6) * 40) (39 * e + a) n (xU (xU c 93 1 0) 93 4 0) (xU (xU r 157 23 0) 157 25 0) (Gr r (39 * e + a) n) := Vw_of n4 (by rw [xU_o (by omega), xU_o (by omega)]) rfl rfl
  have hPP : PP u1 u2 u3 u4 (xU (xU c 93 1 0) 93 4 0) (xU (xU r 157 23 0) 157 25 0) (xU (xU c 93 1 0) 93 4 0) (xU (xU r 157 23 0) 157 25 0) := ⟨⟨fun _ _ => rfl, fun _ _ _ => rfl, fun _ _ _ _ => rfl, fun _ _ _ => rfl⟩, ⟨⟨0, 0, by omega, by omega, by rw [xU_s (by decide), xU_e]; rfl, xU_e, xU_e, by rw [xU_s (by decide), xU_e]; rfl, fun i hi => absurd hi (by omega), fun i hi => absurd hi (by omega)⟩, hq⟩, p1, p2, p3, p4⟩
  obtain ⟨pp, qq, e1, e2, q7, q8, ⟨f1, f2, f3, f4⟩, ⟨⟨A, L, g1, g2, g3, g4, g5, g6, g7, g8⟩, g9⟩, _⟩ := d_putl hN (by omega) hV n 0 0 N u1 u2 _ _ (by omega) (by omega) (by omega) (by omega) n5 hPP
  have e1' : l82_34 N h b (9 + 7 * e + 5) (Int32.ofNat ((a - 6) * 40 + n)) N (Int32.ofNat ((a - 6) * 40)) 0 (xU (xU c 93 1 0) 93 4 0) = some pp := e1
  have e2' : l299_39 N h b u3 u4 (Int32.ofNat (39 * e + a)) N u1 u2 0 (xU (xU r 157 23 0) 157 25 0) = some qq := e2
  have hE2 : Ea e a c (xU (xU r 157 23 0) 157 25 0) := hE
  have t2 : (xU (xU r 157 23 0) 157 25 0) 157 21 = Int32.ofNat e := by rw [xU_s (by decide), xU_s (by decide)]; exact ht
  refine ⟨L, pp.2, qq.2, ?_, ?_, g2, g6, g5, g8, g9, fun p hp => ?_, fun i h1 h2 => ?_, fun p h1 h2 h3 => ?_, fun i h1 h2 => ?_⟩
  · unfold f82_putTogether f60_startOf f65_lengthOf
    rw [xg_pos k1, b2_some, xg_pos k1, k7, em, xg_pos (g_ix (by omega) (by omega)), i_cl (by omega), n2, b2_some, e40, ← Int32.ofNat_add]
    show (l82_34 N h b (9 + 7 * e + 5) (Int32.ofNat ((a - 6) * 40 + n)) N (Int32.ofNat ((a - 6) * 40)) 0 (xU (xU c 93 1 0) 93 4 0)).bind _ = _
    rw [e1', Option.bind_some, g5]
  · unfold f299_puts
    simp only [xw]
    rw [e_hs' he ha hE2 t2, b2_some, h1, if_neg (by decide), t2, o39, e2', Option.bind_some]
  · rw [f1 p hp, xU_o (by omega), xU_o (by omega)]
  · rw [f2 i h1 h2, xU_s h2, xU_s h1]
  · rw [f3 p h1 h2 h3, xU_o h1, xU_o h1]
  · rw [f4 i h1 h2, xU_s h2, xU_s h1]
theorem e_cp6 (hn : n ≤ 60) : ∀ (k j f : Nat) {a : xA}, j + k = n → k < f → a 157 23 = Int32.ofNat n → ∃ a', l298_51 N h b f (Int32.ofNat j) a = some (0, a') ∧ (∀ p, p ≠ 159 → a' p = a p) ∧ (∀ i, a' 159 i = if j ≤ i ∧ i < n then vp_nar .byte (a 168 i) else a 159 i) := by
  intro k
  induction k with
  | zero =>
    intro j f a h1 h2 h3
    obtain ⟨f, rfl⟩ : ∃ f', f = f' + 1 := ⟨f - 1, by omega⟩
    refine ⟨a, ?_, fun _ _ => rfl, fun i => by rw [if_neg (by omega)]⟩
    rw [l298_51, h3, if_pos (by rw [i_le (by omega) (by omega)]; omega)]
  | succ k ih =>
    intro j f a h1 h2 h3
    obtain ⟨f, rfl⟩ : ∃ f', f = f' + 1 := ⟨f - 1, by omega⟩
    obtain ⟨a', e1, e2, e3⟩ := ih (j + 1) f (a := xU a 159 j (vp_nar .byte (a 168 j))) (by omega) (by omega) (by rw [xU_o (by decide)]; exact h3)
    refine ⟨a', ?_, fun p hp => by rw [e2 p hp, xU_o hp], fun i => ?_⟩
    · rw [l298_51, h3, if_neg (by rw [i_le (by omega) (by omega)]; omega), xg_pos (g_ix (by omega) (by omega)), xg_pos (g_ix (by omega) (by omega)), i_cl (by omega), on_s]
      exact e1
    · rw [e3 i, xU_o (show (168 : Nat) ≠ 159 by decide), xU_eq]
      grind
theorem t_expand (hN : 100000 ≤ N) (ht : Rt c r) (ho : Ro c r) (hR : RR K c r) (hP : RP c r) (hq : MQb r) : Q2 (f94_expand N h b u1 u2 u3 u4 c) (f298_expand N h b u1 u2 u3 u4 r) (fun p q => p.1 = q.1 ∧ AF c r p.2 q.2 ∧ Rt p.2 q.2 ∧ Ro p.2 q.2 ∧ MQb q.2) := by
  obtain ⟨t, e1, e2, e3⟩ := d_ask (N := N) (h := h) (b := b) hN ht
  unfold f94_expand f298_expand
  refine q_l2 e1 (q_wr.mpr (q_r2 e3 (q_wl.mpr ?_)))
  have f0 : AF c r (xU c 0 1 0) (xU (xU r 157 0 0) 157 2 0) := ⟨fun p h1 h2 h3 => xU_o h1, fun i h1 h2 => xU_s h1, fun i h1 h2 => by rw [xU_o (by decide)], fun p h1 h2 h3 h4 => by rw [xU_o h1, xU_o h1], fun i h1 h2 h3 h4 h5 => by rw [xU_s h2, xU_s h1]⟩
  have rt0 : Rt (xU c 0 1 0) (xU (xU r 157 0 0) 157 2 0) := Rt_0 ht xU_e xU_e rfl rfl
  have ro0 : Ro (xU c 0 1 0) (xU (xU r 157 0 0) 157 2 0) := Ro_of ho (xU_s (by decide)) (by rw [xU_s (by decide), xU_s (by decide)]) rfl rfl
  have ok : ∀ v : Int32, Q2 (some (v, xU c 0 1 0)) (some (v, xU (xU r 157 0 0) 157 2 0)) (fun p q => p.1 = q.1 ∧ AF c r p.2 q.2 ∧ Rt p.2 q.2 ∧ Ro p.2 q.2 ∧ MQb q.2) := fun v => ⟨_, _, rfl, rfl, rfl, f0, rt0, ro0, hq⟩
  rw [xU_s (show (14 : Nat) ≠ 1 by decide)]
  rcases hP with ⟨a1, a2, _⟩ | ⟨e, Ln, Co, pz, _⟩
  · rw [if_pos a2]
    exact q_pl a1 (q_pr (by decide) (ok _))
  · obtain ⟨z1, z2, z3, z4, z5, z6, z7, _⟩ := pz
    have ek := hR.2.2.2.2.2.2.2 e z1 z6
    have hE := (hR.2.2.2.1 e ek).2
    rw [z7, if_neg (ofn_ne (by omega)), z6, i_cl (by omega)]
    refine q_nl (ofn_ne (by omega)) ?_
    by_cases q6 : t < 6
    · exact q_pl q6 (q_pr q6 (ok _))
    refine q_nl q6 (q_nr q6 ?_)
    rcases e2 with q | ⟨a, ha, ea⟩
    · rw [q] at q6
      exact absurd q6 (by decide)
    subst ea
    have a6 : 6 ≤ a := by rw [show (6 : Int32) = Int32.ofNat 6 from rfl, i_lt (by omega) (by decide)] at q6; omega
    obtain ⟨p1, p2, p3, p4, p5, p6, p7, p8⟩ := pl (h := h) (b := b) z1
    have hEa := hE a ha
    have hE0 : Ea e a (xU c 0 1 0) (xU (xU r 157 0 0) 157 2 0) := by
      unfold Ea Es at *
      rw [xU_o (show (9 + 7 * e + 3) ≠ 0 by omega), xU_o (show (9 + 7 * e + 4) ≠ 0 by omega), xU_o (show (9 + 7 * e + 5) ≠ 0 by omega), xU_o (show (9 + 7 * e + 6) ≠ 0 by omega)]
      exact hEa
    have t21 : (xU (xU r 157 0 0) 157 2 0) 157 21 = Int32.ofNat e := by rw [xU_s (by decide), xU_s (by decide)]; exact z7
    refine q_hl p1 (q_l2 (e_hs z1 ha hE0) (q_r2 (e_hs' z1 ha hE0 t21) ?_))
    by_cases hz : (xU c 0 1 0) (9 + 7 * e + 3) a = 0
    · exact q_pl hz (q_pr hz (ok _))
    refine q_nl hz (q_nr hz ?_)
    have h1 : (xU c 0 1 0) (9 + 7 * e + 3) a = 1 := hE0.1.resolve_left hz
    obtain ⟨c5, hc5⟩ : ∃ c5, c5 = xU (xU (xU (xU (xU c 0 1 0) 95 0 u1) 95 1 u2) 95 2 u3) 95 3 u4 := ⟨_, rfl⟩
    have o5 : ∀ p, p ≠ 95 → c5 p = (xU c 0 1 0) p := fun p hp => by rw [hc5, xU_o hp, xU_o hp, xU_o hp, xU_o hp]
    have hE5 : Ea e a c5 (xU (xU r 157 0 0) 157 2 0) := by
      unfold Ea Es at *
      rw [o5 (9 + 7 * e + 3) (by omega), o5 (9 + 7 * e + 4) (by omega), o5 (9 + 7 * e + 5) (by omega), o5 (9 + 7 * e + 6) (by omega)]
      exact hE0
    obtain ⟨L, c1, r1, g1, g2, g3, g4, g5, g6, g7, f1, f2, f3, f4⟩ := d_ptog (N := N) (h := h) (b := b) (c := c5) (u1 := u1) (u2 := u2) (u3 := u3) (u4 := u4) hN z1 ha a6 hE5 (by rw [o5 _ (by omega)]; exact h1) t21 hq (by rw [hc5, xU_s (by decide), xU_s (by decide), xU_s (by decide), xU_e]) (by rw [hc5, xU_s (by decide), xU_s (by decide), xU_e]) (by rw [hc5, xU_s (by decide), xU_e]) (by rw [hc5, xU_e])
    have es : f81_setParameters N h b u1 u2 u3 u4 (xU c 0 1 0) = some c5 := by rw [hc5]; rfl
    have h14 : c5 0 14 = Int32.ofNat (9 + 7 * e) := by rw [o5 0 (by decide), xU_s (by decide)]; exact z6
    refine q_l1 es ?_
    rw [h14, i_cl (show 9 + 7 * e < 2 ^ 31 by omega)]
    refine q_hl (ofn_ne (by omega)) (q_l2 g1 (q_r1 g2 (q_wl.mpr (q_wr.mpr ?_))))
    rw [xU_e, i_cl (show L < 2 ^ 31 by omega)]
    refine q_hl ⟨by decide, by decide, by rw [i_neg (by omega)]; exact id, by show 0 + L ≤ 60; omega, by show 0 + L ≤ 300; omega⟩ ?_
    rw [g4]
    obtain ⟨a', k1, k2, k3⟩ := e_cp6 (N := N) (h := h) (b := b) (n := L) g3 L 0 N (a := xU r1 157 4 (Int32.ofNat L)) (by omega) (by omega) (by rw [xU_s (by decide)]; exact g4)
    have k1' : l298_51 N h b N 0 (xU r1 157 4 (Int32.ofNat L)) = some (0, a') := k1
    rw [k1', Option.bind_some]
    dsimp only
    have a157 : a' 157 = xU r1 157 4 (Int32.ofNat L) 157 := k2 157 (by decide)
    refine ⟨_, _, rfl, rfl, by dsimp only; rw [a157, xU_e, xW_o (by decide), xU_e], ⟨fun p h1 h2 h3 => ?_, fun i h1 h2 => ?_, fun i h1 h2 => ?_, fun p h1 h2 h3 h4 => ?_, fun i h1 h2 h3 h4 h5 => ?_⟩, ?_, ⟨?_, ?_, ?_, fun i => ?_⟩, fun i => ?_⟩ <;> dsimp only
    · rw [xW_o h2, xU_o h1, f1 p h3, o5 p (by omega), xU_o h1]
    · rw [xW_o (by decide), xU_s h2, f1 0 (by decide), o5 0 (by decide), xU_s h1]
    · rw [xW_o (by decide), xU_o (by decide), f2 i h1 h2, o5 93 (by decide), xU_o (by decide)]
    · rw [k2 p h2, xU_o h1, f3 p h1 h3 h4, xU_o h1, xU_o h1]
    · rw [a157, xU_s h3, f4 i h4 h5, xU_s h2, xU_s h1]
    · exact Rt_0 ht (by rw [xW_o (by decide), xU_s (by decide), f1 0 (by decide), o5 0 (by decide), xU_e]) (by rw [a157, xU_s (by decide), f4 2 (by decide) (by decide), xU_e]) (by rw [xW_o (by decide), xU_o (by decide), f1 1 (by decide), o5 1 (by decide), xU_o (by decide)]) (by rw [k2 158 (by decide), xU_o (by decide), f3 158 (by decide) (by decide) (by decide), xU_o (by decide), xU_o (by decide)])
    · rw [xW_o (by decide), xU_e, a157, xU_e]
    · rw [xW_o (by decide), xU_e]; exact zf (by omega)
    · rw [xW_o (by decide), xU_e, show (300 : Int32) = Int32.ofNat 300 from rfl, i_le (by omega) (by decide)]; omega
    · rw [xW_e, k3 i, show (0 : Int32).toNatClampNeg = 0 from rfl, xU_o (show (168 : Nat) ≠ 157 by decide), xU_o (show (159 : Nat) ≠ 157 by decide), f3 159 (by decide) (by decide) (by decide), xU_o (show (159 : Nat) ≠ 157 by decide), xU_o (show (159 : Nat) ≠ 157 by decide), xU_o (show (96 : Nat) ≠ 0 by decide), xU_o (show (2 : Nat) ≠ 0 by decide), f1 2 (by decide), o5 2 (by decide), xU_o (show (2 : Nat) ≠ 0 by decide)]
      unfold va_cpy
      by_cases q : i < L
      · rw [if_pos (by omega), if_pos (by omega), show 0 + (i - 0) = i by omega, g6 i q, g7 i]
        exact nar8 (g7 i)
      · rw [if_neg (by omega), if_neg (by omega)]
        exact ho.2.2.2 i
    · rw [k2 168 (by decide), xU_o (by decide)]
      exact g7 i
theorem t_fault (hR : RR K c r) : Q2 (f70_fault N h b x c) (f292_fault N h b x r) (Rd0 c r) := by
  unfold f70_fault f292_fault
  refine q_wr.mpr ?_
  rw [xU_s (show (13 : Nat) ≠ 0 by decide), xU_s (show (14 : Nat) ≠ 0 by decide), hR.2.2.2.2.1, hR.2.2.2.2.2.1]
  by_cases z0 : x = 0
  · rw [if_pos z0, if_pos z0]
    exact ⟨_, _, rfl, rfl, rfl, rfl, rfl⟩
  · rw [if_neg z0, if_neg z0]
    by_cases z1 : x = 1
    · rw [if_pos z1, if_pos z1]
      exact ⟨_, _, rfl, rfl, rfl, rfl, rfl⟩
    · rw [if_neg z1, if_neg z1]
      exact ⟨_, _, rfl, rfl, rfl, rfl, rfl⟩
end T
