/-! What an ability is, and strings put together on demand. -/
def NA (r : xA) : Prop := (∀ i, vp_nar .byte (r 165 i) = r 165 i) ∧ ∀ i, ∃ n : Nat, n ≤ 40 ∧ r 166 i = Int32.ofNat n
def RR (k : Nat) (c r : xA) : Prop := k ≤ 12 ∧ c 3 1 = Int32.ofNat k ∧ r 157 5 = Int32.ofNat k ∧ (∀ e, e < k → EE e c r) ∧ c 3 2 = r 157 13 ∧ c 3 3 = r 157 14 ∧ NA r ∧ (∀ e, e < 12 → c 0 14 = Int32.ofNat (9 + 7 * e) → e < k)
/-- what these calls leave alone -/
def AF (c r c' r' : xA) : Prop := (∀ p, p ≠ 0 → p ≠ 2 → ¬ (93 ≤ p ∧ p ≤ 96) → c' p = c p) ∧ (∀ i, i ≠ 1 → i ≠ 3 → c' 0 i = c 0 i) ∧ (∀ i, i ≠ 1 → i ≠ 4 → c' 93 i = c 93 i) ∧ (∀ p, p ≠ 157 → p ≠ 159 → p ≠ 168 → p ≠ 169 → r' p = r p) ∧ (∀ i, i ≠ 0 → i ≠ 2 → i ≠ 4 → i ≠ 23 → i ≠ 25 → r' 157 i = r 157 i)
def MQb (r : xA) : Prop := ∀ i, vp_nar .byte (r 168 i) = r 168 i
section T
variable {N h b : Nat} {c0 r0 c r c' r' : xA} {x y z s v w : Int32} {len p i f k m q l a e K n : Nat}
theorem nar8 (hy : vp_nar .byte y = y) : By (y &&& 255) ∧ y = (y &&& 255).toInt8.toInt32 := by
  refine ⟨byx y, ?_⟩
  have e : (y &&& 255).toInt8 = y.toInt8 := sh_g (w := y) (A := y) (B := y) 0 (by decide) (by simp) (by simp)
  rw [e]
  exact hy.symm
theorem d_ask (hN : 100000 ≤ N) (ht : Rt c r) : ∃ t, f44_abilityNamed N h b 1 0 (c 0 1) c = some (t, c) ∧ (t = -1 ∨ ∃ j : Nat, j < 39 ∧ t = Int32.ofNat j) ∧ f296_asked N h b (xU r 157 0 0) = some (if r 157 21 = -1 then -1 else t, xU (xU r 157 0 0) 157 2 0) := by
  obtain ⟨t1, t2, t3, t4⟩ := ht
  obtain ⟨l, hl, el, fl⟩ := i_nat t2
  have l3 : l ≤ 3000 := by rw [el, show (3000 : Int32) = Int32.ofNat 3000 from rfl, i_le hl (by decide)] at t3; exact t3
  have hT : Tp c (xU (xU r 157 0 0) 157 2 0) := fun i => by rw [xU_o (by decide), xU_o (by decide)]; exact t4 i
  have e2 : xU r 157 0 0 157 2 = Int32.ofNat l := by rw [xU_s (by decide), ← t1]; exact el
  have e21 : xU (xU r 157 0 0) 157 2 0 157 21 = r 157 21 := by rw [xU_s (by decide), xU_s (by decide)]
  unfold f296_asked
  have fin : ∀ t, f44_abilityNamed N h b 1 0 (c 0 1) c = some (t, c) → (t = -1 ∨ ∃ j : Nat, j < 39 ∧ t = Int32.ofNat j) → (∃ t', f281_abilityOf N h b 0 (Int32.ofNat l) (xU (xU r 157 0 0) 157 2 0) = some (t', xU (xU r 157 0 0) 157 2 0) ∧ (if t' = -1 then -1 else (if l = 0 then -1 else t')) = t) → ∃ t, f44_abilityNamed N h b 1 0 (c 0 1) c = some (t, c) ∧ (t = -1 ∨ ∃ j : Nat, j < 39 ∧ t = Int32.ofNat j) ∧ xw (xU (xU r 157 0 0) 157 2 0) (fun a1 => if (a1 157 21) = (-1) then (j296_28 N h b ((xU r 157 0 0) 157 2) (-1) a1) else (xb2 (f281_abilityOf N h b 0 ((xU r 157 0 0) 157 2) a1) (fun r13 a14 => j296_28 N h b ((xU r 157 0 0) 157 2) r13 a14))) = some (if r 157 21 = -1 then -1 else t, xU (xU r 157 0 0) 157 2 0) := by
    intro t g1 g2 ⟨t', g3, g4⟩
    refine ⟨t, g1, g2, ?_⟩
    show (if (xU (xU r 157 0 0) 157 2 0) 157 21 = -1 then _ else _) = _
    rw [e21, e2]
    by_cases q : r 157 21 = -1
    · rw [if_pos q, if_pos q]
      unfold j296_28 j296_38
      rw [if_pos rfl]
    · rw [if_neg q, if_neg q, g3, b2_some]
      unfold j296_28 j296_38
      by_cases q2 : t' = -1
      · rw [if_pos q2] at g4
        rw [if_pos q2, ← g4]
      · rw [if_neg q2] at g4
        rw [if_neg q2, ← g4]
        by_cases q3 : l = 0
        · rw [if_pos q3, if_pos (by rw [q3]; rfl)]
        · rw [if_neg q3, if_neg (by rw [show (0 : Int32) = Int32.ofNat 0 from rfl, i_eq hl (by decide)]; exact q3)]
  by_cases l0 : l = 0
  · have ec : f44_abilityNamed N h b 1 0 (c 0 1) c = some (-1, c) := by
      unfold f44_abilityNamed
      rw [xg_pos (show xk 1 = 100 from rfl), if_pos (by rw [el, l0]; decide)]
    obtain ⟨t', e3⟩ := d_ab0 (N := N) (h := h) (b := b) (q := 0) hN hT (by omega)
    refine fin (-1) ec (Or.inl rfl) ⟨t', by rw [l0]; exact e3, ?_⟩
    rw [if_pos l0]
    split <;> rfl
  · by_cases l6 : 5 < l
    · have ec : f44_abilityNamed N h b 1 0 (c 0 1) c = some (-1, c) := by
        unfold f44_abilityNamed
        rw [xg_pos (show xk 1 = 100 from rfl), el, if_neg (by rw [show (1 : Int32) = Int32.ofNat 1 from rfl, i_lt (by omega) (by decide)]; omega), if_pos (by rw [show (5 : Int32) = Int32.ofNat 5 from rfl, i_lt (by decide) (by omega)]; exact l6)]
      exact fin (-1) ec (Or.inl rfl) ⟨-1, d_ab6 hN l6 hl, by rw [if_pos rfl]⟩
    · obtain ⟨t, e3, e4, e5⟩ := d_abn (N := N) (h := h) (b := b) (q := 0) (l := l) hN hT (by omega) (by omega) (by omega)
      refine fin t (by rw [el]; exact e3) e5 ⟨t, e4, ?_⟩
      rw [if_neg l0]
      split
      · next q => exact q.symm
      · rfl
theorem e_cp5 {row : Nat} (hr : row < 468) (hn : n ≤ 40) : ∀ (k j f : Nat) {a : xA}, j + k = n → k < f → a 157 4 = Int32.ofNat n → ∃ a', l295_81 N h b (Int32.ofNat row) f (Int32.ofNat j) a = some (0, a') ∧ (∀ p, p ≠ 159 → a' p = a p) ∧ (∀ i, a' 159 i = if j ≤ i ∧ i < n then vp_nar .byte (a 165 (40 * row + i)) else a 159 i) := by
  intro k
  induction k with
  | zero =>
    intro j f a h1 h2 h3
    obtain ⟨f, rfl⟩ : ∃ f', f = f' + 1 := ⟨f - 1, by omega⟩
    refine ⟨a, ?_, fun _ _ => rfl, fun i => by rw [if_neg (by omega)]⟩
    rw [l295_81, h3, if_pos (by rw [i_le (by omega) (by omega)]; omega)]
  | succ k ih =>
    intro j f a h1 h2 h3
    obtain ⟨f, rfl⟩ : ∃ f', f = f' + 1 := ⟨f - 1, by omega⟩
    obtain ⟨a', e1, e2, e3⟩ := ih (j + 1) f (a := xU a 159 j (vp_nar .byte (a 165 (40 * row + j)))) (by omega) (by omega) (by rw [xU_o (by decide)]; exact h3)
    refine ⟨a', ?_, fun p hp => by rw [e2 p hp, xU_o hp], fun i => ?_⟩
    · rw [l295_81, h3, if_neg (by rw [i_le (by omega) (by omega)]; omega), o40, xg_pos (g_ix (by omega) (by omega)), xg_pos (g_ix (by omega) (by omega)), i_cl (by omega), i_cl (by omega), on_s]
      exact e1
    · rw [e3 i, xU_o (show (165 : Nat) ≠ 159 by decide), xU_eq]
      grind
theorem Rt_0 (ht : Rt c r) (h1 : c' 0 1 = 0) (h2 : r' 157 2 = 0) (h3 : c' 1 = c 1) (h4 : r' 158 = r 158) : Rt c' r' := by
  refine ⟨by rw [h1, h2], by rw [h1]; decide, by rw [h1]; decide, fun i => ?_⟩
  rw [h3, h4]
  exact ht.2.2.2 i
theorem Ro_of (ho : Ro c r) (h1 : c' 0 3 = c 0 3) (h2 : r' 157 4 = r 157 4) (h3 : c' 2 = c 2) (h4 : r' 159 = r 159) : Ro c' r' := by
  unfold Ro at *
  rw [h1, h2, h3, h4]
  exact ho
theorem t_ability (hN : 100000 ≤ N) (ht : Rt c r) (ho : Ro c r) (hR : RR K c r) (hP : RP c r) : Q2 (f93_ability N h b c) (f295_ability N h b r) (fun p q => p.1 = q.1 ∧ AF c r p.2 q.2 ∧ Rt p.2 q.2 ∧ Ro p.2 q.2 ∧ (MQb r → MQb q.2)) := by
  obtain ⟨t, e1, e2, e3⟩ := d_ask (N := N) (h := h) (b := b) hN ht
  unfold f93_ability f295_ability
  refine q_l2 e1 (q_wr.mpr (q_r2 e3 (q_wl.mpr ?_)))
  have f0 : AF c r (xU c 0 1 0) (xU (xU r 157 0 0) 157 2 0) := ⟨fun p h1 h2 h3 => xU_o h1, fun i h1 h2 => xU_s h1, fun i h1 h2 => by rw [xU_o (by decide)], fun p h1 h2 h3 h4 => by rw [xU_o h1, xU_o h1], fun i h1 h2 h3 h4 h5 => by rw [xU_s h2, xU_s h1]⟩
  have rt0 : Rt (xU c 0 1 0) (xU (xU r 157 0 0) 157 2 0) := Rt_0 ht xU_e xU_e rfl rfl
  have ro0 : Ro (xU c 0 1 0) (xU (xU r 157 0 0) 157 2 0) := Ro_of ho (xU_s (by decide)) (by rw [xU_s (by decide), xU_s (by decide)]) rfl rfl
  have ok : ∀ v : Int32, Q2 (some (v, xU c 0 1 0)) (some (v, xU (xU r 157 0 0) 157 2 0)) (fun p q => p.1 = q.1 ∧ AF c r p.2 q.2 ∧ Rt p.2 q.2 ∧ Ro p.2 q.2 ∧ (MQb r → MQb q.2)) := fun v => ⟨_, _, rfl, rfl, rfl, f0, rt0, ro0, fun hq => hq⟩
  rw [xU_s (show (14 : Nat) ≠ 1 by decide)]
  rcases hP with ⟨a1, a2, _⟩ | ⟨e, Ln, Co, pz, _⟩
  · rw [if_pos a2]
    exact q_pl a1 (q_pr rfl (ok _))
  · obtain ⟨z1, z2, z3, z4, z5, z6, z7, _⟩ := pz
    have ek := hR.2.2.2.2.2.2.2 e z1 z6
    have hE := (hR.2.2.2.1 e ek).2
    rw [z7, if_neg (ofn_ne (by omega)), z6, i_cl (by omega)]
    refine q_nl (ofn_ne (by omega)) ?_
    rcases e2 with q | ⟨a, ha, ea⟩
    · exact q_pl q (q_pr q (ok _))
    have tn : ¬ t = -1 := by rw [ea]; exact ofn_ne (by omega)
    refine q_nl tn (q_nr tn ?_)
    subst ea
    obtain ⟨p1, p2, p3, p4, p5, p6, p7, p8⟩ := pl (h := h) (b := b) z1
    have hEa := hE a ha
    have hE0 : Ea e a (xU c 0 1 0) (xU (xU r 157 0 0) 157 2 0) := by
      unfold Ea Es at *
      rw [xU_o (show (9 + 7 * e + 3) ≠ 0 by omega), xU_o (show (9 + 7 * e + 4) ≠ 0 by omega), xU_o (show (9 + 7 * e + 5) ≠ 0 by omega), xU_o (show (9 + 7 * e + 6) ≠ 0 by omega)]
      exact hEa
    have t21 : (xU (xU r 157 0 0) 157 2 0) 157 21 = Int32.ofNat e := by rw [xU_s (by decide), xU_s (by decide)]; exact z7
    have h14 : (xU c 0 1 0) 0 14 = Int32.ofNat (9 + 7 * e) := by rw [xU_s (by decide)]; exact z6
    by_cases q3 : 3 ≤ Int32.ofNat a
    · refine q_pl q3 (q_pr q3 (q_hl p1 (q_l2 (e_hs z1 ha hE0) (q_r2 (e_hs' z1 ha hE0 t21) ?_))))
      by_cases hz : (xU c 0 1 0) (9 + 7 * e + 3) a = 0
      · exact q_pl hz (q_pr hz (ok _))
      refine q_nl hz (q_nr hz ?_)
      have h1 : c (9 + 7 * e + 3) a = 1 := by
        rw [xU_o (by omega)] at hz
        exact hEa.1.resolve_left hz
      rw [t21, o39, h14, i_cl (show 9 + 7 * e < 2 ^ 31 by omega)]
      by_cases q6 : 6 ≤ Int32.ofNat a
      · have a6 : 6 ≤ a := by rw [show (6 : Int32) = Int32.ofNat 6 from rfl, i_le (by decide) (by omega)] at q6; exact q6
        obtain ⟨n, n1, n2, n3, n4, _⟩ := (hEa.2.2 h1).2 a6
        have em : Int32.ofNat a - 6 = Int32.ofNat (a - 6) := by rw [show (6 : Int32) = Int32.ofNat 6 from rfl, ← Int32.ofNat_sub _ _ a6]
        refine q_pl q6 (q_pr q6 (q_hl (ofn_ne (by omega)) (q_hl p1 ?_)))
        unfold f65_lengthOf f60_startOf
        rw [xg_pos p1, p7, em, xg_pos (g_ix (by omega) (by omega)), i_cl (show a - 6 < 2 ^ 31 by omega), b2_some, xU_o (show (9 + 7 * e + 6) ≠ 0 by omega), n2, h14]
        refine q_hl (ofn_ne (by omega)) ?_
        rw [i_cl (show 9 + 7 * e < 2 ^ 31 by omega)]
        refine q_hl p1 ?_
        rw [b2_some]
        have e40 : Int32.ofNat (a - 6) * 40 = Int32.ofNat ((a - 6) * 40) := by rw [Int32.ofNat_mul]; rfl
        rw [e40, p6]
        refine q_hl ⟨by rw [i_neg (by omega)]; exact id, by decide, by rw [i_neg (by omega)]; exact id, by rw [i_cl (by omega), i_cl (by omega)]; omega, by rw [i_cl (by omega)]; show 0 + n ≤ 300; omega⟩ ?_
        rw [i_cl (show (a - 6) * 40 < 2 ^ 31 by omega), i_cl (show n < 2 ^ 31 by omega)]
        refine q_hr (g_ix (by omega) (by omega)) ?_
        rw [i_cl (show 39 * e + a < 2 ^ 31 by omega)]
        have e6 : (xU (xU r 157 0 0) 157 2 0) 166 (39 * e + a) = Int32.ofNat n := by rw [xU_o (by decide), xU_o (by decide)]; exact n3
        rw [e6]
        refine q_wl.mpr (q_wl.mpr (q_wr.mpr ?_))
        obtain ⟨a', g1, g2, g3⟩ := e_cp5 (N := N) (h := h) (b := b) (row := 39 * e + a) (n := n) (by omega) n1 n 0 N (a := xU (xU (xU r 157 0 0) 157 2 0) 157 4 (Int32.ofNat n)) (by omega) (by omega) xU_e
        have g1' : l295_81 N h b (Int32.ofNat (39 * e + a)) N 0 (xU (xU (xU r 157 0 0) 157 2 0) 157 4 (Int32.ofNat n)) = some (0, a') := g1
        rw [g1', Option.bind_some]
        dsimp only
        have a157 : a' 157 = xU (xU (xU r 157 0 0) 157 2 0) 157 4 (Int32.ofNat n) 157 := g2 157 (by decide)
        refine ⟨_, _, rfl, rfl, by rw [a157, xU_e], ⟨fun p h1 h2 h3 => ?_, fun i h1 h2 => ?_, fun i h1 h2 => ?_, fun p h1 h2 h3 h4 => ?_, fun i h1 h2 h3 h4 h5 => ?_⟩, ?_, ⟨?_, ?_, ?_, fun i => ?_⟩, fun hq i => ?_⟩ <;> dsimp only
        · rw [xU_o h1, xW_o h2, xU_o h1]
        · rw [xU_s h2, xW_o (by decide), xU_s h1]
        · rw [xU_o (by decide), xW_o (by decide), xU_o (by decide)]
        · rw [g2 p h2, xU_o h1, xU_o h1, xU_o h1]
        · rw [a157, xU_s h3, xU_s h2, xU_s h1]
        · exact Rt_0 ht (by rw [xU_s (by decide), xW_o (by decide), xU_e]) (by rw [a157, xU_s (by decide), xU_e]) (by rw [xU_o (by decide), xW_o (by decide), xU_o (by decide)]) (by rw [g2 158 (by decide), xU_o (by decide), xU_o (by decide), xU_o (by decide)])
        · rw [xU_e, a157, xU_e]
        · rw [xU_e]; exact zf (by omega)
        · rw [xU_e, show (300 : Int32) = Int32.ofNat 300 from rfl, i_le (by omega) (by decide)]; omega
        · rw [xU_o (by decide), xW_e, g3 i, show (0 : Int32).toNatClampNeg = 0 from rfl, xU_o (show (159 : Nat) ≠ 157 by decide), xU_o (show (159 : Nat) ≠ 157 by decide), xU_o (show (159 : Nat) ≠ 157 by decide), xU_o (show (165 : Nat) ≠ 157 by decide), xU_o (show (165 : Nat) ≠ 157 by decide), xU_o (show (165 : Nat) ≠ 157 by decide), xU_o (show (9 + 7 * e + 5) ≠ 0 by omega), xU_o (show (2 : Nat) ≠ 0 by decide)]
          unfold va_cpy
          by_cases q : i < n
          · have nb := nar8 (hR.2.2.2.2.2.2.1.1 (40 * (39 * e + a) + i))
            rw [if_pos (by omega), if_pos (by omega), show (a - 6) * 40 + (i - 0) = (a - 6) * 40 + i by omega, n4 i q, hR.2.2.2.2.2.2.1.1]
            exact nb
          · rw [if_neg (by omega), if_neg (by omega)]
            exact ho.2.2.2 i
        · rw [g2 168 (by decide), xU_o (by decide), xU_o (by decide), xU_o (by decide)]
          exact hq i
      · have a6 : a < 6 := by rw [show (6 : Int32) = Int32.ofNat 6 from rfl, i_le (by decide) (by omega)] at q6; omega
        have a3 : 3 ≤ a := by rw [show (3 : Int32) = Int32.ofNat 3 from rfl, i_le (by decide) (by omega)] at q3; exact q3
        refine q_nl q6 (q_nr q6 (q_hl (ofn_ne (by omega)) (q_hl p1 ?_)))
        unfold f77_number
        rw [xg_pos p1, p5, xg_pos (g_ix a6 (by omega)), i_cl (show a < 2 ^ 31 by omega), b2_some]
        refine q_hr (g_ix (by omega) (by omega)) ?_
        rw [i_cl (show 39 * e + a < 2 ^ 31 by omega)]
        have e4 : (xU c 0 1 0) (9 + 7 * e + 4) a = (xU (xU r 157 0 0) 157 2 0) 164 (39 * e + a) := by
          rw [xU_o (by omega), xU_o (by decide), xU_o (by decide)]
          exact ((hEa.2.2 h1).1 a3 a6).1
        rw [e4]
        exact ok _
    · refine q_nl q3 (q_nr q3 (q_hl p1 (q_l2 (e_hs z1 ha hE0) (q_r2 (e_hs' z1 ha hE0 t21) (ok _)))))
end T
