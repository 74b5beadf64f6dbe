/-! use, empty, count. -/
section T
variable {N h b : Nat} {c0 r0 c r c' r' c'' r'' : xA} {x y z s v w w1 w2 : Int32} {len p i f k m q l a e K n row d th k0 A B t Ln Co V H o j : Nat}
theorem o39n {M : Nat} (k : Nat) : (39 : Int32) * Int32.ofNat M + Int32.ofNat k = Int32.ofNat (39 * M + k) := o39
theorem e_146 : j293_146 N h b x y r = some (-2, r) := by
  unfold j293_146 j293_147
  rw [if_pos rfl]
theorem t_use (hN : 100000 ≤ N) (ht : Rt c r) (hR : RR K c r) (hq : MQb r) : Q2 (f71_use N h b c) (f293_use N h b r) (fun p q => p.1 = q.1 ∧ Rt p.2 q.2 ∧ ((p.2 = xU c 0 1 0 ∧ q.2 = xU (xU r 157 0 0) 157 2 0) ∨ (∃ e, e < K ∧ UF c r p.2 q.2 ∧ RW p.2 q.2 ∧ RP p.2 q.2 ∧ p.2 0 14 = Int32.ofNat (9 + 7 * e) ∧ TB N h b e p.2 ∧ p.2 (9 + 7 * e + 3) 9 = 1))) := by
  obtain ⟨t1, t2, t3, t4⟩ := id ht
  obtain ⟨len, hl, el, _⟩ := i_nat t2
  have l3 : len ≤ 3000 := by rw [el, show (3000 : Int32) = Int32.ofNat 3000 from rfl, i_le hl (by decide)] at t3; exact t3
  obtain ⟨r1, r2, r3, r4, r5, r6, r7, r8⟩ := id hR
  unfold f71_use f72_entryNamed f293_use
  rw [xg_pos (show xk 1 = 100 from rfl), el, r2]
  dsimp only [xw]
  have q2 : xU r 157 0 0 157 2 = Int32.ofNat len := by rw [xU_s (by decide), ← t1]; exact el
  have q5 : xU (xU r 157 0 0) 157 2 0 157 5 = Int32.ofNat K := by rw [xU_s (by decide), xU_s (by decide)]; exact r3
  rw [q2, q5]
  generalize hG : xU (xU r 157 0 0) 157 2 0 = G
  have go : ∀ p, p ≠ 157 → G p = r p := fun p hp => by rw [← hG, xU_o hp, xU_o hp]
  have g7 : ∀ i, i ≠ 0 → i ≠ 2 → G 157 i = r 157 i := fun i h1 h2 => by rw [← hG, xU_s h2, xU_s h1]
  have g2 : G 157 2 = 0 := by rw [← hG, xU_e]
  have hEG : ∀ e, e < K → EE e c G := fun e he => EE_of (r4 e he) (fun _ _ _ => rfl) (by rw [go 160 (by decide)]) (fun i _ _ => by rw [go 161 (by decide)]) (fun i _ _ => by rw [go 162 (by decide)]) (fun i _ _ => by rw [go 163 (by decide), go 164 (by decide), go 166 (by decide)]; exact ⟨rfl, rfl, rfl⟩) (fun i _ _ => by rw [go 165 (by decide)])
  obtain ⟨t, s1, s2, s3⟩ := d_idx (N := N) (h := h) (b := b) (c := c) (r := G) (q := 0) (m := len) (K := K) hN (fun i => by rw [go 158 (by decide)]; exact t4 i) r1 (by omega) (fun e he => (hEG e he).1)
  have s1' : f40_indexNamed N h b 1 0 (Int32.ofNat len) (Int32.ofNat K) c = some (t, c) := s1
  have s2' : f279_entryOf N h b 158 0 (Int32.ofNat len) (Int32.ofNat K) G = some (t, G) := s2
  have Rt0 : Rt (xU c 0 1 0) G := Rt_0 ht xU_e g2 (by rw [xU_o (by decide)]) (go 158 (by decide))
  rw [s1', s2', b2_some, b2_some]
  rcases s3 with e1 | ⟨e, he, ej⟩
  · rw [if_pos e1, b2_some, if_pos rfl, if_pos e1]
    exact ⟨_, _, rfl, rfl, rfl, Rt0, Or.inl ⟨rfl, rfl⟩⟩
  subst ej
  have he12 : e < 12 := by omega
  obtain ⟨p1, p2, p3, p4, p5, p6, p7, p8⟩ := pl (h := h) (b := b) he12
  have tn : ¬ Int32.ofNat e = -1 := ofn_ne (by omega)
  rw [if_neg tn, if_neg tn, xg_pos (g_ix he12 (by omega)), i_cl (show e < 2 ^ 31 by omega), b2_some, if_neg (ofn_ne (show 9 + 7 * e < 2 ^ 31 by omega)), i_cl (show 9 + 7 * e < 2 ^ 31 by omega), xg_pos p1]
  have hEc : ∀ a, a < 39 → Ea e a (xU c 0 1 0) G := fun a ha => Ea_of ((hEG e he).2 a ha) (by rw [xU_o (by omega)]) (by rw [xU_o (by omega)]) rfl rfl (fun _ hS => Es_of hS (by rw [xU_o (by omega)]) (fun i _ _ => by rw [xU_o (by omega)]) rfl (fun _ _ _ => rfl))
  generalize hC : xU c 0 1 0 = C at hEc Rt0 ⊢
  have co : ∀ p, p ≠ 0 → C p = c p := fun p hp => by rw [← hC, xU_o hp]
  have c0' : ∀ i, i ≠ 1 → C 0 i = c 0 i := fun i hi => by rw [← hC, xU_s hi]
  have x3 : (39 : Int32) * Int32.ofNat e + 3 = Int32.ofNat (39 * e + 3) := o39n 3
  have x4 : (39 : Int32) * Int32.ofNat e + 4 = Int32.ofNat (39 * e + 4) := o39n 4
  have x7 : (39 : Int32) * Int32.ofNat e + 7 = Int32.ofNat (39 * e + 7) := o39n 7
  have x9 : (39 : Int32) * Int32.ofNat e + 9 = Int32.ofNat (39 * e + 9) := o39n 9
  rw [e_usb he12 hEc, b2_some, x3, x4, x7, x9, xg_pos (g_ix (show 39 * e + 3 < 468 by omega) (by omega)), i_cl (show 39 * e + 3 < 2 ^ 31 by omega), xg_pos (g_ix (show 39 * e + 4 < 468 by omega) (by omega)), i_cl (show 39 * e + 4 < 2 ^ 31 by omega), xg_pos (g_ix (show 39 * e + 7 < 468 by omega) (by omega)), i_cl (show 39 * e + 7 < 2 ^ 31 by omega), xg_pos (g_ix (show 39 * e + 9 < 468 by omega) (by omega)), i_cl (show 39 * e + 9 < 2 ^ 31 by omega)]
  obtain ⟨m3a, m3b, m3c⟩ := hEc 3 (by decide)
  obtain ⟨m4a, m4b, m4c⟩ := hEc 4 (by decide)
  obtain ⟨m7a, m7b, m7c⟩ := hEc 7 (by decide)
  obtain ⟨m9a, m9b, m9c⟩ := hEc 9 (by decide)
  by_cases hU : US e C
  · obtain ⟨u1, ⟨u2, u3⟩, u4, ⟨u5, u6⟩, u7, u8⟩ := id hU
    obtain ⟨n3, n3b, n3c⟩ := (m3c u1).1 (by decide) (by decide)
    obtain ⟨n4, n4b, n4c⟩ := (m4c u4).1 (by decide) (by decide)
    obtain ⟨Co, hCo, eCo, _⟩ := i_nat n3b
    obtain ⟨Ln, hLn, eLn, _⟩ := i_nat n4b
    have l3' : 4 ≤ Co ∧ Co ≤ 80 := by
      rw [eCo, show (4 : Int32) = Int32.ofNat 4 from rfl, i_le (by decide) hCo] at u2
      rw [eCo, show (80 : Int32) = Int32.ofNat 80 from rfl, i_le hCo (by decide)] at u3
      exact ⟨u2, u3⟩
    have l4' : 2 ≤ Ln ∧ Ln ≤ 24 := by
      rw [eLn, show (2 : Int32) = Int32.ofNat 2 from rfl, i_le (by decide) hLn] at u5
      rw [eLn, show (24 : Int32) = Int32.ofNat 24 from rfl, i_le hLn (by decide)] at u6
      exact ⟨u5, u6⟩
    rw [if_neg (show ¬ zb (US e C) = 0 by rw [zb_t hU]; decide), if_pos (m3b.mp u1), if_neg (show ¬ G 164 (39 * e + 3) < 4 by rw [← n3]; exact Int32.not_lt.mpr u2), if_neg (show ¬ 80 < G 164 (39 * e + 3) by rw [← n3]; exact Int32.not_lt.mpr u3), if_pos (m4b.mp u4), if_neg (show ¬ G 164 (39 * e + 4) < 2 by rw [← n4]; exact Int32.not_lt.mpr u5), if_neg (show ¬ 24 < G 164 (39 * e + 4) by rw [← n4]; exact Int32.not_lt.mpr u6), if_pos (m7b.mp u7), if_pos (m9b.mp u8), if_neg (show ¬ (1 : Int32) = 0 by decide)]
    obtain ⟨R, k1, k2⟩ := e_usr (N := N) (h := h) (b := b) (r := G) (e := e) (Ln := Ln) (Co := Co) hN he12 (by rw [← n3]; exact eCo) (by rw [← n4]; exact eLn)
    dsimp only [xw] at k1
    rw [k1]
    obtain ⟨c1, q1, q2', q3⟩ := e_cw (N := N) (h := h) (b := b) (c := xU C 0 14 (Int32.ofNat (9 + 7 * e))) hN
    rw [q1, b1_some]
    have d9 : ∀ p, p ≠ 0 → ¬ (141 ≤ p ∧ p ≤ 156) → c1 p = C p := fun p h1 h2 => by rw [q2' p h2, xU_o h1]
    have hE1 : ∀ a, a < 39 → Ea e a c1 (xU G 157 21 (Int32.ofNat e)) := fun a ha => Ea_of (hEc a ha) (by rw [d9 _ (by omega) (by omega)]) (by rw [d9 _ (by omega) (by omega)]) rfl rfl (fun _ hS => Es_of hS (by rw [d9 _ (by omega) (by omega)]) (fun i _ _ => by rw [d9 _ (by omega) (by omega)]) rfl (fun _ _ _ => rfl))
    obtain ⟨c2, v1, v2, v3⟩ := d_begin (N := N) (h := h) (b := b) (c := c1) (r := xU G 157 21 (Int32.ofNat e)) (Ln := Ln) (Co := Co) hN he12 hE1 xU_e (fun i => by rw [xU_o (by decide), go 168 (by decide)]; exact hq i) (by rw [d9 _ (by omega) (by omega)]; exact eLn) l4'.1 l4'.2 (by rw [d9 _ (by omega) (by omega)]; exact eCo) l3'.1 l3'.2
    rw [v1, b1_some]
    obtain ⟨f1, f2, f3, f4, f5, f6, f7, f8, f9, f10, f11, f12, f13, f14, f15, f16, f17⟩ := v2
    obtain ⟨y1, y2, y3, y4, y5, y6, y7, y8, y9, y10, y11, y12, y13, y14⟩ := k2
    have e14 : c2 0 14 = Int32.ofNat (9 + 7 * e) := by rw [f1 0 (by decide) (by decide) (by decide), q2' 0 (by decide), xU_e]
    have hHB := hb_ub l4'.2 l3'.2
    have idx : ∀ y x, y < Ln → x < Co → y * Co + x < Ln * Co := fun y x h1 h2 => by
      have : (y + 1) * Co ≤ Ln * Co := Nat.mul_le_mul_right Co h1
      rw [Nat.add_mul] at this
      omega
    refine ⟨_, _, rfl, rfl, rfl, ?_, Or.inr ⟨e, he, ⟨?_, ?_, ?_, ?_, ?_⟩, ?_, ?_, e14, v3, ?_⟩⟩ <;> dsimp only
    · exact Rt_0 ht (by rw [f1 0 (by decide) (by decide) (by decide), q2' 0 (by decide), xU_s (by decide), ← hC, xU_e]) (by rw [y2 2 (by decide) (by decide) (by decide) (by decide)]; exact g2) (by rw [f1 1 (by decide) (by decide) (by decide), d9 1 (by decide) (by decide), co 1 (by decide)]) (by rw [y1 158 (by decide) (by decide), go 158 (by decide)])
    · intro p h1 h2 h3 h4 h5
      rw [f1 p h2 h3 h4, d9 p h1 h5, co p h1]
    · intro i h1 h2
      rw [f1 0 (by decide) (by decide) (by decide), q2' 0 (by decide), xU_s h2, c0' i h1]
    · intro i h1 h2
      rw [f2 i h1 h2, d9 93 (by decide) (by decide), co 93 (by decide)]
    · intro p h1 h2
      rw [y1 p h1 h2, go p h1]
    · intro i h1 h2 h3 h4 h5 h6
      rw [y2 i h3 h4 h5 h6, g7 i h1 h2]
    · intro w hw
      exact Or.inl ⟨by rw [f1 _ (by omega) (by omega) (by omega)]; exact q3 w hw, y13 w hw⟩
    · refine Or.inr ⟨e, Ln, Co, ⟨he12, l4'.1, l4'.2, l3'.1, l3'.2, e14, y3, f3, f4, f5, y5, f6, y4⟩, ⟨f10, f11, ⟨0, 0, by omega, by omega, f12, y6, f13, y7⟩, fun y x h1 h2 => ?_⟩, ⟨f14, f15, by rw [f16, y10], by rw [f16]; decide, by rw [f16]; decide, by rw [f8, y11], Or.inr f8, Or.inl ⟨f9, y8, y9⟩, fun y x h1 h2 => ?_⟩, by rw [f7, y12], trivial⟩
      · rw [(f17 _ (idx y x h1 h2)).1, (y14 _ (by omega)).1]
      · rw [(f17 _ (idx y x h1 h2)).2, (y14 _ (by omega)).2]
    · rw [f1 _ (by omega) (by omega) (by omega), d9 _ (by omega) (by omega)]
      exact u8
  · rw [if_pos (show zb (US e C) = 0 from zb_f hU)]
    have fin : Q2 (some ((-2 : Int32), C)) (some ((-2 : Int32), G)) (fun p q => p.1 = q.1 ∧ Rt p.2 q.2 ∧ ((p.2 = C ∧ q.2 = G) ∨ (∃ e, e < K ∧ UF c r p.2 q.2 ∧ RW p.2 q.2 ∧ RP p.2 q.2 ∧ p.2 0 14 = Int32.ofNat (9 + 7 * e) ∧ TB N h b e p.2 ∧ p.2 (9 + 7 * e + 3) 9 = 1))) := ⟨_, _, rfl, rfl, rfl, Rt0, Or.inl ⟨rfl, rfl⟩⟩
    rw [e_146]
    by_cases z1 : G 163 (39 * e + 3) = 1
    · rw [if_pos z1]
      obtain ⟨n3, n3b, n3c⟩ := (m3c (m3b.mpr z1)).1 (by decide) (by decide)
      by_cases z2 : G 164 (39 * e + 3) < 4
      · rw [if_pos z2]; exact fin
      rw [if_neg z2]
      by_cases z3 : 80 < G 164 (39 * e + 3)
      · rw [if_pos z3]; exact fin
      rw [if_neg z3]
      by_cases z4 : G 163 (39 * e + 4) = 1
      · rw [if_pos z4]
        obtain ⟨n4, n4b, n4c⟩ := (m4c (m4b.mpr z4)).1 (by decide) (by decide)
        by_cases z5 : G 164 (39 * e + 4) < 2
        · rw [if_pos z5]; exact fin
        rw [if_neg z5]
        by_cases z6 : 24 < G 164 (39 * e + 4)
        · rw [if_pos z6]; exact fin
        rw [if_neg z6]
        by_cases z7 : G 163 (39 * e + 7) = 1
        · rw [if_pos z7]
          by_cases z8 : G 163 (39 * e + 9) = 1
          · exact absurd ⟨m3b.mpr z1, ⟨by rw [n3]; exact Int32.not_lt.mp z2, by rw [n3]; exact Int32.not_lt.mp z3⟩, m4b.mpr z4, ⟨by rw [n4]; exact Int32.not_lt.mp z5, by rw [n4]; exact Int32.not_lt.mp z6⟩, m7b.mpr z7, m9b.mpr z8⟩ hU
          · rw [if_neg z8, if_pos rfl]; exact fin
        · rw [if_neg z7]; exact fin
      · rw [if_neg z4]; exact fin
    · rw [if_neg z1]; exact fin
end T
