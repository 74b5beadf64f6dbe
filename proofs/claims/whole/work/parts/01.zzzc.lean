/-! update: the cheapest way, chosen. -/
def WV (kk Ln Co R C : Nat) (c r : xA) : Prop := kk = 1 ∨ (kk = 2 ∧ ∃ X, Kn Ln Co R X c r) ∨ (kk = 3 ∧ ∃ Y, Kn Ln Co Y C c r) ∨ (kk = 4 ∧ ∃ Y X, Kn Ln Co Y X c r ∧ lnD Y R c < 1000000 ∧ lnX Co R X C c < 1000000) ∨ (kk = 5 ∧ ∃ Y X, Kn Ln Co Y X c r ∧ lnD Y R c < 1000000 ∧ lnX Co R 0 C c < 1000000 ∧ c 106 20 < 1000000) ∨ (kk = 6 ∧ lnD 0 R c < 1000000 ∧ lnX Co R 0 C c < 1000000 ∧ c 106 8 < 1000000)
section T
variable {N h b : Nat} {c0 r0 c r c' r' c'' r'' : xA} {x y z s v w w1 w2 w4 w5 w6 w7 x' y' : Int32} {len p i f k m q l a e K n n' row d th k0 A B t Ln Co V H o j W L a0 a1 m' y0 y1 x0 x1 S Y X R C kk : Nat}
theorem Kn_R (H : Kn Ln Co Y X c r) (hr : RF r r') : Kn Ln Co Y X c r' := Kn_X H (RF_X (c := c) hr)
/-- the string that goes to a place: always there -/
theorem d_9 (hN : 100000 ≤ N) (H : UV N h b e Ln Co c r) : ∃ (n : Nat) (c1 r1 : xA), n ≤ 60 ∧ (xb1 (f81_setParameters N h b x y 0 0 c) (fun a5 => xg (¬ (a5 97 6) = -1) (xg ((a5 97 7) = 93) (f82_putTogether N h b ((a5 97 6).toNatClampNeg) 9 a5)))) = some (Int32.ofNat n, c1) ∧ f333_bytesOf N h b 9 x y r = some (Int32.ofNat n, r1) ∧ UV N h b e Ln Co c1 r1 ∧ XF 0 c r c1 r1 := by
  obtain ⟨⟨hz, hE, hT, hA, h9⟩, hk, hq⟩ := id H
  have he := hz.1
  have t21 := hz.2.2.2.2.2.2.1
  have h6 := hz.2.2.2.2.2.2.2.1
  have h7 : c 97 7 = 93 := hz.2.2.2.2.2.2.2.2.1
  have hh : f297_has N h b 9 r = some (c (9 + 7 * e + 3) 9, r) := e_hs' he (show 9 < 39 by decide) (hE 9 (by decide)) t21
  unfold f333_bytesOf f81_setParameters
  dsimp only [xw]
  rw [b1_some, hh, b2_some, if_neg (by rw [h9]; decide)]
  generalize hC : xU (xU (xU (xU c 95 0 x) 95 1 y) 95 2 0) 95 3 0 = C
  have oc : ∀ p, p ≠ 95 → C p = c p := fun p hp => by rw [← hC, xU_o hp, xU_o hp, xU_o hp, xU_o hp]
  have q1 : C 95 0 = x := by rw [← hC, xU_s (by decide), xU_s (by decide), xU_s (by decide), xU_e]
  have q2 : C 95 1 = y := by rw [← hC, xU_s (by decide), xU_s (by decide), xU_e]
  have q3 : C 95 2 = 0 := by rw [← hC, xU_s (by decide), xU_e]
  have q4 : C 95 3 = 0 := by rw [← hC, xU_e]
  obtain ⟨L, c1, r1, g1, g2, g3, g4, g5, g6, g7, g8⟩ := d_ptog (N := N) (h := h) (b := b) (a := 9) hN he (by decide) (by decide) (Ea_fr (c' := C) (r' := r) he (hE 9 (by decide)) (fun p _ _ => oc p (by omega)) (fun _ _ _ => rfl)) (by rw [oc _ (by omega)]; exact h9) t21 hq q1 q2 q3 q4
  have g1' : f82_putTogether N h b (9 + 7 * e) 9 C = some (Int32.ofNat L, c1) := g1
  have g2' : f299_puts N h b 9 x y 0 0 r = some r1 := g2
  rw [oc 97 (by decide), h6, xg_pos (ofn_ne (by omega)), xg_pos h7, i_cl (show 9 + 7 * e < 2 ^ 31 by omega), g1', g2', b1_some, g4]
  have m0 : UM 0 c r c1 r1 := UM_z (by rw [g8.1 97 (by decide), oc 97 (by decide)]) (by rw [g8.1 105 (by decide), oc 105 (by decide)]) (g8.2.2.2 49 (by decide) (by decide)) (g8.2.2.1 182 (by decide) (by decide) (by decide))
  have hX : XF 0 c r c1 r1 := ⟨⟨fun p h1 h2 => by rw [g8.1 p (by omega), oc p (by omega)], fun i hi => by rw [g8.1 97 (by decide), oc 97 (by decide)], fun i h1 h2 => by rw [g8.2.1 i h1 h2, oc 93 (by decide)], fun p h1 h2 h3 h4 => g8.2.2.1 p h1 h2 h3, fun i h1 h2 h3 => g8.2.2.2 i h1 h2⟩, m0⟩
  exact ⟨L, c1, r1, g3, rfl, rfl, UV_X H hX g7, hX⟩
theorem d_cheap (hN : 100000 ≤ N) (H : UV N h b e Ln Co c r) (hR : R < Ln) (hC : C < Co) : ∃ kk c1 r1, 1 ≤ kk ∧ kk ≤ 6 ∧ f138_cheapestWay N h b (Int32.ofNat R) (Int32.ofNat C) c = some (Int32.ofNat kk, c1) ∧ l340_44 N h b (Int32.ofNat R) (Int32.ofNat C) N (-1) 0 1 r = some (0, Int32.ofNat kk, r1) ∧ UV N h b e Ln Co c1 r1 ∧ XF 0 c r c1 r1 ∧ WV kk Ln Co R C c1 r1 := by
  have h7 : c 97 7 = 93 := H.1.1.2.2.2.2.2.2.2.2.1
  obtain ⟨n1, c1, r1, s1, s2, s3, H1, hX⟩ := d_9 (N := N) (h := h) (b := b) (x := Int32.ofNat R) (y := Int32.ofNat C) hN H
  obtain ⟨y2, r2, n2, a1, a2, a3, a4, a5⟩ := c_2 (N := N) (h := h) (b := b) hN H1 hR hC
  have H2 := UV_R H1 a2
  obtain ⟨y3, r3, n3, b1, b2, b3, b4, b5⟩ := c_3 (N := N) (h := h) (b := b) hN H2 hR hC
  have H3 := UV_R H2 b2
  obtain ⟨y4, r4, n4, y5, r5, n5, d1, d2, d3, d4, d5, d6, d7, d8⟩ := c_45 (N := N) (h := h) (b := b) hN H3 hR hC
  have H5 := UV_R H3 d3
  obtain ⟨y6, r6, n6, f1, f2, f3, f4, f5⟩ := c_6 (N := N) (h := h) (b := b) hN H5 hR hC
  have H6 := UV_R H5 f2
  have hw1 : f342_way N h b 1 (Int32.ofNat R) (Int32.ofNat C) 0 r = some (Int32.ofNat n1, r1) := by
    unfold f342_way j342_78
    rw [if_pos (show (1 : Int32) = 1 from rfl), if_pos (show (0 : Int32) = 0 from rfl), s3, b2_some]
  obtain ⟨M, hM⟩ : ∃ n', N = n' + 7 := ⟨N - 7, by omega⟩
  have e0 : l340_44 N h b (Int32.ofNat R) (Int32.ofNat C) N (-1) 0 1 r = l340_44 N h b (Int32.ofNat R) (Int32.ofNat C) (M + 6) (Int32.ofNat 1) (Int32.ofNat n1) (Int32.ofNat 2) r1 := by
    conv => lhs; arg 6; rw [hM]
    rw [show M + 7 = (M + 6) + 1 by omega, l340_44, if_neg (show ¬ (6 : Int32) < 1 by decide), hw1, b2_some, if_neg (ofn_ne (by omega)), if_pos rfl]
    rfl
  have k2 := l340_s (f := M + 5) (k := 2) (kk := 1) (m := n1) a1 a3 (by omega) (by omega) (by omega) (by omega)
  generalize hk2 : (if n2 < n1 then 2 else 1) = kk2 at k2
  have q2 : 1 ≤ kk2 ∧ kk2 ≤ 6 := by rw [← hk2]; split <;> omega
  have k3 := l340_s (f := M + 4) (k := 3) (kk := kk2) (m := min n1 n2) b1 b3 (by omega) q2.1 q2.2 (by omega)
  generalize hk3 : (if n3 < min n1 n2 then 3 else kk2) = kk3 at k3
  have q3 : 1 ≤ kk3 ∧ kk3 ≤ 6 := by rw [← hk3]; split <;> omega
  have k4 := l340_s (f := M + 3) (k := 4) (kk := kk3) (m := min (min n1 n2) n3) d1 d4 (by omega) q3.1 q3.2 (by omega)
  generalize hk4 : (if n4 < min (min n1 n2) n3 then 4 else kk3) = kk4 at k4
  have q4 : 1 ≤ kk4 ∧ kk4 ≤ 6 := by rw [← hk4]; split <;> omega
  have k5 := l340_s (f := M + 2) (k := 5) (kk := kk4) (m := min (min (min n1 n2) n3) n4) d2 d5 (by omega) q4.1 q4.2 (by omega)
  generalize hk5 : (if n5 < min (min (min n1 n2) n3) n4 then 5 else kk4) = kk5 at k5
  have q5 : 1 ≤ kk5 ∧ kk5 ≤ 6 := by rw [← hk5]; split <;> omega
  have k6 := l340_s (f := M + 1) (k := 6) (kk := kk5) (m := min (min (min (min n1 n2) n3) n4) n5) f1 f3 (by omega) q5.1 q5.2 (by omega)
  generalize hk6 : (if n6 < min (min (min (min n1 n2) n3) n4) n5 then 6 else kk5) = kk6 at k6
  have q6 : 1 ≤ kk6 ∧ kk6 ≤ 6 := by rw [← hk6]; split <;> omega
  have r16 : RF r1 r6 := RF_t a2 (RF_t b2 (RF_t d3 f2))
  refine ⟨kk6, c1, r6, q6.1, q6.2, ?_, ?_, H6, XF_t hX (RF_X (c := c1) r16), ?_⟩
  · have e := a5 1 n1 (by omega)
    rw [hk2, b5 kk2 (min n1 n2) (by omega), hk3, d8 kk3 (min (min n1 n2) n3) (by omega), hk4, hk5, f5 kk5 _ (by omega), hk6] at e
    unfold f138_cheapestWay
    rw [xg_pos h7]
    unfold f81_setParameters at s2 ⊢
    dsimp only [xw] at s2 ⊢
    rw [b1_some] at s2 ⊢
    generalize hD : xU (xU (xU (xU c 95 0 (Int32.ofNat R)) 95 1 (Int32.ofNat C)) 95 2 0) 95 3 0 = D at s2 ⊢
    have g6 : D 97 6 = c 97 6 := by rw [← hD, xU_o (by decide), xU_o (by decide), xU_o (by decide), xU_o (by decide)]
    have g7 : D 97 7 = 93 := by rw [← hD, xU_o (by decide), xU_o (by decide), xU_o (by decide), xU_o (by decide)]; exact h7
    have n6' : ¬ D 97 6 = -1 := by rw [g6, H.1.1.2.2.2.2.2.2.2.1]; exact ofn_ne (by have := H.1.1.1; omega)
    rw [xg_pos n6', xg_pos g7] at s2 ⊢
    rw [s2, b2_some]
    exact e
  · rw [e0]
    refine k2.trans (k3.trans (k4.trans (k5.trans (k6.trans ?_))))
    rw [l340_44, if_pos (by decide)]
  · have t26 : RF r2 r6 := RF_t b2 (RF_t d3 f2)
    have t36 : RF r3 r6 := RF_t d3 f2
    unfold WV
    rw [← hk6]
    by_cases z6 : n6 < min (min (min (min n1 n2) n3) n4) n5
    · rw [if_pos z6]
      have := f4 (by omega)
      exact Or.inr (Or.inr (Or.inr (Or.inr (Or.inr ⟨rfl, this⟩))))
    rw [if_neg z6, ← hk5]
    by_cases z5 : n5 < min (min (min n1 n2) n3) n4
    · rw [if_pos z5]
      obtain ⟨Y, X, v1, v2, v3, v4⟩ := d7 (by omega)
      exact Or.inr (Or.inr (Or.inr (Or.inr (Or.inl ⟨rfl, Y, X, Kn_R v1 t36, v2, v3, v4⟩))))
    rw [if_neg z5, ← hk4]
    by_cases z4 : n4 < min (min n1 n2) n3
    · rw [if_pos z4]
      obtain ⟨Y, X, v1, v2, v3⟩ := d6 (by omega)
      exact Or.inr (Or.inr (Or.inr (Or.inl ⟨rfl, Y, X, Kn_R v1 t36, v2, v3⟩)))
    rw [if_neg z4, ← hk3]
    by_cases z3 : n3 < min n1 n2
    · rw [if_pos z3]
      obtain ⟨Y, v1⟩ := b4 (by omega)
      exact Or.inr (Or.inr (Or.inl ⟨rfl, Y, Kn_R v1 t26⟩))
    rw [if_neg z3, ← hk2]
    by_cases z2 : n2 < n1
    · rw [if_pos z2]
      obtain ⟨X, v1⟩ := a4 (by omega)
      exact Or.inr (Or.inl ⟨rfl, X, Kn_R v1 r16⟩)
    rw [if_neg z2]
    exact Or.inl rfl
end T
