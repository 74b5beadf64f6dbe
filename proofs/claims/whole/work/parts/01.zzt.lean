/-! update: strings are typed, lengths are known. -/
def St (N h b e Ln Co : Nat) (c r : xA) : Prop := Pz e Ln Co c r ∧ (∀ a, a < 39 → Ea e a c r) ∧ TB N h b e c ∧ (∀ y x, y < Ln → x < Co → c 104 (y * Co + x) = (r 170 (80 * y + x) &&& 255) + 256 * ((r 170 (80 * y + x) >>> ((8 : Int32) &&& 31)) &&& r 157 50)) ∧ c (9 + 7 * e + 3) 9 = 1
def Uk (Ln Co : Nat) (c r : xA) : Prop := c 100 8 = r 157 53 ∧ 0 ≤ c 100 8 ∧ c 100 8 ≤ 15 ∧ ((c 97 14 = 0 ∧ r 157 51 = -1 ∧ r 157 52 = -1) ∨ (c 97 14 = 1 ∧ ∃ Y X, Y < Ln ∧ X < Co ∧ c 100 6 = Int32.ofNat Y ∧ r 157 51 = Int32.ofNat Y ∧ c 100 7 = Int32.ofNat X ∧ r 157 52 = Int32.ofNat X)) ∧ (∀ y x, y < Ln → x < Co → c 101 (y * Co + x) = r 183 (80 * y + x)) ∧ c 100 4 = Int32.ofNat Ln ∧ c 100 5 = Int32.ofNat Co
def UV (N h b e Ln Co : Nat) (c r : xA) : Prop := St N h b e Ln Co c r ∧ Uk Ln Co c r ∧ MQb r
/-- what typing strings leaves alone -/
def XF (k : Nat) (c r c' r' : xA) : Prop := ((∀ p, ¬ (93 ≤ p ∧ p ≤ 97) → p ≠ 105 → c' p = c p) ∧ (∀ i, i ≠ 5 → c' 97 i = c 97 i) ∧ (∀ i, i ≠ 1 → i ≠ 4 → c' 93 i = c 93 i) ∧ (∀ p, p ≠ 157 → p ≠ 168 → p ≠ 169 → p ≠ 182 → r' p = r p) ∧ (∀ i, i ≠ 23 → i ≠ 25 → i ≠ 49 → r' 157 i = r 157 i)) ∧ UM k c r c' r'
/-- what measuring leaves alone in the reference -/
def RF (r r' : xA) : Prop := (∀ p, p ≠ 157 → p ≠ 168 → p ≠ 169 → r' p = r p) ∧ (∀ i, i ≠ 23 → i ≠ 25 → r' 157 i = r 157 i) ∧ MQb r'
def CO (x y : Int32) : Prop := (x = 1000000 ∧ y = -1) ∨ ∃ L : Nat, L ≤ 60 ∧ x = Int32.ofNat L ∧ y = Int32.ofNat L
section T
variable {N h b : Nat} {c0 r0 c r c' r' c'' r'' : xA} {x y z s v w w1 w2 w4 w5 w6 : Int32} {len p i f k m q l a e K n row d th k0 A B t Ln Co V H o j W L : Nat}
theorem Pz_of (H : Pz e Ln Co c r) (h1 : c' 0 14 = c 0 14) (h2 : ∀ i, 6 ≤ i → i ≤ 9 → c' 97 i = c 97 i) (h3 : r' 157 21 = r 157 21) (h4 : r' 157 26 = r 157 26) (h5 : r' 157 27 = r 157 27) : Pz e Ln Co c' r' := by
  obtain ⟨a1, a2, a3, a4, a5, a6, a7, a8, a9, b1, b2, b3, b4⟩ := H
  exact ⟨a1, a2, a3, a4, a5, by rw [h1]; exact a6, by rw [h3]; exact a7, by rw [h2 6 (by decide) (by decide)]; exact a8, by rw [h2 7 (by decide) (by decide)]; exact a9, by rw [h2 8 (by decide) (by decide)]; exact b1, by rw [h5]; exact b2, by rw [h2 9 (by decide) (by decide)]; exact b3, by rw [h4]; exact b4⟩
theorem Ea_fr (he : e < 12) (H : Ea e a c r) (h1 : ∀ p, 9 ≤ p → p ≤ 92 → c' p = c p) (h2 : ∀ p, 160 ≤ p → p ≤ 167 → r' p = r p) : Ea e a c' r' := Ea_of H (by rw [h1 _ (by omega) (by omega)]) (by rw [h1 _ (by omega) (by omega)]) (by rw [h2 163 (by decide) (by decide)]) (by rw [h2 164 (by decide) (by decide)]) (fun _ hS => Es_of hS (by rw [h1 _ (by omega) (by omega)]) (fun i _ _ => by rw [h1 _ (by omega) (by omega)]) (by rw [h2 166 (by decide) (by decide)]) (fun i _ _ => by rw [h2 165 (by decide) (by decide)]))
theorem St_of (H : St N h b e Ln Co c r) (h1 : ∀ p, 9 ≤ p → p ≤ 92 → c' p = c p) (h2 : ∀ p, 160 ≤ p → p ≤ 167 → r' p = r p) (h3 : c' 0 14 = c 0 14) (h4 : ∀ i, 6 ≤ i → i ≤ 11 → c' 97 i = c 97 i) (h5 : r' 157 21 = r 157 21) (h6 : r' 157 26 = r 157 26) (h7 : r' 157 27 = r 157 27) (h8 : r' 157 50 = r 157 50) (h9 : c' 104 = c 104) (h10 : r' 170 = r 170) (h11 : c' 106 = c 106) (h12 : ∀ p, 108 ≤ p → p ≤ 113 → c' p = c p) : St N h b e Ln Co c' r' := by
  obtain ⟨a1, a2, a3, a4, a5⟩ := H
  have he := a1.1
  exact ⟨Pz_of a1 h3 (fun i k1 k2 => h4 i k1 (by omega)) h5 h6 h7, fun a ha => Ea_fr he (a2 a ha) h1 h2, TB_of a3 (fun p k1 k2 => h1 p (by omega) (by omega)) h11 h12 (h4 10 (by decide) (by decide)) (h4 11 (by decide) (by decide)), fun y x k1 k2 => by rw [h9, h10, h8]; exact a4 y x k1 k2, by rw [h1 _ (by omega) (by omega)]; exact a5⟩
theorem Uk_of (H : Uk Ln Co c r) (h1 : ∀ i, 4 ≤ i → i ≤ 8 → c' 100 i = c 100 i) (h2 : c' 97 14 = c 97 14) (h3 : ∀ i, 51 ≤ i → i ≤ 53 → r' 157 i = r 157 i) (h4 : c' 101 = c 101) (h5 : r' 183 = r 183) : Uk Ln Co c' r' := by
  unfold Uk at *
  rw [h1 8 (by decide) (by decide), h1 6 (by decide) (by decide), h1 7 (by decide) (by decide), h1 4 (by decide) (by decide), h1 5 (by decide) (by decide), h2, h3 51 (by decide) (by decide), h3 52 (by decide) (by decide), h3 53 (by decide) (by decide), h4, h5]
  exact H
theorem UV_X (H : UV N h b e Ln Co c r) (hX : XF k c r c' r') (hq : MQb r') : UV N h b e Ln Co c' r' := by
  obtain ⟨⟨a1, a2, a3, a4, a5⟩, _⟩ := hX
  exact ⟨St_of H.1 (fun p k1 k2 => a1 p (by omega) (by omega)) (fun p k1 k2 => a4 p (by omega) (by omega) (by omega) (by omega)) (by rw [a1 0 (by decide) (by decide)]) (fun i k1 k2 => a2 i (by omega)) (a5 21 (by decide) (by decide) (by decide)) (a5 26 (by decide) (by decide) (by decide)) (a5 27 (by decide) (by decide) (by decide)) (a5 50 (by decide) (by decide) (by decide)) (a1 104 (by decide) (by decide)) (a4 170 (by decide) (by decide) (by decide) (by decide)) (a1 106 (by decide) (by decide)) (fun p k1 k2 => a1 p (by omega) (by omega)), Uk_of H.2.1 (fun i _ _ => by rw [a1 100 (by decide) (by decide)]) (a2 14 (by decide)) (fun i k1 k2 => a5 i (by omega) (by omega) (by omega)) (a1 101 (by decide) (by decide)) (a4 183 (by decide) (by decide) (by decide) (by decide)), hq⟩
theorem XF_r : XF 0 c r c r := ⟨⟨fun _ _ _ => rfl, fun _ _ => rfl, fun _ _ _ => rfl, fun _ _ _ _ _ => rfl, fun _ _ _ _ => rfl⟩, UM_r⟩
theorem XF_m (H : XF k c r c' r') (h1 : k ≤ m) : XF m c r c' r' := ⟨H.1, UM_m H.2 h1⟩
theorem XF_t (H : XF k c r c' r') (G : XF m c' r' c'' r'') : XF (k + m) c r c'' r'' := ⟨⟨fun p h1 h2 => by rw [G.1.1 p h1 h2, H.1.1 p h1 h2], fun i h1 => by rw [G.1.2.1 i h1, H.1.2.1 i h1], fun i h1 h2 => by rw [G.1.2.2.1 i h1 h2, H.1.2.2.1 i h1 h2], fun p h1 h2 h3 h4 => by rw [G.1.2.2.2.1 p h1 h2 h3 h4, H.1.2.2.2.1 p h1 h2 h3 h4], fun i h1 h2 h3 => by rw [G.1.2.2.2.2 i h1 h2 h3, H.1.2.2.2.2 i h1 h2 h3]⟩, UM_t H.2 G.2⟩
/-- the counts and the bytes are not touched -/
theorem UM_z (h1 : c' 97 5 = c 97 5) (h2 : c' 105 = c 105) (h3 : r' 157 49 = r 157 49) (h4 : r' 182 = r 182) : UM 0 c r c' r' := by
  intro W
  unfold Uc Ud UL
  rw [h1, h2, h3, h4]
  exact ⟨id, id⟩
theorem RF_X (H : RF r r') : XF 0 c r c r' := ⟨⟨fun _ _ _ => rfl, fun _ _ => rfl, fun _ _ _ => rfl, fun p h1 h2 h3 _ => H.1 p h1 h2 h3, fun i h1 h2 _ => H.2.1 i h1 h2⟩, UM_z rfl rfl (H.2.1 49 (by decide) (by decide)) (H.1 182 (by decide) (by decide) (by decide))⟩
theorem UV_R (H : UV N h b e Ln Co c r) (hX : RF r r') : UV N h b e Ln Co c r' := UV_X H (RF_X (c := c) hX) hX.2.2
theorem RF_r (hq : MQb r) : RF r r := ⟨fun _ _ _ _ => rfl, fun _ _ _ => rfl, hq⟩
theorem RF_t (H : RF r r') (G : RF r' r'') : RF r r'' := ⟨fun p h1 h2 h3 => by rw [G.1 p h1 h2 h3, H.1 p h1 h2 h3], fun i h1 h2 => by rw [G.2.1 i h1 h2, H.2.1 i h1 h2], G.2.2⟩
theorem e_rep0 {t : Nat} (ht : t ≤ 1000) (hN : 0 < N) : ∀ (k j f : Nat), j + k = t → k < f → l332_12 N h b (Int32.ofNat t) (-1) f (Int32.ofNat j) r = some (0, r) := by
  intro k
  induction k with
  | zero =>
    intro j f h1 h2
    obtain ⟨f, rfl⟩ : ∃ f', f = f' + 1 := ⟨f - 1, by omega⟩
    have : j = t := by omega
    subst this
    rw [l332_12, if_pos (Int32.le_refl _)]
  | succ k ih =>
    intro j f h1 h2
    obtain ⟨f, rfl⟩ : ∃ f', f = f' + 1 := ⟨f - 1, by omega⟩
    obtain ⟨M, hM⟩ : ∃ n', N = n' + 1 := ⟨N - 1, by omega⟩
    have e0 : l332_32 N h b (Int32.ofNat t) (-1) (Int32.ofNat j) N 0 r = some (0, r) := by
      rw [hM, l332_32, if_pos (by decide)]
    rw [l332_12, if_neg (by rw [i_le (by omega) (by omega)]; omega)]
    by_cases z : 6000 < r 157 49
    · rw [if_pos z]
    · rw [if_neg z, e0, Option.bind_some, on_s]
      exact ih (j + 1) f (by omega) (by omega)
/-- a string is sent some times -/
theorem d_send (hN : 100000 ≤ N) (H : UV N h b e Ln Co c r) (ha : a < 39) (ha6 : 6 ≤ a) (ht : t ≤ 1000) (hu : Uc (W + 60 * t) c r) : ∃ c' r', f130_send N h b (Int32.ofNat a) (Int32.ofNat t) x y c = some c' ∧ f332_typeAll N h b (Int32.ofNat a) x y (Int32.ofNat t) r = some r' ∧ UV N h b e Ln Co c' r' ∧ XF (60 * t) c r c' r' := by
  obtain ⟨⟨hz, hE, hT, hA, h9⟩, hk, hq⟩ := id H
  have he := hz.1
  have t21 := hz.2.2.2.2.2.2.1
  have h6 := hz.2.2.2.2.2.2.2.1
  have h7 : c 97 7 = 93 := hz.2.2.2.2.2.2.2.2.1
  obtain ⟨p1, p2, p3, p4, p5, p6, p7, p8⟩ := pl (h := h) (b := b) he
  unfold f130_send f332_typeAll f333_bytesOf
  rw [h6, xg_pos (ofn_ne (by omega)), i_cl (show 9 + 7 * e < 2 ^ 31 by omega), xg_pos p1, e_hs he ha (hE a ha), b2_some, e_hs' he ha (hE a ha) t21, b2_some]
  rcases (hE a ha).1 with z | z
  · rw [if_pos z, if_pos z, b2_some]
    have e0 : l332_12 N h b (Int32.ofNat t) (-1) N 0 r = some (0, r) := e_rep0 ht (by omega) t 0 N (by omega) (by omega)
    rw [e0, Option.bind_some]
    exact ⟨c, r, rfl, rfl, H, XF_m XF_r (by omega)⟩
  · rw [if_neg (by rw [z]; decide), if_neg (by rw [z]; decide), xg_pos h7]
    unfold f81_setParameters
    dsimp only [xw]
    rw [b1_some]
    generalize hC : xU (xU (xU (xU c 95 0 x) 95 1 y) 95 2 0) 95 3 0 = C
    have oc : ∀ p, p ≠ 95 → C p = c p := fun p hp => by rw [← hC, xU_o hp, xU_o hp, xU_o hp, xU_o hp]
    have q1 : C 95 0 = x := by rw [← hC, xU_s (by decide), xU_s (by decide), xU_s (by decide), xU_e]
    have q2 : C 95 1 = y := by rw [← hC, xU_s (by decide), xU_s (by decide), xU_e]
    have q3 : C 95 2 = 0 := by rw [← hC, xU_s (by decide), xU_e]
    have q4 : C 95 3 = 0 := by rw [← hC, xU_e]
    obtain ⟨L, c1, r1, g1, g2, g3, g4, g5, g6, g7, g8⟩ := d_ptog (N := N) (h := h) (b := b) hN he ha ha6 (Ea_fr (c' := C) (r' := r) he (hE a ha) (fun p _ _ => oc p (by omega)) (fun _ _ _ => rfl)) (by rw [oc _ (by omega)]; exact z) t21 hq q1 q2 q3 q4
    rw [oc 97 (by decide), h6, xg_pos (ofn_ne (by omega)), xg_pos h7, i_cl (show 9 + 7 * e < 2 ^ 31 by omega), g1, b2_some, g2, b1_some, b2_some, g4]
    have m0 : UM 0 c r c1 r1 := UM_z (by rw [g8.1 97 (by decide), oc 97 (by decide)]) (by rw [g8.1 105 (by decide), oc 105 (by decide)]) (g8.2.2.2 49 (by decide) (by decide)) (g8.2.2.1 182 (by decide) (by decide) (by decide))
    obtain ⟨c2, r2, k1, k2, k3⟩ := d_rep (N := N) (h := h) (b := b) (W := W) (t := t) hN g3 ht t 0 N c1 r1 (by omega) (by omega) ((m0 _).1 hu) (by rw [g8.1 97 (by decide), oc 97 (by decide)]; exact h7) g6
    have k1' : l130_41 N h b (Int32.ofNat t) (Int32.ofNat L) N 0 c1 = some (0, c2) := k1
    have k2' : l332_12 N h b (Int32.ofNat t) (Int32.ofNat L) N 0 r1 = some (0, r2) := k2
    rw [k1', k2', Option.bind_some, Option.bind_some]
    have hX : XF (60 * t) c r c2 r2 := ⟨⟨fun p h1 h2 => by rw [k3.1.1 p (by omega) h2, g8.1 p (by omega), oc p (by omega)], fun i hi => by rw [k3.1.2.1 i hi, g8.1 97 (by decide), oc 97 (by decide)], fun i h1 h2 => by rw [k3.1.1 93 (by decide) (by decide), g8.2.1 i h1 h2, oc 93 (by decide)], fun p h1 h2 h3 h4 => by rw [k3.1.2.2.1 p h1 h4, g8.2.2.1 p h1 h2 h3], fun i h1 h2 h3 => by rw [k3.1.2.2.2 i h3, g8.2.2.2 i h1 h2]⟩, by have := UM_t m0 k3.2; rwa [Nat.zero_add] at this⟩
    exact ⟨c2, r2, rfl, rfl, UV_X H hX (fun i => by rw [k3.1.2.2.1 168 (by decide) (by decide)]; exact g7 i), hX⟩
/-- a length -/
theorem d_len4 (hN : 100000 ≤ N) (H : UV N h b e Ln Co c r) (ha : a < 39) (ha6 : 6 ≤ a) : ∃ y' r', f333_bytesOf N h b (Int32.ofNat a) (Int32.ofNat V) 0 r = some (y', r') ∧ RF r r' ∧ (∀ x', TBx N h b e c a V x' → CO x' y') ∧ (c (9 + 7 * e + 3) a = 1 → ∃ L : Nat, L ≤ 60 ∧ y' = Int32.ofNat L) := by
  obtain ⟨⟨hz, hE, hT, hA, h9⟩, hk, hq⟩ := id H
  have he := hz.1
  have t21 := hz.2.2.2.2.2.2.1
  obtain ⟨p1, p2, p3, p4, p5, p6, p7, p8⟩ := pl (h := h) (b := b) he
  unfold f333_bytesOf
  rw [e_hs' he ha (hE a ha) t21, b2_some]
  rcases (hE a ha).1 with z | z
  · rw [if_pos z]
    refine ⟨_, _, rfl, RF_r hq, fun x' hx => ?_, fun g => by rw [z] at g; exact absurd g (by decide)⟩
    rcases hx with ⟨k1, k2⟩ | ⟨k1, _⟩
    · exact Or.inl ⟨k2, rfl⟩
    · rw [z] at k1; exact absurd k1 (by decide)
  · rw [if_neg (by rw [z]; decide)]
    have key : ∀ (cu : xA), (∀ p, 9 + 7 * e ≤ p → p ≤ 9 + 7 * e + 6 → cu p = c p) → cu 95 0 = Int32.ofNat V → cu 95 1 = 0 → cu 95 2 = 0 → cu 95 3 = 0 → ∃ (L : Nat) (c1 r1 : xA), f82_putTogether N h b (9 + 7 * e) (Int32.ofNat a) cu = some (Int32.ofNat L, c1) ∧ f299_puts N h b (Int32.ofNat a) (Int32.ofNat V) 0 0 0 r = some r1 ∧ L ≤ 60 ∧ r1 157 23 = Int32.ofNat L ∧ RF r r1 := by
      intro cu h1 q1 q2 q3 q4
      have hEu : Ea e a cu r := Ea_of (hE a ha) (by rw [h1 _ (by omega) (by omega)]) (by rw [h1 _ (by omega) (by omega)]) rfl rfl (fun _ hS => Es_of hS (by rw [h1 _ (by omega) (by omega)]) (fun i _ _ => by rw [h1 _ (by omega) (by omega)]) rfl (fun _ _ _ => rfl))
      obtain ⟨L, c1, r1, g1, g2, g3, g4, g5, g6, g7, g8⟩ := d_ptog (N := N) (h := h) (b := b) hN he ha ha6 hEu (by rw [h1 _ (by omega) (by omega)]; exact z) t21 hq q1 q2 q3 q4
      exact ⟨L, c1, r1, g1, g2, g3, g4, g8.2.2.1, g8.2.2.2, g7⟩
    obtain ⟨L, c1, r1, g1, g2, g3, g4, g5⟩ := key (xU (xU (xU (xU c 95 0 (Int32.ofNat V)) 95 1 0) 95 2 0) 95 3 0) (fun p _ _ => by rw [xU_o (by omega), xU_o (by omega), xU_o (by omega), xU_o (by omega)]) (by rw [xU_s (by decide), xU_s (by decide), xU_s (by decide), xU_e]) (by rw [xU_s (by decide), xU_s (by decide), xU_e]) (by rw [xU_s (by decide), xU_e]) (by rw [xU_e])
    rw [g2, b1_some]
    refine ⟨_, _, rfl, g5, fun x' hx => ?_, fun _ => ⟨L, g3, g4⟩⟩
    rcases hx with ⟨k1, k2⟩ | ⟨k1, cu, c1', k2, k3, k4, k5, k6, k7⟩
    · rw [k1] at z; exact absurd z (by decide)
    · obtain ⟨L', c1'', r1', m1, m2, m3, m4, m5⟩ := key cu k2 k3 k4 k5 k6
      rw [m1] at k7
      rw [g2] at m2
      have ex : x' = Int32.ofNat L' := (Prod.mk.inj (Option.some.inj k7)).1.symm
      have er : r1 = r1' := Option.some.inj m2
      rw [← er, g4] at m4
      exact Or.inr ⟨L', m3, ex, by rw [g4]; exact m4⟩
theorem d_len (hN : 100000 ≤ N) (H : UV N h b e Ln Co c r) (ha : a < 39) (ha6 : 6 ≤ a) : ∃ y' r', f333_bytesOf N h b (Int32.ofNat a) (Int32.ofNat V) 0 r = some (y', r') ∧ RF r r' ∧ (∀ x', TBx N h b e c a V x' → CO x' y') := by
  obtain ⟨y', r', g1, g2, g3, _⟩ := d_len4 (N := N) (h := h) (b := b) (V := V) hN H ha ha6
  exact ⟨y', r', g1, g2, g3⟩
end T
