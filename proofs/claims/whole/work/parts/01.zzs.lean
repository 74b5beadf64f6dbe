/-! update: bytes are typed. -/
def UD (W : Nat) (x : Int32) : Prop := ∃ n : Nat, 6000 < n ∧ n + W ≤ 1000000000 ∧ x = Int32.ofNat n
def UL (c r : xA) : Prop := ∃ n : Nat, n ≤ 6000 ∧ c 97 5 = Int32.ofNat n ∧ r 157 49 = Int32.ofNat n ∧ ∀ i, i < n → c 105 i = r 182 i &&& 255
def Ud (W : Nat) (c r : xA) : Prop := UD W (c 97 5) ∧ UD W (r 157 49)
def Uc (W : Nat) (c r : xA) : Prop := W ≤ 900000000 ∧ (UL c r ∨ Ud W c r)
/-- what k bytes cost -/
def UM (k : Nat) (c r c' r' : xA) : Prop := ∀ W, (Uc (W + k) c r → Uc W c' r') ∧ (Ud (W + k) c r → Ud W c' r')
def TF (k : Nat) (c r c' r' : xA) : Prop := ((∀ p, p ≠ 97 → p ≠ 105 → c' p = c p) ∧ (∀ i, i ≠ 5 → c' 97 i = c 97 i) ∧ (∀ p, p ≠ 157 → p ≠ 182 → r' p = r p) ∧ (∀ i, i ≠ 49 → r' 157 i = r 157 i)) ∧ UM k c r c' r'
section T
variable {N h b : Nat} {c0 r0 c r c' r' c'' r'' : xA} {x y z s v w w1 w2 w4 w5 w6 : Int32} {len p i f k m q l a e K n row d th k0 A B t Ln Co V H o j W L : Nat}
theorem b255 : (vp_nar .byte y.toInt8.toInt32) &&& 255 = y &&& 255 := by
  have e : (y &&& 255).toInt8 = y.toInt8 := sh_g (w := y) (A := y) (B := y) 0 (by decide) (by simp) (by simp)
  rw [by8n, ← e]
  exact sb (byx y)
theorem UD_m {W' : Nat} (H : UD W x) (h1 : W' ≤ W) : UD W' x := by
  obtain ⟨n, g1, g2, g3⟩ := H
  exact ⟨n, g1, by omega, g3⟩
theorem UD_s (H : UD (W + 1) x) : UD W (x + 1) := by
  obtain ⟨n, g1, g2, g3⟩ := H
  exact ⟨n + 1, by omega, by omega, by rw [g3, on_s]⟩
theorem UD_g (H : UD W x) : 6000 < x ∧ 6000 ≤ x := by
  obtain ⟨n, g1, g2, g3⟩ := H
  rw [g3, show (6000 : Int32) = Int32.ofNat 6000 from rfl, i_lt (by decide) (by omega), i_le (by decide) (by omega)]
  omega
theorem UL_nd (H : UL c r) (G : UD W (c 97 5)) : False := by
  obtain ⟨n, n1, n2, n3, n4⟩ := H
  have := (UD_g G).1
  rw [n2, show (6000 : Int32) = Int32.ofNat 6000 from rfl, i_lt (by decide) (by omega)] at this
  omega
theorem Uc_m {W' : Nat} (H : Uc W c r) (h1 : W' ≤ W) : Uc W' c r := by
  obtain ⟨g, g2⟩ := H
  refine ⟨by omega, ?_⟩
  rcases g2 with k | ⟨k1, k2⟩
  · exact Or.inl k
  · exact Or.inr ⟨UD_m k1 h1, UD_m k2 h1⟩
theorem UM_r : UM 0 c r c r := fun W => ⟨id, id⟩
theorem UM_t (H : UM k c r c' r') (G : UM m c' r' c'' r'') : UM (k + m) c r c'' r'' := fun W => ⟨fun g => (G W).1 ((H (W + m)).1 (by rw [show W + m + k = W + (k + m) by omega]; exact g)), fun g => (G W).2 ((H (W + m)).2 (by rw [show W + m + k = W + (k + m) by omega]; exact g))⟩
theorem UM_m (H : UM k c r c' r') (h1 : k ≤ m) : UM m c r c' r' := fun W => ⟨fun g => (H W).1 (Uc_m g (by omega)), fun g => (H W).2 ⟨UD_m g.1 (by omega), UD_m g.2 (by omega)⟩⟩
theorem TF_r : TF 0 c r c r := ⟨⟨fun _ _ _ => rfl, fun _ _ => rfl, fun _ _ _ => rfl, fun _ _ => rfl⟩, UM_r⟩
theorem TF_t (H : TF k c r c' r') (G : TF m c' r' c'' r'') : TF (k + m) c r c'' r'' := ⟨⟨fun p h1 h2 => by rw [G.1.1 p h1 h2, H.1.1 p h1 h2], fun i h1 => by rw [G.1.2.1 i h1, H.1.2.1 i h1], fun p h1 h2 => by rw [G.1.2.2.1 p h1 h2, H.1.2.2.1 p h1 h2], fun i h1 => by rw [G.1.2.2.2 i h1, H.1.2.2.2 i h1]⟩, UM_t H.2 G.2⟩
theorem d_tb (H : Uc (W + 1) c r) (hx : x = y &&& 255) : ∃ c' r', f131_addByte N h b x c = some c' ∧ f334_typeByte N h b y r = some r' ∧ TF 1 c r c' r' := by
  obtain ⟨hw, H⟩ := H
  unfold f131_addByte j131_20 f334_typeByte j334_21
  dsimp only [xw]
  rcases H with hL | ⟨k1, k2⟩
  · obtain ⟨n, n1, n2, n3, n4⟩ := id hL
    by_cases z : n = 6000
    · subst z
      rw [n2, n3, if_pos (by decide), if_pos (by decide)]
      refine ⟨_, _, rfl, rfl, ⟨fun p h1 h2 => xU_o h1, fun i hi => xU_s hi, fun p h1 h2 => xU_o h1, fun i hi => xU_s hi⟩, fun W' => ⟨fun g => ⟨by have := g.1; omega, Or.inr ⟨?_, ?_⟩⟩, fun g => absurd g.1 (fun q => UL_nd hL q)⟩⟩
      · have := g.1
        rw [xU_e]; exact ⟨6001, by omega, by omega, rfl⟩
      · have := g.1
        rw [xU_e]; exact ⟨6001, by omega, by omega, rfl⟩
    · have nn : ¬ (6000 : Int32) ≤ Int32.ofNat n := by rw [show (6000 : Int32) = Int32.ofNat 6000 from rfl, i_le (by decide) (by omega)]; omega
      rw [n2, n3, if_neg nn, if_neg nn, xg_pos (g_ix (by omega) (by omega)), xg_pos (g_ix (by omega) (by omega)), i_cl (by omega), xU_o (show (97 : Nat) ≠ 105 by decide), xU_o (show (157 : Nat) ≠ 182 by decide), n2, n3, on_s]
      refine ⟨_, _, rfl, rfl, ⟨fun p h1 h2 => by rw [xU_o h1, xU_o h2], fun i hi => by rw [xU_s hi, xU_o (by decide)], fun p h1 h2 => by rw [xU_o h1, xU_o h2], fun i hi => by rw [xU_s hi, xU_o (by decide)]⟩, fun W' => ⟨fun g => ⟨by have := g.1; omega, Or.inl ⟨n + 1, by omega, xU_e, xU_e, fun i hi => ?_⟩⟩, fun g => absurd g.1 (fun q => UL_nd hL q)⟩⟩
      rw [xU_o (show (105 : Nat) ≠ 97 by decide), xU_o (show (182 : Nat) ≠ 157 by decide)]
      by_cases e : i = n
      · subst e
        rw [xU_e, xU_e, b255, hx]
      · rw [xU_s e, xU_s e]
        exact n4 i (by omega)
  · rw [if_pos (UD_g k1).2, if_pos (UD_g k2).2]
    have hd : ∀ W', Ud (W' + 1) c r → Ud W' (xU c 97 5 (c 97 5 + 1)) (xU r 157 49 (r 157 49 + 1)) := fun W' g => ⟨by rw [xU_e]; exact UD_s g.1, by rw [xU_e]; exact UD_s g.2⟩
    refine ⟨_, _, rfl, rfl, ⟨fun p h1 h2 => xU_o h1, fun i hi => xU_s hi, fun p h1 h2 => xU_o h1, fun i hi => xU_s hi⟩, fun W' => ⟨fun g => ⟨by have := g.1; omega, Or.inr ?_⟩, hd W'⟩⟩
    rcases g.2 with q | q
    · exact absurd k1 (fun q' => UL_nd q q')
    · exact hd W' q
theorem d_b50 (hL : L ≤ 60) : ∀ (k j f : Nat) (c r : xA), j + k = L → k < f → Uc (W + k) c r → c 97 7 = 93 → (∀ i, i < L → c 96 i = r 168 i &&& 255) → ∃ c' r', l130_50 N h b w2 (Int32.ofNat L) w6 f (Int32.ofNat j) c = some (0, c') ∧ l332_32 N h b w4 (Int32.ofNat L) w6 f (Int32.ofNat j) r = some (0, r') ∧ TF k c r c' r' := by
  intro k
  induction k with
  | zero =>
    intro j f c r h1 h2 h3 h4 h5
    obtain ⟨f, rfl⟩ : ∃ f', f = f' + 1 := ⟨f - 1, by omega⟩
    have : j = L := by omega
    subst this
    exact ⟨c, r, by rw [l130_50, if_pos (Int32.le_refl _)], by rw [l332_32, if_pos (Int32.le_refl _)], TF_r⟩
  | succ k ih =>
    intro j f c r h1 h2 h3 h4 h5
    obtain ⟨f, rfl⟩ : ∃ f', f = f' + 1 := ⟨f - 1, by omega⟩
    obtain ⟨c1, r1, g1, g2, g4⟩ := d_tb (N := N) (h := h) (b := b) (W := W + k) h3 (h5 j (by omega))
    obtain ⟨c2, r2, k1, k2, k4⟩ := ih (j + 1) f c1 r1 (by omega) (by omega) ((g4.2 (W + k)).1 h3) (by rw [g4.1.2.1 7 (by decide)]; exact h4) (fun i hi => by rw [g4.1.1 96 (by decide) (by decide), g4.1.2.2.1 168 (by decide) (by decide)]; exact h5 i hi)
    have nn : ¬ Int32.ofNat L ≤ Int32.ofNat j := by rw [i_le (by omega) (by omega)]; omega
    refine ⟨c2, r2, ?_, ?_, by rw [show k + 1 = 1 + k by omega]; exact TF_t g4 k4⟩
    · rw [l130_50, if_neg nn, xg_pos h4, xg_pos (g_ix (by omega) (by omega)), i_cl (by omega), g1, b1_some, on_s]
      exact k1
    · rw [l332_32, if_neg nn, xg_pos (g_ix (by omega) (by omega)), i_cl (by omega), g2, b1_some, on_s]
      exact k2
/-- when too many bytes are there, the class goes on alone -/
theorem d_c41 (hN : 100000 ≤ N) (hL : L ≤ 60) {t : Nat} (ht : t ≤ 1000) : ∀ (k j f : Nat) (c r : xA), j + k = t → k < f → UD (W + 60 * k) (c 97 5) → W + 60 * k ≤ 900000000 → c 97 7 = 93 → (∀ i, i < L → c 96 i = r 168 i &&& 255) → ∃ c', l130_41 N h b (Int32.ofNat t) (Int32.ofNat L) f (Int32.ofNat j) c = some (0, c') ∧ (∀ p, p ≠ 97 → p ≠ 105 → c' p = c p) ∧ (∀ i, i ≠ 5 → c' 97 i = c 97 i) ∧ ∀ W', UD (W' + 60 * k) (c 97 5) → UD W' (c' 97 5) := by
  intro k
  induction k with
  | zero =>
    intro j f c r h1 h2 h3 h0 h4 h5
    obtain ⟨f, rfl⟩ : ∃ f', f = f' + 1 := ⟨f - 1, by omega⟩
    have : j = t := by omega
    subst this
    exact ⟨c, by rw [l130_41, if_pos (Int32.le_refl _)], fun _ _ _ => rfl, fun _ _ => rfl, fun W' g => g⟩
  | succ k ih =>
    intro j f c r h1 h2 h3 h0 h4 h5
    obtain ⟨f, rfl⟩ : ∃ f', f = f' + 1 := ⟨f - 1, by omega⟩
    have vd : ∀ W', UD W' (c 97 5) → Ud W' c (xU r 157 49 6001) := fun W' g => ⟨g, by
      obtain ⟨n, n1, n2, _⟩ := g
      rw [xU_e]; exact ⟨6001, by omega, by omega, rfl⟩⟩
    have hu : Uc (W + 60 * k + L) c (xU r 157 49 6001) := ⟨by omega, Or.inr (vd _ (UD_m h3 (by omega)))⟩
    obtain ⟨c1, r1, g1, g2, g4⟩ := d_b50 (N := N) (h := h) (b := b) (w2 := Int32.ofNat t) (w6 := Int32.ofNat j) (w4 := Int32.ofNat t) hL L 0 N c (xU r 157 49 6001) (by omega) (by omega) hu h4 (fun i hi => by rw [xU_o (by decide)]; exact h5 i hi)
    have g1' : l130_50 N h b (Int32.ofNat t) (Int32.ofNat L) (Int32.ofNat j) N 0 c = some (0, c1) := g1
    have gD : ∀ W', UD (W' + 60) (c 97 5) → UD W' (c1 97 5) := fun W' g => ((g4.2 W').2 (vd _ (UD_m g (by omega)))).1
    obtain ⟨c2, q1, q2, q3, q4⟩ := ih (j + 1) f c1 r (by omega) (by omega) (gD _ (by rw [show W + 60 * k + 60 = W + 60 * (k + 1) by omega]; exact h3)) (by omega) (by rw [g4.1.2.1 7 (by decide)]; exact h4) (fun i hi => by rw [g4.1.1 96 (by decide) (by decide)]; exact h5 i hi)
    refine ⟨c2, ?_, fun p k1 k2 => by rw [q2 p k1 k2, g4.1.1 p k1 k2], fun i k1 => by rw [q3 i k1, g4.1.2.1 i k1], fun W' g => q4 W' (gD _ (by rw [show W' + 60 * k + 60 = W' + 60 * (k + 1) by omega]; exact g))⟩
    rw [l130_41, if_neg (by rw [i_le (by omega) (by omega)]; omega), g1', Option.bind_some, on_s]
    exact q1
theorem d_rep (hN : 100000 ≤ N) (hL : L ≤ 60) {t : Nat} (ht : t ≤ 1000) : ∀ (k j f : Nat) (c r : xA), j + k = t → k < f → Uc (W + 60 * k) c r → c 97 7 = 93 → (∀ i, i < L → c 96 i = r 168 i &&& 255) → ∃ c' r', l130_41 N h b (Int32.ofNat t) (Int32.ofNat L) f (Int32.ofNat j) c = some (0, c') ∧ l332_12 N h b (Int32.ofNat t) (Int32.ofNat L) f (Int32.ofNat j) r = some (0, r') ∧ TF (60 * k) c r c' r' := by
  intro k
  induction k with
  | zero =>
    intro j f c r h1 h2 h3 h4 h5
    obtain ⟨f, rfl⟩ : ∃ f', f = f' + 1 := ⟨f - 1, by omega⟩
    have : j = t := by omega
    subst this
    exact ⟨c, r, by rw [l130_41, if_pos (Int32.le_refl _)], by rw [l332_12, if_pos (Int32.le_refl _)], TF_r⟩
  | succ k ih =>
    intro j f c r h1 h2 h3 h4 h5
    have nn : ¬ Int32.ofNat t ≤ Int32.ofNat j := by rw [i_le (by omega) (by omega)]; omega
    rcases h3.2 with hl | hd
    · obtain ⟨f, rfl⟩ : ∃ f', f = f' + 1 := ⟨f - 1, by omega⟩
      obtain ⟨c1, r1, g1, g2, g4⟩ := d_b50 (N := N) (h := h) (b := b) (w2 := Int32.ofNat t) (w6 := Int32.ofNat j) (w4 := Int32.ofNat t) (W := W) hL L 0 N c r (by omega) (by omega) (Uc_m h3 (by omega)) h4 h5
      have g1' : l130_50 N h b (Int32.ofNat t) (Int32.ofNat L) (Int32.ofNat j) N 0 c = some (0, c1) := g1
      have g2' : l332_32 N h b (Int32.ofNat t) (Int32.ofNat L) (Int32.ofNat j) N 0 r = some (0, r1) := g2
      have g5 : TF 60 c r c1 r1 := ⟨g4.1, UM_m g4.2 hL⟩
      obtain ⟨c2, r2, k1, k2, k4⟩ := ih (j + 1) f c1 r1 (by omega) (by omega) ((g5.2 _).1 (by rw [show W + 60 * k + 60 = W + 60 * (k + 1) by omega]; exact h3)) (by rw [g4.1.2.1 7 (by decide)]; exact h4) (fun i hi => by rw [g4.1.1 96 (by decide) (by decide), g4.1.2.2.1 168 (by decide) (by decide)]; exact h5 i hi)
      refine ⟨c2, r2, ?_, ?_, by rw [show 60 * (k + 1) = 60 + 60 * k by omega]; exact TF_t g5 k4⟩
      · rw [l130_41, if_neg nn, g1', Option.bind_some, on_s]
        exact k1
      · have n6 : ¬ 6000 < r 157 49 := by
          obtain ⟨n, n1, n2, n3, n4⟩ := hl
          rw [n3, show (6000 : Int32) = Int32.ofNat 6000 from rfl, i_lt (by decide) (by omega)]
          omega
        rw [l332_12, if_neg nn, if_neg n6, g2', Option.bind_some, on_s]
        exact k2
    · obtain ⟨c', q1, q2, q3, q4⟩ := d_c41 (N := N) (h := h) (b := b) hN hL ht (k + 1) j f c r h1 h2 hd.1 h3.1 h4 h5
      obtain ⟨f, rfl⟩ : ∃ f', f = f' + 1 := ⟨f - 1, by omega⟩
      have dd : ∀ W', Ud (W' + 60 * (k + 1)) c r → Ud W' c' r := fun W' g => ⟨q4 W' g.1, UD_m g.2 (by omega)⟩
      refine ⟨c', r, q1, by rw [l332_12, if_neg nn, if_pos (UD_g hd.2).1], ⟨q2, q3, fun _ _ _ => rfl, fun _ _ => rfl⟩, fun W' => ⟨fun g => ⟨by have := g.1; omega, Or.inr ?_⟩, dd W'⟩⟩
      rcases g.2 with q | q
      · exact absurd hd.1 (fun q' => UL_nd q q')
      · exact dd W' q
end T
