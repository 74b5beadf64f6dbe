/-! The reader: entries. -/
/-- a string's bytes -/
def Gr (r : xA) (row n i : Nat) : Int32 := if i < n then r 165 (40 * row + i) &&& 255 else -1
def Es (e a : Nat) (c r : xA) : Prop := ∃ n : Nat, n ≤ 40 ∧ c (9 + 7 * e + 6) (a - 6) = Int32.ofNat n ∧ r 166 (39 * e + a) = Int32.ofNat n ∧ (∀ i, i < n → c (9 + 7 * e + 5) ((a - 6) * 40 + i) = r 165 (40 * (39 * e + a) + i) &&& 255) ∧ WFp (Gr r (39 * e + a) n) n 0
def Ea (e a : Nat) (c r : xA) : Prop := (c (9 + 7 * e + 3) a = 0 ∨ c (9 + 7 * e + 3) a = 1) ∧ (c (9 + 7 * e + 3) a = 1 ↔ r 163 (39 * e + a) = 1) ∧ (c (9 + 7 * e + 3) a = 1 → (3 ≤ a → a < 6 → c (9 + 7 * e + 4) a = r 164 (39 * e + a) ∧ 0 ≤ c (9 + 7 * e + 4) a ∧ c (9 + 7 * e + 4) a ≤ 32767) ∧ (6 ≤ a → Es e a c r))
def EE (e : Nat) (c r : xA) : Prop := En e c r ∧ ∀ a, a < 39 → Ea e a c r
section T
variable {N h b : Nat} {c0 r0 c r c' r' : xA} {x y z s v w : Int32} {len p i f k m q l a e K : Nat}
theorem pl (he : e < 12) : xk (9 + 7 * e) = 3 ∧ xl h b (9 + 7 * e + 1) = 48 ∧ xl h b (9 + 7 * e + 2) = 4 ∧ xl h b (9 + 7 * e + 3) = 39 ∧ xl h b (9 + 7 * e + 4) = 6 ∧ xl h b (9 + 7 * e + 5) = 1320 ∧ xl h b (9 + 7 * e + 6) = 33 ∧ xk (9 + 7 * e + 5) = 100 := by
  have : e = 0 ∨ e = 1 ∨ e = 2 ∨ e = 3 ∨ e = 4 ∨ e = 5 ∨ e = 6 ∨ e = 7 ∨ e = 8 ∨ e = 9 ∨ e = 10 ∨ e = 11 := by omega
  rcases this with q | q | q | q | q | q | q | q | q | q | q | q <;> subst q <;> exact ⟨rfl, rfl, rfl, rfl, rfl, rfl, rfl, rfl⟩
theorem e_isnm (hN : 100000 ≤ N) (hT : Tp c r) (he : e < 12) (hq : q + m ≤ 3000) (hE : En e c r) : ∃ u : Nat, (u = 0 ∨ u = 1) ∧ l41_3 N h b (9 + 7 * e) 1 (Int32.ofNat q) (Int32.ofNat m) N 0 c = some (u, c) ∧ l279_13 N h b 158 (Int32.ofNat q) (Int32.ofNat m) w (Int32.ofNat e) N 0 r = some (u, r) := by
  obtain ⟨nc, h1, h2, h3, h4⟩ := hE
  obtain ⟨p1, p2, p3, _⟩ := pl (h := h) (b := b) he
  have lp : ∀ (k j n : Nat), j + k = nc → k < n → ∃ u : Nat, (u = 0 ∨ u = 1) ∧ l41_3 N h b (9 + 7 * e) 1 (Int32.ofNat q) (Int32.ofNat m) n (Int32.ofNat j) c = some (u, c) ∧ l279_13 N h b 158 (Int32.ofNat q) (Int32.ofNat m) w (Int32.ofNat e) n (Int32.ofNat j) r = some (u, r) := by
    intro k
    induction k with
    | zero =>
      intro j n g1 g2
      obtain ⟨n, rfl⟩ : ∃ n', n = n' + 1 := ⟨n - 1, by omega⟩
      have : j = nc := by omega
      subst this
      refine ⟨1, Or.inr rfl, ?_, ?_⟩
      · rw [l41_3, h2, if_pos (Int32.le_refl _)]
      · rw [l279_13, xg_pos (g_ix he (by omega)), i_cl (by omega), h3, if_pos (Int32.le_refl _)]
    | succ k ih =>
      intro j n g1 g2
      obtain ⟨n, rfl⟩ : ∃ n', n = n' + 1 := ⟨n - 1, by omega⟩
      obtain ⟨u, hu, ih1, ih2⟩ := ih (j + 1) n (by omega) (by omega)
      obtain ⟨ml, m1, m2, m3, m4⟩ := h4 j (by omega)
      have nn : ¬ Int32.ofNat nc ≤ Int32.ofNat j := by rw [i_le (by omega) (by omega)]; omega
      rw [l41_3, l279_13, h2, if_neg nn, p3, xg_pos (g_ix (show j < 4 by omega) (by omega)), i_cl (show j < 2 ^ 31 by omega), m2, xg_pos (g_ix he (by omega)), i_cl (show e < 2 ^ 31 by omega), h3, if_neg nn]
      unfold j41_36 f280_isName
      rw [xg_pos (show xk 158 = 102 from rfl), ox4, xg_pos (g_ix (by omega) (by omega)), i_cl (show 4 * e + j < 2 ^ 31 by omega), m3]
      by_cases s : ml = m
      · subst s
        rw [if_pos rfl, if_pos rfl]
        obtain ⟨u2, hu2, e1, e2⟩ := e_nam (N := N) (e := e) (j := j) p1 p2 p3 hT he (by omega) hq m1 m2 m4 ml 0 N (by omega) (by omega)
        have e1' : l42_9 N h b (9 + 7 * e) (Int32.ofNat j) 1 (Int32.ofNat q) (Int32.ofNat j * 12) N 0 c = some (if u2 = 0 then 0 else 1, c) := by
          rw [show Int32.ofNat j * 12 = Int32.ofNat (12 * j) by rw [Int32.ofNat_mul, Int32.mul_comm]; rfl]
          exact e1
        have e2' : l280_21 N h b (Int32.ofNat (4 * e + j)) 158 (Int32.ofNat q) (Int32.ofNat ml) N 1 0 r = some (0, u2, r) := e2
        unfold f42_sameName
        rw [xg_pos p1, xg_pos (show xk 1 = 100 from rfl), e1', e2', Option.bind_some, Option.bind_some]
        dsimp only
        rw [xg_pos hu2, b2_some]
        rcases hu2 with e | e <;> subst e
        · rw [if_pos rfl, if_pos rfl, b2_some, if_pos rfl, if_pos rfl, on_s]
          exact ⟨u, hu, ih1, ih2⟩
        · rw [if_neg (show ¬ (1 : Int32) = 0 by decide), if_neg (show ¬ (1 : Nat) = 0 by decide), b2_some, if_neg (by decide), if_neg (by decide)]
          exact ⟨0, Or.inl rfl, rfl, rfl⟩
      · have ns : ¬ Int32.ofNat ml = Int32.ofNat m := by rw [i_eq (by omega) (by omega)]; exact s
        obtain ⟨M, hM⟩ : ∃ n', N = n' + 1 := ⟨N - 1, by omega⟩
        have e0 : l280_21 N h b (Int32.ofNat (4 * e + j)) 158 (Int32.ofNat q) (Int32.ofNat m) N 0 0 r = some (0, 0, r) := by
          rw [hM, l280_21]
          split
          · rfl
          · rw [if_pos rfl]
        rw [if_neg ns, if_neg ns, e0, Option.bind_some]
        dsimp only
        rw [xg_pos (Or.inl rfl), b2_some, if_pos rfl, on_s]
        exact ⟨u, hu, ih1, ih2⟩
  exact lp nc 0 N (by omega) (by omega)
theorem d_idx (hN : 100000 ≤ N) (hT : Tp c r) (hK : K ≤ 12) (hq : q + m ≤ 3000) (hE : ∀ e, e < K → En e c r) : ∃ t, f40_indexNamed N h b 1 (Int32.ofNat q) (Int32.ofNat m) (Int32.ofNat K) c = some (t, c) ∧ f279_entryOf N h b 158 (Int32.ofNat q) (Int32.ofNat m) (Int32.ofNat K) r = some (t, r) ∧ (t = -1 ∨ ∃ j : Nat, j < K ∧ t = Int32.ofNat j) := by
  have lp : ∀ (k j n : Nat), j + k = K → k < n → ∃ i, i ≤ K ∧ l40_3 N h b 1 (Int32.ofNat q) (Int32.ofNat m) (Int32.ofNat K) n (Int32.ofNat j) c = some (if i < K then 0 else 1, Int32.ofNat i, c) ∧ l279_3 N h b 158 (Int32.ofNat q) (Int32.ofNat m) (Int32.ofNat K) n (Int32.ofNat j) r = some (if i < K then 0 else 1, Int32.ofNat i, r) := by
    intro k
    induction k with
    | zero =>
      intro j n g1 g2
      obtain ⟨n, rfl⟩ : ∃ n', n = n' + 1 := ⟨n - 1, by omega⟩
      have : j = K := by omega
      subst this
      refine ⟨j, by omega, ?_, ?_⟩
      · rw [l40_3, if_pos (Int32.le_refl _), if_neg (by omega)]
      · rw [l279_3, if_pos (Int32.le_refl _), if_neg (by omega)]
    | succ k ih =>
      intro j n g1 g2
      obtain ⟨n, rfl⟩ : ∃ n', n = n' + 1 := ⟨n - 1, by omega⟩
      obtain ⟨i, hi, ih1, ih2⟩ := ih (j + 1) n (by omega) (by omega)
      have nn : ¬ Int32.ofNat K ≤ Int32.ofNat j := by rw [i_le (by omega) (by omega)]; omega
      obtain ⟨u, hu, e1, e2⟩ := e_isnm (N := N) (h := h) (b := b) (w := Int32.ofNat K) hN hT (show j < 12 by omega) hq (hE j (by omega))
      obtain ⟨p1, _⟩ := pl (h := h) (b := b) (show j < 12 by omega)
      rw [l40_3, l279_3, if_neg nn, if_neg nn, if_neg (by rw [show (12 : Int32) = Int32.ofNat 12 from rfl, i_le (by decide) (by omega)]; omega), xg_pos (g_ix (show j < 12 by omega) (by omega)), i_cl (by omega)]
      unfold f41_isNamed
      rw [xg_pos p1, xg_pos (show xk 1 = 100 from rfl), e1, e2, Option.bind_some, Option.bind_some]
      dsimp only
      rcases hu with e | e <;> subst e
      · rw [if_pos rfl, if_pos rfl, b2_some, if_neg (by decide)]
        exact ⟨j, by omega, by rw [if_pos (by omega)], by rw [if_pos (by omega)]⟩
      · rw [if_neg (by decide), if_neg (by decide), b2_some, if_pos rfl, on_s]
        exact ⟨i, hi, ih1, ih2⟩
  obtain ⟨i, hi, e1, e2⟩ := lp K 0 N (by omega) (by omega)
  have e1' : l40_3 N h b 1 (Int32.ofNat q) (Int32.ofNat m) (Int32.ofNat K) N 0 c = some (if i < K then 0 else 1, Int32.ofNat i, c) := e1
  have e2' : l279_3 N h b 158 (Int32.ofNat q) (Int32.ofNat m) (Int32.ofNat K) N 0 r = some (if i < K then 0 else 1, Int32.ofNat i, r) := e2
  unfold f40_indexNamed f279_entryOf
  rw [xg_pos (show xk 1 = 100 from rfl), xg_pos (show xk 158 = 102 from rfl), e1', e2', Option.bind_some, Option.bind_some]
  dsimp only
  by_cases s : i < K
  · rw [if_pos s]
    exact ⟨Int32.ofNat i, by rw [if_pos rfl], by rw [if_pos rfl], Or.inr ⟨i, s, rfl⟩⟩
  · rw [if_neg s]
    exact ⟨-1, by rw [if_neg (by decide)], by rw [if_neg (by decide)], Or.inl rfl⟩
theorem e_hs (he : e < 12) (ha : a < 39) (hE : Ea e a c r) : f74_has N h b (9 + 7 * e) (Int32.ofNat a) c = some (c (9 + 7 * e + 3) a, c) := by
  obtain ⟨p1, p2, p3, p4, _⟩ := pl (h := h) (b := b) he
  unfold f74_has
  rw [xg_pos p1, p4, xg_pos (g_ix ha (by omega)), i_cl (by omega), xg_pos hE.1]
theorem e_hs' (he : e < 12) (ha : a < 39) (hE : Ea e a c r) (ht : r 157 21 = Int32.ofNat e) : f297_has N h b (Int32.ofNat a) r = some (c (9 + 7 * e + 3) a, r) := by
  unfold f297_has
  rw [ht, if_neg (ofn_ne (by omega)), o39, xg_pos (g_ix (by omega) (by omega)), i_cl (by omega), zi10, zg]
  congr 2
  obtain ⟨k1, k2, _⟩ := hE
  rcases k1 with q | q
  · rw [q, zb_f]
    intro e
    rw [k2.mpr e] at q
    exact absurd q (by decide)
  · rw [q, zb_t (k2.mp q)]
theorem Vw_s (he : e < 12) (ha : a < 39) (ha6 : 6 ≤ a) (hS : Es e a c r) : ∃ n, n ≤ 40 ∧ c (9 + 7 * e + 6) (a - 6) = Int32.ofNat n ∧ r 166 (39 * e + a) = Int32.ofNat n ∧ Vw h b (9 + 7 * e + 5) ((a - 6) * 40) (39 * e + a) n c r (Gr r (39 * e + a) n) ∧ WFp (Gr r (39 * e + a) n) n 0 := by
  obtain ⟨n, h1, h2, h3, h4, h5⟩ := hS
  obtain ⟨p1, p2, p3, p4, p5, p6, p7, p8⟩ := pl (h := h) (b := b) he
  refine ⟨n, h1, h2, h3, ⟨⟨p8, by rw [p6]; omega, by rw [p6]; omega, h1, by omega⟩, h3, fun i hi => ?_, fun i hi => ?_, fun i hi => ?_⟩, h5⟩
  · unfold Gr
    rw [if_pos hi]
    exact h4 i hi
  · unfold Gr
    rw [if_pos hi]
  · unfold Gr
    rw [if_neg (by omega)]
end T
