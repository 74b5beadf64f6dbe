/-! The reader: names. -/
def NP (k0 len q th : Nat) (c0 r0 : xA) (p : Nat × xA) (q' : Nat × Int32 × xA) : Prop := (p.1 = 0 ∧ ∃ c2 x y, p.2 = xU (xU c2 3 2 x) 3 3 y ∧ FL k0 c0 r0 c2 q'.2.2 ∧ ((q'.1 = 0 ∧ x = 1 ∧ y = q'.2.2 157 15) ∨ (q'.1 = 1 ∧ x = 2 ∧ y = q'.2.1) ∨ (q'.1 = 2 ∧ x = 3 ∧ y = q'.2.1) ∨ (q'.1 = 3 ∧ x = 11 ∧ y = q'.2.1))) ∨ (p.1 = 1 ∧ q'.1 = 4 ∧ FL k0 c0 r0 p.2 q'.2.2 ∧ p.2 3 6 = q'.2.2 157 15) ∨ (p.1 = 2 ∧ q'.1 = 5 ∧ ∃ q1, q ≤ q1 ∧ q1 ≤ len ∧ DC k0 len q1 th c0 r0 p.2 q'.2.2)
section T
variable {N h b : Nat} {c0 r0 c r c' r' c'' r'' : xA} {x y z s v w w1 w2 : Int32} {len p i f k m q l a e K n row d th k0 A B : Nat}
theorem e_264 {M : Nat} (hM : M < 48) (hm : m ≤ 12) (hq : q + m ≤ 3000) : ∀ (k j f : Nat) {a : xA}, j + k = m → k < f → a 162 M = Int32.ofNat m → ∃ a', l290_264 N h b (Int32.ofNat q) (Int32.ofNat M) f (Int32.ofNat j) a = some (0, a') ∧ (∀ p, p ≠ 161 → a' p = a p) ∧ (∀ i, a' 161 i = if 12 * M + j ≤ i ∧ i < 12 * M + m then vp_nar .byte (a 158 (q + (i - 12 * M))) else a 161 i) := by
  intro k
  induction k with
  | zero =>
    intro j f a h1 h2 h3
    obtain ⟨f, rfl⟩ : ∃ f', f = f' + 1 := ⟨f - 1, by omega⟩
    refine ⟨a, ?_, fun _ _ => rfl, fun i => by rw [if_neg (by omega)]⟩
    rw [l290_264, xg_pos (g_ix hM (by omega)), i_cl (show M < 2 ^ 31 by omega), h3, if_pos (by rw [i_le (by omega) (by omega)]; omega)]
  | succ k ih =>
    intro j f a h1 h2 h3
    obtain ⟨f, rfl⟩ : ∃ f', f = f' + 1 := ⟨f - 1, by omega⟩
    obtain ⟨a', e1, e2, e3⟩ := ih (j + 1) f (a := xU a 161 (12 * M + j) (vp_nar .byte (a 158 (q + j)))) (by omega) (by omega) (by rw [xU_o (by decide)]; exact h3)
    refine ⟨a', ?_, fun p hp => by rw [e2 p hp, xU_o hp], fun i => ?_⟩
    · rw [l290_264, xg_pos (g_ix hM (by omega)), i_cl (show M < 2 ^ 31 by omega), h3, if_neg (by rw [i_le (by omega) (by omega)]; omega), ← Int32.ofNat_add, xg_pos (g_ix (by omega) (by omega)), o12, xg_pos (g_ix (by omega) (by omega)), i_cl (by omega), i_cl (by omega), on_s]
      exact e1
    · rw [e3 i, xU_o (show (158 : Nat) ≠ 161 by decide), xU_eq]
      grind
/-- a name is added -/
theorem d_adn (hN : 100000 ≤ N) (H : DC k0 len p th c0 r0 c r) (hv : n < 4) (h1 : c (9 + 7 * th) 2 = Int32.ofNat n) (h2 : r 160 th = Int32.ofNat n) (hm : m ≤ 12) (hq : q + m ≤ 3000) : ∃ c' r', f69_addName N h b (9 + 7 * th) 1 (Int32.ofNat q) (Int32.ofNat m) c = some c' ∧ (l290_264 N h b (Int32.ofNat q) (Int32.ofNat (4 * th + n)) N 0 (xU r 162 (4 * th + n) (Int32.ofNat m))) = some (0, r') ∧ r' 157 = r 157 ∧ r' 160 = r 160 ∧ DC k0 len p th c0 r0 c' (xU r' 160 th (Int32.ofNat (n + 1))) ∧ c' (9 + 7 * th) 2 = Int32.ofNat (n + 1) := by
  obtain ⟨⟨⟨d1, d2, d3, d4, d5, d6, d7, d8, d9⟩, n1, n2, n3⟩, a2, a3, a4, a5, a6, g1, g2, g3, g4, u, u1, u2, u3, u4⟩ := H
  obtain ⟨p1, p2, p3, p4, p5, p6, p7, p8⟩ := pl (h := h) (b := b) a4
  obtain ⟨r1, t1, t2, t3⟩ := e_264 (N := N) (h := h) (b := b) (M := 4 * th + n) (m := m) (q := q) (by omega) hm hq m 0 N (a := xU r 162 (4 * th + n) (Int32.ofNat m)) (by omega) (by omega) xU_e
  have ec : f69_addName N h b (9 + 7 * th) 1 (Int32.ofNat q) (Int32.ofNat m) c = some (xU (xU (xW c (9 + 7 * th + 1) (va_cpy (c 1) (c (9 + 7 * th + 1)) q (12 * n) m)) (9 + 7 * th + 2) n (Int32.ofNat m)) (9 + 7 * th) 2 (Int32.ofNat (n + 1))) := by
    have e12 : Int32.ofNat n * 12 = Int32.ofNat (12 * n) := by rw [Int32.ofNat_mul, Int32.mul_comm]; rfl
    have e30 : Int32.ofNat (xl h b 1) - Int32.ofNat m = Int32.ofNat (3000 - m) := by rw [show xl h b 1 = 3000 from rfl, ← Int32.ofNat_sub _ _ (by omega)]
    unfold f69_addName
    rw [xg_pos p1, xg_pos (show xk 1 = 100 from rfl), h1, if_neg (by rw [show (4 : Int32) = Int32.ofNat 4 from rfl, i_le (by decide) (by omega)]; omega), if_neg (by rw [show (12 : Int32) = Int32.ofNat 12 from rfl, i_lt (by decide) (by omega)]; omega), e30, if_pos (by rw [i_le (by omega) (by omega)]; omega), e12, xg_pos ⟨by rw [i_neg (by omega)]; exact id, by rw [i_neg (by omega)]; exact id, by rw [i_neg (by omega)]; exact id, by rw [i_cl (by omega), i_cl (by omega)]; exact hq, by rw [i_cl (by omega), i_cl (by omega), p2]; omega⟩, i_cl (show q < 2 ^ 31 by omega), i_cl (show 12 * n < 2 ^ 31 by omega), i_cl (show m < 2 ^ 31 by omega)]
    dsimp only [xw]
    rw [xW_o (show 9 + 7 * th ≠ 9 + 7 * th + 1 by omega), h1, p3, xg_pos (g_ix hv (by omega)), i_cl (show n < 2 ^ 31 by omega), xU_o (show 9 + 7 * th ≠ 9 + 7 * th + 2 by omega), xW_o (show 9 + 7 * th ≠ 9 + 7 * th + 1 by omega), h1, on_s]
  refine ⟨_, r1, ec, t1, by rw [t2 157 (by decide), xU_o (by decide)], by rw [t2 160 (by decide), xU_o (by decide)], ?_, xU_e⟩
  generalize hC : xU (xU (xW c (9 + 7 * th + 1) (va_cpy (c 1) (c (9 + 7 * th + 1)) q (12 * n) m)) (9 + 7 * th + 2) n (Int32.ofNat m)) (9 + 7 * th) 2 (Int32.ofNat (n + 1)) = C
  generalize hR : xU r1 160 th (Int32.ofNat (n + 1)) = R
  have oc : ∀ p, p ≠ 9 + 7 * th → p ≠ 9 + 7 * th + 1 → p ≠ 9 + 7 * th + 2 → C p = c p := fun p h1 h2 h3 => by rw [← hC, xU_o h1, xU_o h3, xW_o h2]
  have or' : ∀ p, p ≠ 160 → p ≠ 161 → p ≠ 162 → R p = r p := fun p h1 h2 h3 => by rw [← hR, xU_o h1, t2 p h2, xU_o h3]
  have o160 : ∀ i, i ≠ th → R 160 i = r 160 i := fun i hi => by rw [← hR, xU_s hi, t2 160 (by decide), xU_o (by decide)]
  have o162 : ∀ i, i ≠ 4 * th + n → R 162 i = r 162 i := fun i hi => by rw [← hR, xU_o (by decide), t2 162 (by decide), xU_s hi]
  have o161 : ∀ i, ¬ (12 * (4 * th + n) ≤ i ∧ i < 12 * (4 * th + n) + m) → R 161 i = r 161 i := fun i hi => by rw [← hR, xU_o (by decide), t3 i, if_neg (by omega), xU_o (by decide)]
  have o161n : ∀ i, i < m → R 161 (12 * (4 * th + n) + i) = vp_nar .byte (r 158 (q + i)) := fun i hi => by rw [← hR, xU_o (by decide), t3, if_pos (by omega), xU_o (by decide), show 12 * (4 * th + n) + i - 12 * (4 * th + n) = i by omega]
  refine ⟨⟨⟨fun p h1 h2 h3 => by rw [oc p (by omega) (by omega) (by omega)]; exact d1 p h1 h2 h3, fun i hi => by rw [oc 3 (by omega) (by omega) (by omega)]; exact d2 i hi, fun p h1 h2 => by rw [or' p (by omega) (by omega) (by omega)]; exact d3 p h1 h2, fun i hi => by rw [or' 157 (by decide) (by decide) (by decide)]; exact d4 i hi, fun e he => by rw [o160 e (by omega)]; exact d5 e he, fun i hi => by rw [o161 i (by omega)]; exact d6 i hi, fun i hi => by rw [o162 i (by omega)]; exact d7 i hi, fun i hi => by rw [or' 163 (by decide) (by decide) (by decide), or' 164 (by decide) (by decide) (by decide), or' 166 (by decide) (by decide) (by decide)]; exact d8 i hi, fun i hi => by rw [or' 165 (by decide) (by decide) (by decide)]; exact d9 i hi⟩, NA_of n1 (or' 165 (by decide) (by decide) (by decide)) (or' 166 (by decide) (by decide) (by decide)), by rw [oc 3 (by omega) (by omega) (by omega), or' 157 (by decide) (by decide) (by decide)]; exact n2, by rw [oc 3 (by omega) (by omega) (by omega), or' 157 (by decide) (by decide) (by decide)]; exact n3⟩, RV_of a2 (fun i _ _ => by rw [oc 3 (by omega) (by omega) (by omega)]) (oc 1 (by omega) (by omega) (by omega)) (or' 158 (by decide) (by decide) (by decide)) (by rw [or' 157 (by decide) (by decide) (by decide)]) (by rw [or' 157 (by decide) (by decide) (by decide)]), a3, a4, by rw [oc 3 (by omega) (by omega) (by omega)]; exact a5, fun e he => ?_, ⟨by rw [oc 3 (by omega) (by omega) (by omega)]; exact g1, by rw [or' 157 (by decide) (by decide) (by decide)]; exact g2, ?_, fun a ha => ?_, u, u1, by rw [oc 3 (by omega) (by omega) (by omega)]; exact u2, by rw [or' 157 (by decide) (by decide) (by decide)]; exact u3, by rw [oc 7 (by omega) (by omega) (by omega), or' 167 (by decide) (by decide) (by decide)]; exact u4⟩⟩
  · exact EE_of (a6 e he) (fun p h1 h2 => oc p (by omega) (by omega) (by omega)) (o160 e (by omega)) (fun i h1 h2 => o161 i (by omega)) (fun i h1 h2 => o162 i (by omega)) (fun i h1 h2 => ⟨by rw [or' 163 (by decide) (by decide) (by decide)], by rw [or' 164 (by decide) (by decide) (by decide)], by rw [or' 166 (by decide) (by decide) (by decide)]⟩) (fun i _ _ => by rw [or' 165 (by decide) (by decide) (by decide)])
  · obtain ⟨nn, b1, b2, b3, b4⟩ := g3
    have en : nn = n := by
      have : Int32.ofNat nn = Int32.ofNat n := by rw [← b2, h1]
      rwa [i_eq (by omega) (by omega)] at this
    subst en
    refine ⟨nn + 1, by omega, by rw [← hC, xU_e], by rw [← hR, xU_e], fun j hj => ?_⟩
    by_cases e : j = nn
    · subst e
      refine ⟨m, hm, by rw [← hC, xU_o (by omega), xU_e], by rw [← hR, xU_o (by decide), t2 162 (by decide), xU_e], fun i hi => ?_⟩
      have ev : C (9 + 7 * th + 1) (12 * j + i) = c 1 (q + i) := by
        rw [← hC, xU_o (by omega), xU_o (by omega), xW_e]
        unfold va_cpy
        rw [if_pos (by omega), show q + (12 * j + i - 12 * j) = q + i by omega]
      have g := a2.2.2.2.2.2.2.2 (q + i)
      rw [ev, o161n i hi, g.2, by8n]
      exact ⟨g.1, rfl⟩
    · obtain ⟨mm, c1, c2, c3, c4⟩ := b4 j (by omega)
      refine ⟨mm, c1, by rw [← hC, xU_o (by omega), xU_s e, xW_o (by omega)]; exact c2, by rw [o162 _ (by omega)]; exact c3, fun i hi => ?_⟩
      have ev : C (9 + 7 * th + 1) (12 * j + i) = c (9 + 7 * th + 1) (12 * j + i) := by
        rw [← hC, xU_o (by omega), xU_o (by omega), xW_e]
        unfold va_cpy
        rw [if_neg (by omega)]
      rw [ev, o161 _ (by omega)]
      exact c4 i hi
  · obtain ⟨k1, k2, k3⟩ := g4 a ha
    refine ⟨Ea_of k1 (by rw [oc _ (by omega) (by omega) (by omega)]) (by rw [oc _ (by omega) (by omega) (by omega)]) (by rw [or' 163 (by decide) (by decide) (by decide)]) (by rw [or' 164 (by decide) (by decide) (by decide)]) (fun _ hE => Es_of hE (by rw [oc _ (by omega) (by omega) (by omega)]) (fun i _ _ => by rw [oc _ (by omega) (by omega) (by omega)]) (by rw [or' 166 (by decide) (by decide) (by decide)]) (fun i _ _ => by rw [or' 165 (by decide) (by decide) (by decide)])), ?_, ?_⟩
    · rw [oc 6 (by omega) (by omega) (by omega)]; exact k2
    · rw [oc 6 (by omega) (by omega) (by omega), or' 163 (by decide) (by decide) (by decide)]; exact k3
end T
