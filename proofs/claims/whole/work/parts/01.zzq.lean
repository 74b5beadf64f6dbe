/-! empty, count. -/
section T
variable {N h b : Nat} {c0 r0 c r c' r' c'' r'' : xA} {x y z s v w w1 w2 : Int32} {len p i f k m q l a e K n row d th k0 A B t Ln Co V H o j : Nat}
theorem t_empty (hN : 100000 ≤ N) (hR : RR K c r) : ∃ c' r', f91_empty N h b c = some c' ∧ f294_empty N h b r = some r' ∧ RR 0 c' r' ∧ RW c' r' ∧ RP c' r' ∧ c' 0 14 = -1 ∧ (∀ p, p ≠ 0 → p ≠ 3 → ¬ (141 ≤ p ∧ p ≤ 156) → c' p = c p) ∧ (∀ i, i ≠ 14 → c' 0 i = c 0 i) ∧ (∀ p, p ≠ 157 → p ≠ 172 → r' p = r p) ∧ (∀ i, i ≠ 0 → i ≠ 5 → i ≠ 21 → ¬ (32 ≤ i ∧ i ≤ 36) → r' 157 i = r 157 i) := by
  obtain ⟨r1, r2, r3, r4, r5, r6, r7, r8⟩ := id hR
  unfold f91_empty f92_forget f294_empty
  dsimp only [xw]
  rw [b1_some]
  obtain ⟨c1, q1, q2, q3⟩ := e_cw (N := N) (h := h) (b := b) (c := xU (xU c 3 1 0) 0 14 (-1)) hN
  obtain ⟨g1, k1, k2, k3⟩ := e_189 (N := N) (h := h) (b := b) (L := l294_37 N h b) (r := xU (xU (xU (xU (xU (xU (xU r 157 0 0) 157 5 0) 157 21 (-1)) 157 36 0) 157 32 (-1)) 157 33 (-1)) 157 34 0) hN (Or.inr rfl)
  rw [q1, b1_some, k1, Option.bind_some]
  have oc : ∀ p, p ≠ 0 → p ≠ 3 → ¬ (141 ≤ p ∧ p ≤ 156) → c1 p = c p := fun p h1 h2 h3 => by rw [q2 p h3, xU_o h1, xU_o h2]
  have o0 : ∀ i, i ≠ 14 → c1 0 i = c 0 i := fun i hi => by rw [q2 0 (by decide), xU_s hi, xU_o (by decide)]
  have o14 : c1 0 14 = -1 := by rw [q2 0 (by decide), xU_e]
  have o3 : ∀ i, i ≠ 1 → c1 3 i = c 3 i := fun i hi => by rw [q2 3 (by decide), xU_o (by decide), xU_s hi]
  have o31 : c1 3 1 = 0 := by rw [q2 3 (by decide), xU_o (by decide), xU_e]
  have og : ∀ p, p ≠ 157 → p ≠ 172 → g1 p = r p := fun p h1 h2 => by rw [k2 p h2, xU_o h1, xU_o h1, xU_o h1, xU_o h1, xU_o h1, xU_o h1, xU_o h1]
  have og7 : ∀ i, i ≠ 0 → i ≠ 5 → i ≠ 21 → ¬ (32 ≤ i ∧ i ≤ 36) → g1 157 i = r 157 i := fun i h1 h2 h3 h4 => by rw [k2 157 (by decide), xU_s (by omega), xU_s (by omega), xU_s (by omega), xU_s (by omega), xU_s h3, xU_s h2, xU_s h1]
  refine ⟨c1, g1, rfl, rfl, ⟨by omega, o31, ?_, fun e he => absurd he (by omega), ?_, ?_, NA_of r7 (og 165 (by decide) (by decide)) (og 166 (by decide) (by decide)), fun e he g => ?_⟩, fun w hw => Or.inl ⟨q3 w hw, k3 w hw⟩, Or.inl ⟨o14, ?_, ?_, ?_, ?_⟩, o14, oc, o0, og, og7⟩
  · rw [k2 157 (by decide), xU_s (by decide), xU_s (by decide), xU_s (by decide), xU_s (by decide), xU_s (by decide), xU_e]; rfl
  · rw [o3 2 (by decide), og7 13 (by decide) (by decide) (by decide) (by decide)]; exact r5
  · rw [o3 3 (by decide), og7 14 (by decide) (by decide) (by decide) (by decide)]; exact r6
  · rw [o14] at g
    exact absurd g.symm (ofn_ne (by omega))
  · rw [k2 157 (by decide), xU_s (by decide), xU_s (by decide), xU_s (by decide), xU_s (by decide), xU_e]
  · rw [k2 157 (by decide), xU_s (by decide), xU_s (by decide), xU_e]
  · rw [k2 157 (by decide), xU_s (by decide), xU_e]
  · rw [k2 157 (by decide), xU_e]
theorem d_wct (hN : 100000 ≤ N) (hW : RW c r) : ∃ x, l255_4 N h b N 0 0 c = some (0, x, c) ∧ l415_144 N h b N 0 0 r = some (0, x, r) := by
  have lp : ∀ (k j n : Nat) (x : Int32), j + k = 8 → k < n → ∃ y, l255_4 N h b n x (Int32.ofNat j) c = some (0, y, c) ∧ l415_144 N h b n x (Int32.ofNat j) r = some (0, y, r) := by
    intro k
    induction k with
    | zero =>
      intro j n x h1 h2
      obtain ⟨n, rfl⟩ : ∃ n', n = n' + 1 := ⟨n - 1, by omega⟩
      have : j = 8 := by omega
      subst this
      exact ⟨x, by rw [l255_4, if_pos (by decide)], by rw [l415_144, if_pos (by decide)]⟩
    | succ k ih =>
      intro j n x h1 h2
      obtain ⟨n, rfl⟩ : ∃ n', n = n' + 1 := ⟨n - 1, by omega⟩
      have nn : ¬ (8 : Int32) ≤ Int32.ofNat j := by rw [show (8 : Int32) = Int32.ofNat 8 from rfl, i_le (by decide) (by omega)]; omega
      rw [l255_4, l415_144, if_neg nn, if_neg nn, xg_pos (g_ix (show j < 8 by omega) (by omega)), xg_pos (g_ix (show j < 8 by omega) (by omega)), i_cl (show j < 2 ^ 31 by omega)]
      unfold j255_25
      rw [on_s]
      rcases hW j (by omega) with ⟨g1, g2⟩ | ⟨⟨T, L, H, B, Y, X, g, _⟩, _⟩
      · rw [if_pos g1, if_pos g2, Int32.add_zero]
        exact ih (j + 1) n x (by omega) (by omega)
      · rw [if_neg (by rw [g.1.1]; decide), if_neg (by rw [g.1.2.1]; decide)]
        exact ih (j + 1) n (x + 1) (by omega) (by omega)
  exact lp 8 0 N 0 (by omega) (by omega)
end T
