/-! update: a cell is painted. -/
section T
variable {N h b : Nat} {c0 r0 c r c' r' c'' r'' : xA} {x y z s v w w1 w2 w4 w5 w6 w7 x' y' : Int32} {len p i f k m q a e K n n' row d th k0 A B t Ln Co V H o j W L a0 a1 m' y0 y1 x0 x1 S Y X R C kk D E : Nat}
/-- a cell is known -/
theorem UV_k (H : UV N h b e Ln Co c r) (hR : R < Ln) (hC : C < Co) : UV N h b e Ln Co (xU c 101 (R * Co + C) x) (xU r 183 (80 * R + C) x) ∧ UX 0 c r (xU c 101 (R * Co + C) x) (xU r 183 (80 * R + C) x) := by
  have hco := H.1.1.2.2.2.2.1
  obtain ⟨hS, ⟨u1, u2, u3, u4, u5, u6, u7⟩, hq⟩ := H
  refine ⟨⟨St_of hS (fun p k1 k2 => xU_o (by omega)) (fun p k1 k2 => xU_o (by omega)) (by rw [xU_o (by decide)]) (fun i _ _ => by rw [xU_o (by decide)]) (by rw [xU_o (by decide)]) (by rw [xU_o (by decide)]) (by rw [xU_o (by decide)]) (by rw [xU_o (by decide)]) (xU_o (by decide)) (xU_o (by decide)) (xU_o (by decide)) (fun p k1 k2 => xU_o (by omega)), ⟨by rw [xU_o (by decide), xU_o (by decide)]; exact u1, by rw [xU_o (by decide)]; exact u2, by rw [xU_o (by decide)]; exact u3, by rw [xU_o (by decide), xU_o (by decide), xU_o (by decide)]; exact u4, fun y x k1 k2 => ?_, by rw [xU_o (by decide)]; exact u6, by rw [xU_o (by decide)]; exact u7⟩, fun i => by rw [xU_o (by decide)]; exact hq i⟩, ⟨fun p _ _ h3 _ _ => xU_o h3, fun i _ _ _ _ => by rw [xU_o (by decide)], fun i _ _ => by rw [xU_o (by decide)], fun p _ _ _ _ h5 => xU_o h5, fun i _ _ _ _ => by rw [xU_o (by decide)]⟩, UM_z (by rw [xU_o (by decide)]) (xU_o (by decide)) (by rw [xU_o (by decide)]) (xU_o (by decide))⟩
  by_cases e1 : y = R ∧ x = C
  · obtain ⟨q1, q2⟩ := e1
    subst q1; subst q2
    rw [xU_e, xU_e]
  · have n1 : y * Co + x ≠ R * Co + C := by
      intro g
      apply e1
      have hxc : x < Co := k2
      have d1 : (y * Co + x) / Co = y := by rw [Nat.mul_comm, Nat.mul_add_div (by omega), Nat.div_eq_of_lt hxc, Nat.add_zero]
      have d2 : (R * Co + C) / Co = R := by rw [Nat.mul_comm, Nat.mul_add_div (by omega), Nat.div_eq_of_lt hC, Nat.add_zero]
      have : y = R := by rw [← d1, ← d2, g]
      subst this
      exact ⟨rfl, by omega⟩
    rw [xU_s n1, xU_s (by omega)]
    exact u5 y x k1 k2
/-- the place is not known any more -/
theorem UV_n (H : UV N h b e Ln Co c r) : UV N h b e Ln Co (xU c 97 14 0) (xU (xU r 157 51 (-1)) 157 52 (-1)) ∧ UX 0 c r (xU c 97 14 0) (xU (xU r 157 51 (-1)) 157 52 (-1)) := by
  obtain ⟨hS, ⟨u1, u2, u3, u4, u5, u6, u7⟩, hq⟩ := H
  have or' : ∀ p, p ≠ 157 → (xU (xU r 157 51 (-1)) 157 52 (-1)) p = r p := fun p h1 => by rw [xU_o h1, xU_o h1]
  have r7 : ∀ i, i ≠ 51 → i ≠ 52 → (xU (xU r 157 51 (-1)) 157 52 (-1)) 157 i = r 157 i := fun i h1 h2 => by rw [xU_s h2, xU_s h1]
  exact ⟨⟨St_of hS (fun p k1 k2 => xU_o (by omega)) (fun p k1 k2 => or' p (by omega)) (by rw [xU_o (by decide)]) (fun i k1 k2 => xU_s (by omega)) (r7 21 (by decide) (by decide)) (r7 26 (by decide) (by decide)) (r7 27 (by decide) (by decide)) (r7 50 (by decide) (by decide)) (xU_o (by decide)) (or' 170 (by decide)) (xU_o (by decide)) (fun p k1 k2 => xU_o (by omega)), ⟨by rw [xU_o (by decide), r7 53 (by decide) (by decide)]; exact u1, by rw [xU_o (by decide)]; exact u2, by rw [xU_o (by decide)]; exact u3, Or.inl ⟨xU_e, by rw [xU_s (by decide), xU_e], xU_e⟩, fun y x k1 k2 => by rw [xU_o (by decide), or' 183 (by decide)]; exact u5 y x k1 k2, by rw [xU_o (by decide)]; exact u6, by rw [xU_o (by decide)]; exact u7⟩, fun i => by rw [or' 168 (by decide)]; exact hq i⟩, ⟨fun p h1 _ _ _ _ => xU_o (by omega), fun i _ _ h3 _ => xU_s h3, fun i _ _ => by rw [xU_o (by decide)], fun p h1 _ _ _ _ => or' p h1, fun i _ _ _ h4 => r7 i (by omega) (by omega)⟩, UM_z (xU_s (by decide)) (xU_o (by decide)) (r7 49 (by decide) (by decide)) (or' 182 (by decide))⟩
end T
