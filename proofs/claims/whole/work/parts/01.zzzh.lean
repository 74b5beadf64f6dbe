/-! update: dresses. -/
section T
variable {N h b : Nat} {c0 r0 c r c' r' c'' r'' : xA} {x y z s v w w1 w2 w4 w5 w6 w7 x' y' : Int32} {len p i f k m q a e K n n' row d th k0 A B t Ln Co V H o j W L a0 a1 m' y0 y1 x0 x1 S Y X R C kk D E : Nat}
theorem db1 : ∀ (D E : Fin 16) (v : Fin 4), (((Int32.ofNat E.val &&& (Int32.ofNat D.val ^^^ (-1))) &&& ((1 : Int32) <<< (Int32.ofNat v.val &&& 31))) = 0) ↔ ((Int32.ofNat E.val &&& ((1 : Int32) <<< (Int32.ofNat v.val &&& 31))) = 0 ∨ ¬ (Int32.ofNat D.val &&& ((1 : Int32) <<< (Int32.ofNat v.val &&& 31))) = 0) := by decide +kernel
theorem db2 : ∀ (D : Fin 16) (v : Fin 4), 0 ≤ (Int32.ofNat D.val ||| ((1 : Int32) <<< (Int32.ofNat v.val &&& 31))) ∧ (Int32.ofNat D.val ||| ((1 : Int32) <<< (Int32.ofNat v.val &&& 31))) ≤ 15 := by decide +kernel
theorem Kn_8 (H : Kn Ln Co Y X c r) : Kn Ln Co Y X (xU c 100 8 x) (xU r 157 53 y) := by
  obtain ⟨a1, a2, a3, a4, a5, a6, a7⟩ := H
  exact ⟨by rw [xU_o (by decide)]; exact a1, a2, a3, by rw [xU_s (by decide)]; exact a4, by rw [xU_s (by decide)]; exact a5, by rw [xU_s (by decide)]; exact a6, by rw [xU_s (by decide)]; exact a7⟩
theorem dr_D (H : UV N h b e Ln Co c r) : ∃ D : Nat, D < 16 ∧ c 100 8 = Int32.ofNat D ∧ r 157 53 = Int32.ofNat D := by
  obtain ⟨u1, u2, u3, _⟩ := H.2.1
  obtain ⟨D, d1, d2, _⟩ := i_nat u2
  rw [d2, show (15 : Int32) = Int32.ofNat 15 from rfl, i_le d1 (by decide)] at u3
  exact ⟨D, by omega, d2, by rw [← u1]; exact d2⟩
theorem d_drl (hN : 100000 ≤ N) (hE : E < 16) : ∀ (k v f : Nat) (c r : xA), v + k = 4 → k < f → UV N h b e Ln Co c r → Uc (W + 60 * k) c r → ∃ c' r', l154_33 N h b (Int32.ofNat E) f (Int32.ofNat v) c = some (0, c') ∧ l350_17 N h b (Int32.ofNat E) f (Int32.ofNat v) r = some (0, r') ∧ UV N h b e Ln Co c' r' ∧ UX (60 * k) c r c' r' ∧ (∀ Y X, Kn Ln Co Y X c r → Kn Ln Co Y X c' r') ∧ c' 101 = c 101 ∧ r' 183 = r 183 := by
  intro k
  induction k with
  | zero =>
    intro v f c r h1 h2 H hu
    obtain ⟨f, rfl⟩ : ∃ f', f = f' + 1 := ⟨f - 1, by omega⟩
    have : v = 4 := by omega
    subst this
    exact ⟨c, r, by rw [l154_33, if_pos (by decide)], by rw [l350_17, if_pos (by decide)], H, UX_r, fun _ _ g => g, rfl, rfl⟩
  | succ k ih =>
    intro v f c r h1 h2 H hu
    obtain ⟨f, rfl⟩ : ∃ f', f = f' + 1 := ⟨f - 1, by omega⟩
    obtain ⟨D, d1, d2, d3⟩ := dr_D H
    have nn : ¬ (4 : Int32) ≤ Int32.ofNat v := by rw [show (4 : Int32) = Int32.ofNat 4 from rfl, i_le (by decide) (by omega)]; omega
    have eq := db1 ⟨D, d1⟩ ⟨E, hE⟩ ⟨v, by omega⟩
    dsimp only at eq
    rw [l154_33, l350_17, if_neg nn, if_neg nn, d2, d3]
    unfold j154_84 j350_63
    rw [on_s]
    have skip : ∃ c' r', l154_33 N h b (Int32.ofNat E) f (Int32.ofNat (v + 1)) c = some (0, c') ∧ l350_17 N h b (Int32.ofNat E) f (Int32.ofNat (v + 1)) r = some (0, r') ∧ UV N h b e Ln Co c' r' ∧ UX (60 * (k + 1)) c r c' r' ∧ (∀ Y X, Kn Ln Co Y X c r → Kn Ln Co Y X c' r') ∧ c' 101 = c 101 ∧ r' 183 = r 183 := by
      obtain ⟨c', r', g1, g2, g3, g4, g5⟩ := ih (v + 1) f c r (by omega) (by omega) H (Uc_m hu (by omega))
      exact ⟨c', r', g1, g2, g3, UX_m g4 (by omega), g5⟩
    by_cases z1 : (Int32.ofNat E &&& ((1 : Int32) <<< (Int32.ofNat v &&& 31))) = 0
    · rw [if_pos z1, if_pos (eq.mpr (Or.inl z1))]
      exact skip
    · rw [if_neg z1]
      by_cases z2 : (Int32.ofNat D &&& ((1 : Int32) <<< (Int32.ofNat v &&& 31))) = 0
      · have ne : ¬ ((Int32.ofNat E &&& (Int32.ofNat D ^^^ (-1))) &&& ((1 : Int32) <<< (Int32.ofNat v &&& 31))) = 0 := fun g => (eq.mp g).elim z1 (fun q => q z2)
        rw [if_pos z2, if_neg ne]
        have e26 : (26 : Int32) + Int32.ofNat v = Int32.ofNat (26 + v) := by rw [Int32.ofNat_add]; rfl
        obtain ⟨c1, r1, v1, v2, v3, v4⟩ := d_send (N := N) (h := h) (b := b) (a := 26 + v) (W := W + 60 * k) (t := 1) (x := 0) (y := 0) hN H (by omega) (by omega) (by omega) (by rw [show W + 60 * k + 60 * 1 = W + 60 * (k + 1) by omega]; exact hu)
        have v1' : f130_send N h b (Int32.ofNat (26 + v)) 1 0 0 c = some c1 := v1
        have v2' : f332_typeAll N h b (Int32.ofNat (26 + v)) 0 0 1 r = some r1 := v2
        have q1 : c1 100 8 = Int32.ofNat D := by rw [v4.1.1 100 (by decide) (by decide)]; exact d2
        have q2 : r1 157 53 = Int32.ofNat D := by rw [v4.1.2.2.2.2 53 (by decide) (by decide) (by decide)]; exact d3
        obtain ⟨b1, b2⟩ := db2 ⟨D, d1⟩ ⟨v, by omega⟩
        obtain ⟨m1, m2⟩ := UV_8 v3 b1 b2
        have m3 := UX_t (UX_X v4) m2
        obtain ⟨c', r', g1, g2, g3, g4, g5, g6, g7⟩ := ih (v + 1) f _ _ (by omega) (by omega) m1 ((m3.2 _).1 (by rw [show W + 60 * k + (60 * 1 + 0) = W + 60 * (k + 1) by omega]; exact hu))
        rw [e26, v1', b1_some, v2', b1_some]
        dsimp only [xw]
        rw [q1, q2]
        refine ⟨c', r', g1, g2, g3, UX_m (UX_t m3 g4) (by omega), fun Y X g => g5 Y X (Kn_8 (Kn_X g v4)), by rw [g6, xU_o (by decide), v4.1.1 101 (by decide) (by decide)], by rw [g7, xU_o (by decide), v4.1.2.2.2.1 183 (by decide) (by decide) (by decide) (by decide)]⟩
      · rw [if_neg z2, if_pos (eq.mpr (Or.inr z2))]
        exact skip
theorem d_drs (hN : 100000 ≤ N) (H : UV N h b e Ln Co c r) (hE : E < 16) (hu : Uc (W + 300) c r) : ∃ c' r', f154_dressAs N h b (Int32.ofNat E) c = some c' ∧ f350_dresses N h b (Int32.ofNat E) r = some r' ∧ UV N h b e Ln Co c' r' ∧ UX 300 c r c' r' ∧ (∀ Y X, Kn Ln Co Y X c r → Kn Ln Co Y X c' r') ∧ c' 101 = c 101 ∧ r' 183 = r 183 := by
  unfold f154_dressAs f350_dresses j154_31 j350_15
  rw [H.2.1.1]
  by_cases z : (r 157 53 &&& (Int32.ofNat E ^^^ (-1))) = 0
  · obtain ⟨c', r', g1, g2, g3, g4, g5⟩ := d_drl (N := N) (h := h) (b := b) (W := W) (E := E) hN hE 4 0 N c r (by omega) (by omega) H (Uc_m hu (by omega))
    have g1' : l154_33 N h b (Int32.ofNat E) N 0 c = some (0, c') := g1
    have g2' : l350_17 N h b (Int32.ofNat E) N 0 r = some (0, r') := g2
    rw [if_pos z, if_pos z, g1', g2', Option.bind_some, Option.bind_some]
    exact ⟨c', r', rfl, rfl, g3, UX_m g4 (by omega), g5⟩
  · obtain ⟨c1, r1, k1, k2, k3, k4, k5⟩ := d_und (N := N) (h := h) (b := b) (W := W + 240) hN H (Uc_m hu (by omega))
    obtain ⟨c', r', g1, g2, g3, g4, g5, g6, g7⟩ := d_drl (N := N) (h := h) (b := b) (W := W) (E := E) hN hE 4 0 N _ _ (by omega) (by omega) k3 ((k4.2 (W + 240)).1 (Uc_m hu (by omega)))
    have g1' : l154_33 N h b (Int32.ofNat E) N 0 (xU c1 100 8 0) = some (0, c') := g1
    have g2' : l350_17 N h b (Int32.ofNat E) N 0 (xU r1 157 53 0) = some (0, r') := g2
    rw [if_neg z, if_neg z, k1, b1_some, k2, b1_some]
    dsimp only [xw]
    rw [g1', g2', Option.bind_some, Option.bind_some]
    exact ⟨c', r', rfl, rfl, g3, UX_m (UX_t k4 g4) (by omega), fun Y X g => g5 Y X (Kn_8 (Kn_X g k5)), by rw [g6, xU_o (by decide), k5.1.1 101 (by decide) (by decide)], by rw [g7, xU_o (by decide), k5.1.2.2.2.1 183 (by decide) (by decide) (by decide) (by decide)]⟩
end T
