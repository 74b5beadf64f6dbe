/-! update: the ways and what they cost. -/
def CM (m n : Nat) (y : Int32) : Prop := (y = -1 ∧ 1000000 ≤ n ∧ n ≤ 1000000 * m) ∨ (n ≤ 100 * m ∧ y = Int32.ofNat n)
/-- where the cursor is -/
def Kn (Ln Co Y X : Nat) (c r : xA) : Prop := c 97 14 = 1 ∧ Y < Ln ∧ X < Co ∧ c 100 6 = Int32.ofNat Y ∧ r 157 51 = Int32.ofNat Y ∧ c 100 7 = Int32.ofNat X ∧ r 157 52 = Int32.ofNat X
def Un (c r : xA) : Prop := c 97 14 = 0 ∧ r 157 51 = -1 ∧ r 157 52 = -1
section T
variable {N h b : Nat} {c0 r0 c r c' r' c'' r'' : xA} {x y z s v w w1 w2 w4 w5 w6 w7 x' y' : Int32} {len p i f k m q l a e K n n' row d th k0 A B t Ln Co V H o j W L a0 a1 m' y0 y1 x0 x1 S Y X R C : Nat}
theorem CC_M (H : CC m x y) : ∃ n : Nat, x = Int32.ofNat n ∧ CM m n y := by
  rcases H with ⟨h1, n, h2, h3, h4⟩ | ⟨n, h2, h3, h4⟩
  · exact ⟨n, h4, Or.inl ⟨h1, h2, h3⟩⟩
  · exact ⟨n, h3, Or.inr ⟨h2, h4⟩⟩
theorem CM_add (H : CM m n y) (G : CM m' n' y') (hm : m + m' ≤ 2000) : CM (m + m') (n + n') (if y = -1 then -1 else if y' = -1 then -1 else y + y') := by
  rcases H with ⟨h1, h2, h3⟩ | ⟨h2, h4⟩
  · rw [if_pos h1]
    rcases G with ⟨g1, g2, g3⟩ | ⟨g2, g4⟩ <;> exact Or.inl ⟨rfl, by omega, by omega⟩
  · rw [if_neg (by rw [h4]; exact ofn_ne (by omega))]
    rcases G with ⟨g1, g2, g3⟩ | ⟨g2, g4⟩
    · rw [if_pos g1]
      exact Or.inl ⟨rfl, by omega, by omega⟩
    · rw [if_neg (by rw [g4]; exact ofn_ne (by omega))]
      exact Or.inr ⟨by omega, by rw [h4, g4, Int32.ofNat_add]⟩
theorem CM_lt (H : CM m n y) (hm : m ≤ 2000) : n < 2 ^ 31 := by rcases H with ⟨_, _, g⟩ | ⟨g, _⟩ <;> omega
theorem CM_v (H : CM m n y) (hm : m ≤ 2000) : (y = -1 ↔ 1000000 ≤ n) := by
  rcases H with ⟨h1, h2, h3⟩ | ⟨h2, h3⟩
  · exact ⟨fun _ => h2, fun _ => h1⟩
  · exact ⟨fun g => absurd (g.symm.trans h3).symm (ofn_ne (by omega)), fun g => absurd g (by omega)⟩
theorem CM_e (H : CM m n y) (hn : n < 1000000) : y = Int32.ofNat n := by
  rcases H with ⟨_, h2, _⟩ | ⟨_, h3⟩
  · omega
  · exact h3
theorem Uk_c (H : UV N h b e Ln Co c r) : Un c r ∨ ∃ Y X, Kn Ln Co Y X c r := by
  rcases H.2.1.2.2.2.1 with g | ⟨g, Y, X, g1, g2, g3, g4, g5, g6⟩
  · exact Or.inl g
  · exact Or.inr ⟨Y, X, g, g1, g2, g3, g4, g5, g6⟩
theorem Kn_X (H : Kn Ln Co Y X c r) (hX : XF k c r c' r') : Kn Ln Co Y X c' r' := by
  obtain ⟨a1, a2, a3, a4, a5, a6, a7⟩ := H
  exact ⟨by rw [hX.1.2.1 14 (by decide)]; exact a1, a2, a3, by rw [hX.1.1 100 (by decide) (by decide)]; exact a4, by rw [hX.1.2.2.2.2 51 (by decide) (by decide) (by decide)]; exact a5, by rw [hX.1.1 100 (by decide) (by decide)]; exact a6, by rw [hX.1.2.2.2.2 52 (by decide) (by decide) (by decide)]; exact a7⟩
theorem Un_X (H : Un c r) (hX : XF k c r c' r') : Un c' r' := ⟨by rw [hX.1.2.1 14 (by decide)]; exact H.1, by rw [hX.1.2.2.2.2 51 (by decide) (by decide) (by decide)]; exact H.2.1, by rw [hX.1.2.2.2.2 52 (by decide) (by decide) (by decide)]; exact H.2.2⟩
/-- the reference's ways that go step by step: a string first (or none), down, across -/
theorem d_steps {q1 q7 : Int32} (hN : 100000 ≤ N) (H : UV N h b e Ln Co c r) (hR : R < Ln) (hC : C < Co) (hY : Y < Ln) (hX : X < Co) (e1 : (if q1 = 6 then (0 : Int32) else r 157 51) = Int32.ofNat Y) (e2 : ∀ r', RF r r' → (if q1 = 4 then r' 157 52 else (0 : Int32)) = Int32.ofNat X) {nA mA : Nat} (hA : CM mA nA q7) (hmA : mA ≤ 1) (hq : ¬ q7 = -1) : ∃ y r' nD nX, j342_228 N h b q1 (Int32.ofNat R) (Int32.ofNat C) 0 q7 r = some (y, r') ∧ RF r r' ∧ lnD Y R c = Int32.ofNat nD ∧ lnX Co R X C c = Int32.ofNat nX ∧ CM 281 (nA + nD + nX) y ∧ nD < 2 ^ 27 ∧ nX < 2 ^ 28 := by
  have l24 := H.1.1.2.2.1
  have hco := H.1.1.2.2.2.2.1
  unfold j342_228 j342_282
  rw [e1]
  obtain ⟨yD, r1, k1, k2, k3⟩ := d_dn0 (N := N) (h := h) (b := b) (y0 := Y) (y1 := R) hN H (by omega) (by omega)
  obtain ⟨nD, d1, d2⟩ := CC_M k3
  have H1 := UV_R H k2
  obtain ⟨yX, r2, g1, g2, g3⟩ := d_ac0 (N := N) (h := h) (b := b) (x0 := X) (x1 := C) (row := R) hN H1 hX hC hR
  obtain ⟨nX, x1, x2⟩ := CC_M g3
  have sum := CM_add (CM_add hA d2 (by omega)) x2 (by omega)
  have bD : nD < 2 ^ 27 := by rcases d2 with ⟨_, _, g⟩ | ⟨g, _⟩ <;> omega
  have bX : nX < 2 ^ 28 := by rcases x2 with ⟨_, _, g⟩ | ⟨g, _⟩ <;> omega
  have up : ∀ {y : Int32}, CM (mA + 80 + 200) (nA + nD + nX) y → CM 281 (nA + nD + nX) y := fun hh => by
    rcases hh with ⟨g1, g2, g3⟩ | ⟨g1, g2⟩
    · exact Or.inl ⟨g1, g2, Nat.le_trans g3 (Nat.mul_le_mul_left _ (by omega))⟩
    · exact Or.inr ⟨Nat.le_trans g1 (Nat.mul_le_mul_left _ (by omega)), g2⟩
  rw [k1, b2_some, e2 r1 k2]
  by_cases zD : yD = -1
  · rw [if_pos zD, if_pos rfl]
    refine ⟨-1, r1, nD, nX, rfl, k2, d1, x1, up (Or.inl ⟨rfl, ?_, ?_⟩), bD, bX⟩
    · have := (CM_v d2 (by omega)).mp zD
      omega
    · rcases hA with ⟨_, _, g⟩ | ⟨g, _⟩ <;> rcases d2 with ⟨_, _, g'⟩ | ⟨g', _⟩ <;> rcases x2 with ⟨_, _, g''⟩ | ⟨g'', _⟩ <;> omega
  · rw [if_neg zD, g1, b2_some]
    rw [if_neg hq, if_neg zD] at sum
    have lA : nA < 1000000 := Nat.lt_of_not_le (fun g => hq ((CM_v hA (by omega)).mpr g))
    have lD : nD < 1000000 := Nat.lt_of_not_le (fun g => zD ((CM_v d2 (by omega)).mpr g))
    have ns : ¬ q7 + yD = -1 := by
      rw [CM_e hA lA, CM_e d2 lD, ← Int32.ofNat_add]
      exact ofn_ne (by omega)
    rw [if_neg ns] at sum
    refine ⟨_, _, nD, nX, rfl, RF_t k2 g2, d1, x1, up sum, bD, bX⟩
end T
