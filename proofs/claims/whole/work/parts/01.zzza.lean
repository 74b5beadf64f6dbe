/-! update: what each way costs. -/
section T
variable {N h b : Nat} {c0 r0 c r c' r' c'' r'' : xA} {x y z s v w w1 w2 w4 w5 w6 w7 x' y' : Int32} {len p i f k m q l a e K n n' row d th k0 A B t Ln Co V H o j W L a0 a1 m' y0 y1 x0 x1 S Y X R C : Nat}
theorem CO_M (H : CO x y) : ∃ n : Nat, x = Int32.ofNat n ∧ CM 1 n y := by
  rcases H with ⟨h1, h2⟩ | ⟨L, h1, h2, h3⟩
  · exact ⟨1000000, h1, Or.inl ⟨h2, by omega, by omega⟩⟩
  · exact ⟨L, h2, Or.inr ⟨by omega, h3⟩⟩
theorem CM_m (H : CM m n y) (h1 : m ≤ m') : CM m' n y := by
  rcases H with ⟨g1, g2, g3⟩ | ⟨g1, g2⟩
  · exact Or.inl ⟨g1, g2, Nat.le_trans g3 (Nat.mul_le_mul_left _ h1)⟩
  · exact Or.inr ⟨Nat.le_trans g1 (Nat.mul_le_mul_left _ h1), g2⟩
theorem fz (hk : Kn Ln Co Y X c r) (hY : Y < 24) : (if r 157 51 = -1 then (0 : Int32) else 1) = 1 := by
  rw [if_neg (by rw [hk.2.2.2.2.1]; exact ofn_ne (by omega))]
/-- ways 2 to 5 when the place is not known -/
theorem w_un (hu : Un c r) : f342_way N h b 2 (Int32.ofNat R) (Int32.ofNat C) 0 r = some (-1, r) ∧ f342_way N h b 3 (Int32.ofNat R) (Int32.ofNat C) 0 r = some (-1, r) ∧ f342_way N h b 4 (Int32.ofNat R) (Int32.ofNat C) 0 r = some (-1, r) ∧ f342_way N h b 5 (Int32.ofNat R) (Int32.ofNat C) 0 r = some (-1, r) := by
  unfold f342_way j342_97
  rw [if_pos hu.2.1, if_pos (show (0 : Int32) = 0 from rfl)]
  refine ⟨?_, ?_, ?_, ?_⟩
  · rw [if_neg (show ¬ (2 : Int32) = 1 by decide), if_pos (show (2 : Int32) = 2 from rfl), if_pos (show (0 : Int32) = 0 from rfl)]
  · rw [if_neg (show ¬ (3 : Int32) = 1 by decide), if_neg (show ¬ (3 : Int32) = 2 by decide), if_pos (show (3 : Int32) = 3 from rfl), if_pos (show (0 : Int32) = 0 from rfl)]
  · rw [if_neg (show ¬ (4 : Int32) = 1 by decide), if_neg (show ¬ (4 : Int32) = 2 by decide), if_neg (show ¬ (4 : Int32) = 3 by decide), if_neg (show ¬ (6 : Int32) ≤ 4 by decide), if_pos (show (0 : Int32) = 0 from rfl)]
  · rw [if_neg (show ¬ (5 : Int32) = 1 by decide), if_neg (show ¬ (5 : Int32) = 2 by decide), if_neg (show ¬ (5 : Int32) = 3 by decide), if_neg (show ¬ (6 : Int32) ≤ 5 by decide), if_pos (show (0 : Int32) = 0 from rfl)]
theorem w_2 (hN : 100000 ≤ N) (H : UV N h b e Ln Co c r) (hk : Kn Ln Co Y X c r) (hR : R < Ln) (hC : C < Co) : ∃ y r' n, f342_way N h b 2 (Int32.ofNat R) (Int32.ofNat C) 0 r = some (y, r') ∧ RF r r' ∧ CM 281 n y ∧ (Y = R → c 112 C = Int32.ofNat n) ∧ (¬ Y = R → n = 1000000) := by
  have l24 := H.1.1.2.2.1
  have hco := H.1.1.2.2.2.2.1
  have hY := hk.2.1
  unfold f342_way j342_97 j342_128 j342_151
  rw [if_neg (show ¬ (2 : Int32) = 1 by decide), if_pos (show (2 : Int32) = 2 from rfl), fz hk (by omega), if_neg (show ¬ (1 : Int32) = 0 by decide), if_pos (show (2 : Int32) = 2 from rfl), hk.2.2.2.2.1, if_neg (show ¬ (2 : Int32) = 1 by decide), if_pos (show (2 : Int32) = 2 from rfl), if_pos (show (2 : Int32) = 2 from rfl)]
  by_cases z : Y = R
  · obtain ⟨y, r', g1, g2, g3⟩ := d_len (N := N) (h := h) (b := b) (a := 18) (V := C) hN H (by decide) (by decide)
    have g1' : f333_bytesOf N h b 18 (Int32.ofNat C) 0 r = some (y, r') := g1
    obtain ⟨n, n1, n2⟩ := CO_M (g3 _ (H.1.2.2.1.2.1 18 C (by decide) (by decide) (by omega)))
    rw [if_pos (show Int32.ofNat Y = Int32.ofNat R by rw [z]), if_pos (show (0 : Int32) = 0 from rfl), g1', b2_some]
    exact ⟨y, r', n, rfl, g2, CM_m n2 (by omega), fun _ => n1, fun g => absurd z g⟩
  · rw [if_neg (show ¬ Int32.ofNat Y = Int32.ofNat R by rw [i_eq (by omega) (by omega)]; exact z)]
    exact ⟨_, _, 1000000, rfl, RF_r H.2.2, Or.inl ⟨rfl, by omega, by omega⟩, fun g => absurd g z, fun _ => rfl⟩
theorem w_3 (hN : 100000 ≤ N) (H : UV N h b e Ln Co c r) (hk : Kn Ln Co Y X c r) (hR : R < Ln) (hC : C < Co) : ∃ y r' n, f342_way N h b 3 (Int32.ofNat R) (Int32.ofNat C) 0 r = some (y, r') ∧ RF r r' ∧ CM 281 n y ∧ (X = C → c 113 R = Int32.ofNat n) ∧ (¬ X = C → n = 1000000) := by
  have l24 := H.1.1.2.2.1
  have hco := H.1.1.2.2.2.2.1
  have hY := hk.2.1
  have hX := hk.2.2.1
  unfold f342_way j342_97 j342_128 j342_151
  rw [if_neg (show ¬ (3 : Int32) = 1 by decide), if_neg (show ¬ (3 : Int32) = 2 by decide), if_pos (show (3 : Int32) = 3 from rfl), fz hk (by omega), if_neg (show ¬ (1 : Int32) = 0 by decide), if_neg (show ¬ (3 : Int32) = 2 by decide), hk.2.2.2.2.2.2, if_neg (show ¬ (3 : Int32) = 1 by decide), if_neg (show ¬ (3 : Int32) = 2 by decide), if_pos (show (3 : Int32) = 3 from rfl), if_neg (show ¬ (3 : Int32) = 2 by decide)]
  by_cases z : X = C
  · obtain ⟨y, r', g1, g2, g3⟩ := d_len (N := N) (h := h) (b := b) (a := 19) (V := R) hN H (by decide) (by decide)
    have g1' : f333_bytesOf N h b 19 (Int32.ofNat R) 0 r = some (y, r') := g1
    obtain ⟨n, n1, n2⟩ := CO_M (g3 _ (H.1.2.2.1.2.1 19 R (by decide) (by decide) (by omega)))
    rw [if_pos (show Int32.ofNat X = Int32.ofNat C by rw [z]), if_pos (show (0 : Int32) = 0 from rfl), g1', b2_some]
    exact ⟨y, r', n, rfl, g2, CM_m n2 (by omega), fun _ => n1, fun g => absurd z g⟩
  · rw [if_neg (show ¬ Int32.ofNat X = Int32.ofNat C by rw [i_eq (by omega) (by omega)]; exact z)]
    exact ⟨_, _, 1000000, rfl, RF_r H.2.2, Or.inl ⟨rfl, by omega, by omega⟩, fun g => absurd g z, fun _ => rfl⟩
theorem w_4 (hN : 100000 ≤ N) (H : UV N h b e Ln Co c r) (hk : Kn Ln Co Y X c r) (hR : R < Ln) (hC : C < Co) : ∃ y r' nD nX, f342_way N h b 4 (Int32.ofNat R) (Int32.ofNat C) 0 r = some (y, r') ∧ RF r r' ∧ lnD Y R c = Int32.ofNat nD ∧ lnX Co R X C c = Int32.ofNat nX ∧ CM 281 (nD + nX) y := by
  have l24 := H.1.1.2.2.1
  have hY := hk.2.1
  unfold f342_way j342_182 j342_199
  rw [if_neg (show ¬ (4 : Int32) = 1 by decide), if_neg (show ¬ (4 : Int32) = 2 by decide), if_neg (show ¬ (4 : Int32) = 3 by decide), if_neg (show ¬ (6 : Int32) ≤ 4 by decide), fz hk (by omega), if_neg (show ¬ (1 : Int32) = 0 by decide), if_pos (show (4 : Int32) = 4 from rfl), if_neg (show ¬ (0 : Int32) = -1 by decide), if_pos (show (0 : Int32) = 0 from rfl)]
  obtain ⟨y, r', nD, nX, k1, k2, k3, k4, k5, _⟩ := d_steps (N := N) (h := h) (b := b) (Y := Y) (X := X) (R := R) (C := C) (q1 := 4) (q7 := 0) (nA := 0) (mA := 0) hN H hR hC hY hk.2.2.1 (by rw [if_neg (show ¬ (4 : Int32) = 6 by decide)]; exact hk.2.2.2.2.1) (fun r' hr => by rw [if_pos (show (4 : Int32) = 4 from rfl), hr.2.1 52 (by decide) (by decide)]; exact hk.2.2.2.2.2.2) (Or.inr ⟨by omega, rfl⟩) (by omega) (by decide)
  rw [Nat.zero_add] at k5
  exact ⟨y, r', nD, nX, k1, k2, k3, k4, k5⟩
theorem w_56 {q1 : Int32} (hN : 100000 ≤ N) (H : UV N h b e Ln Co c r) (hR : R < Ln) (hC : C < Co) (hY : Y < Ln) (ha : a < 39) (ha6 : 6 ≤ a) (hq : (q1 = 5 ∧ a = 20 ∧ r 157 51 = Int32.ofNat Y) ∨ (q1 = 6 ∧ a = 8 ∧ Y = 0)) : ∃ y r' nA nD nX, f342_way N h b q1 (Int32.ofNat R) (Int32.ofNat C) 0 r = some (y, r') ∧ RF r r' ∧ c 106 a = Int32.ofNat nA ∧ lnD Y R c = Int32.ofNat nD ∧ lnX Co R 0 C c = Int32.ofNat nX ∧ CM 281 (nA + nD + nX) y := by
  have l24 := H.1.1.2.2.1
  obtain ⟨yA, r1, g1, g2, g3⟩ := d_len (N := N) (h := h) (b := b) (a := a) (V := 0) hN H ha ha6
  have g1' : f333_bytesOf N h b (Int32.ofNat a) 0 0 r = some (yA, r1) := g1
  obtain ⟨nA, n1, n2⟩ := CO_M (g3 _ (H.1.2.2.1.1 a ha6 ha))
  have H1 := UV_R H g2
  have red : f342_way N h b q1 (Int32.ofNat R) (Int32.ofNat C) 0 r = if yA = -1 then some (-1, r1) else j342_228 N h b q1 (Int32.ofNat R) (Int32.ofNat C) 0 yA r1 := by
    unfold f342_way j342_182 j342_199
    rcases hq with ⟨q1, q2, q3⟩ | ⟨q1, q2, q3⟩ <;> subst q1 <;> subst q2
    · have g1'' : f333_bytesOf N h b 20 0 0 r = some (yA, r1) := g1'
      rw [if_neg (show ¬ (5 : Int32) = 1 by decide), if_neg (show ¬ (5 : Int32) = 2 by decide), if_neg (show ¬ (5 : Int32) = 3 by decide), if_neg (show ¬ (6 : Int32) ≤ 5 by decide), q3, if_neg (ofn_ne (by omega)), if_neg (show ¬ (1 : Int32) = 0 by decide), if_neg (show ¬ (5 : Int32) = 4 by decide), if_neg (show ¬ (5 : Int32) = 1 by decide), if_neg (show ¬ (5 : Int32) = 2 by decide), if_neg (show ¬ (5 : Int32) = 3 by decide), if_pos (show (5 : Int32) = 5 from rfl), g1'', b2_some, if_pos (show (0 : Int32) = 0 from rfl)]
    · have g1'' : f333_bytesOf N h b 8 0 0 r = some (yA, r1) := g1'
      rw [if_neg (show ¬ (6 : Int32) = 1 by decide), if_neg (show ¬ (6 : Int32) = 2 by decide), if_neg (show ¬ (6 : Int32) = 3 by decide), if_pos (show (6 : Int32) ≤ 6 by decide), if_neg (show ¬ (6 : Int32) = 4 by decide), if_neg (show ¬ (6 : Int32) = 1 by decide), if_neg (show ¬ (6 : Int32) = 2 by decide), if_neg (show ¬ (6 : Int32) = 3 by decide), if_neg (show ¬ (6 : Int32) = 5 by decide), g1'', b2_some, if_pos (show (0 : Int32) = 0 from rfl)]
  rw [red]
  have e1 : (if q1 = 6 then (0 : Int32) else r1 157 51) = Int32.ofNat Y := by
    rcases hq with ⟨q1, q2, q3⟩ | ⟨q1, q2, q3⟩ <;> subst q1
    · rw [if_neg (show ¬ (5 : Int32) = 6 by decide), g2.2.1 51 (by decide) (by decide)]; exact q3
    · rw [if_pos rfl, q3]; rfl
  have e2 : ∀ r', RF r1 r' → (if q1 = 4 then r' 157 52 else (0 : Int32)) = Int32.ofNat 0 := by
    intro r' _
    rcases hq with ⟨q1, q2, q3⟩ | ⟨q1, q2, q3⟩ <;> subst q1
    · rw [if_neg (show ¬ (5 : Int32) = 4 by decide)]; rfl
    · rw [if_neg (show ¬ (6 : Int32) = 4 by decide)]; rfl
  by_cases z : yA = -1
  · rw [if_pos z]
    obtain ⟨yD, r2, k1, k2, k3⟩ := d_dn0 (N := N) (h := h) (b := b) (y0 := Y) (y1 := R) hN H (by omega) (by omega)
    obtain ⟨nD, d1, d2⟩ := CC_M k3
    obtain ⟨yX, r3, m1, m2, m3⟩ := d_ac0 (N := N) (h := h) (b := b) (x0 := 0) (x1 := C) (row := R) hN H (by omega) hC hR
    obtain ⟨nX, x1, x2⟩ := CC_M m3
    have := (CM_v n2 (by omega)).mp z
    refine ⟨_, _, nA, nD, nX, rfl, g2, n1, d1, x1, Or.inl ⟨rfl, by omega, ?_⟩⟩
    rcases n2 with ⟨_, _, g⟩ | ⟨g, _⟩ <;> rcases d2 with ⟨_, _, g'⟩ | ⟨g', _⟩ <;> rcases x2 with ⟨_, _, g''⟩ | ⟨g'', _⟩ <;> omega
  · rw [if_neg z]
    obtain ⟨y, r', nD, nX, k1, k2, k3, k4, k5, _⟩ := d_steps (N := N) (h := h) (b := b) (Y := Y) (X := 0) (R := R) (C := C) (q1 := q1) (q7 := yA) (nA := nA) (mA := 1) hN H1 hR hC hY (by omega) e1 e2 n2 (by omega) z
    exact ⟨y, r', nA, nD, nX, k1, RF_t g2 k2, n1, k3, k4, k5⟩
end T
