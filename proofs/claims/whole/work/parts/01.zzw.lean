/-! update: tabs and copies. -/
def CN (n : Nat) (y : Int32) : Prop := (y = -1 ∧ 1000000 ≤ n ∧ n ≤ 200000000) ∨ (n ≤ 20000 ∧ y = Int32.ofNat n)
def best (y y' : Int32) : Int32 := if bt y y' = -1 then -1 else if bt y y' = 0 then y else y'
def lnT (x0 x1 : Nat) (c : xA) : Int32 := if (c 97 11).toNatClampNeg = 0 then 1000000 else if x1 / (c 97 11).toNatClampNeg * (c 97 11).toNatClampNeg ≤ x0 then 1000000 else Int32.ofNat (x1 / (c 97 11).toNatClampNeg - x0 / (c 97 11).toNatClampNeg) * c 106 21 + lnP 13 17 (x1 - x1 / (c 97 11).toNatClampNeg * (c 97 11).toNatClampNeg) c
def plT (x0 x1 : Nat) (c : xA) : List S4 := (21, Int32.ofNat (x1 / (c 97 11).toNatClampNeg - x0 / (c 97 11).toNatClampNeg), 0, 0) :: plP 13 17 (x1 - x1 / (c 97 11).toNatClampNeg * (c 97 11).toNatClampNeg) c
section T
variable {N h b : Nat} {c0 r0 c r c' r' c'' r'' : xA} {x y z s v w w1 w2 w4 w5 w6 x' y' : Int32} {len p i f k m q l a e K n n' row d th k0 A B t Ln Co V H o j W L a0 a1 m' y0 y1 x0 x1 S : Nat}
theorem CC_N (H : CC 200 x y) : ∃ n : Nat, x = Int32.ofNat n ∧ CN n y := by
  rcases H with ⟨h1, n, h2, h3, h4⟩ | ⟨n, h2, h3, h4⟩
  · exact ⟨n, h4, Or.inl ⟨h1, h2, by omega⟩⟩
  · exact ⟨n, h3, Or.inr ⟨by omega, h4⟩⟩
theorem CN_C (H : CN n y) : CC 200 (Int32.ofNat n) y := by
  rcases H with ⟨h1, h2, h3⟩ | ⟨h2, h3⟩
  · exact Or.inl ⟨h1, n, h2, by omega, rfl⟩
  · exact Or.inr ⟨n, by omega, rfl, h3⟩
theorem CN_lt (H : CN n y) : n < 2 ^ 31 := by rcases H with ⟨_, _, h3⟩ | ⟨h2, _⟩ <;> omega
theorem CN_v (H : CN n y) : (y = -1 ↔ 1000000 ≤ n) := by
  rcases H with ⟨h1, h2, h3⟩ | ⟨h2, h3⟩
  · exact ⟨fun _ => h2, fun _ => h1⟩
  · exact ⟨fun g => absurd (g.symm.trans h3).symm (ofn_ne (by omega)), fun g => absurd g (by omega)⟩
theorem bt_n (H : CN n y) (G : CN n' y') : (bt y y' = -1 ∧ 1000000 ≤ n ∧ 1000000 ≤ n') ∨ (bt y y' = 0 ∧ n < 1000000 ∧ n ≤ n') ∨ (bt y y' = 1 ∧ n' < 1000000 ∧ n' < n) := by
  unfold bt
  have h1 := CN_v H
  have h2 := CN_v G
  by_cases z1 : y' = -1
  · rw [if_pos z1]
    have := h2.mp z1
    by_cases z2 : y = -1
    · rw [if_pos z2]; exact Or.inl ⟨rfl, h1.mp z2, this⟩
    · rw [if_neg z2]
      have : ¬ 1000000 ≤ n := fun g => z2 (h1.mpr g)
      exact Or.inr (Or.inl ⟨rfl, by omega, by omega⟩)
  · rw [if_neg z1]
    have k1 : ¬ 1000000 ≤ n' := fun g => z1 (h2.mpr g)
    by_cases z2 : y = -1
    · rw [if_pos z2]
      have := h1.mp z2
      exact Or.inr (Or.inr ⟨rfl, by omega, by omega⟩)
    · rw [if_neg z2]
      have k2 : ¬ 1000000 ≤ n := fun g => z2 (h1.mpr g)
      have e1 : y = Int32.ofNat n := H.elim (fun g => absurd g.2.1 k2) (fun g => g.2)
      have e2 : y' = Int32.ofNat n' := G.elim (fun g => absurd g.2.1 k1) (fun g => g.2)
      by_cases z3 : y' < y
      · rw [if_pos z3]
        rw [e1, e2, i_lt (by omega) (by omega)] at z3
        exact Or.inr (Or.inr ⟨rfl, by omega, z3⟩)
      · rw [if_neg z3]
        rw [e1, e2, i_lt (by omega) (by omega)] at z3
        exact Or.inr (Or.inl ⟨rfl, by omega, by omega⟩)
theorem best_n (H : CN n y) (G : CN n' y') : CN (min n n') (best y y') := by
  unfold best
  have b1 := CN_lt H
  rcases bt_n H G with ⟨k1, k2, k3⟩ | ⟨k1, k2, k3⟩ | ⟨k1, k2, k3⟩
  · rw [if_pos k1]
    have : n ≤ 200000000 := by rcases H with ⟨_, _, h⟩ | ⟨h, _⟩ <;> omega
    exact Or.inl ⟨rfl, by omega, by omega⟩
  · rw [if_neg (by rw [k1]; decide), if_pos k1, Nat.min_eq_left k3]; exact H
  · rw [if_neg (by rw [k1]; decide), if_neg (by rw [k1]; decide), Nat.min_eq_right (by omega)]; exact G
theorem e_348 (H : UV N h b e Ln Co c r) : f348_numberOf N h b 5 r = some (if c (9 + 7 * e + 3) 5 = 0 then 0 else c (9 + 7 * e + 4) 5, r) := by
  obtain ⟨⟨hz, hE, hT, hA, h9⟩, hk, hq⟩ := id H
  have he := hz.1
  have t21 := hz.2.2.2.2.2.2.1
  have h5 : f297_has N h b 5 r = some (c (9 + 7 * e + 3) 5, r) := e_hs' he (show 5 < 39 by decide) (hE 5 (by decide)) t21
  have x5 : (39 : Int32) * Int32.ofNat e + 5 = Int32.ofNat (39 * e + 5) := o39n 5
  unfold f348_numberOf
  rw [h5, b2_some]
  rcases (hE 5 (by decide)).1 with z | z
  · rw [if_pos z, if_pos z]
  · rw [if_neg (by rw [z]; decide), if_neg (by rw [z]; decide), t21, x5, xg_pos (g_ix (by omega) (by omega)), i_cl (by omega), (((hE 5 (by decide)).2.2 z).1 (by decide) (by decide)).1]
theorem e_t11 (H : UV N h b e Ln Co c r) : ∃ S : Nat, S ≤ 32767 ∧ c 97 11 = Int32.ofNat S ∧ (1 ≤ S → c (9 + 7 * e + 3) 21 = 1 ∧ f348_numberOf N h b 5 r = some (Int32.ofNat S, r)) ∧ (S = 0 → ∀ x y z, f347_tabbed N h b x y z r = some (-1, r)) := by
  have e4 := e_348 H
  obtain ⟨⟨hz, hE, hT, hA, h9⟩, hk, hq⟩ := id H
  have he := hz.1
  have t21 := hz.2.2.2.2.2.2.1
  have h21 : f297_has N h b 21 r = some (c (9 + 7 * e + 3) 21, r) := e_hs' he (show 21 < 39 by decide) (hE 21 (by decide)) t21
  have e11 := hT.2.2.2
  have nt : ∀ x y z, (c (9 + 7 * e + 3) 21 = 0 ∨ (if c (9 + 7 * e + 3) 5 = 0 then 0 else c (9 + 7 * e + 4) 5) = 0) → f347_tabbed N h b x y z r = some (-1, r) := by
    intro x y z g
    unfold f347_tabbed
    rw [e4, b2_some, h21, b2_some]
    by_cases z1 : c (9 + 7 * e + 3) 21 = 0
    · rw [if_pos z1]
    · rw [if_neg z1, if_pos (g.resolve_left z1)]
  rcases (hE 21 (by decide)).1 with z | z
  · rw [if_pos (Or.inl z)] at e11
    exact ⟨0, by omega, e11, fun g => absurd g (by omega), fun _ x y z' => nt x y z' (Or.inl z)⟩
  · rcases (hE 5 (by decide)).1 with z5 | z5
    · rw [if_pos (Or.inr z5)] at e11
      exact ⟨0, by omega, e11, fun g => absurd g (by omega), fun _ x y z' => nt x y z' (Or.inr (by rw [if_pos z5]))⟩
    · have n5 : ¬ c (9 + 7 * e + 3) 5 = 0 := by rw [z5]; decide
      rw [if_neg (fun g => g.elim (fun g => by rw [z] at g; exact absurd g (by decide)) n5)] at e11
      obtain ⟨q1, q2, q3⟩ := ((hE 5 (by decide)).2.2 z5).1 (by decide) (by decide)
      obtain ⟨S, s1, s2, _⟩ := i_nat q2
      rw [s2, show (32767 : Int32) = Int32.ofNat 32767 from rfl, i_le s1 (by decide)] at q3
      rw [if_neg n5] at e4 nt
      refine ⟨S, q3, by rw [e11]; exact s2, fun _ => ⟨z, by rw [e4, s2]⟩, fun g x y z' => nt x y z' (Or.inr (by rw [s2, g]; rfl))⟩
theorem e_dvs (h1 : x1 < 80) (hS : S ≤ 32767) : Int32.ofNat x1 / Int32.ofNat S = Int32.ofNat (x1 / S) ∧ Int32.ofNat x1 / Int32.ofNat S * Int32.ofNat S = Int32.ofNat (x1 / S * S) := by
  have e : Int32.ofNat x1 / Int32.ofNat S = Int32.ofNat (x1 / S) := (Int32.ofNat_div (by omega) (by omega)).symm
  exact ⟨e, by rw [e, ← Int32.ofNat_mul]⟩
/-- the class's own length of tabs -/
theorem e_tln (H : UV N h b e Ln Co c r) (h0 : x0 < 80) (h1 : x1 < 80) : f142_tabsLength N h b (Int32.ofNat x0) (Int32.ofNat x1) c = some (lnT x0 x1 c, c) := by
  obtain ⟨S, s1, s2, s3, s4⟩ := e_t11 H
  have hT := H.1.2.2.1
  have m1 : (-1 : Int32) ≤ Int32.ofNat x0 := Int32.le_trans (show (-1 : Int32) ≤ 0 by decide) (by rw [i_neg_le (by omega)]; trivial)
  unfold f142_tabsLength f143_lastStop j143_22 f144_tabsBetween lnT
  rw [s2, i_cl (show S < 2 ^ 31 by omega)]
  by_cases z : S = 0
  · subst z
    rw [if_pos (show Int32.ofNat 0 ≤ 0 by decide), if_pos m1, b2_some, if_pos rfl, if_pos rfl]
  · have ns : ¬ Int32.ofNat S ≤ 0 := by rw [show (0 : Int32) = Int32.ofNat 0 from rfl, i_le (by omega) (by decide)]; omega
    have nz : ¬ Int32.ofNat S = 0 := by rw [show (0 : Int32) = Int32.ofNat 0 from rfl, i_eq (by omega) (by decide)]; omega
    have hst : x1 / S * S ≤ x1 := Nat.div_mul_le_self x1 S
    have hst2 : x1 / S * S / S = x1 / S := Nat.mul_div_cancel _ (by omega)
    rw [if_neg ns, xg_pos nz, (e_dvs h1 s1).2, if_neg z]
    by_cases z2 : x1 / S * S ≤ x0
    · rw [if_pos (show Int32.ofNat (x1 / S * S) ≤ Int32.ofNat x0 by rw [i_le (by omega) (by omega)]; exact z2), b2_some, if_pos rfl, if_pos z2]
    · have := e_pln (N := N) (h := h) (b := b) (a0 := 13) (a1 := 17) (k := x1 - x1 / S * S) hT (by decide) (by decide) (by decide) (by decide) (by omega)
      have t : f140_pairLength N h b 13 17 (Int32.ofNat (x1 - x1 / S * S)) c = some (lnP 13 17 (x1 - x1 / S * S) c, c) := this
      have hd : x0 / S ≤ x1 / S := Nat.div_le_div_right (by omega)
      rw [if_neg (show ¬ Int32.ofNat (x1 / S * S) ≤ Int32.ofNat x0 by rw [i_le (by omega) (by omega)]; exact z2), b2_some, if_neg (ofn_ne (by omega)), s2, if_neg ns, xg_pos nz, (e_dvs (x1 := x1 / S * S) (by omega) s1).1, (e_dvs h0 s1).1, hst2, ← Int32.ofNat_sub _ _ hd, b2_some, ← Int32.ofNat_sub _ _ hst, t, b2_some, if_neg z2]
theorem d_tb0 (hN : 100000 ≤ N) (H : UV N h b e Ln Co c r) (h0 : x0 < 80) (h1 : x1 < 80) : ∃ y r', f347_tabbed N h b (Int32.ofNat x0) (Int32.ofNat x1) 0 r = some (y, r') ∧ RF r r' ∧ CC 200 (lnT x0 x1 c) y := by
  obtain ⟨S, s1, s2, s3, s4⟩ := e_t11 H
  unfold lnT
  rw [s2, i_cl (show S < 2 ^ 31 by omega)]
  by_cases z : S = 0
  · rw [s4 z, if_pos z]
    exact ⟨_, _, rfl, RF_r H.2.2, Or.inl ⟨rfl, 1000000, by omega, by omega, rfl⟩⟩
  obtain ⟨g21, e5⟩ := s3 (by omega)
  obtain ⟨⟨hz, hE, hT, hA, h9⟩, hk, hq⟩ := id H
  have he := hz.1
  have t21 := hz.2.2.2.2.2.2.1
  have h21 : f297_has N h b 21 r = some (c (9 + 7 * e + 3) 21, r) := e_hs' he (show 21 < 39 by decide) (hE 21 (by decide)) t21
  have nz : ¬ Int32.ofNat S = 0 := by rw [show (0 : Int32) = Int32.ofNat 0 from rfl, i_eq (by omega) (by decide)]; omega
  have hst : x1 / S * S ≤ x1 := Nat.div_mul_le_self x1 S
  have hst2 : x1 / S * S / S = x1 / S := Nat.mul_div_cancel _ (by omega)
  have hd : x0 / S ≤ x1 / S ∨ x1 / S * S ≤ x0 := by
    by_cases q : x0 ≤ x1
    · exact Or.inl (Nat.div_le_div_right q)
    · exact Or.inr (by omega)
  have hdd : x1 / S - x0 / S ≤ 79 := Nat.le_trans (Nat.sub_le _ _) (by have := Nat.div_le_self x1 S; omega)
  unfold f347_tabbed
  rw [e5, b2_some, h21, b2_some, if_neg (by rw [g21]; decide), if_neg nz, if_neg z, (e_dvs h1 s1).2]
  by_cases z2 : x1 / S * S ≤ x0
  · rw [if_neg (show ¬ Int32.ofNat x0 < Int32.ofNat (x1 / S * S) by rw [i_lt (by omega) (by omega)]; omega), if_pos z2]
    exact ⟨_, _, rfl, RF_r H.2.2, Or.inl ⟨rfl, 1000000, by omega, by omega, rfl⟩⟩
  have hd := hd.resolve_right z2
  rw [if_pos (show Int32.ofNat x0 < Int32.ofNat (x1 / S * S) by rw [i_lt (by omega) (by omega)]; omega), if_neg z2, (e_dvs (x1 := x1 / S * S) (by omega) s1).1, (e_dvs h0 s1).1, hst2, ← Int32.ofNat_sub _ _ hd]
  have tail : ∀ {y0 : Int32} {r1 : xA}, UV N h b e Ln Co c r1 → CC 80 (lnP 13 17 (x1 - x1 / S * S) c) y0 → ∃ y r', j347_75 N h b (Int32.ofNat x1) 0 (Int32.ofNat (x1 / S * S)) (Int32.ofNat (x1 / S - x0 / S)) y0 r1 = some (y, r') ∧ (r1 = r' ∨ RF r1 r') ∧ CC 200 (Int32.ofNat (x1 / S - x0 / S) * c 106 21 + lnP 13 17 (x1 - x1 / S * S) c) y := by
    intro y0 r1 H1 hC
    obtain ⟨ll, r2, g1, g2, g3, g4⟩ := d_len4 (N := N) (h := h) (b := b) (V := 0) hN H1 (show 21 < 39 by decide) (by decide)
    have g1' : f333_bytesOf N h b 21 0 0 r1 = some (ll, r2) := g1
    obtain ⟨L, L1, L2⟩ := g4 g21
    have eL : c 106 21 = Int32.ofNat L := by
      rcases g3 _ (hT.1 21 (by decide) (by decide)) with ⟨_, q⟩ | ⟨L', q1, q2, q3⟩
      · rw [q] at L2; exact absurd L2.symm (ofn_ne (by omega))
      · rw [q2, ← q3, L2]
    have hm : (x1 / S - x0 / S) * L ≤ 79 * 60 := Nat.mul_le_mul hdd L1
    unfold j347_75
    rcases hC with ⟨q1, n, q2, q3, q4⟩ | ⟨n, q2, q3, q4⟩
    · rw [if_pos q1]
      exact ⟨_, _, rfl, Or.inl rfl, Or.inl ⟨rfl, (x1 / S - x0 / S) * L + n, by omega, by omega, by rw [eL, q4, ← Int32.ofNat_mul, ← Int32.ofNat_add]⟩⟩
    · rw [if_neg (by rw [q4]; exact ofn_ne (by omega)), g1', b2_some, if_pos rfl]
      refine ⟨_, _, rfl, Or.inr g2, Or.inr ⟨(x1 / S - x0 / S) * L + n, by omega, by rw [eL, q3, ← Int32.ofNat_mul, ← Int32.ofNat_add], by rw [L2, q4, ← Int32.ofNat_mul, ← Int32.ofNat_add]⟩⟩
  by_cases z3 : x1 / S * S = x1
  · rw [if_pos (show Int32.ofNat (x1 / S * S) = Int32.ofNat x1 by rw [z3])]
    obtain ⟨y, r', k1, k2, k3⟩ := tail (y0 := 0) H (Or.inr ⟨0, by omega, by unfold lnP; rw [if_pos (by omega)]; rfl, rfl⟩)
    refine ⟨y, r', k1, ?_, k3⟩
    rcases k2 with k2 | k2
    · rw [← k2]; exact RF_r H.2.2
    · exact k2
  · obtain ⟨y0, r1, k1, k2, k3⟩ := d_pr0 (N := N) (h := h) (b := b) (a0 := 13) (a1 := 17) (k := x1 - x1 / S * S) hN H (by decide) (by decide) (by decide) (by decide) (by omega) (by omega)
    have k1' : f344_eitherOf N h b 13 17 (Int32.ofNat (x1 - x1 / S * S)) 0 r = some (y0, r1) := k1
    rw [if_neg (show ¬ Int32.ofNat (x1 / S * S) = Int32.ofNat x1 by rw [i_eq (by omega) (by omega)]; exact z3), ← Int32.ofNat_sub _ _ hst, k1', b2_some]
    obtain ⟨y, r', m1, m2, m3⟩ := tail (y0 := y0) (UV_R H k2) k3
    refine ⟨y, r', m1, ?_, m3⟩
    rcases m2 with m2 | m2
    · rw [← m2]; exact k2
    · exact RF_t k2 m2
end T
