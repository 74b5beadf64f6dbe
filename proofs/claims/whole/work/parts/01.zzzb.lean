/-! update: the cheapest way. -/
section T
variable {N h b : Nat} {c0 r0 c r c' r' c'' r'' : xA} {x y z s v w w1 w2 w4 w5 w6 w7 x' y' : Int32} {len p i f k m q l a e K n n' row d th k0 A B t Ln Co V H o j W L a0 a1 m' y0 y1 x0 x1 S Y X R C kk : Nat}
theorem l340_s (hw : f342_way N h b (Int32.ofNat k) w1 w2 0 r = some (y, r')) (hy : CM 281 n y) (hk : k ≤ 6) (hkk : 1 ≤ kk) (hkk2 : kk ≤ 6) (hm : m < 1000000) : l340_44 N h b w1 w2 (f + 1) (Int32.ofNat kk) (Int32.ofNat m) (Int32.ofNat k) r = l340_44 N h b w1 w2 f (Int32.ofNat (if n < m then k else kk)) (Int32.ofNat (min m n)) (Int32.ofNat (k + 1)) r' := by
  rw [l340_44, if_neg (by rw [show (6 : Int32) = Int32.ofNat 6 from rfl, i_lt (by decide) (by omega)]; omega), hw, b2_some]
  unfold j340_90 j340_83
  rw [on_s]
  unfold j340_90
  rw [on_s]
  by_cases z : y = -1
  · have := (CM_v hy (by omega)).mp z
    rw [if_pos z, if_neg (by omega), Nat.min_eq_left (by omega)]
  · have l : n < 1000000 := Nat.lt_of_not_le (fun g => z ((CM_v hy (by omega)).mpr g))
    rw [if_neg z, if_neg (ofn_ne (by omega)), CM_e hy l]
    by_cases q : n < m
    · rw [if_pos (show Int32.ofNat n < Int32.ofNat m by rw [i_lt (by omega) (by omega)]; exact q), if_pos q, Nat.min_eq_right (by omega)]
    · rw [if_neg (show ¬ Int32.ofNat n < Int32.ofNat m by rw [i_lt (by omega) (by omega)]; exact q), if_neg q, Nat.min_eq_left (by omega)]
/-- the class's own choice of two -/
theorem selc {α : Type} {F : Int32 → Int32 → Option α} {k1 : Nat} (hm : m < 2 ^ 31) (hn : n < 2 ^ 31) : (if Int32.ofNat m ≤ Int32.ofNat n then F (Int32.ofNat kk) (Int32.ofNat m) else F (Int32.ofNat k1) (Int32.ofNat n)) = F (Int32.ofNat (if n < m then k1 else kk)) (Int32.ofNat (min m n)) := by
  by_cases q : n < m
  · rw [if_neg (by rw [i_le hm hn]; omega), if_pos q, Nat.min_eq_right (by omega)]
  · rw [if_pos (by rw [i_le hm hn]; omega), if_neg q, Nat.min_eq_left (by omega)]
theorem c_2 (hN : 100000 ≤ N) (H : UV N h b e Ln Co c r) (hR : R < Ln) (hC : C < Co) : ∃ y r' n, f342_way N h b 2 (Int32.ofNat R) (Int32.ofNat C) 0 r = some (y, r') ∧ RF r r' ∧ CM 281 n y ∧ (n < 1000000 → ∃ X, Kn Ln Co R X c r) ∧ ∀ kk m, m < 1000000 → (if (c 97 14) = 0 then (j138_71 N h b (Int32.ofNat R) (Int32.ofNat C) (Int32.ofNat kk) (Int32.ofNat m) c) else (if (c 100 6) = Int32.ofNat R then (xg (¬ (Int32.ofNat C < 0 ∨ 80 ≤ (Int32.ofNat C).toNatClampNeg)) (if Int32.ofNat m ≤ (c 112 ((Int32.ofNat C).toNatClampNeg)) then (j138_71 N h b (Int32.ofNat R) (Int32.ofNat C) (Int32.ofNat kk) (Int32.ofNat m) c) else (j138_71 N h b (Int32.ofNat R) (Int32.ofNat C) 2 (c 112 ((Int32.ofNat C).toNatClampNeg)) c))) else (j138_71 N h b (Int32.ofNat R) (Int32.ofNat C) (Int32.ofNat kk) (Int32.ofNat m) c))) = j138_71 N h b (Int32.ofNat R) (Int32.ofNat C) (Int32.ofNat (if n < m then 2 else kk)) (Int32.ofNat (min m n)) c := by
  have l24 := H.1.1.2.2.1
  have hco := H.1.1.2.2.2.2.1
  rcases Uk_c H with hu | ⟨Y, X, hk⟩
  · refine ⟨_, _, 1000000, (w_un hu).1, RF_r H.2.2, Or.inl ⟨rfl, by omega, by omega⟩, fun g => absurd g (by omega), fun kk m hm => ?_⟩
    rw [if_pos hu.1, if_neg (by omega), Nat.min_eq_left (by omega)]
  · obtain ⟨y, r', n, g1, g2, g3, g4, g5⟩ := w_2 (N := N) (h := h) (b := b) hN H hk hR hC
    refine ⟨y, r', n, g1, g2, g3, fun g => ?_, fun kk m hm => ?_⟩
    · by_cases z : Y = R
      · subst z; exact ⟨X, hk⟩
      · have := g5 z; omega
    · rw [if_neg (by rw [hk.1]; decide), hk.2.2.2.1]
      by_cases z : Y = R
      · rw [if_pos (show Int32.ofNat Y = Int32.ofNat R by rw [z]), xg_pos (g_ix (by omega) (by omega)), i_cl (by omega), g4 z]
        exact selc (k1 := 2) (F := fun a b' => j138_71 N h b (Int32.ofNat R) (Int32.ofNat C) a b' c) (by omega) (CM_lt g3 (by omega))
      · have := g5 z
        have hY := hk.2.1
        rw [if_neg (show ¬ Int32.ofNat Y = Int32.ofNat R by rw [i_eq (by omega) (by omega)]; exact z), if_neg (by omega), Nat.min_eq_left (by omega)]
theorem c_3 (hN : 100000 ≤ N) (H : UV N h b e Ln Co c r) (hR : R < Ln) (hC : C < Co) : ∃ y r' n, f342_way N h b 3 (Int32.ofNat R) (Int32.ofNat C) 0 r = some (y, r') ∧ RF r r' ∧ CM 281 n y ∧ (n < 1000000 → ∃ Y, Kn Ln Co Y C c r) ∧ ∀ kk m, m < 1000000 → j138_71 N h b (Int32.ofNat R) (Int32.ofNat C) (Int32.ofNat kk) (Int32.ofNat m) c = j138_114 N h b (Int32.ofNat R) (Int32.ofNat C) (Int32.ofNat (if n < m then 3 else kk)) (Int32.ofNat (min m n)) c := by
  have l24 := H.1.1.2.2.1
  have hco := H.1.1.2.2.2.2.1
  unfold j138_71
  rcases Uk_c H with hu | ⟨Y, X, hk⟩
  · refine ⟨_, _, 1000000, (w_un hu).2.1, RF_r H.2.2, Or.inl ⟨rfl, by omega, by omega⟩, fun g => absurd g (by omega), fun kk m hm => ?_⟩
    rw [if_pos hu.1, if_neg (by omega), Nat.min_eq_left (by omega)]
  · obtain ⟨y, r', n, g1, g2, g3, g4, g5⟩ := w_3 (N := N) (h := h) (b := b) hN H hk hR hC
    refine ⟨y, r', n, g1, g2, g3, fun g => ?_, fun kk m hm => ?_⟩
    · by_cases z : X = C
      · subst z; exact ⟨Y, hk⟩
      · have := g5 z; omega
    · rw [if_neg (by rw [hk.1]; decide), hk.2.2.2.2.2.1]
      by_cases z : X = C
      · rw [if_pos (show Int32.ofNat X = Int32.ofNat C by rw [z]), xg_pos (g_ix (show R < 80 by omega) (by omega)), i_cl (by omega), g4 z]
        exact selc (k1 := 3) (F := fun a b' => j138_114 N h b (Int32.ofNat R) (Int32.ofNat C) a b' c) (by omega) (CM_lt g3 (by omega))
      · have := g5 z
        have hX := hk.2.2.1
        rw [if_neg (show ¬ Int32.ofNat X = Int32.ofNat C by rw [i_eq (by omega) (by omega)]; exact z), if_neg (by omega), Nat.min_eq_left (by omega)]
theorem c_45 (hN : 100000 ≤ N) (H : UV N h b e Ln Co c r) (hR : R < Ln) (hC : C < Co) : ∃ y4 r4 n4 y5 r5 n5, f342_way N h b 4 (Int32.ofNat R) (Int32.ofNat C) 0 r = some (y4, r4) ∧ f342_way N h b 5 (Int32.ofNat R) (Int32.ofNat C) 0 r4 = some (y5, r5) ∧ RF r r5 ∧ CM 281 n4 y4 ∧ CM 281 n5 y5 ∧ (n4 < 1000000 → ∃ Y X, Kn Ln Co Y X c r ∧ lnD Y R c < 1000000 ∧ lnX Co R X C c < 1000000) ∧ (n5 < 1000000 → ∃ Y X, Kn Ln Co Y X c r ∧ lnD Y R c < 1000000 ∧ lnX Co R 0 C c < 1000000 ∧ c 106 20 < 1000000) ∧ ∀ kk m, m < 1000000 → j138_114 N h b (Int32.ofNat R) (Int32.ofNat C) (Int32.ofNat kk) (Int32.ofNat m) c = j138_199 N h b (Int32.ofNat R) (Int32.ofNat C) (Int32.ofNat (if n5 < min m n4 then 5 else if n4 < m then 4 else kk)) (Int32.ofNat (min (min m n4) n5)) c := by
  have l24 := H.1.1.2.2.1
  have hco := H.1.1.2.2.2.2.1
  have hT := H.1.2.2.1
  have small : ∀ {n : Nat}, n < 1000000 → Int32.ofNat n < 1000000 := fun {n} hn => by rw [show (1000000 : Int32) = Int32.ofNat 1000000 from rfl, i_lt (by omega) (by decide)]; exact hn
  unfold j138_114
  rcases Uk_c H with hu | ⟨Y, X, hk⟩
  · refine ⟨_, _, 1000000, _, _, 1000000, (w_un hu).2.2.1, (w_un hu).2.2.2, RF_r H.2.2, Or.inl ⟨rfl, by omega, by omega⟩, Or.inl ⟨rfl, by omega, by omega⟩, fun g => absurd g (by omega), fun g => absurd g (by omega), fun kk m hm => ?_⟩
    rw [if_pos hu.1, if_neg (by omega), if_neg (by omega), Nat.min_eq_left (by omega), Nat.min_eq_left (by omega)]
  · have hY := hk.2.1
    have hX := hk.2.2.1
    obtain ⟨y4, r4, nD, nX, g1, g2, g3, g4, g5⟩ := w_4 (N := N) (h := h) (b := b) hN H hk hR hC
    have H4 := UV_R H g2
    obtain ⟨y5, r5, nA, nD', nX', k1, k2, k3, k4, k5, k6⟩ := w_56 (N := N) (h := h) (b := b) (Y := Y) (q1 := 5) (a := 20) hN H4 hR hC hY (by decide) (by decide) (Or.inl ⟨rfl, rfl, by rw [g2.2.1 51 (by decide) (by decide)]; exact hk.2.2.2.2.1⟩)
    have b4 := CM_lt g5 (by omega)
    have b5 := CM_lt k6 (by omega)
    refine ⟨y4, r4, nD + nX, y5, r5, nA + nD' + nX', g1, k1, RF_t g2 k2, g5, k6, fun g => ⟨Y, X, hk, by rw [g3]; exact small (by omega), by rw [g4]; exact small (by omega)⟩, fun g => ⟨Y, X, hk, by rw [k4]; exact small (by omega), by rw [k5]; exact small (by omega), by rw [k3]; exact small (by omega)⟩, fun kk m hm => ?_⟩
    have eD : nD' = nD := by
      have : Int32.ofNat nD' = Int32.ofNat nD := by rw [← k4, ← g3]
      rwa [i_eq (by omega) (by omega)] at this
    have a0 := e_acl (N := N) (h := h) (b := b) (x0 := 0) (x1 := C) (row := R) hN H (by omega) hC hR
    have a0' : f141_acrossLength N h b 0 (Int32.ofNat C) (Int32.ofNat R) c = some (lnX Co R 0 C c, c) := a0
    rw [if_neg (by rw [hk.1]; decide), hk.2.2.2.1, e_dwn hT (by omega) (by omega), b2_some, hk.2.2.2.2.2.1, e_acl hN H hX hC hR, b2_some, g3, g4, ← Int32.ofNat_add]
    unfold j138_166
    rw [a0', b2_some, b2_some, k3, k5, ← Int32.ofNat_add, ← Int32.ofNat_add]
    subst eD
    have s1 := selc (kk := kk) (k1 := 4) (m := m) (n := nD' + nX) (F := fun q3 q4 => (if q4 ≤ Int32.ofNat (nA + nD' + nX') then (j138_199 N h b (Int32.ofNat R) (Int32.ofNat C) q3 q4 c) else (j138_199 N h b (Int32.ofNat R) (Int32.ofNat C) 5 (Int32.ofNat (nA + nD' + nX')) c))) (by omega) b4
    refine s1.trans ?_
    exact selc (kk := if nD' + nX < m then 4 else kk) (k1 := 5) (m := min m (nD' + nX)) (n := nA + nD' + nX') (F := fun a b' => j138_199 N h b (Int32.ofNat R) (Int32.ofNat C) a b' c) (by omega) b5
theorem c_6 (hN : 100000 ≤ N) (H : UV N h b e Ln Co c r) (hR : R < Ln) (hC : C < Co) : ∃ y r' n, f342_way N h b 6 (Int32.ofNat R) (Int32.ofNat C) 0 r = some (y, r') ∧ RF r r' ∧ CM 281 n y ∧ (n < 1000000 → lnD 0 R c < 1000000 ∧ lnX Co R 0 C c < 1000000 ∧ c 106 8 < 1000000) ∧ ∀ kk m, m < 1000000 → j138_199 N h b (Int32.ofNat R) (Int32.ofNat C) (Int32.ofNat kk) (Int32.ofNat m) c = some (Int32.ofNat (if n < m then 6 else kk), c) := by
  have l24 := H.1.1.2.2.1
  have hco := H.1.1.2.2.2.2.1
  have hT := H.1.2.2.1
  have small : ∀ {n : Nat}, n < 1000000 → Int32.ofNat n < 1000000 := fun {n} hn => by rw [show (1000000 : Int32) = Int32.ofNat 1000000 from rfl, i_lt (by omega) (by decide)]; exact hn
  obtain ⟨y, r', nA, nD, nX, k1, k2, k3, k4, k5, k6⟩ := w_56 (N := N) (h := h) (b := b) (Y := 0) (q1 := 6) (a := 8) hN H hR hC (by omega) (by decide) (by decide) (Or.inr ⟨rfl, rfl, rfl⟩)
  have b6 := CM_lt k6 (by omega)
  refine ⟨y, r', nA + nD + nX, k1, k2, k6, fun g => ⟨by rw [k4]; exact small (by omega), by rw [k5]; exact small (by omega), by rw [k3]; exact small (by omega)⟩, fun kk m hm => ?_⟩
  have d0 := e_dwn (N := N) (h := h) (b := b) (y0 := 0) (y1 := R) hT (by omega) (by omega)
  have d0' : f139_downLength N h b 0 (Int32.ofNat R) c = some (lnD 0 R c, c) := d0
  have a0 := e_acl (N := N) (h := h) (b := b) (x0 := 0) (x1 := C) (row := R) hN H (by omega) hC hR
  have a0' : f141_acrossLength N h b 0 (Int32.ofNat C) (Int32.ofNat R) c = some (lnX Co R 0 C c, c) := a0
  unfold j138_199
  rw [d0', b2_some, a0', b2_some, k3, k4, k5, ← Int32.ofNat_add, ← Int32.ofNat_add]
  by_cases q : nA + nD + nX < m
  · rw [if_neg (by rw [i_le (by omega) b6]; omega), if_pos q]; rfl
  · rw [if_pos (by rw [i_le (by omega) b6]; omega), if_neg q]
end T
