/-! update: the cursor moves. -/
/-- what painting leaves alone -/
def UX (k : Nat) (c r c' r' : xA) : Prop := ((∀ p, ¬ (93 ≤ p ∧ p ≤ 97) → p ≠ 100 → p ≠ 101 → p ≠ 105 → p ≠ 114 → c' p = c p) ∧ (∀ i, i ≠ 5 → i ≠ 5 → i ≠ 14 → i ≠ 18 → c' 97 i = c 97 i) ∧ (∀ i, i ≠ 1 → i ≠ 4 → c' 93 i = c 93 i) ∧ (∀ p, p ≠ 157 → p ≠ 168 → p ≠ 169 → p ≠ 182 → p ≠ 183 → r' p = r p) ∧ (∀ i, i ≠ 23 → i ≠ 25 → i ≠ 49 → ¬ (51 ≤ i ∧ i ≤ 53) → r' 157 i = r 157 i)) ∧ UM k c r c' r'
section T
variable {N h b : Nat} {c0 r0 c r c' r' c'' r'' : xA} {x y z s v w w1 w2 w4 w5 w6 w7 x' y' : Int32} {len p i f k m q a e K n n' row d th k0 A B t Ln Co V H o j W L a0 a1 m' y0 y1 x0 x1 S Y X R C kk : Nat} {l : List S4}
theorem UX_r : UX 0 c r c r := ⟨⟨fun _ _ _ _ _ _ => rfl, fun _ _ _ _ _ => rfl, fun _ _ _ => rfl, fun _ _ _ _ _ _ => rfl, fun _ _ _ _ _ => rfl⟩, UM_r⟩
theorem UX_m (H : UX k c r c' r') (h1 : k ≤ m) : UX m c r c' r' := ⟨H.1, UM_m H.2 h1⟩
theorem UX_t (H : UX k c r c' r') (G : UX m c' r' c'' r'') : UX (k + m) c r c'' r'' := ⟨⟨fun p h1 h2 h3 h4 h5 => by rw [G.1.1 p h1 h2 h3 h4 h5, H.1.1 p h1 h2 h3 h4 h5], fun i h1 h2 h3 h4 => by rw [G.1.2.1 i h1 h2 h3 h4, H.1.2.1 i h1 h2 h3 h4], fun i h1 h2 => by rw [G.1.2.2.1 i h1 h2, H.1.2.2.1 i h1 h2], fun p h1 h2 h3 h4 h5 => by rw [G.1.2.2.2.1 p h1 h2 h3 h4 h5, H.1.2.2.2.1 p h1 h2 h3 h4 h5], fun i h1 h2 h3 h4 => by rw [G.1.2.2.2.2 i h1 h2 h3 h4, H.1.2.2.2.2 i h1 h2 h3 h4]⟩, UM_t H.2 G.2⟩
theorem UX_X (H : XF k c r c' r') : UX k c r c' r' := ⟨⟨fun p h1 _ _ h4 _ => H.1.1 p h1 h4, fun i h1 _ _ _ => H.1.2.1 i h1, H.1.2.2.1, fun p h1 h2 h3 h4 _ => H.1.2.2.2.1 p h1 h2 h3 h4, fun i h1 h2 h3 _ => H.1.2.2.2.2 i h1 h2 h3⟩, H.2⟩
theorem UX_P (H : Pen c c' l) : UX 0 c r c' r := ⟨⟨fun p h1 _ _ _ h5 => H.2.1 p (by omega) h5, fun i _ _ _ h4 => H.2.2 i h4, fun i _ _ => by rw [H.2.1 93 (by decide) (by decide)], fun _ _ _ _ _ _ => rfl, fun _ _ _ _ _ => rfl⟩, UM_z (H.2.2 5 (by decide)) (H.2.1 105 (by decide) (by decide)) rfl rfl⟩
/-- a dress is known -/
theorem UV_8 (H : UV N h b e Ln Co c r) (h1 : 0 ≤ x) (h2 : x ≤ 15) : UV N h b e Ln Co (xU c 100 8 x) (xU r 157 53 x) ∧ UX 0 c r (xU c 100 8 x) (xU r 157 53 x) := by
  obtain ⟨hS, ⟨u1, u2, u3, u4, u5, u6, u7⟩, hq⟩ := H
  refine ⟨⟨St_of hS (fun p k1 k2 => xU_o (by omega)) (fun p k1 k2 => xU_o (by omega)) (by rw [xU_o (by decide)]) (fun i _ _ => by rw [xU_o (by decide)]) (xU_s (by decide)) (xU_s (by decide)) (xU_s (by decide)) (xU_s (by decide)) (xU_o (by decide)) (xU_o (by decide)) (xU_o (by decide)) (fun p k1 k2 => xU_o (by omega)), ⟨by rw [xU_e, xU_e], by rw [xU_e]; exact h1, by rw [xU_e]; exact h2, ?_, fun y x k1 k2 => by rw [xU_o (by decide), xU_o (by decide)]; exact u5 y x k1 k2, by rw [xU_s (by decide)]; exact u6, by rw [xU_s (by decide)]; exact u7⟩, fun i => by rw [xU_o (by decide)]; exact hq i⟩, ⟨fun p _ h2 _ _ _ => xU_o h2, fun i _ _ _ _ => by rw [xU_o (by decide)], fun i _ _ => by rw [xU_o (by decide)], fun p h1 _ _ _ _ => xU_o h1, fun i _ _ _ h4 => xU_s (by omega)⟩, UM_z (by rw [xU_o (by decide)]) (xU_o (by decide)) (xU_s (by decide)) (xU_o (by decide))⟩
  rw [xU_o (show (97 : Nat) ≠ 100 by decide), xU_s (show (51 : Nat) ≠ 53 by decide), xU_s (show (52 : Nat) ≠ 53 by decide), xU_s (show (6 : Nat) ≠ 8 by decide), xU_s (show (7 : Nat) ≠ 8 by decide)]
  exact u4
/-- the cursor is at a place -/
theorem UV_c (H : UV N h b e Ln Co c r) (hR : R < Ln) (hC : C < Co) : UV N h b e Ln Co (xU (xU (xU c 100 6 (Int32.ofNat R)) 100 7 (Int32.ofNat C)) 97 14 1) (xU (xU r 157 51 (Int32.ofNat R)) 157 52 (Int32.ofNat C)) ∧ UX 0 c r (xU (xU (xU c 100 6 (Int32.ofNat R)) 100 7 (Int32.ofNat C)) 97 14 1) (xU (xU r 157 51 (Int32.ofNat R)) 157 52 (Int32.ofNat C)) := by
  obtain ⟨hS, ⟨u1, u2, u3, u4, u5, u6, u7⟩, hq⟩ := H
  have oc : ∀ p, p ≠ 97 → p ≠ 100 → (xU (xU (xU c 100 6 (Int32.ofNat R)) 100 7 (Int32.ofNat C)) 97 14 1) p = c p := fun p h1 h2 => by rw [xU_o h1, xU_o h2, xU_o h2]
  have o7 : ∀ i, i ≠ 14 → (xU (xU (xU c 100 6 (Int32.ofNat R)) 100 7 (Int32.ofNat C)) 97 14 1) 97 i = c 97 i := fun i h1 => by rw [xU_s h1, xU_o (by decide), xU_o (by decide)]
  have o1 : ∀ i, i ≠ 6 → i ≠ 7 → (xU (xU (xU c 100 6 (Int32.ofNat R)) 100 7 (Int32.ofNat C)) 97 14 1) 100 i = c 100 i := fun i h1 h2 => by rw [xU_o (by decide), xU_s h2, xU_s h1]
  have or' : ∀ p, p ≠ 157 → (xU (xU r 157 51 (Int32.ofNat R)) 157 52 (Int32.ofNat C)) p = r p := fun p h1 => by rw [xU_o h1, xU_o h1]
  have r7 : ∀ i, i ≠ 51 → i ≠ 52 → (xU (xU r 157 51 (Int32.ofNat R)) 157 52 (Int32.ofNat C)) 157 i = r 157 i := fun i h1 h2 => by rw [xU_s h2, xU_s h1]
  refine ⟨⟨St_of hS (fun p k1 k2 => oc p (by omega) (by omega)) (fun p k1 k2 => or' p (by omega)) (by rw [oc 0 (by decide) (by decide)]) (fun i k1 k2 => o7 i (by omega)) (r7 21 (by decide) (by decide)) (r7 26 (by decide) (by decide)) (r7 27 (by decide) (by decide)) (r7 50 (by decide) (by decide)) (oc 104 (by decide) (by decide)) (or' 170 (by decide)) (oc 106 (by decide) (by decide)) (fun p k1 k2 => oc p (by omega) (by omega)), ⟨by rw [o1 8 (by decide) (by decide), r7 53 (by decide) (by decide)]; exact u1, by rw [o1 8 (by decide) (by decide)]; exact u2, by rw [o1 8 (by decide) (by decide)]; exact u3, Or.inr ⟨xU_e, R, C, hR, hC, by rw [xU_o (by decide), xU_s (by decide), xU_e], by rw [xU_s (by decide), xU_e], by rw [xU_o (by decide), xU_e], xU_e⟩, fun y x k1 k2 => by rw [oc 101 (by decide) (by decide), or' 183 (by decide)]; exact u5 y x k1 k2, by rw [o1 4 (by decide) (by decide)]; exact u6, by rw [o1 5 (by decide) (by decide)]; exact u7⟩, fun i => by rw [or' 168 (by decide)]; exact hq i⟩, ⟨fun p h1 h2 _ _ _ => oc p (by omega) h2, fun i _ _ h3 _ => o7 i h3, fun i _ _ => by rw [oc 93 (by decide) (by decide)], fun p h1 _ _ _ _ => or' p h1, fun i _ _ _ h4 => r7 i (by omega) (by omega)⟩, UM_z (o7 5 (by decide)) (oc 105 (by decide) (by decide)) (r7 49 (by decide) (by decide)) (or' 182 (by decide))⟩
theorem d_mv8 (hN : 100000 ≤ N) (H : UV N h b e Ln Co c r) (hR : R < Ln) (hC : C < Co) (hu : Uc (W + 15000) c r) : ∃ c' r', j137_68 N h b (Int32.ofNat R) (Int32.ofNat C) c = some c' ∧ j340_36 N h b (Int32.ofNat R) (Int32.ofNat C) r = some r' ∧ UV N h b e Ln Co c' r' ∧ UX 15000 c r c' r' ∧ Kn Ln Co R C c' r' := by
  obtain ⟨kk, c1, r1, k1, k2, k3, k4, k5, k6, k7⟩ := d_cheap (N := N) (h := h) (b := b) hN H hR hC
  obtain ⟨c2, l, c3, y, r2, g1, g2, g3, g4, g5, g6⟩ := d_go (N := N) (h := h) (b := b) (W := W) hN k5 hR hC k7 ((k6.2 _).1 hu)
  have g7 := e_run (N := N) (h := h) (b := b) (w1 := Int32.ofNat R) (w2 := Int32.ofNat C) hN l [] N c2 (by rw [List.nil_append]; exact g2.1) g3 (by have := g2.1.1; omega)
  have g7' : l137_82 N h b (Int32.ofNat R) (Int32.ofNat C) N 0 c2 = some (0, c3) := g7
  obtain ⟨v1, v2⟩ := UV_c g5 hR hC
  unfold j137_68 j340_36
  rw [k3, b2_some, g1, b1_some, g7', Option.bind_some, k4, Option.bind_some]
  dsimp only [xw]
  rw [g4, b2_some]
  refine ⟨_, _, rfl, rfl, v1, UX_m (UX_t (UX_X k6) (UX_t (UX_P g2) (UX_t (UX_X g6) v2))) (by omega), xU_e, hR, hC, by rw [xU_o (by decide), xU_s (by decide), xU_e], by rw [xU_s (by decide), xU_e], by rw [xU_o (by decide), xU_e], xU_e⟩
/-- a send, then the dress is nothing -/
theorem d_und (hN : 100000 ≤ N) (H : UV N h b e Ln Co c r) (hu : Uc (W + 60) c r) : ∃ c1 r1, f130_send N h b 25 1 0 0 c = some c1 ∧ f341_undress N h b r = some (xU r1 157 53 0) ∧ UV N h b e Ln Co (xU c1 100 8 0) (xU r1 157 53 0) ∧ UX 60 c r (xU c1 100 8 0) (xU r1 157 53 0) ∧ XF 60 c r c1 r1 := by
  obtain ⟨c1, r1, v1, v2, v3, v4⟩ := d_send (N := N) (h := h) (b := b) (a := 25) (W := W) (t := 1) (x := 0) (y := 0) hN H (by decide) (by decide) (by omega) hu
  have v2' : f332_typeAll N h b 25 0 0 1 r = some r1 := v2
  obtain ⟨g1, g2⟩ := UV_8 (x := 0) v3 (by decide) (by decide)
  unfold f341_undress
  rw [v2', b1_some]
  exact ⟨c1, r1, v1, rfl, g1, UX_m (UX_t (UX_X v4) g2) (by omega), v4⟩
theorem d_move (hN : 100000 ≤ N) (H : UV N h b e Ln Co c r) (hR : R < Ln) (hC : C < Co) (hu : Uc (W + 15060) c r) : ∃ c' r', f137_moveTo N h b (Int32.ofNat R) (Int32.ofNat C) c = some c' ∧ f340_motion N h b (Int32.ofNat R) (Int32.ofNat C) r = some r' ∧ UV N h b e Ln Co c' r' ∧ UX 15060 c r c' r' ∧ Kn Ln Co R C c' r' := by
  have l24 := H.1.1.2.2.1
  have hco := H.1.1.2.2.2.2.1
  obtain ⟨⟨hz, hE, hT, hA, h9⟩, ⟨u1, u2, u3, u4, u5, u6, u7⟩, hq⟩ := id H
  have he := hz.1
  have t21 := hz.2.2.2.2.2.2.1
  have h6 := hz.2.2.2.2.2.2.2.1
  obtain ⟨p1, _⟩ := pl (h := h) (b := b) he
  have go : ∃ c' r', j137_30 N h b (Int32.ofNat R) (Int32.ofNat C) c = some c' ∧ j340_17 N h b (Int32.ofNat R) (Int32.ofNat C) r = some r' ∧ UV N h b e Ln Co c' r' ∧ UX 15060 c r c' r' ∧ Kn Ln Co R C c' r' := by
    have hc2 : f74_has N h b (9 + 7 * e) 2 c = some (c (9 + 7 * e + 3) 2, c) := e_hs he (show 2 < 39 by decide) (hE 2 (by decide))
    have hr2 : f297_has N h b 2 r = some (c (9 + 7 * e + 3) 2, r) := e_hs' he (show 2 < 39 by decide) (hE 2 (by decide)) t21
    have plain : ∃ c' r', j137_68 N h b (Int32.ofNat R) (Int32.ofNat C) c = some c' ∧ j340_36 N h b (Int32.ofNat R) (Int32.ofNat C) r = some r' ∧ UV N h b e Ln Co c' r' ∧ UX 15060 c r c' r' ∧ Kn Ln Co R C c' r' := by
      obtain ⟨c', r', k1, k2, k3, k4, k5⟩ := d_mv8 (N := N) (h := h) (b := b) (W := W) hN H hR hC (Uc_m hu (by omega))
      exact ⟨c', r', k1, k2, k3, UX_m k4 (by omega), k5⟩
    unfold j137_30 j340_17
    rw [← u1]
    by_cases z : c 100 8 = 0
    · rw [if_pos z, if_pos z]
      exact plain
    · rw [if_neg z, if_neg z, h6, xg_pos (ofn_ne (by omega)), i_cl (show 9 + 7 * e < 2 ^ 31 by omega), xg_pos p1, hc2, b2_some, hr2, b2_some]
      by_cases z2 : c (9 + 7 * e + 3) 2 = 0
      · rw [if_pos z2, if_pos z2]
        obtain ⟨c1, r1, k1, k2, k3, k4, _⟩ := d_und (N := N) (h := h) (b := b) (W := W + 15000) hN H (Uc_m hu (by omega))
        obtain ⟨c', r', g1, g2, g3, g4, g5⟩ := d_mv8 (N := N) (h := h) (b := b) (W := W) hN k3 hR hC ((k4.2 (W + 15000)).1 (Uc_m hu (by omega)))
        rw [k1, b1_some, k2, b1_some]
        exact ⟨c', r', g1, g2, g3, UX_m (UX_t k4 g4) (by omega), g5⟩
      · rw [if_neg z2, if_neg z2]
        exact plain
  unfold f137_moveTo f340_motion
  rcases Uk_c H with hk | ⟨Y, X, hk⟩
  · rw [if_pos hk.1, if_neg (by rw [hk.2.1]; exact fun g => absurd g.symm (ofn_ne (by omega)))]
    exact go
  · have hY := hk.2.1
    have hX := hk.2.2.1
    rw [if_neg (by rw [hk.1]; decide), hk.2.2.2.1, hk.2.2.2.2.1, hk.2.2.2.2.2.1, hk.2.2.2.2.2.2]
    by_cases z : Y = R
    · rw [if_pos (show Int32.ofNat Y = Int32.ofNat R by rw [z]), if_pos (show Int32.ofNat Y = Int32.ofNat R by rw [z])]
      by_cases z2 : X = C
      · subst z; subst z2
        rw [if_pos rfl, if_pos rfl]
        exact ⟨c, r, rfl, rfl, H, UX_m UX_r (by omega), hk⟩
      · rw [if_neg (show ¬ Int32.ofNat X = Int32.ofNat C by rw [i_eq (by omega) (by omega)]; exact z2), if_neg (show ¬ Int32.ofNat X = Int32.ofNat C by rw [i_eq (by omega) (by omega)]; exact z2)]
        exact go
    · rw [if_neg (show ¬ Int32.ofNat Y = Int32.ofNat R by rw [i_eq (by omega) (by omega)]; exact z), if_neg (show ¬ Int32.ofNat Y = Int32.ofNat R by rw [i_eq (by omega) (by omega)]; exact z)]
      exact go
end T
