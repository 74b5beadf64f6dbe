/-! update: ways are gone. -/
section T
variable {N h b : Nat} {c0 r0 c r c' r' c'' r'' : xA} {x y z s v w w1 w2 w4 w5 w6 w7 x' y' : Int32} {len p i f k m q a e K n n' row d th k0 A B t Ln Co V H o j W L a0 a1 m' y0 y1 x0 x1 S Y X R C kk : Nat} {l : List S4}
theorem d_bo (hN : 100000 ≤ N) (H : UV N h b e Ln Co c r) (ha : a < 39) (ha6 : 6 ≤ a) : ∃ v r', f333_bytesOf N h b (Int32.ofNat a) x y r = some (v, r') ∧ RF r r' := by
  obtain ⟨⟨hz, hE, hT, hA, h9⟩, hk, hq⟩ := id H
  have he := hz.1
  have t21 := hz.2.2.2.2.2.2.1
  unfold f333_bytesOf
  rw [e_hs' he ha (hE a ha) t21, b2_some]
  rcases (hE a ha).1 with z | z
  · rw [if_pos z]
    exact ⟨_, _, rfl, RF_r hq⟩
  · rw [if_neg (by rw [z]; decide)]
    generalize hC : xU (xU (xU (xU c 95 0 x) 95 1 y) 95 2 0) 95 3 0 = C
    have oc : ∀ p, p ≠ 95 → C p = c p := fun p hp => by rw [← hC, xU_o hp, xU_o hp, xU_o hp, xU_o hp]
    have q1 : C 95 0 = x := by rw [← hC, xU_s (by decide), xU_s (by decide), xU_s (by decide), xU_e]
    have q2 : C 95 1 = y := by rw [← hC, xU_s (by decide), xU_s (by decide), xU_e]
    have q3 : C 95 2 = 0 := by rw [← hC, xU_s (by decide), xU_e]
    have q4 : C 95 3 = 0 := by rw [← hC, xU_e]
    obtain ⟨L, c1, r1, g1, g2, g3, g4, g5, g6, g7, g8⟩ := d_ptog (N := N) (h := h) (b := b) hN he ha ha6 (Ea_fr (c' := C) (r' := r) he (hE a ha) (fun p _ _ => oc p (by omega)) (fun _ _ _ => rfl)) (by rw [oc _ (by omega)]; exact z) t21 hq q1 q2 q3 q4
    rw [g2, b1_some]
    exact ⟨_, _, rfl, g8.2.2.1, g8.2.2.2, g7⟩
theorem XF_R (H : XF k c r c' r') (hr : RF r' r'') : XF k c r c' r'' := XF_m (XF_t H (RF_X (c := c') hr)) (by omega)
theorem R_XF (hr : RF r r') (H : XF k c r' c' r'') : XF k c r c' r'' := XF_m (XF_t (RF_X (c := c) hr) H) (by omega)
theorem d_st1 {q1 q7 : Int32} (hN : 100000 ≤ N) (H : UV N h b e Ln Co c r) (hR : R < Ln) (hC : C < Co) (hY : Y < Ln) (hX : X < Co) (e1 : (if q1 = 6 then (0 : Int32) else r 157 51) = Int32.ofNat Y) (e2 : (if q1 = 4 then r 157 52 else (0 : Int32)) = Int32.ofNat X) (hu : Uc (W + 14400) c r) (v1 : lnD Y R c < 1000000) (v2 : lnX Co R X C c < 1000000) : ∃ c' y r', RunC N h b (Int32.ofNat R) (plD Y R c ++ plX Co R X C c) c c' ∧ j342_228 N h b q1 (Int32.ofNat R) (Int32.ofNat C) 1 q7 r = some (y, r') ∧ UV N h b e Ln Co c' r' ∧ XF 14400 c r c' r' := by
  have l24 := H.1.1.2.2.1
  unfold j342_228 j342_282
  obtain ⟨c1, y1, r1, k1, k2, k3, k4, k5⟩ := d_dn1 (N := N) (h := h) (b := b) (x := Int32.ofNat R) (W := W + 9600) (y0 := Y) (y1 := R) hN H (by omega) (by omega) hu v1
  have hs := SE_X k4
  obtain ⟨c2, y2, r2, g1, g2, g3, g4⟩ := d_ac1 (N := N) (h := h) (b := b) (W := W) (x0 := X) (x1 := C) (row := R) hN k3 hX hC hR ((k4.2 (W + 9600)).1 hu) (by rw [(S_X hs).2]; exact v2)
  rw [(S_X hs).1] at g1
  have e2' : (if q1 = 4 then r1 157 52 else (0 : Int32)) = Int32.ofNat X := by rw [k4.1.2.2.2.2 52 (by decide) (by decide) (by decide)]; exact e2
  rw [e1, k2, b2_some, if_neg k5, e2', g2, b2_some]
  exact ⟨c2, _, _, RunC_app k1 g1, rfl, g3, XF_t k4 g4⟩
/-- the chosen way is planned and gone -/
theorem d_go (hN : 100000 ≤ N) (H : UV N h b e Ln Co c r) (hR : R < Ln) (hC : C < Co) (hW : WV kk Ln Co R C c r) (hu : Uc (W + 15000) c r) : ∃ c1 l c2 y r', f146_planWay N h b (Int32.ofNat kk) (Int32.ofNat R) (Int32.ofNat C) c = some c1 ∧ Pen c c1 l ∧ RunC N h b (Int32.ofNat R) l c1 c2 ∧ f342_way N h b (Int32.ofNat kk) (Int32.ofNat R) (Int32.ofNat C) 1 r = some (y, r') ∧ UV N h b e Ln Co c2 r' ∧ XF 15000 c1 r c2 r' := by
  have l24 := H.1.1.2.2.1
  have hco := H.1.1.2.2.2.2.1
  have P0 : Pen c (xU c 97 18 0) [] := ⟨⟨by show 0 ≤ 5; omega, by rw [xU_e]; rfl, fun i s hi => by simp at hi⟩, fun p h1 _ => xU_o h1, fun i hi => xU_s hi⟩
  have uc1 : ∀ {c1 : xA} {l : List S4}, Pen c c1 l → Uc (W + 15000) c1 r := fun hp => ((UM_z (c := c) (r := r) (r' := r) (hp.2.2 5 (by decide)) (hp.2.1 105 (by decide) (by decide)) rfl rfl) _).1 hu
  -- one string alone
  have one : ∀ (a : Nat) (x y : Int32), a < 39 → 6 ≤ a → ∃ c1 c2 r1, f147_planStep N h b (Int32.ofNat a) 1 x y (xU c 97 18 0) = some c1 ∧ Pen c c1 [(Int32.ofNat a, 1, x, y)] ∧ RunC N h b (Int32.ofNat R) [(Int32.ofNat a, 1, x, y)] c1 c2 ∧ f332_typeAll N h b (Int32.ofNat a) x y 1 r = some r1 ∧ UV N h b e Ln Co c2 r1 ∧ XF 60 c1 r c2 r1 := by
    intro a x y ha ha6
    obtain ⟨c1, k1, k2⟩ := d_ps (N := N) (h := h) (b := b) (s := (Int32.ofNat a, 1, x, y)) P0 (by show 0 < 5; omega)
    obtain ⟨c2, r1, v1, v2, v3, v4⟩ := d_send (N := N) (h := h) (b := b) (W := W) (t := 1) (x := x) (y := y) hN (UV_P H k2) ha ha6 (by omega) (Uc_m (uc1 k2) (by omega))
    exact ⟨c1, c2, r1, k1, k2, RunC_1 (by dsimp only; exact ofn_ne (by omega)) v1 v4, v2, v3, v4⟩
  -- a string first, then down and across
  have two : ∀ (a : Nat) (q1 : Int32) (Y : Nat), a < 39 → 6 ≤ a → Y < Ln → c 106 a < 1000000 → lnD Y R c < 1000000 → lnX Co R 0 C c < 1000000 → (∀ r' : xA, r' 157 51 = r 157 51 → (if q1 = 6 then (0 : Int32) else r' 157 51) = Int32.ofNat Y) → ¬ q1 = 4 → ∃ c1 c2 c3 c4 yA r1 r2 y r', f147_planStep N h b (Int32.ofNat a) 1 0 0 (xU c 97 18 0) = some c1 ∧ c1 100 = c 100 ∧ f148_planDown N h b (Int32.ofNat Y) (Int32.ofNat R) c1 = some c2 ∧ f150_planAcross N h b 0 (Int32.ofNat C) (Int32.ofNat R) c2 = some c3 ∧ Pen c c3 (([(Int32.ofNat a, 1, 0, 0)] ++ plD Y R c) ++ plX Co R 0 C c) ∧ RunC N h b (Int32.ofNat R) (([(Int32.ofNat a, 1, 0, 0)] ++ plD Y R c) ++ plX Co R 0 C c) c3 c4 ∧ f333_bytesOf N h b (Int32.ofNat a) 0 0 r = some (yA, r1) ∧ ¬ yA = -1 ∧ f332_typeAll N h b (Int32.ofNat a) 0 0 1 r1 = some r2 ∧ j342_228 N h b q1 (Int32.ofNat R) (Int32.ofNat C) 1 yA r2 = some (y, r') ∧ UV N h b e Ln Co c4 r' ∧ XF 15000 c3 r c4 r' := by
    intro a q1 Y ha ha6 hY w3 w1 w2 h51 hq4
    obtain ⟨c1, k1, k2⟩ := d_ps (N := N) (h := h) (b := b) (s := (Int32.ofNat a, 1, 0, 0)) P0 (by show 0 < 5; omega)
    rw [List.nil_append] at k2
    obtain ⟨c2, m1, m2, m3⟩ := d_pd (N := N) (h := h) (b := b) (y0 := Y) (y1 := R) k2 (by show 1 < 5; omega) (by omega) (by omega)
    obtain ⟨c3, n1, n2⟩ := d_pa (N := N) (h := h) (b := b) (r := r) (x0 := 0) (x1 := C) (row := R) hN H m2 (by rw [List.length_append]; show 1 + _ ≤ 3; omega) (by omega) hC hR w2
    obtain ⟨yA, r1, g1, g2, g3⟩ := d_len (N := N) (h := h) (b := b) (a := a) (V := 0) hN H ha ha6
    have hA : ¬ yA = -1 := by
      rcases g3 _ (H.1.2.2.1.1 a ha6 ha) with ⟨q, _⟩ | ⟨L, L1, L2, L3⟩
      · rw [q] at w3; exact absurd w3 (by decide)
      · rw [L3]; exact ofn_ne (by omega)
    have H3 := UV_R (UV_P H n2) g2
    have hu3 : Uc (W + 15000) c3 r1 := ((RF_X (c := c3) g2).2 _).1 (uc1 n2)
    obtain ⟨c4, r2, v1, v2, v3, v4⟩ := d_send (N := N) (h := h) (b := b) (W := W + 14400) (t := 1) (x := 0) (y := 0) hN H3 ha ha6 (by omega) (Uc_m hu3 (by omega))
    have hs3 := SE_P n2
    have hs4 := SE_X v4
    obtain ⟨c5, y, r', t1, t2, t3, t4⟩ := d_st1 (N := N) (h := h) (b := b) (q1 := q1) (q7 := yA) (Y := Y) (X := 0) (W := W) hN v3 hR hC hY (by omega) (h51 r2 (by rw [v4.1.2.2.2.2 51 (by decide) (by decide) (by decide), g2.2.1 51 (by decide) (by decide)])) (by rw [if_neg hq4]; rfl) ((v4.2 (W + 14400)).1 (Uc_m hu3 (by omega))) (by rw [(S_D hs4).2, (S_D hs3).2]; exact w1) (by rw [(S_X hs4).2, (S_X hs3).2]; exact w2)
    rw [(S_D hs4).1, (S_D hs3).1, (S_X hs4).1, (S_X hs3).1] at t1
    refine ⟨c1, c2, c3, c5, yA, r1, r2, y, r', k1, k2.2.1 100 (by decide) (by decide), m1, n1, n2, ?_, g1, hA, v2, t2, t3, XF_m (R_XF g2 (XF_t v4 t4)) (by omega)⟩
    rw [List.append_assoc]
    exact RunC_app (RunC_1 (by dsimp only; exact ofn_ne (by omega)) v1 v4) t1
  unfold f146_planWay
  dsimp only [xw]
  rcases hW with q | ⟨q, X, hk⟩ | ⟨q, Y, hk⟩ | ⟨q, Y, X, hk, w1, w2⟩ | ⟨q, Y, X, hk, w1, w2, w3⟩ | ⟨q, w1, w2, w3⟩ <;> subst q
  · obtain ⟨c1, c2, r1, k1, k2, k3, k4, k5, k6⟩ := one 9 (Int32.ofNat R) (Int32.ofNat C) (by decide) (by decide)
    have k1' : f147_planStep N h b 9 1 (Int32.ofNat R) (Int32.ofNat C) (xU c 97 18 0) = some c1 := k1
    have k4' : f332_typeAll N h b 9 (Int32.ofNat R) (Int32.ofNat C) 1 r = some r1 := k4
    obtain ⟨v, r2, m1, m2⟩ := d_bo (N := N) (h := h) (b := b) (a := 9) (x := Int32.ofNat R) (y := Int32.ofNat C) hN k5 (by decide) (by decide)
    have m1' : f333_bytesOf N h b 9 (Int32.ofNat R) (Int32.ofNat C) r1 = some (v, r2) := m1
    refine ⟨c1, _, c2, v, r2, ?_, k2, k3, ?_, UV_R k5 m2, XF_m (XF_R k6 m2) (by omega)⟩
    · rw [if_neg (show ¬ Int32.ofNat 1 = 2 by decide), if_neg (show ¬ Int32.ofNat 1 = 3 by decide), if_neg (show ¬ Int32.ofNat 1 = 4 by decide), if_neg (show ¬ Int32.ofNat 1 = 5 by decide), if_neg (show ¬ Int32.ofNat 1 = 6 by decide), k1', b1_some]
    · unfold f342_way j342_78
      rw [if_pos (show Int32.ofNat 1 = 1 from rfl), if_neg (show ¬ (1 : Int32) = 0 by decide), k4', b1_some, m1', b2_some]
  · obtain ⟨c1, c2, r1, k1, k2, k3, k4, k5, k6⟩ := one 18 (Int32.ofNat C) 0 (by decide) (by decide)
    have k1' : f147_planStep N h b 18 1 (Int32.ofNat C) 0 (xU c 97 18 0) = some c1 := k1
    have k4' : f332_typeAll N h b 18 (Int32.ofNat C) 0 1 r = some r1 := k4
    obtain ⟨v, r2, m1, m2⟩ := d_bo (N := N) (h := h) (b := b) (a := 18) (x := Int32.ofNat C) (y := 0) hN k5 (by decide) (by decide)
    have m1' : f333_bytesOf N h b 18 (Int32.ofNat C) 0 r1 = some (v, r2) := m1
    refine ⟨c1, _, c2, v, r2, ?_, k2, k3, ?_, UV_R k5 m2, XF_m (XF_R k6 m2) (by omega)⟩
    · rw [if_pos (show Int32.ofNat 2 = 2 from rfl), k1', b1_some]
    · unfold f342_way j342_97 j342_128 j342_151
      rw [show Int32.ofNat 2 = 2 from rfl, if_neg (show ¬ (2 : Int32) = 1 by decide), if_pos (show (2 : Int32) = 2 from rfl), fz hk (by omega), if_neg (show ¬ (1 : Int32) = 0 by decide), if_pos (show (2 : Int32) = 2 from rfl), hk.2.2.2.2.1, if_pos rfl, if_neg (show ¬ (1 : Int32) = 0 by decide), if_neg (show ¬ (2 : Int32) = 1 by decide), if_pos (show (2 : Int32) = 2 from rfl), if_pos (show (2 : Int32) = 2 from rfl), k4', b1_some, m1', b2_some]
  · obtain ⟨c1, c2, r1, k1, k2, k3, k4, k5, k6⟩ := one 19 (Int32.ofNat R) 0 (by decide) (by decide)
    have hY := hk.2.1
    have k1' : f147_planStep N h b 19 1 (Int32.ofNat R) 0 (xU c 97 18 0) = some c1 := k1
    have k4' : f332_typeAll N h b 19 (Int32.ofNat R) 0 1 r = some r1 := k4
    obtain ⟨v, r2, m1, m2⟩ := d_bo (N := N) (h := h) (b := b) (a := 19) (x := Int32.ofNat R) (y := 0) hN k5 (by decide) (by decide)
    have m1' : f333_bytesOf N h b 19 (Int32.ofNat R) 0 r1 = some (v, r2) := m1
    refine ⟨c1, _, c2, v, r2, ?_, k2, k3, ?_, UV_R k5 m2, XF_m (XF_R k6 m2) (by omega)⟩
    · rw [if_neg (show ¬ Int32.ofNat 3 = 2 by decide), if_pos (show Int32.ofNat 3 = 3 from rfl), k1', b1_some]
    · unfold f342_way j342_97 j342_128 j342_151
      rw [show Int32.ofNat 3 = 3 from rfl, if_neg (show ¬ (3 : Int32) = 1 by decide), if_neg (show ¬ (3 : Int32) = 2 by decide), if_pos (show (3 : Int32) = 3 from rfl), fz hk (by omega), if_neg (show ¬ (1 : Int32) = 0 by decide), if_neg (show ¬ (3 : Int32) = 2 by decide), hk.2.2.2.2.2.2, if_pos rfl, if_neg (show ¬ (1 : Int32) = 0 by decide), if_neg (show ¬ (3 : Int32) = 1 by decide), if_neg (show ¬ (3 : Int32) = 2 by decide), if_pos (show (3 : Int32) = 3 from rfl), if_neg (show ¬ (3 : Int32) = 2 by decide), k4', b1_some, m1', b2_some]
  · have hY := hk.2.1
    have hX := hk.2.2.1
    obtain ⟨c1, k1, k2, k3⟩ := d_pd (N := N) (h := h) (b := b) (y0 := Y) (y1 := R) P0 (by show 0 < 5; omega) (by omega) (by omega)
    rw [List.nil_append] at k2
    obtain ⟨c2, m1, m2⟩ := d_pa (N := N) (h := h) (b := b) (r := r) (x0 := X) (x1 := C) (row := R) hN H k2 (by omega) hX hC hR w2
    have HU := UV_P H m2
    have hs := SE_P m2
    obtain ⟨c3, y, r', g1, g2, g3, g4⟩ := d_st1 (N := N) (h := h) (b := b) (q1 := 4) (q7 := 0) (Y := Y) (X := X) (W := W) hN HU hR hC hY hX (by rw [if_neg (show ¬ (4 : Int32) = 6 by decide)]; exact hk.2.2.2.2.1) (by rw [if_pos (show (4 : Int32) = 4 from rfl)]; exact hk.2.2.2.2.2.2) (Uc_m (uc1 m2) (by omega)) (by rw [(S_D hs).2]; exact w1) (by rw [(S_X hs).2]; exact w2)
    rw [(S_D hs).1, (S_X hs).1] at g1
    refine ⟨c2, _, c3, y, r', ?_, m2, g1, ?_, g3, XF_m g4 (by omega)⟩
    · have c6 : xU c 97 18 0 100 6 = Int32.ofNat Y := by rw [xU_o (by decide)]; exact hk.2.2.2.1
      have c7 : c1 100 7 = Int32.ofNat X := by rw [k2.2.1 100 (by decide) (by decide)]; exact hk.2.2.2.2.2.1
      rw [if_neg (show ¬ Int32.ofNat 4 = 2 by decide), if_neg (show ¬ Int32.ofNat 4 = 3 by decide), if_pos (show Int32.ofNat 4 = 4 from rfl), c6, k1, b1_some, c7, m1, b1_some]
    · unfold f342_way j342_182 j342_199
      rw [show Int32.ofNat 4 = 4 from rfl, if_neg (show ¬ (4 : Int32) = 1 by decide), if_neg (show ¬ (4 : Int32) = 2 by decide), if_neg (show ¬ (4 : Int32) = 3 by decide), if_neg (show ¬ (6 : Int32) ≤ 4 by decide), fz hk (by omega), if_neg (show ¬ (1 : Int32) = 0 by decide), if_pos (show (4 : Int32) = 4 from rfl), if_neg (show ¬ (0 : Int32) = -1 by decide), if_neg (show ¬ (1 : Int32) = 0 by decide), if_pos (show (4 : Int32) ≤ 4 by decide), g2]
  · have hY := hk.2.1
    obtain ⟨c1, c2, c3, c4, yA, r1, r2, y, r', k1, k2, k3, k4, k5, k6, k7, k8, k9, k10, k11, k12⟩ := two 20 5 Y (by decide) (by decide) hY w3 w1 w2 (fun r' hr => by rw [if_neg (show ¬ (5 : Int32) = 6 by decide), hr]; exact hk.2.2.2.2.1) (by decide)
    have k1' : f147_planStep N h b 20 1 0 0 (xU c 97 18 0) = some c1 := k1
    have k7' : f333_bytesOf N h b 20 0 0 r = some (yA, r1) := k7
    have k9' : f332_typeAll N h b 20 0 0 1 r1 = some r2 := k9
    refine ⟨c3, _, c4, y, r', ?_, k5, k6, ?_, k11, k12⟩
    · rw [if_neg (show ¬ Int32.ofNat 5 = 2 by decide), if_neg (show ¬ Int32.ofNat 5 = 3 by decide), if_neg (show ¬ Int32.ofNat 5 = 4 by decide), if_pos (show Int32.ofNat 5 = 5 from rfl), k1', b1_some, k2, hk.2.2.2.1, k3, b1_some, k4, b1_some]
    · unfold f342_way j342_182 j342_199
      rw [show Int32.ofNat 5 = 5 from rfl, if_neg (show ¬ (5 : Int32) = 1 by decide), if_neg (show ¬ (5 : Int32) = 2 by decide), if_neg (show ¬ (5 : Int32) = 3 by decide), if_neg (show ¬ (6 : Int32) ≤ 5 by decide), fz hk (by omega), if_neg (show ¬ (1 : Int32) = 0 by decide), if_neg (show ¬ (5 : Int32) = 4 by decide), if_neg (show ¬ (5 : Int32) = 1 by decide), if_neg (show ¬ (5 : Int32) = 2 by decide), if_neg (show ¬ (5 : Int32) = 3 by decide), if_pos (show (5 : Int32) = 5 from rfl), k7', b2_some, if_neg k8, if_neg (show ¬ (1 : Int32) = 0 by decide), if_neg (show ¬ (5 : Int32) ≤ 4 by decide), k9', b1_some, k10]
  · obtain ⟨c1, c2, c3, c4, yA, r1, r2, y, r', k1, k2, k3, k4, k5, k6, k7, k8, k9, k10, k11, k12⟩ := two 8 6 0 (by decide) (by decide) (by omega) w3 w1 w2 (fun r' hr => by rw [if_pos rfl]; rfl) (by decide)
    have k1' : f147_planStep N h b 8 1 0 0 (xU c 97 18 0) = some c1 := k1
    have k3' : f148_planDown N h b 0 (Int32.ofNat R) c1 = some c2 := k3
    have k7' : f333_bytesOf N h b 8 0 0 r = some (yA, r1) := k7
    have k9' : f332_typeAll N h b 8 0 0 1 r1 = some r2 := k9
    refine ⟨c3, _, c4, y, r', ?_, k5, k6, ?_, k11, k12⟩
    · rw [if_neg (show ¬ Int32.ofNat 6 = 2 by decide), if_neg (show ¬ Int32.ofNat 6 = 3 by decide), if_neg (show ¬ Int32.ofNat 6 = 4 by decide), if_neg (show ¬ Int32.ofNat 6 = 5 by decide), if_pos (show Int32.ofNat 6 = 6 from rfl), k1', b1_some, k3', b1_some, k4, b1_some]
    · unfold f342_way j342_182 j342_199
      rw [show Int32.ofNat 6 = 6 from rfl, if_neg (show ¬ (6 : Int32) = 1 by decide), if_neg (show ¬ (6 : Int32) = 2 by decide), if_neg (show ¬ (6 : Int32) = 3 by decide), if_pos (show (6 : Int32) ≤ 6 by decide), if_neg (show ¬ (6 : Int32) = 4 by decide), if_neg (show ¬ (6 : Int32) = 1 by decide), if_neg (show ¬ (6 : Int32) = 2 by decide), if_neg (show ¬ (6 : Int32) = 3 by decide), if_neg (show ¬ (6 : Int32) = 5 by decide), k7', b2_some, if_neg k8, if_neg (show ¬ (1 : Int32) = 0 by decide), if_neg (show ¬ (6 : Int32) ≤ 4 by decide), k9', b1_some, k10]
end T
