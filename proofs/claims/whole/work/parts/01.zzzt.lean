/-! update: its end; update. -/
/-- a type in use has its tables -/
def TY (N h b : Nat) (c : xA) : Prop := ∀ e, e < 12 → c 0 14 = Int32.ofNat (9 + 7 * e) → TB N h b e c ∧ c (9 + 7 * e + 3) 9 = 1
/-- what update leaves alone -/
def UPF (c r c' r' : xA) : Prop := (∀ p, ¬ (93 ≤ p ∧ p ≤ 97) → ¬ (100 ≤ p ∧ p ≤ 105) → p ≠ 114 → p ≠ 117 → p ≠ 118 → c' p = c p) ∧ (∀ i, i ≠ 5 → i ≠ 12 → i ≠ 13 → i ≠ 14 → i ≠ 18 → c' 97 i = c 97 i) ∧ (∀ i, i ≠ 1 → i ≠ 4 → c' 93 i = c 93 i) ∧ (∀ p, p ≠ 157 → p ≠ 168 → p ≠ 169 → p ≠ 171 → ¬ (182 ≤ p ∧ p ≤ 184) → r' p = r p) ∧ (∀ i, i ≠ 0 → i ≠ 23 → i ≠ 25 → ¬ (32 ≤ i ∧ i ≤ 36) → ¬ (49 ≤ i ∧ i ≤ 53) → i ≠ 56 → r' 157 i = r 157 i)
section T
variable {N h b : Nat} {c0 r0 c r c' r' c'' r'' ra ra' : xA} {x y z s v w w1 w2 w3 w4 w5 w6 w7 x' y' q1 q2 q3 : Int32} {len p i f k m q a e K n n' row d th k0 A B t Ln Co V H o j W L a0 a1 m' y0 y1 x0 x1 S Y X R C kk D E F G M Q : Nat}
theorem d_addq (H : Dq c r) (hl : c 117 2 < 8000) (hx : x = y &&& 255) : ∃ c' r', f156_add N h b 117 x c = some (1, c') ∧ f352_queue N h b y r = some (1, r') ∧ Dq c' r' ∧ (∀ p, p ≠ 117 → p ≠ 118 → c' p = c p) ∧ (∀ p, p ≠ 157 → p ≠ 184 → r' p = r p) ∧ (∀ i, i ≠ 56 → r' 157 i = r 157 i) ∧ c' 117 2 = c 117 2 + 1 := by
  unfold Dq at H
  obtain ⟨k1, k2, k3, k4, k5, k6, k7⟩ := H
  have hm := q_mod k3 k4 k5 k6
  unfold f352_queue
  rw [e_add (cap := 8000) rfl rfl (by decide) (by decide) k3 (cl_ltn k3 k4 rfl) k5 (cl_le k6 rfl), ← k1, ← k2, if_pos (show c 117 2 < Int32.ofNat 8000 from hl), if_neg (show ¬ c 117 2 = 8000 from fun g => by rw [g] at hl; exact absurd hl (by decide)), xg_pos hm.2, hm.1]
  dsimp only [xw]
  generalize ((c 117 1).toNatClampNeg + (c 117 2).toNatClampNeg) % 8000 = J
  refine ⟨_, _, rfl, rfl, ?_, fun p h1 h2 => by rw [xU_o h1, xU_o h2], fun p h1 h2 => by rw [xU_o h1, xU_o h2], fun i h1 => by rw [xU_s h1, xU_o (by decide)], xU_e⟩
  have h9 := b255 (y := y)
  unfold Dq
  refine ⟨?_, ?_, ?_, ?_, ?_, ?_, fun i => ?_⟩
  · rw [xU_s (by decide), xU_o (by decide), xU_s (by decide), xU_o (by decide)]; exact k1
  · rw [xU_e, xU_e, xU_o (by decide), ← k2]
  · rw [xU_s (by decide), xU_o (by decide)]; exact k3
  · rw [xU_s (by decide), xU_o (by decide)]; exact k4
  · rw [xU_e]; grind
  · rw [xU_e]; grind
  · rw [xU_o (show 118 ≠ 117 by decide), xU_o (show 184 ≠ 157 by decide)]
    by_cases g : i = J
    · rw [g]
      show xU c (117 + 1) J x (117 + 1) J = _
      rw [xU_e, xU_e, h9, hx]
    · show xU c (117 + 1) J x (117 + 1) i = _
      rw [xU_s g, xU_s g]
      exact k7 i
theorem d_qs (hn : n ≤ 6000) (hQ : Q + n ≤ 8000) : ∀ (k v f : Nat) (c r : xA), v + k = n → k < f → Dq c r → c 117 2 = Int32.ofNat (Q + v) → (∀ i, i < n → c 105 i = r 182 i &&& 255) → r 157 49 = Int32.ofNat n → ∃ c' r', l125_29 N h b (Int32.ofNat n) f (Int32.ofNat v) c = some (0, c') ∧ l331_304 N h b f (Int32.ofNat v) r = some (0, r') ∧ Dq c' r' ∧ (∀ p, p ≠ 117 → p ≠ 118 → c' p = c p) ∧ (∀ p, p ≠ 157 → p ≠ 184 → r' p = r p) ∧ (∀ i, i ≠ 56 → r' 157 i = r 157 i) := by
  intro k
  induction k with
  | zero =>
    intro v f c r g1 g2 g3 g4 g5 g6
    obtain ⟨f, rfl⟩ : ∃ f', f = f' + 1 := ⟨f - 1, by omega⟩
    have : v = n := by omega
    subst this
    rw [l125_29, l331_304, g6, if_pos (Int32.le_refl _), if_pos (Int32.le_refl _)]
    exact ⟨c, r, rfl, rfl, g3, fun _ _ _ => rfl, fun _ _ _ => rfl, fun _ _ => rfl⟩
  | succ k ih =>
    intro v f c r g1 g2 g3 g4 g5 g6
    obtain ⟨f, rfl⟩ : ∃ f', f = f' + 1 := ⟨f - 1, by omega⟩
    have nle : ¬ Int32.ofNat n ≤ Int32.ofNat v := by rw [i_le (by omega) (by omega)]; omega
    obtain ⟨c1, r1, a1, a2, a3, a4, a5, a6, a7⟩ := d_addq (N := N) (h := h) (b := b) (x := c 105 v) (y := r 182 v) g3 (by rw [g4, show (8000 : Int32) = Int32.ofNat 8000 from rfl, i_lt (by omega) (by decide)]; omega) (g5 v (by omega))
    obtain ⟨c2, r2, b1, b2, b3, b4, b5, b6⟩ := ih (v + 1) f c1 r1 (by omega) (by omega) a3 (by rw [a7, g4, on_s]; rfl) (fun i hi => by rw [a4 105 (by decide) (by decide), a5 182 (by decide) (by decide)]; exact g5 i hi) (by rw [a6 49 (by decide)]; exact g6)
    rw [l125_29, l331_304, g6, if_neg nle, if_neg nle, xg_pos (g_ix (show v < 6000 by omega) (by omega)), xg_pos (g_ix (show v < 6000 by omega) (by omega)), i_cl (show v < 2 ^ 31 by omega), a1, b2_some, a2, b2_some, on_s]
    exact ⟨c2, r2, b1, b2, b3, fun p h1 h2 => by rw [b4 p h1 h2, a4 p h1 h2], fun p h1 h2 => by rw [b5 p h1 h2, a5 p h1 h2], fun i h1 => by rw [b6 i h1, a6 i h1]⟩
/-- all is given back -/
theorem d_fail (z2 : 1 ≤ Ln) (z3 : Ln ≤ 24) (z4 : 1 ≤ Co) (z5 : Co ≤ 80) (s4 : c 102 4 = Int32.ofNat Ln) (s5 : c 102 5 = Int32.ofNat Co) (h2 : q2 = 0 ∨ q2 = 1) (h3 : q3 = 0 ∨ q3 = 1) : ∃ c', j127_126 N h b q2 q3 c = some (-1, c') ∧ (∀ p, p ≠ 97 → p ≠ 100 → p ≠ 101 → c' p = c p) ∧ (∀ i, i ≠ 13 → i ≠ 14 → c' 97 i = c 97 i) ∧ c' 97 13 = q2 ∧ c' 97 14 = q3 ∧ (∀ i, 4 ≤ i → i ≤ 8 → c' 100 i = c 102 i) ∧ (∀ i, i < Ln * Co → c' 101 i = c 103 i) := by
  obtain ⟨ca, a1, a2, a3, a4⟩ := e_bec (N := N) (h := h) (b := b) (o := 100) (x0 := 102) (c := c) rfl rfl rfl rfl rfl (by decide) (by decide) (by decide) (by decide) s4 s5 z2 z3 z4 z5
  unfold j127_126
  rw [a1, b1_some, xg_pos h2]
  dsimp only [xw]
  rw [xg_pos h3]
  refine ⟨_, rfl, fun p h1 h2 h3 => by rw [xU_o h1, xU_o h1, a2 p h2 h3], fun i h1 h2 => by rw [xU_s h2, xU_s h1, a2 97 (by decide) (by decide)], by rw [xU_s (by decide), xU_e], xU_e, fun i h1 h2 => by rw [xU_o (by decide), xU_o (by decide)]; exact a3 i h1 h2, fun i hi => by rw [xU_o (by decide), xU_o (by decide)]; exact a4 i hi⟩
theorem u_fin (h1 : f125_update N h b c = some (x, c')) (h2 : f331_update N h b r = some (x, r')) (h3 : RP c' r') (h4 : MQb r') (h5 : Dq c' r') (h6 : UPF c r c' r') : Q2 (f125_update N h b c) (f331_update N h b r) (fun p q => p.1 = q.1 ∧ RP p.2 q.2 ∧ MQb q.2 ∧ Dq p.2 q.2 ∧ UPF c r p.2 q.2) := ⟨(x, c'), (x, r'), h1, h2, rfl, h3, h4, h5, h6⟩
theorem t_update (hN : 100000 ≤ N) (hR : RR K c r) (hP : RP c r) (hT : TY N h b c) (hq : MQb r) (hD : Dq c r) : Q2 (f125_update N h b c) (f331_update N h b r) (fun p q => p.1 = q.1 ∧ RP p.2 q.2 ∧ MQb q.2 ∧ Dq p.2 q.2 ∧ UPF c r p.2 q.2) := by
  have hr7 : ∀ i, i ≠ 0 → (xU r 157 0 0) 157 i = r 157 i := fun i hi => xU_s hi
  have hro : ∀ p, p ≠ 157 → (xU r 157 0 0) p = r p := fun p hp => xU_o hp
  rcases hP with ⟨o1, o2, o3, o4, o5⟩ | ⟨e, Ln, Co, hz, hw, hk, hb, hb2⟩
  · refine u_fin (x := -1) (c' := c) (r' := xU r 157 0 0) ?_ ?_ (Or.inl ⟨o1, by rw [hr7 21 (by decide)]; exact o2, by rw [hr7 32 (by decide)]; exact o3, by rw [hr7 33 (by decide)]; exact o4, by rw [hr7 34 (by decide)]; exact o5⟩) (fun i => by rw [hro 168 (by decide)]; exact hq i) (Dq_of hD rfl rfl (hr7 55 (by decide)) (hr7 56 (by decide)) (hro 184 (by decide))) ⟨fun _ _ _ _ _ _ => rfl, fun _ _ _ _ _ _ => rfl, fun _ _ _ => rfl, fun p h1 _ _ _ _ => hro p h1, fun i h1 _ _ _ _ _ => hr7 i h1⟩
    · unfold f125_update
      rw [if_pos o1]
    · unfold f331_update
      dsimp only [xw]
      rw [hr7 21 (by decide), if_pos o2]
  obtain ⟨z1, z2, z3, z4, z5, z6, z7, z8, z9, z10, z11, z12, z13⟩ := id hz
  obtain ⟨w1, w2, ⟨Y, X, hY, hX, w3, w4, w5, w6⟩, w7⟩ := id hw
  obtain ⟨k1, k2, k3, k4, k5, k6, k7, k8, k9⟩ := id hk
  obtain ⟨hT1, hT2⟩ := hT e z1 z6
  have eK : e < K := hR.2.2.2.2.2.2.2 e z1 z6
  have hE0 : ∀ a, a < 39 → Ea e a c (xU r 157 0 0) := fun a ha => Ea_fr z1 ((hR.2.2.2.1 e eK).2 a ha) (fun _ _ _ => rfl) (fun p _ _ => hro p (by omega))
  have hz0 : Pz e Ln Co c (xU r 157 0 0) := Pz_of hz rfl (fun _ _ _ => rfl) (hr7 21 (by decide)) (hr7 26 (by decide)) (hr7 27 (by decide))
  have hw0 : Pw Ln Co c (xU r 157 0 0) := ⟨w1, w2, ⟨Y, X, hY, hX, w3, by rw [hr7 30 (by decide)]; exact w4, w5, by rw [hr7 31 (by decide)]; exact w6⟩, fun y x g1 g2 => by rw [hro 170 (by decide)]; exact w7 y x g1 g2⟩
  have hk0 : Pk Ln Co c (xU r 157 0 0) := ⟨k1, k2, by rw [hr7 34 (by decide)]; exact k3, k4, k5, by rw [hr7 35 (by decide)]; exact k6, k7, by rw [hr7 32 (by decide), hr7 33 (by decide)]; exact k8, fun y x g1 g2 => by rw [hro 171 (by decide)]; exact k9 y x g1 g2⟩
  obtain ⟨c1, r1, s1, s2, s3, s4, s5, s6, s7, s8, s9, s10, s11⟩ := d_start (N := N) (h := h) (b := b) hN hz0 hw0 hk0 hE0 hT1 hT2 (fun i => by rw [hro 168 (by decide)]; exact hq i)
  have hu1 : Uc (31001000 + 60) c1 r1 := ⟨by omega, Or.inl s5⟩
  have hn14 : ¬ c 0 14 = -1 := by rw [z6]; exact ofn_ne (by omega)
  obtain ⟨Q, Qa, Qb, _⟩ := i_nat hD.2.2.2.2.1
  have Q3 : Q ≤ 8000 := by
    have := hD.2.2.2.2.2.1
    rw [Qb, show (8000 : Int32) = Int32.ofNat 8000 from rfl, i_le Qa (by decide)] at this
    exact this
  have q8 : Int32.ofNat 8000 - c 117 2 = Int32.ofNat (8000 - Q) := by rw [Qb, ← Int32.ofNat_sub _ _ Q3]
  have hroom : f126_room N h b 117 c = some (Int32.ofNat (8000 - Q), c) := by
    rw [← q8]
    unfold f126_room
    rw [xg_pos (show xk 117 = 1 from rfl)]
    rfl
  have hp : f127_paint N h b (Int32.ofNat (8000 - Q)) c = (if (c1 97 12) = 0 then (j127_46 N h b (Int32.ofNat (8000 - Q)) (c 97 13) (c 97 14) c1) else (xb1 (f130_send N h b 6 1 0 0 c1) (fun a61 => j127_46 N h b (Int32.ofNat (8000 - Q)) (c 97 13) (c 97 14) a61))) := by
    unfold f127_paint
    exact s1 _
  have hu : f331_update N h b r = (if (r1 157 36) = 0 then (j331_141 N h b r1) else (xb1 (f332_typeAll N h b 6 0 0 1 r1) (fun a117 => j331_141 N h b a117))) := by
    unfold f331_update
    show (if (xU r 157 0 0) 157 21 = -1 then _ else _) = _
    rw [if_neg (show ¬ (xU r 157 0 0) 157 21 = -1 by rw [hr7 21 (by decide), z7]; exact ofn_ne (by omega))]
    exact s2 _
  have e12 : c1 97 12 = r1 157 36 := by rw [s7 12 (by decide), s11 36 (by decide), hr7 36 (by decide)]; exact hb
  have hbell : ∃ c2 r2, f127_paint N h b (Int32.ofNat (8000 - Q)) c = j127_46 N h b (Int32.ofNat (8000 - Q)) (c 97 13) (c 97 14) c2 ∧ f331_update N h b r = j331_141 N h b r2 ∧ UV N h b e Ln Co c2 r2 ∧ UX 60 c1 r1 c2 r2 := by
    by_cases s : c1 97 12 = 0
    · rw [hp, hu, if_pos s, if_pos (show r1 157 36 = 0 by rw [← e12]; exact s)]
      exact ⟨c1, r1, rfl, rfl, s3, UX_m UX_r (by omega)⟩
    · obtain ⟨c2, r2, a1, a2, a3, a4⟩ := d_send (N := N) (h := h) (b := b) (a := 6) (W := 31001000) (t := 1) (x := 0) (y := 0) hN s3 (by decide) (by decide) (by omega) hu1
      have a1' : f130_send N h b 6 1 0 0 c1 = some c2 := a1
      have a2' : f332_typeAll N h b 6 0 0 1 r1 = some r2 := a2
      rw [hp, hu, if_neg s, if_neg (show ¬ r1 157 36 = 0 by rw [← e12]; exact s), a1', b1_some, a2', b1_some]
      exact ⟨c2, r2, rfl, rfl, a3, UX_X a4⟩
  obtain ⟨c2, r2, hp2, hu2, t3, t4⟩ := hbell
  have tc : ∀ p, ¬ (93 ≤ p ∧ p ≤ 97) → ¬ (100 ≤ p ∧ p ≤ 105) → p ≠ 114 → c2 p = c p := fun p h1 h2 h3 => by rw [t4.1.1 p h1 (by omega) (by omega) (by omega) h3, s6 p (by omega) (by omega) (by omega) (by omega)]
  have tr : ∀ i, i ≠ 0 → i ≠ 23 → i ≠ 25 → ¬ (49 ≤ i ∧ i ≤ 53) → r2 157 i = r 157 i := fun i h1 h2 h3 h4 => by rw [t4.1.2.2.2.2 i h2 h3 (by omega) (by omega), s11 i h4, hr7 i h1]
  obtain ⟨c3, r3, ra, d1, d2, d3, d4, d5, d6, d7, d8, d9⟩ := d_46 (N := N) (h := h) (b := b) (W := 0) (Y := Y) (X := X) (q1 := Int32.ofNat (8000 - Q)) (q2 := c 97 13) (q3 := c 97 14) hN t3 (hO_U s4 t4) (Uc_m ((t4.2 31001000).1 hu1) (by omega)) hY hX (by rw [tc 98 (by decide) (by decide) (by decide)]; exact w3) (by rw [tr 30 (by decide) (by decide) (by decide) (by decide)]; exact w4) (by rw [tc 98 (by decide) (by decide) (by decide)]; exact w5) (by rw [tr 31 (by decide) (by decide) (by decide) (by decide)]; exact w6) (by rw [t4.1.2.1 13 (by decide) (by decide) (by decide) (by decide), s7 13 (by decide), tr 35 (by decide) (by decide) (by decide) (by decide)]; exact k6)
  have gY : CY c1 c3 := CY_t (CY_U t4) d5
  have gR : RX r1 ra := RX_t (RX_U t4) d8
  have fc : ∀ p, ¬ (93 ≤ p ∧ p ≤ 97) → ¬ (100 ≤ p ∧ p ≤ 105) → p ≠ 114 → c3 p = c p := fun p h1 h2 h3 => by rw [gY.1 p h1 (by omega) (by omega) (by omega) h3, s6 p (by omega) (by omega) (by omega) (by omega)]
  have f7 : ∀ i, i ≠ 5 → i ≠ 13 → i ≠ 14 → i ≠ 18 → c3 97 i = c 97 i := fun i h1 h2 h3 h4 => by rw [gY.2.1 i h1 h2 h3 h4, s7 i h1]
  have f93 : ∀ i, i ≠ 1 → i ≠ 4 → c3 93 i = c 93 i := fun i h1 h2 => by rw [gY.2.2 i h1 h2, s6 93 (by decide) (by decide) (by decide) (by decide)]
  have fr : ∀ p, p ≠ 157 → p ≠ 168 → p ≠ 169 → p ≠ 182 → p ≠ 183 → ra p = r p := fun p h1 h2 h3 h4 h5 => by rw [gR.1 p h1 h2 h3 h4 h5, s10 p h1 h5, hro p h1]
  have fr7 : ∀ i, i ≠ 0 → i ≠ 23 → i ≠ 25 → ¬ (49 ≤ i ∧ i ≤ 53) → ra 157 i = r 157 i := fun i h1 h2 h3 h4 => by rw [gR.2 i h2 h3 (by omega) (by omega), s11 i h4, hr7 i h1]
  have f102 : ∀ i, 4 ≤ i → i ≤ 8 → c3 102 i = c 100 i := fun i h1 h2 => by rw [gY.1 102 (by decide) (by decide) (by decide) (by decide) (by decide)]; exact s8 i h1 h2
  have f103 : ∀ i, i < Ln * Co → c3 103 i = c 101 i := fun i hi => by rw [gY.1 103 (by decide) (by decide) (by decide) (by decide) (by decide)]; exact s9 i hi
  have hqa : MQb ra := AC_q d7 d3.2.2
  have mPz : ∀ c' r' : xA, c' 0 14 = c 0 14 → (∀ i, 6 ≤ i → i ≤ 9 → c' 97 i = c 97 i) → r' 157 21 = r 157 21 → r' 157 26 = r 157 26 → r' 157 27 = r 157 27 → Pz e Ln Co c' r' := fun c' r' g1 g2 g3 g4 g5 => Pz_of hz g1 g2 g3 g4 g5
  -- it fails
  have fail : (f127_paint N h b (Int32.ofNat (8000 - Q)) c = j127_126 N h b (c 97 13) (c 97 14) c3) → (f331_update N h b r = some (-1, ra)) → Q2 (f125_update N h b c) (f331_update N h b r) (fun p q => p.1 = q.1 ∧ RP p.2 q.2 ∧ MQb q.2 ∧ Dq p.2 q.2 ∧ UPF c r p.2 q.2) := by
    intro g1 g2
    obtain ⟨c4, m1, m2, m3, m4, m5, m6, m7⟩ := d_fail (N := N) (h := h) (b := b) (c := c3) (q2 := c 97 13) (q3 := c 97 14) (show 1 ≤ Ln by omega) z3 (show 1 ≤ Co by omega) z5 (by rw [f102 4 (by decide) (by decide)]; exact k1) (by rw [f102 5 (by decide) (by decide)]; exact k2) k7 (by rcases k8 with ⟨g, _⟩ | ⟨g, _⟩; exact Or.inl g; exact Or.inr g)
    have hl : l125_29 N h b (-1) N 0 c4 = some (0, c4) := by
      obtain ⟨M, hM⟩ : ∃ M, N = M + 1 := ⟨N - 1, by omega⟩
      rw [hM, l125_29, if_pos (show (-1 : Int32) ≤ 0 by decide)]
    have mc : ∀ p, ¬ (93 ≤ p ∧ p ≤ 97) → ¬ (100 ≤ p ∧ p ≤ 105) → p ≠ 114 → c4 p = c p := fun p h1 h2 h3 => by rw [m2 p (by omega) (by omega) (by omega), fc p h1 h2 h3]
    have mc7 : ∀ i, i ≠ 5 → i ≠ 13 → i ≠ 14 → i ≠ 18 → c4 97 i = c 97 i := fun i h1 h2 h3 h4 => by rw [m3 i h2 h3, f7 i h1 h2 h3 h4]
    have m100 : ∀ i, 4 ≤ i → i ≤ 8 → c4 100 i = c 100 i := fun i h1 h2 => by rw [m6 i h1 h2, f102 i h1 h2]
    refine u_fin (x := -1) (c' := c4) (r' := ra) ?_ g2 (Or.inr ⟨e, Ln, Co, mPz c4 ra (by rw [mc 0 (by decide) (by decide) (by decide)]) (fun i h1 h2 => mc7 i (by omega) (by omega) (by omega) (by omega)) (fr7 21 (by decide) (by decide) (by decide) (by decide)) (fr7 26 (by decide) (by decide) (by decide) (by decide)) (fr7 27 (by decide) (by decide) (by decide) (by decide)), ⟨by rw [mc 98 (by decide) (by decide) (by decide)]; exact w1, by rw [mc 98 (by decide) (by decide) (by decide)]; exact w2, ⟨Y, X, hY, hX, by rw [mc 98 (by decide) (by decide) (by decide)]; exact w3, by rw [fr7 30 (by decide) (by decide) (by decide) (by decide)]; exact w4, by rw [mc 98 (by decide) (by decide) (by decide)]; exact w5, by rw [fr7 31 (by decide) (by decide) (by decide) (by decide)]; exact w6⟩, fun y x h1 h2 => by rw [mc 99 (by decide) (by decide) (by decide), fr 170 (by decide) (by decide) (by decide) (by decide) (by decide)]; exact w7 y x h1 h2⟩, ⟨by rw [m100 4 (by decide) (by decide)]; exact k1, by rw [m100 5 (by decide) (by decide)]; exact k2, by rw [m100 8 (by decide) (by decide), fr7 34 (by decide) (by decide) (by decide) (by decide)]; exact k3, by rw [m100 8 (by decide) (by decide)]; exact k4, by rw [m100 8 (by decide) (by decide)]; exact k5, by rw [m4, fr7 35 (by decide) (by decide) (by decide) (by decide)]; exact k6, by rw [m4]; exact k7, by rw [m5, m100 6 (by decide) (by decide), m100 7 (by decide) (by decide), fr7 32 (by decide) (by decide) (by decide) (by decide), fr7 33 (by decide) (by decide) (by decide) (by decide)]; exact k8, fun y x h1 h2 => by rw [m7 _ (rc_lt h1 h2), f103 _ (rc_lt h1 h2), fr 171 (by decide) (by decide) (by decide) (by decide) (by decide)]; exact k9 y x h1 h2⟩, by rw [mc7 12 (by decide) (by decide) (by decide) (by decide), fr7 36 (by decide) (by decide) (by decide) (by decide)]; exact hb, trivial⟩) hqa (Dq_of hD (mc 117 (by decide) (by decide) (by decide)) (mc 118 (by decide) (by decide) (by decide)) (fr7 55 (by decide) (by decide) (by decide) (by decide)) (fr7 56 (by decide) (by decide) (by decide) (by decide)) (fr 184 (by decide) (by decide) (by decide) (by decide) (by decide))) ⟨fun p h1 h2 h3 _ _ => mc p h1 h2 h3, fun i h1 _ h3 h4 h5 => mc7 i h1 h3 h4 h5, fun i h1 h2 => by rw [m2 93 (by decide) (by decide) (by decide)]; exact f93 i h1 h2, fun p h1 h2 h3 _ h5 => fr p h1 h2 h3 (by omega) (by omega), fun i h1 h2 h3 _ h5 _ => fr7 i h1 h2 h3 h5⟩
    unfold f125_update
    rw [if_neg hn14, hroom, b2_some, g1, m1, b2_some, hl, Option.bind_some]
  -- too many bytes
  have ref : f331_update N h b r = j331_214 N h b ra := by rw [hu2]; exact d2
  have cls := hp2.trans d1
  have dead : 6000 < c3 97 5 → 6000 < ra 157 49 → Q2 (f125_update N h b c) (f331_update N h b r) (fun p q => p.1 = q.1 ∧ RP p.2 q.2 ∧ MQb q.2 ∧ Dq p.2 q.2 ∧ UPF c r p.2 q.2) := by
    intro g1 g2
    rw [if_pos g1] at cls
    refine fail cls ?_
    rw [ref]
    unfold j331_214
    rw [if_pos g2]
  rcases d7.symm with ⟨g1, g2, _⟩ | g
  · exact dead g2 g1
  subst g
  rcases d4.2.symm with hDd | hL
  · exact dead (UD_g hDd.1).1 (UD_g hDd.2).1
  obtain ⟨n, n1, n2, n3, n4⟩ := hL
  have nn : ¬ 6000 < Int32.ofNat n := by rw [show (6000 : Int32) = Int32.ofNat 6000 from rfl, i_lt (by decide) (by omega)]; omega
  rw [n2, if_neg nn] at cls
  have e56 : ra 157 56 + ra 157 49 = Int32.ofNat (Q + n) := by rw [fr7 56 (by decide) (by decide) (by decide) (by decide), ← hD.2.1, Qb, n3, ← Int32.ofNat_add]
  by_cases rm : ¬ (Q + n ≤ 8000)
  · rw [if_neg (show ¬ Int32.ofNat n ≤ Int32.ofNat (8000 - Q) by rw [i_le (by omega) (by omega)]; omega)] at cls
    refine fail cls ?_
    rw [ref]
    unfold j331_214
    rw [if_neg (show ¬ 6000 < ra 157 49 by rw [n3]; exact nn), e56, if_neg (show ¬ Int32.ofNat (Q + n) ≤ 8000 by rw [show (8000 : Int32) = Int32.ofNat 8000 from rfl, i_le (by omega) (by decide)]; omega)]
  · have rm := Decidable.not_not.mp rm
    rw [if_pos (show Int32.ofNat n ≤ Int32.ofNat (8000 - Q) by rw [i_le (by omega) (by omega)]; omega)] at cls
    have cls' : f127_paint N h b (Int32.ofNat (8000 - Q)) c = some (Int32.ofNat n, xU c3 97 12 0) := by
      rw [cls]
      dsimp only [xw]
      rw [xU_s (by decide), n2]
    obtain ⟨rB, v1, v2, v3⟩ := e_253 (N := N) (h := h) (b := b) (r := xU (xU ra 157 36 0) 157 35 0) hN
    have rB7 : ∀ i, i ≠ 35 → i ≠ 36 → rB 157 i = ra 157 i := fun i h1 h2 => by rw [v2 157 (by decide), xU_s h1, xU_s h2]
    have rBo : ∀ p, p ≠ 157 → p ≠ 171 → rB p = ra p := fun p h1 h2 => by rw [v2 p h2, xU_o h1, xU_o h1]
    have rB35 : rB 157 35 = 0 := by rw [v2 157 (by decide), xU_e]
    have rB36 : rB 157 36 = 0 := by rw [v2 157 (by decide), xU_s (by decide), xU_e]
    have rB171 : ∀ i, i < 1920 → rB 171 i = ra 183 i := fun i hi => by rw [v3 i hi, xU_o (by decide), xU_o (by decide)]
    have rC7 : ∀ i, ¬ (32 ≤ i ∧ i ≤ 36) → (xU (xU (xU rB 157 32 (ra 157 51)) 157 33 (ra 157 52)) 157 34 (ra 157 53)) 157 i = ra 157 i := fun i h1 => by rw [xU_s (by omega), xU_s (by omega), xU_s (by omega), rB7 i (by omega) (by omega)]
    have rCo : ∀ p, p ≠ 157 → p ≠ 171 → (xU (xU (xU rB 157 32 (ra 157 51)) 157 33 (ra 157 52)) 157 34 (ra 157 53)) p = ra p := fun p h1 h2 => by rw [xU_o h1, xU_o h1, xU_o h1, rBo p h1 h2]
    have rC32 : (xU (xU (xU rB 157 32 (ra 157 51)) 157 33 (ra 157 52)) 157 34 (ra 157 53)) 157 32 = ra 157 51 := by rw [xU_s (by decide), xU_s (by decide), xU_e]
    have rC33 : (xU (xU (xU rB 157 32 (ra 157 51)) 157 33 (ra 157 52)) 157 34 (ra 157 53)) 157 33 = ra 157 52 := by rw [xU_s (by decide), xU_e]
    have rC34 : (xU (xU (xU rB 157 32 (ra 157 51)) 157 33 (ra 157 52)) 157 34 (ra 157 53)) 157 34 = ra 157 53 := xU_e
    have rC35 : (xU (xU (xU rB 157 32 (ra 157 51)) 157 33 (ra 157 52)) 157 34 (ra 157 53)) 157 35 = 0 := by rw [xU_s (by decide), xU_s (by decide), xU_s (by decide), rB35]
    have rC36 : (xU (xU (xU rB 157 32 (ra 157 51)) 157 33 (ra 157 52)) 157 34 (ra 157 53)) 157 36 = 0 := by rw [xU_s (by decide), xU_s (by decide), xU_s (by decide), rB36]
    have rC171 : (xU (xU (xU rB 157 32 (ra 157 51)) 157 33 (ra 157 52)) 157 34 (ra 157 53)) 171 = rB 171 := by rw [xU_o (by decide), xU_o (by decide), xU_o (by decide)]
    have ref' : f331_update N h b r = (l331_304 N h b N 0 (xU (xU (xU rB 157 32 (ra 157 51)) 157 33 (ra 157 52)) 157 34 (ra 157 53))).bind (fun z100 => some (z100.2 157 49, z100.2)) := by
      rw [ref]
      unfold j331_214
      rw [if_neg (show ¬ 6000 < ra 157 49 by rw [n3]; exact nn), e56, if_pos (show Int32.ofNat (Q + n) ≤ 8000 by rw [show (8000 : Int32) = Int32.ofNat 8000 from rfl, i_le (by omega) (by decide)]; omega)]
      dsimp only [xw]
      rw [v1, Option.bind_some]
      dsimp only
      rw [xU_s (show 52 ≠ 32 by decide), xU_s (show 53 ≠ 33 by decide), xU_s (show 53 ≠ 32 by decide), rB7 51 (by decide) (by decide), rB7 52 (by decide) (by decide), rB7 53 (by decide) (by decide)]
    generalize (xU (xU (xU rB 157 32 (ra 157 51)) 157 33 (ra 157 52)) 157 34 (ra 157 53)) = rC at *
    have cC7 : ∀ i, i ≠ 12 → (xU c3 97 12 0) 97 i = c3 97 i := fun i hi => xU_s hi
    have cCo : ∀ p, p ≠ 97 → (xU c3 97 12 0) p = c3 p := fun p hp => xU_o hp
    have cC12 : (xU c3 97 12 0) 97 12 = 0 := xU_e
    generalize xU c3 97 12 0 = cC at *
    obtain ⟨cD, rD, y1, y2, y3, y4, y5, y6⟩ := d_qs (N := N) (h := h) (b := b) (n := n) (Q := Q) n1 rm n 0 N cC rC (by omega) (by omega) (Dq_of hD (by rw [cCo 117 (by decide), fc 117 (by decide) (by decide) (by decide)]) (by rw [cCo 118 (by decide), fc 118 (by decide) (by decide) (by decide)]) (by rw [rC7 55 (by decide), fr7 55 (by decide) (by decide) (by decide) (by decide)]) (by rw [rC7 56 (by decide), fr7 56 (by decide) (by decide) (by decide) (by decide)]) (by rw [rCo 184 (by decide) (by decide), fr 184 (by decide) (by decide) (by decide) (by decide) (by decide)])) (by rw [cCo 117 (by decide), fc 117 (by decide) (by decide) (by decide)]; exact Qb) (fun i hi => by rw [cCo 105 (by decide), rCo 182 (by decide) (by decide)]; exact n4 i hi) (by rw [rC7 49 (by decide)]; exact n3)
    have y1' : l125_29 N h b (Int32.ofNat n) N 0 cC = some (0, cD) := y1
    have y2' : l331_304 N h b N 0 rC = some (0, rD) := y2
    obtain ⟨_, ⟨u1, u2, u3, u4, u5, u6, u7⟩, _⟩ := d3
    have x100 : cD 100 = c3 100 := by rw [y4 100 (by decide) (by decide), cCo 100 (by decide)]
    have x97 : ∀ i, i ≠ 12 → cD 97 i = c3 97 i := fun i hi => by rw [y4 97 (by decide) (by decide), cC7 i hi]
    have xc : ∀ p, ¬ (93 ≤ p ∧ p ≤ 97) → ¬ (100 ≤ p ∧ p ≤ 105) → p ≠ 114 → p ≠ 117 → p ≠ 118 → cD p = c p := fun p h1 h2 h3 h4 h5 => by rw [y4 p h4 h5, cCo p (by omega), fc p h1 h2 h3]
    have xr : ∀ p, p ≠ 157 → p ≠ 168 → p ≠ 169 → p ≠ 171 → ¬ (182 ≤ p ∧ p ≤ 184) → rD p = r p := fun p h1 h2 h3 h4 h5 => by rw [y5 p h1 (by omega), rCo p h1 h4, fr p h1 h2 h3 (by omega) (by omega)]
    have xr7 : ∀ i, i ≠ 0 → i ≠ 23 → i ≠ 25 → ¬ (32 ≤ i ∧ i ≤ 36) → ¬ (49 ≤ i ∧ i ≤ 53) → i ≠ 56 → rD 157 i = r 157 i := fun i h1 h2 h3 h4 h5 h6 => by rw [y6 i h6, rC7 i h4, fr7 i h1 h2 h3 h5]
    refine u_fin (x := Int32.ofNat n) (c' := cD) (r' := rD) ?_ ?_ (Or.inr ⟨e, Ln, Co, mPz cD rD (by rw [xc 0 (by decide) (by decide) (by decide) (by decide) (by decide)]) (fun i h1 h2 => by rw [x97 i (by omega), f7 i (by omega) (by omega) (by omega) (by omega)]) (xr7 21 (by decide) (by decide) (by decide) (by decide) (by decide) (by decide)) (xr7 26 (by decide) (by decide) (by decide) (by decide) (by decide) (by decide)) (xr7 27 (by decide) (by decide) (by decide) (by decide) (by decide) (by decide)), ⟨by rw [xc 98 (by decide) (by decide) (by decide) (by decide) (by decide)]; exact w1, by rw [xc 98 (by decide) (by decide) (by decide) (by decide) (by decide)]; exact w2, ⟨Y, X, hY, hX, by rw [xc 98 (by decide) (by decide) (by decide) (by decide) (by decide)]; exact w3, by rw [xr7 30 (by decide) (by decide) (by decide) (by decide) (by decide) (by decide)]; exact w4, by rw [xc 98 (by decide) (by decide) (by decide) (by decide) (by decide)]; exact w5, by rw [xr7 31 (by decide) (by decide) (by decide) (by decide) (by decide) (by decide)]; exact w6⟩, fun y x h1 h2 => by rw [xc 99 (by decide) (by decide) (by decide) (by decide) (by decide), xr 170 (by decide) (by decide) (by decide) (by decide) (by decide)]; exact w7 y x h1 h2⟩, ⟨by rw [x100]; exact u6, by rw [x100]; exact u7, by rw [x100, y6 34 (by decide), rC34]; exact u1, by rw [x100]; exact u2, by rw [x100]; exact u3, by rw [x97 13 (by decide), d9, y6 35 (by decide), rC35], by rw [x97 13 (by decide), d9]; exact Or.inl rfl, by rw [x97 14 (by decide), x100, y6 32 (by decide), y6 33 (by decide), rC32, rC33]; exact u4, fun y x h1 h2 => by rw [y4 101 (by decide) (by decide), cCo 101 (by decide), y5 171 (by decide) (by decide), rC171, rB171 _ (by omega)]; exact u5 y x h1 h2⟩, by rw [y4 97 (by decide) (by decide), cC12, y6 36 (by decide), rC36], trivial⟩) (fun i => by rw [y5 168 (by decide) (by decide), rCo 168 (by decide) (by decide)]; exact hqa i) y3 ⟨xc, fun i h1 h2 h3 h4 h5 => by rw [x97 i h2, f7 i h1 h3 h4 h5], fun i h1 h2 => by rw [y4 93 (by decide) (by decide), cCo 93 (by decide)]; exact f93 i h1 h2, xr, xr7⟩
    · unfold f125_update
      rw [if_neg hn14, hroom, b2_some, cls', b2_some, y1', Option.bind_some]
    · rw [ref', y2', Option.bind_some]
      dsimp only
      rw [y6 49 (by decide), rC7 49 (by decide), n3]
end T
