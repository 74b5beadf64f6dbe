/-! update: the end of a row, the row. -/
section T
variable {N h b : Nat} {c0 r0 c r c' r' c'' r'' ra ra' : xA} {x y z s v w w1 w2 w3 w4 w5 w6 w7 x' y' : Int32} {len p i f k m q a e K n n' row d th k0 A B t Ln Co V H o j W L a0 a1 m' y0 y1 x0 x1 S Y X R C kk D E F G : Nat}
/-- the known cells change -/
theorem UV_a (H : UV N h b e Ln Co c r) (oc : ∀ p, p ≠ 101 → c' p = c p) (or' : ∀ p, p ≠ 183 → r' p = r p) (hk : ∀ y x, y < Ln → x < Co → c' 101 (y * Co + x) = r' 183 (80 * y + x)) : UV N h b e Ln Co c' r' ∧ UX 0 c r c' r' := by
  obtain ⟨hS, ⟨u1, u2, u3, u4, u5, u6, u7⟩, hq⟩ := H
  refine ⟨⟨St_of hS (fun p k1 k2 => oc p (by omega)) (fun p k1 k2 => or' p (by omega)) (by rw [oc 0 (by decide)]) (fun i _ _ => by rw [oc 97 (by decide)]) (by rw [or' 157 (by decide)]) (by rw [or' 157 (by decide)]) (by rw [or' 157 (by decide)]) (by rw [or' 157 (by decide)]) (oc 104 (by decide)) (or' 170 (by decide)) (oc 106 (by decide)) (fun p k1 k2 => oc p (by omega)), ⟨by rw [oc 100 (by decide), or' 157 (by decide)]; exact u1, by rw [oc 100 (by decide)]; exact u2, by rw [oc 100 (by decide)]; exact u3, by rw [oc 97 (by decide), oc 100 (by decide), or' 157 (by decide)]; exact u4, hk, by rw [oc 100 (by decide)]; exact u6, by rw [oc 100 (by decide)]; exact u7⟩, fun i => by rw [or' 168 (by decide)]; exact hq i⟩, ⟨fun p _ _ h3 _ _ => oc p h3, fun i _ _ _ _ => by rw [oc 97 (by decide)], fun i _ _ => by rw [oc 93 (by decide)], fun p _ _ _ _ h5 => or' p h5, fun i _ _ _ _ => by rw [or' 157 (by decide)]⟩, UM_z (by rw [oc 97 (by decide)]) (oc 105 (by decide)) (by rw [or' 157 (by decide)]) (or' 182 (by decide))⟩
theorem rw_in (hx : k < Co) (hX : X ≤ Co) : (R * Co + X ≤ j * Co + k ∧ j * Co + k < R * Co + Co) ↔ (j = R ∧ X ≤ k) := by
  rcases Nat.lt_trichotomy j R with g | g | g
  · have := Nat.mul_le_mul_right Co (show j + 1 ≤ R from g)
    rw [Nat.add_mul, Nat.one_mul] at this
    constructor
    · intro q; omega
    · intro q; omega
  · subst g
    constructor
    · intro q; omega
    · intro q; omega
  · have := Nat.mul_le_mul_right Co (show R + 1 ≤ j from g)
    rw [Nat.add_mul, Nat.one_mul] at this
    constructor
    · intro q; omega
    · intro q; omega
/-- the reference's row is blank from a cell on -/
theorem e_332 (hN : 100000 ≤ N) (hR : R < 24) (hco : Co ≤ 80) (hX : X ≤ Co) (z13 : r 157 26 = Int32.ofNat Co) : ∃ r', l349_332 N h b (Int32.ofNat R) N (Int32.ofNat X) r = some (0, r') ∧ (∀ p, p ≠ 183 → r' p = r p) ∧ ∀ i, r' 183 i = if 80 * R + X ≤ i ∧ i < 80 * R + Co then 32 else r 183 i := by
  obtain ⟨r', k1, k2, k3, k4⟩ := lp_up (L := l349_332 N h b (Int32.ofNat R)) (hi := Co) (out := fun a => (0, a)) (P := fun j a' => X ≤ j ∧ (∀ p, p ≠ 183 → a' p = r p) ∧ ∀ i, a' 183 i = if 80 * R + X ≤ i ∧ i < 80 * R + j then 32 else r 183 i) (fun n j a' g1 g2 => by
    obtain ⟨g3, g4, g5⟩ := g1
    have e2 : (80 : Int32) * Int32.ofNat R + Int32.ofNat j = Int32.ofNat (80 * R + j) := by rw [show (80 : Int32) = Int32.ofNat 80 from rfl, ← Int32.ofNat_mul, ← Int32.ofNat_add]
    refine ⟨xU a' 183 (80 * R + j) 32, ?_, by omega, fun p hp => by rw [xU_o hp, g4 p hp], fun i => ?_⟩
    · rw [l349_332, g4 157 (by decide), z13, if_neg (show ¬ Int32.ofNat Co ≤ Int32.ofNat j by rw [i_le (by omega) (by omega)]; omega), e2, xg_pos (g_ix (show 80 * R + j < 1920 by omega) (by omega)), i_cl (show 80 * R + j < 2 ^ 31 by omega), on_s]
      rfl
    · by_cases q : i = 80 * R + j
      · subst q
        rw [xU_e, if_pos (by omega)]
      · rw [xU_s q, g5 i]
        by_cases q2 : 80 * R + X ≤ i ∧ i < 80 * R + j
        · rw [if_pos q2, if_pos (by omega)]
        · rw [if_neg q2, if_neg (by omega)]) (fun n a' g1 => by rw [l349_332, g1.2.1 157 (by decide), z13, if_pos (Int32.le_refl _)]) (Co - X) X N r (by omega) (by omega) ⟨Nat.le_refl _, fun _ _ => rfl, fun i => by rw [if_neg (by omega)]⟩
  exact ⟨r', k1, k3, k4⟩
/-- a row's end is blank -/
theorem d_end (hN : 100000 ≤ N) (H : UV N h b e Ln Co c r) (hR : R < Ln) (hX : X < Co) (hu : Uc (W + 15420) c r) : ∃ c' r', (xb1 (f137_moveTo N h b (Int32.ofNat R) (Int32.ofNat X) c) (fun a53 => xb1 (f154_dressAs N h b 0 a53) (fun a57 => xb1 (f130_send N h b 24 1 0 0 a57) (fun a61 => xb1 (f14_fill N h b 101 (Int32.ofNat (R * Co) + Int32.ofNat X) (Int32.ofNat (R * Co) + (a61 97 9)) 32 a61) (fun a65 => some a65))))) = some c' ∧ (xb1 (f340_motion N h b (Int32.ofNat R) (Int32.ofNat X) r) (fun a84 => xb1 (f350_dresses N h b 0 a84) (fun a88 => xb1 (f332_typeAll N h b 24 0 0 1 a88) (fun a92 => (l349_332 N h b (Int32.ofNat R) N (Int32.ofNat X) a92).bind (fun z98 => some z98.2))))) = some r' ∧ UV N h b e Ln Co c' r' ∧ UX 15420 c r c' r' := by
  have l24 := H.1.1.2.2.1
  have hco := H.1.1.2.2.2.2.1
  obtain ⟨c1, r1, k1, k2, k3, k4, k5⟩ := d_move (N := N) (h := h) (b := b) (W := W + 360) hN H hR hX (Uc_m hu (by omega))
  have hu1 := (k4.2 (W + 360)).1 (Uc_m hu (by omega))
  obtain ⟨c2, r2, g1, g2, g3, g4, g5, _⟩ := d_drs (N := N) (h := h) (b := b) (W := W + 60) (E := 0) hN k3 (by decide) (Uc_m hu1 (by omega))
  have hu2 := (g4.2 (W + 60)).1 (Uc_m hu1 (by omega))
  obtain ⟨c3, r3, m1, m2, m3, m4⟩ := d_send (N := N) (h := h) (b := b) (a := 24) (W := W) (t := 1) (x := 0) (y := 0) hN g3 (by decide) (by decide) (by omega) hu2
  have g1' : f154_dressAs N h b 0 c1 = some c2 := g1
  have g2' : f350_dresses N h b 0 r1 = some r2 := g2
  have m1' : f130_send N h b 24 1 0 0 c2 = some c3 := m1
  have m2' : f332_typeAll N h b 24 0 0 1 r2 = some r3 := m2
  have z13 := m3.1.1.2.2.2.2.2.2.2.2.2.2.2.2
  have z12 := m3.1.1.2.2.2.2.2.2.2.2.2.2.2.1
  have hrc : R * Co + Co ≤ 1920 := by
    have := Nat.mul_le_mul (show R + 1 ≤ 24 by omega) hco
    rw [Nat.add_mul, Nat.one_mul] at this
    omega
  obtain ⟨r4, n1, n2, n3⟩ := e_332 (N := N) (h := h) (b := b) (R := R) (X := X) hN (by omega) hco (by omega) z13
  have n0 := e_fill (N := N) (h := h) (b := b) (p := 101) (A := R * Co + X) (E := R * Co + Co) (n := 1920) (v := 32) (a := c3) rfl rfl (by omega) hrc (by decide)
  have hv := UV_a (c' := xW c3 101 (am_fll (c3 101) (R * Co + X) (R * Co + Co) 32)) (r' := r4) m3 (fun p hp => by simp [xW, upd, hp]) n2 (fun y x q1 q2 => by
    rw [n3]
    have e0 : (xW c3 101 (am_fll (c3 101) (R * Co + X) (R * Co + Co) 32)) 101 (y * Co + x) = if (R * Co + X ≤ y * Co + x ∧ y * Co + x < R * Co + Co) then 32 else c3 101 (y * Co + x) := by simp [xW, upd, am_fll]
    rw [e0]
    have e1 := rw_in (j := y) (R := R) q2 (show X ≤ Co by omega)
    by_cases q : y = R ∧ X ≤ x
    · rw [if_pos (e1.mpr q), if_pos (by omega)]
    · rw [if_neg (fun g => q (e1.mp g)), if_neg (by omega)]
      exact m3.2.1.2.2.2.2.1 y x q1 q2)
  rw [k1, b1_some, g1', b1_some, m1', b1_some, z12, ← Int32.ofNat_add, ← Int32.ofNat_add, n0, b1_some, k2, b1_some, g2', b1_some, m2', b1_some, n1]
  exact ⟨_, _, rfl, rfl, hv.1, UX_m (UX_t k4 (UX_t g4 (UX_t (UX_X m4) hv.2))) (by omega)⟩
theorem d_126 (hN : 100000 ≤ N) (H : UV N h b e Ln Co c r) (ho : hO r) (hR : R < Ln) (hu : Uc (W + 1250000) c r) (hF : F ≤ G) (hG : G < pt e Ln Co R c) (ht : w = 0 ∨ (w = 1 ∧ F ≤ X ∧ X ≤ G)) : ∃ c' r' ra', j152_126 N h b (Int32.ofNat R) (Int32.ofNat (R * Co)) (Int32.ofNat F) (Int32.ofNat G) (Int32.ofNat X) w c = some c' ∧ j349_158 N h b (Int32.ofNat R) (Int32.ofNat F) (Int32.ofNat G) (Int32.ofNat X) w r = some ra' ∧ UV N h b e Ln Co c' r' ∧ UX 1250000 c r c' r' ∧ AC c' r' ra' ∧ RX r ra' := by
  have hco := H.1.1.2.2.2.2.1
  have hpt := pt_le (e := e) (Ln := Ln) (Co := Co) (R := R) (c := c)
  unfold j152_126 j349_158 j349_291
  rcases ht with q | ⟨q, q1, q2⟩
  · subst q
    rw [if_pos (show (0 : Int32) = 0 from rfl), on_s]
    obtain ⟨c', r', ra', k1, k2, k3, k4, k5, k6⟩ := d_147 (N := N) (h := h) (b := b) (e := e) (W := W) (A := G + 1) (w4 := 0) (w5 := Int32.ofNat X) (w6 := Int32.ofNat X) (w7 := 0) hN hR (by omega) (G + 1 - F) F N c r r (by omega) (by omega) (by omega) H ho (Uc_m hu (by omega)) (Or.inl rfl)
    rw [k1, k2]
    exact ⟨c', r', ra', rfl, rfl, k3, UX_m k4 (by omega), k5, k6⟩
  · subst q
    rw [if_neg (show ¬ (1 : Int32) = 0 by decide)]
    obtain ⟨c1, r1, ra, k1, k2, k3, k4, k5, k6⟩ := d_147 (N := N) (h := h) (b := b) (e := e) (W := W + 15420) (A := X) (w4 := 1) (w5 := Int32.ofNat X) (w6 := Int32.ofNat X) (w7 := 1) hN hR (by omega) (X - F) F N c r r (by omega) (by omega) (by omega) H ho (Uc_m hu (by omega)) (Or.inl rfl)
    have hu1 := (k4.2 (W + 15420)).1 (Uc_m hu (by omega))
    obtain ⟨c2, r2, g1, g2, g3, g4⟩ := d_end (N := N) (h := h) (b := b) (X := X) hN k3 hR (by omega) hu1
    rw [k1, k2, Option.bind_some, Option.bind_some]
    dsimp only
    rw [if_neg (show ¬ (1 : Int32) = 0 by decide), if_neg (show ¬ (1 : Int32) = 0 by decide), g1]
    by_cases d : 6000 < ra 157 49
    · rw [if_neg (show ¬ ra 157 49 ≤ 6000 from Int32.not_le.mpr d)]
      exact ⟨c2, r2, ra, rfl, rfl, g3, UX_m (UX_t k4 g4) (by omega), AC_d k5 (AC_q k5 k3.2.2) d hu1 g4, k6⟩
    · have := AC_l k5 d
      subst this
      rw [if_pos (show ra 157 49 ≤ 6000 from Int32.not_lt.mp d), g2]
      exact ⟨c2, r2, r2, rfl, rfl, g3, UX_m (UX_t k4 g4) (by omega), Or.inl rfl, RX_t k6 (RX_U g4)⟩
theorem i_max : xmax (Int32.ofNat F) (Int32.ofNat B) = Int32.ofNat (if F < B then B else F) ∨ 2 ^ 31 ≤ F ∨ 2 ^ 31 ≤ B := by
  by_cases q : F < 2 ^ 31 ∧ B < 2 ^ 31
  · left
    unfold xmax
    by_cases q2 : F < B
    · rw [if_pos q2, if_pos (by rw [i_lt q.1 q.2]; exact q2)]
    · rw [if_neg q2, if_neg (by rw [i_lt q.1 q.2]; exact q2)]
  · omega
theorem i_dif (h1 : G < 1000) (h2 : X < 1000) (h3 : L < 1000) (g : ¬ (Int32.ofNat (G + 1) - Int32.ofNat X) ≤ Int32.ofNat L) : X ≤ G := by
  apply Nat.le_of_not_lt
  intro q
  apply g
  rw [Int32.le_iff_toInt_le, Int32.toInt_sub, Int32.toInt_ofNat_of_lt (by omega), Int32.toInt_ofNat_of_lt (by omega), Int32.toInt_ofNat_of_lt (by omega), Int.bmod_eq_of_le (by omega) (by omega)]
  omega
/-- a row -/
theorem d_row (hN : 100000 ≤ N) (H : UV N h b e Ln Co c r) (ho : hO r) (hR : R < Ln) (hu : Uc (W + 1250000) c r) : ∃ c' r' ra', f152_paintRow N h b (Int32.ofNat R) c = some c' ∧ f349_updates N h b (Int32.ofNat R) r = some ra' ∧ UV N h b e Ln Co c' r' ∧ UX 1250000 c r c' r' ∧ AC c' r' ra' ∧ RX r ra' := by
  obtain ⟨⟨hz, hE, hT, hAi, h9⟩, hku, hq⟩ := id H
  obtain ⟨z1, z2, z3, z4, z5, z6, z7, z8, z9, z10, z11, z12, z13⟩ := hz
  obtain ⟨p1, _⟩ := pl (h := h) (b := b) z1
  have hpt := pt_le (e := e) (Ln := Ln) (Co := Co) (R := R) (c := c)
  have eRC : Int32.ofNat R * c 97 9 = Int32.ofNat (R * Co) := by rw [z12, ← Int32.ofNat_mul]
  have c24 : f74_has N h b (9 + 7 * e) 24 c = some (c (9 + 7 * e + 3) 24, c) := e_hs z1 (show 24 < 39 by decide) (hE 24 (by decide))
  obtain ⟨v3, v4, k1, k2⟩ := e_22 (N := N) (h := h) (b := b) (w1 := Int32.ofNat R) H hR (pt e Ln Co R c) 0 N (-1) (-1) (by omega) (by omega) (Or.inl ⟨rfl, rfl, fun V hV => absurd hV (by omega)⟩)
  have k1' : l152_22 N h b (Int32.ofNat R) (Int32.ofNat (R * Co)) (Int32.ofNat (pt e Ln Co R c)) N (-1) (-1) 0 c = some (0, v3, v4, c) := k1
  unfold f152_paintRow f349_updates
  rw [e_pt H hR, b2_some, eRC, k1', Option.bind_some]
  dsimp only
  rcases k2 with ⟨q1, q2, q3⟩ | ⟨F, G, g1, g2, g3, g4, g5, g6, g7, g8⟩
  · have e2 := e_2f (N := N) (h := h) (b := b) (F := Co) H hR (Nat.le_refl _) (fun V _ => q3 V) (fun g => absurd g (by omega)) Co 0 N (by omega) (by omega)
    have e2' : l349_2 N h b (Int32.ofNat R) N 0 r = some (0, Int32.ofNat Co, r) := e2
    rw [if_pos q1, e2', Option.bind_some]
    unfold j349_36
    dsimp only
    rw [if_pos (show Int32.ofNat Co = r 157 26 from z13.symm)]
    exact ⟨c, r, r, rfl, rfl, H, UX_m UX_r (by omega), Or.inl rfl, RX_r⟩
  · have e2 := e_2f (N := N) (h := h) (b := b) (F := F) H hR (by omega) g7 (fun _ => g5) F 0 N (by omega) (by omega)
    have e2' : l349_2 N h b (Int32.ofNat R) N 0 r = some (0, Int32.ofNat F, r) := e2
    obtain ⟨B, b1, b2, b3⟩ := d_sgn (N := N) (h := h) (b := b) (w2 := Int32.ofNat F) (w3 := Int32.ofNat G) hN H hR
    have eC : r 157 26 - 1 = Int32.ofNat (Co - 1) := by rw [z13, show (1 : Int32) = Int32.ofNat 1 from rfl, ← Int32.ofNat_sub _ _ (by omega)]
    have e5 := e_52 (N := N) (h := h) (b := b) (w2 := Int32.ofNat F) H hR g8 g6 (Co - 1 - G) (Co - 1) N (by omega) (by omega) (by omega)
    obtain ⟨y, r1, m1, m2, m3, m4⟩ := d_len4 (N := N) (h := h) (b := b) (a := 24) (V := 0) hN H (by decide) (by decide)
    have m1' : f333_bytesOf N h b 24 0 0 r = some (y, r1) := m1
    have H1 := UV_R H m2
    have hX1 : UX 0 c r c r1 := UX_X (RF_X m2)
    have hu1 : Uc (W + 1250000) c r1 := (hX1.2 (W + 1250000)).1 hu
    have hm := m3 (c 106 24) (hT.1 24 (by decide) (by decide))
    have mx : xmax (Int32.ofNat F) (Int32.ofNat B) = Int32.ofNat (if F < B then B else F) := by
      rcases i_max (F := F) (B := B) with g | g | g
      · exact g
      · omega
      · omega
    rw [if_neg (show ¬ v3 = -1 by rw [g3]; exact ofn_ne (by omega)), b2, b2_some, z8, xg_pos (ofn_ne (by omega)), i_cl (show 9 + 7 * e < 2 ^ 31 by omega), xg_pos p1, c24, b2_some, e2', Option.bind_some]
    unfold j349_36
    dsimp only
    rw [if_neg (show ¬ Int32.ofNat F = r 157 26 by rw [z13, i_eq (by omega) (by omega)]; omega), eC, e5, Option.bind_some]
    dsimp only
    rw [b3, Option.bind_some]
    unfold j349_118
    dsimp only
    rw [m1', b2_some, g3, g4, mx]
    generalize hXd : (if F < B then B else F) = X
    have hX2 : F ≤ X ∧ X ≤ Co := by rw [← hXd]; split <;> omega
    by_cases s : c (9 + 7 * e + 3) 24 = 0
    · have y1 : y = -1 := by
        rcases hT.1 24 (by decide) (by decide) with ⟨_, t2⟩ | ⟨t1, _⟩
        · rw [t2] at hm
          rcases hm with ⟨_, t3⟩ | ⟨L, t3, t4, _⟩
          · exact t3
          · rw [show (1000000 : Int32) = Int32.ofNat 1000000 from rfl, i_eq (by decide) (by omega)] at t4
            omega
        · rw [s] at t1
          exact absurd t1 (by decide)
      obtain ⟨c', r', ra', n1, n2, n3, n4, n5, n6⟩ := d_126 (N := N) (h := h) (b := b) (F := F) (G := G) (X := X) (w := 0) hN H1 (hO_U ho hX1) hR hu1 g1 g2 (Or.inl rfl)
      rw [if_pos s, if_pos y1]
      unfold j152_125 j349_157
      exact ⟨c', r', ra', n1, n2, n3, UX_m (UX_t hX1 n4) (by omega), n5, RX_t (RX_U hX1) n6⟩
    · have y1 : ∃ L : Nat, L ≤ 60 ∧ y = Int32.ofNat L ∧ c 106 24 = Int32.ofNat L := by
        rcases hT.1 24 (by decide) (by decide) with ⟨t1, _⟩ | ⟨t1, _⟩
        · exact absurd t1 s
        · obtain ⟨L, l1, l2⟩ := m4 t1
          rcases hm with ⟨_, t3⟩ | ⟨L', t3, t4, t5⟩
          · rw [l2] at t3
            exact absurd t3 (ofn_ne (by omega))
          · exact ⟨L', t3, t5, t4⟩
      obtain ⟨L, l1, l2, l3⟩ := y1
      rw [if_neg s, if_neg (show ¬ y = -1 by rw [l2]; exact ofn_ne (by omega)), l2, l3]
      have hw : (if ((Int32.ofNat G + 1) - (Int32.ofNat X)) ≤ Int32.ofNat L then (0 : Int32) else (1 : Int32)) = 0 ∨ ((if ((Int32.ofNat G + 1) - (Int32.ofNat X)) ≤ Int32.ofNat L then (0 : Int32) else (1 : Int32)) = 1 ∧ F ≤ X ∧ X ≤ G) := by
        by_cases q : ((Int32.ofNat G + 1) - (Int32.ofNat X)) ≤ Int32.ofNat L
        · rw [if_pos q]; exact Or.inl rfl
        · rw [if_neg q]
          rw [on_s] at q
          exact Or.inr ⟨rfl, hX2.1, i_dif (by omega) (by omega) (by omega) q⟩
      obtain ⟨c', r', ra', n1, n2, n3, n4, n5, n6⟩ := d_126 (N := N) (h := h) (b := b) (F := F) (G := G) (X := X) (w := (if ((Int32.ofNat G + 1) - (Int32.ofNat X)) ≤ Int32.ofNat L then (0 : Int32) else (1 : Int32))) hN H1 (hO_U ho hX1) hR hu1 g1 g2 hw
      exact ⟨c', r', ra', n1, n2, n3, UX_m (UX_t hX1 n4) (by omega), n5, RX_t (RX_U hX1) n6⟩
/-- all rows -/
theorem d_rows (hN : 100000 ≤ N) : ∀ (k v f : Nat) (c r ra : xA), v + k = Ln → k < f → UV N h b e Ln Co c r → hO r → Uc (W + 1250000 * k) c r → AC c r ra → ra 157 27 = Int32.ofNat Ln → ∃ c' r' ra', l127_64 N h b w1 w2 w3 f (Int32.ofNat v) c = some (0, c') ∧ l331_158 N h b f (Int32.ofNat v) ra = some (0, ra') ∧ UV N h b e Ln Co c' r' ∧ UX (1250000 * k) c r c' r' ∧ AC c' r' ra' ∧ RX ra ra' := by
  intro k
  induction k with
  | zero =>
    intro v f c r ra g1 g2 H ho hu ha h27
    obtain ⟨f, rfl⟩ : ∃ f', f = f' + 1 := ⟨f - 1, by omega⟩
    have : v = Ln := by omega
    subst this
    have z10 := H.1.1.2.2.2.2.2.2.2.2.2.1
    rw [l127_64, l331_158, z10, h27, if_pos (Int32.le_refl _), if_pos (Int32.le_refl _)]
    exact ⟨c, r, ra, rfl, rfl, H, UX_r, ha, RX_r⟩
  | succ k ih =>
    intro v f c r ra g1 g2 H ho hu ha h27
    obtain ⟨f, rfl⟩ : ∃ f', f = f' + 1 := ⟨f - 1, by omega⟩
    have z10 := H.1.1.2.2.2.2.2.2.2.2.2.1
    have l24 := H.1.1.2.2.1
    have nle : ¬ Int32.ofNat Ln ≤ Int32.ofNat v := by rw [i_le (by omega) (by omega)]; omega
    obtain ⟨c1, r1, ra1, m1, m2, m3, m4, m5, m6⟩ := d_row (N := N) (h := h) (b := b) (R := v) (W := W + 1250000 * k) hN H ho (by omega) (Uc_m hu (by omega))
    have hu1 := (m4.2 (W + 1250000 * k)).1 (Uc_m hu (by omega))
    rw [l127_64, l331_158, z10, h27, if_neg nle, if_neg nle, m1, b1_some, on_s]
    by_cases d : 6000 < ra 157 49
    · have hq := AC_q ha H.2.2
      have ha1 : AC c1 r1 ra := AC_d ha hq d (Uc_m hu (show (W + 1250000 * k) + 1250000 ≤ _ by omega)) m4
      obtain ⟨c', r', ra', k1, k2, k3, k4, k5, k6⟩ := ih (v + 1) f c1 r1 ra (by omega) (by omega) m3 (hO_U ho m4) hu1 ha1 h27
      rw [if_pos d]
      exact ⟨c', r', ra, k1, rfl, k3, UX_m (UX_t m4 k4) (by omega), AC_d ha1 hq d hu1 k4, RX_r⟩
    · have := AC_l ha d
      subst this
      rw [if_neg d, m2, b1_some]
      obtain ⟨c', r', ra', k1, k2, k3, k4, k5, k6⟩ := ih (v + 1) f c1 r1 ra1 (by omega) (by omega) m3 (hO_U ho m4) hu1 m5 (by rw [m6.2 27 (by decide) (by decide) (by decide) (by decide)]; exact h27)
      exact ⟨c', r', ra', k1, k2, k3, UX_m (UX_t m4 k4) (by omega), k5, RX_t m6 k6⟩
end T
