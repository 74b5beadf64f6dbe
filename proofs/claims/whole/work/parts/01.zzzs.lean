/-! update: its start, its middle. -/
section T
variable {N h b : Nat} {c0 r0 c r c' r' c'' r'' ra ra' : xA} {x y z s v w w1 w2 w3 w4 w5 w6 w7 x' y' q1 q2 q3 : Int32} {len p i f k m q a e K n n' row d th k0 A B t Ln Co V H o j W L a0 a1 m' y0 y1 x0 x1 S Y X R C kk D E F G M : Nat}
theorem e_27s (he : e < 12) (hE : ∀ a, a < 39 → Ea e a c r) (h21 : r 157 21 = Int32.ofNat e) (hv : V < 4) : l331_27 N h b (n + 1) (Int32.ofNat V) r = l331_27 N h b n (Int32.ofNat (V + 1)) (xU r 157 50 (ob e V c (r 157 50))) := by
  have h25 : f297_has N h b 25 r = some (c (9 + 7 * e + 3) 25, r) := e_hs' he (show 25 < 39 by decide) (hE 25 (by decide)) h21
  have h26 : f297_has N h b (26 + Int32.ofNat V) r = some (c (9 + 7 * e + 3) (26 + V), r) := by
    rw [show (26 : Int32) = Int32.ofNat 26 from rfl, ← Int32.ofNat_add]
    exact e_hs' he (show 26 + V < 39 by omega) (hE (26 + V) (by omega)) h21
  have n4 : ¬ (4 : Int32) ≤ Int32.ofNat V := by rw [show (4 : Int32) = Int32.ofNat 4 from rfl, i_le (by decide) (by omega)]; omega
  have oz : r 157 50 ||| 0 = r 157 50 := by simp
  rw [l331_27, if_neg n4, h25, b2_some, h26, b2_some]
  unfold j331_63 j331_64 ob
  dsimp only [xw]
  rw [on_s]
  by_cases s : c (9 + 7 * e + 3) 25 = 0
  · rw [if_pos s, if_pos (Or.inl s), oz]
  · rw [if_neg s]
    by_cases s2 : c (9 + 7 * e + 3) (26 + V) = 0
    · rw [if_pos s2, if_pos (Or.inr s2), oz]
    · rw [if_neg s2, if_neg (show ¬ (c (9 + 7 * e + 3) 25 = 0 ∨ c (9 + 7 * e + 3) (26 + V) = 0) from fun g => g.elim s s2)]
theorem e_27 (hN : 100000 ≤ N) (he : e < 12) (hE : ∀ a, a < 39 → Ea e a c r) (h21 : r 157 21 = Int32.ofNat e) : ∃ r', l331_27 N h b N 0 r = some (0, r') ∧ (∀ p, p ≠ 157 → r' p = r p) ∧ (∀ i, i ≠ 50 → r' 157 i = r 157 i) ∧ r' 157 50 = ob e 3 c (ob e 2 c (ob e 1 c (ob e 0 c (r 157 50)))) := by
  have stp : ∀ (x : Int32) (r : xA), (∀ a, a < 39 → Ea e a c r) → (∀ a, a < 39 → Ea e a c (xU r 157 50 x)) := fun x r g a ha => Ea_fr he (g a ha) (fun _ _ _ => rfl) (fun p k1 k2 => xU_o (by omega))
  have s21 : ∀ (x : Int32) (r : xA), r 157 21 = Int32.ofNat e → (xU r 157 50 x) 157 21 = Int32.ofNat e := fun x r g => by rw [xU_s (by decide)]; exact g
  obtain ⟨M, rfl⟩ : ∃ M, N = M + 5 := ⟨N - 5, by omega⟩
  have a1 := e_27s (N := M + 5) (h := h) (b := b) (n := M + 4) (V := 0) he hE h21 (by decide)
  have e1 := stp (ob e 0 c (r 157 50)) r hE
  have f1 := s21 (ob e 0 c (r 157 50)) r h21
  have a2 := e_27s (N := M + 5) (h := h) (b := b) (n := M + 3) (V := 1) he e1 f1 (by decide)
  have v1 : (xU r 157 50 (ob e 0 c (r 157 50))) 157 50 = ob e 0 c (r 157 50) := xU_e
  rw [v1] at a2
  have e2 := stp (ob e 1 c (ob e 0 c (r 157 50))) _ e1
  have f2 := s21 (ob e 1 c (ob e 0 c (r 157 50))) _ f1
  have a3 := e_27s (N := M + 5) (h := h) (b := b) (n := M + 2) (V := 2) he e2 f2 (by decide)
  have v2 : (xU (xU r 157 50 (ob e 0 c (r 157 50))) 157 50 (ob e 1 c (ob e 0 c (r 157 50)))) 157 50 = ob e 1 c (ob e 0 c (r 157 50)) := xU_e
  rw [v2] at a3
  have e3 := stp (ob e 2 c (ob e 1 c (ob e 0 c (r 157 50)))) _ e2
  have f3 := s21 (ob e 2 c (ob e 1 c (ob e 0 c (r 157 50)))) _ f2
  have a4 := e_27s (N := M + 5) (h := h) (b := b) (n := M + 1) (V := 3) he e3 f3 (by decide)
  have v3 : (xU (xU (xU r 157 50 (ob e 0 c (r 157 50))) 157 50 (ob e 1 c (ob e 0 c (r 157 50)))) 157 50 (ob e 2 c (ob e 1 c (ob e 0 c (r 157 50))))) 157 50 = ob e 2 c (ob e 1 c (ob e 0 c (r 157 50))) := xU_e
  rw [v3] at a4
  have a0 : l331_27 (M + 5) h b (M + 4 + 1) 0 r = l331_27 (M + 5) h b (M + 4) (Int32.ofNat 1) (xU r 157 50 (ob e 0 c (r 157 50))) := a1
  have a5 : ∀ r, l331_27 (M + 5) h b (M + 1) (Int32.ofNat (3 + 1)) r = some (0, r) := fun r => by rw [l331_27, if_pos (show (4 : Int32) ≤ Int32.ofNat (3 + 1) by decide)]
  exact ⟨_, a0.trans (a2.trans (a3.trans (a4.trans (a5 _)))), fun p hp => by rw [xU_o hp, xU_o hp, xU_o hp, xU_o hp], fun i hi => by rw [xU_s hi, xU_s hi, xU_s hi, xU_s hi], xU_e⟩
theorem ob_b (hv : V < 4) (h0 : 0 ≤ x) (h1 : x ≤ 15) : 0 ≤ ob e V c x ∧ ob e V c x ≤ 15 := by
  obtain ⟨D, d1, d2, _⟩ := i_nat h0
  have d3 : D < 16 := by
    rw [d2, show (15 : Int32) = Int32.ofNat 15 from rfl, i_le d1 (by decide)] at h1
    omega
  unfold ob
  by_cases s : c (9 + 7 * e + 3) 25 = 0 ∨ c (9 + 7 * e + 3) (26 + V) = 0
  · rw [if_pos s]; exact ⟨h0, h1⟩
  · rw [if_neg s, d2]
    exact db2 ⟨D, d3⟩ ⟨V, hv⟩
theorem d_start (hN : 100000 ≤ N) (hz : Pz e Ln Co c r) (hw : Pw Ln Co c r) (hk : Pk Ln Co c r) (hE : ∀ a, a < 39 → Ea e a c r) (hT : TB N h b e c) (h9 : c (9 + 7 * e + 3) 9 = 1) (hq : MQb r) : ∃ c1 r1, (∀ K : xA → Option (Int32 × xA), xb1 (f128_become N h b 102 100 c) (fun a4 => xw (xU a4 97 5 0) (fun a5 => xb1 (f129_takeAim N h b a5) K)) = K c1) ∧ (∀ K : xA → Option (Int32 × xA), (xw (xU r 157 49 0) (fun a5 => xw (xU a5 157 50 0) (fun a8 => (l331_27 N h b N 0 a8).bind (fun z29 => (l331_76 N h b N 0 z29.2).bind (fun z36 => xw (xU z36.2 157 51 (z36.2 157 32)) (fun a38 => xw (xU a38 157 52 (a38 157 33)) (fun a41 => xw (xU a41 157 53 (a41 157 34)) K))))))) = K r1) ∧ UV N h b e Ln Co c1 r1 ∧ hO r1 ∧ UL c1 r1 ∧ (∀ p, p ≠ 97 → p ≠ 102 → p ≠ 103 → p ≠ 104 → c1 p = c p) ∧ (∀ i, i ≠ 5 → c1 97 i = c 97 i) ∧ (∀ i, 4 ≤ i → i ≤ 8 → c1 102 i = c 100 i) ∧ (∀ i, i < Ln * Co → c1 103 i = c 101 i) ∧ (∀ p, p ≠ 157 → p ≠ 183 → r1 p = r p) ∧ (∀ i, ¬ (49 ≤ i ∧ i ≤ 53) → r1 157 i = r 157 i) := by
  obtain ⟨z1, z2, z3, z4, z5, z6, z7, z8, z9, z10, z11, z12, z13⟩ := id hz
  obtain ⟨w1, w2, w3, w4⟩ := hw
  obtain ⟨k1, k2, k3, k4, k5, k6, k7, k8, k9⟩ := hk
  obtain ⟨ca, a1, a2, a3, a4⟩ := e_bec (N := N) (h := h) (b := b) (o := 102) (x0 := 100) (c := c) rfl rfl rfl rfl rfl (by decide) (by decide) (by decide) (by decide) k1 k2 (by omega) z3 (by omega) z5
  have b97 : ∀ i, i ≠ 5 → (xU ca 97 5 0) 97 i = c 97 i := fun i hi => by rw [xU_s hi, a2 97 (by decide) (by decide)]
  have bo : ∀ p, p ≠ 97 → (xU ca 97 5 0) p = ca p := fun p hp => xU_o hp
  have b5 : (xU ca 97 5 0) 97 5 = 0 := xU_e
  obtain ⟨c1, d1, d2, d3⟩ := e_129 (N := N) (h := h) (b := b) (c := xU ca 97 5 0) hN z3 z5 (by rw [b97 8 (by decide)]; exact z10) (by rw [b97 9 (by decide)]; exact z12)
  have rb7 : ∀ i, i ≠ 49 → i ≠ 50 → (xU (xU r 157 49 0) 157 50 0) 157 i = r 157 i := fun i h1 h2 => by rw [xU_s h2, xU_s h1]
  have rbo : ∀ p, p ≠ 157 → (xU (xU r 157 49 0) 157 50 0) p = r p := fun p hp => by rw [xU_o hp, xU_o hp]
  have rb49 : (xU (xU r 157 49 0) 157 50 0) 157 49 = 0 := by rw [xU_s (by decide), xU_e]
  have rb50 : (xU (xU r 157 49 0) 157 50 0) 157 50 = 0 := xU_e
  obtain ⟨rc, e1, e2, e3, e4⟩ := e_27 (N := N) (h := h) (b := b) (c := c) (r := xU (xU r 157 49 0) 157 50 0) hN z1 (fun a ha => Ea_fr z1 (hE a ha) (fun _ _ _ => rfl) (fun p g1 g2 => rbo p (by omega))) (by rw [rb7 21 (by decide) (by decide)]; exact z7)
  rw [rb50] at e4
  obtain ⟨rd, f1, f2, f3⟩ := e_76 (N := N) (h := h) (b := b) (r := rc) hN
  have oc : ∀ p, p ≠ 97 → p ≠ 102 → p ≠ 103 → p ≠ 104 → c1 p = c p := fun p h1 h2 h3 h4 => by rw [d2 p h4, bo p h1, a2 p h2 h3]
  have o7 : ∀ i, i ≠ 5 → c1 97 i = c 97 i := fun i hi => by rw [d2 97 (by decide), b97 i hi]
  have o5 : c1 97 5 = 0 := by rw [d2 97 (by decide), b5]
  have rdo : ∀ p, p ≠ 157 → p ≠ 183 → rd p = r p := fun p h1 h2 => by rw [f2 p h2, e2 p h1, rbo p h1]
  have rd7 : ∀ i, i ≠ 49 → i ≠ 50 → rd 157 i = r 157 i := fun i h1 h2 => by rw [f2 157 (by decide), e3 i h2, rb7 i h1 h2]
  have rd49 : rd 157 49 = 0 := by rw [f2 157 (by decide), e3 49 (by decide), rb49]
  have rd50 : rd 157 50 = c 97 10 := by rw [f2 157 (by decide), e4, hT.2.2.1]
  have rd183 : ∀ i, i < 1920 → rd 183 i = r 171 i := fun i hi => by rw [f3 i hi, e2 171 (by decide), rbo 171 (by decide)]
  refine ⟨c1, xU (xU (xU rd 157 51 (r 157 32)) 157 52 (r 157 33)) 157 53 (r 157 34), fun K => ?_, fun K => ?_, ?_⟩
  · rw [a1, b1_some]
    dsimp only [xw]
    rw [d1, b1_some]
  · dsimp only [xw]
    rw [e1, Option.bind_some, f1, Option.bind_some]
    dsimp only
    rw [xU_s (show 33 ≠ 51 by decide), xU_s (show 34 ≠ 52 by decide), xU_s (show 34 ≠ 51 by decide), rd7 32 (by decide) (by decide), rd7 33 (by decide) (by decide), rd7 34 (by decide) (by decide)]
  have or' : ∀ p, p ≠ 157 → p ≠ 183 → (xU (xU (xU rd 157 51 (r 157 32)) 157 52 (r 157 33)) 157 53 (r 157 34)) p = r p := fun p h1 h2 => by rw [xU_o h1, xU_o h1, xU_o h1, rdo p h1 h2]
  have r7 : ∀ i, ¬ (49 ≤ i ∧ i ≤ 53) → (xU (xU (xU rd 157 51 (r 157 32)) 157 52 (r 157 33)) 157 53 (r 157 34)) 157 i = r 157 i := fun i h1 => by rw [xU_s (by omega), xU_s (by omega), xU_s (by omega), rd7 i (by omega) (by omega)]
  have r51 : (xU (xU (xU rd 157 51 (r 157 32)) 157 52 (r 157 33)) 157 53 (r 157 34)) 157 51 = r 157 32 := by rw [xU_s (by decide), xU_s (by decide), xU_e]
  have r52 : (xU (xU (xU rd 157 51 (r 157 32)) 157 52 (r 157 33)) 157 53 (r 157 34)) 157 52 = r 157 33 := by rw [xU_s (by decide), xU_e]
  have r53 : (xU (xU (xU rd 157 51 (r 157 32)) 157 52 (r 157 33)) 157 53 (r 157 34)) 157 53 = r 157 34 := xU_e
  have r49 : (xU (xU (xU rd 157 51 (r 157 32)) 157 52 (r 157 33)) 157 53 (r 157 34)) 157 49 = 0 := by rw [xU_s (by decide), xU_s (by decide), xU_s (by decide), rd49]
  have r50 : (xU (xU (xU rd 157 51 (r 157 32)) 157 52 (r 157 33)) 157 53 (r 157 34)) 157 50 = c 97 10 := by rw [xU_s (by decide), xU_s (by decide), xU_s (by decide), rd50]
  have r183 : (xU (xU (xU rd 157 51 (r 157 32)) 157 52 (r 157 33)) 157 53 (r 157 34)) 183 = rd 183 := by rw [xU_o (by decide), xU_o (by decide), xU_o (by decide)]
  generalize (xU (xU (xU rd 157 51 (r 157 32)) 157 52 (r 157 33)) 157 53 (r 157 34)) = r1 at *
  have e99 : (xU ca 97 5 0) 99 = c 99 := by rw [bo 99 (by decide), a2 99 (by decide) (by decide)]
  refine ⟨⟨⟨Pz_of hz (by rw [oc 0 (by decide) (by decide) (by decide) (by decide)]) (fun i g1 g2 => o7 i (by omega)) (r7 21 (by decide)) (r7 26 (by decide)) (r7 27 (by decide)), fun a ha => Ea_fr z1 (hE a ha) (fun p g1 g2 => oc p (by omega) (by omega) (by omega) (by omega)) (fun p g1 g2 => or' p (by omega) (by omega)), TB_of hT (fun p g1 g2 => oc p (by omega) (by omega) (by omega) (by omega)) (oc 106 (by decide) (by decide) (by decide) (by decide)) (fun p g1 g2 => oc p (by omega) (by omega) (by omega) (by omega)) (o7 10 (by decide)) (o7 11 (by decide)), fun y x g1 g2 => ?_, by rw [oc _ (by omega) (by omega) (by omega) (by omega)]; exact h9⟩, ⟨by rw [oc 100 (by decide) (by decide) (by decide) (by decide), r53]; exact k3, by rw [oc 100 (by decide) (by decide) (by decide) (by decide)]; exact k4, by rw [oc 100 (by decide) (by decide) (by decide) (by decide)]; exact k5, by rw [oc 100 (by decide) (by decide) (by decide) (by decide), o7 14 (by decide), r51, r52]; exact k8, fun y x g1 g2 => ?_, by rw [oc 100 (by decide) (by decide) (by decide) (by decide)]; exact k1, by rw [oc 100 (by decide) (by decide) (by decide) (by decide)]; exact k2⟩, fun i => by rw [or' 168 (by decide) (by decide)]; exact hq i⟩, ?_, ⟨0, by omega, o5, r49, fun i hi => absurd hi (by omega)⟩, oc, o7, fun i g1 g2 => ?_, fun i hi => ?_, or', r7⟩
  · rw [d3 _ (rc_lt g1 g2), e99, b97 10 (by decide), r50, or' 170 (by decide) (by decide), w4 y x g1 g2]
  · rw [oc 101 (by decide) (by decide) (by decide) (by decide), r183, rd183 _ (by omega)]
    exact k9 y x g1 g2
  · unfold hO
    rw [r50, hT.2.2.1]
    have q0 := ob_b (e := e) (c := c) (V := 0) (x := 0) (by decide) (by decide) (by decide)
    have q1 := ob_b (e := e) (c := c) (V := 1) (by decide) q0.1 q0.2
    have q2 := ob_b (e := e) (c := c) (V := 2) (by decide) q1.1 q1.2
    exact ob_b (e := e) (c := c) (V := 3) (by decide) q2.1 q2.2
  · rw [d2 102 (by decide), bo 102 (by decide), a3 i g1 g2]
  · rw [d2 103 (by decide), bo 103 (by decide)]
    exact a4 i hi
/-- from the roll to the last motion -/
theorem d_57 (hN : 100000 ≤ N) (H : UV N h b e Ln Co c r) (ho : hO r) (hu : Uc (W + 31000000) c r) (hY : Y < Ln) (hX : X < Co) (y1 : c 98 6 = Int32.ofNat Y) (y2 : r 157 30 = Int32.ofNat Y) (x1 : c 98 7 = Int32.ofNat X) (x2 : r 157 31 = Int32.ofNat X) : ∃ c' r' ra', j127_57 N h b q1 q2 q3 c = (if 6000 < (c' 97 5) then (j127_126 N h b q2 q3 c') else (if (c' 97 5) ≤ q1 then (xw (xU c' 97 12 0) (fun a51 => some (a51 97 5, a51))) else (j127_126 N h b q2 q3 c'))) ∧ j331_152 N h b r = j331_214 N h b ra' ∧ UV N h b e Ln Co c' r' ∧ UX 31000000 c r c' r' ∧ AC c' r' ra' ∧ RX r ra' := by
  have l24 := H.1.1.2.2.1
  obtain ⟨c1, r1, a1, a2, a3, a4⟩ := d_roll (N := N) (h := h) (b := b) (W := W + 30900000) hN H (Uc_m hu (by omega))
  have hu1 := (a4.2 (W + 30900000)).1 (Uc_m hu (by omega))
  obtain ⟨c2, r2, ra2, b1, b2, b3, b4, b5, b6⟩ := d_rows (N := N) (h := h) (b := b) (e := e) (Ln := Ln) (Co := Co) (W := W + 16000) (w1 := q1) (w2 := q2) (w3 := q3) hN Ln 0 N c1 r1 r1 (by omega) (by omega) a3 (hO_U ho a4) (Uc_m hu1 (by omega)) (Or.inl rfl) a3.1.1.2.2.2.2.2.2.2.2.2.2.1
  have b1' : l127_64 N h b q1 q2 q3 N 0 c1 = some (0, c2) := b1
  have b2' : l331_158 N h b N 0 r1 = some (0, ra2) := b2
  have hu2 := (b4.2 (W + 16000)).1 (Uc_m hu1 (by omega))
  obtain ⟨c3, r3, d1, d2, d3, d4, _, _⟩ := d_drs (N := N) (h := h) (b := b) (W := W + 15100) (E := 0) hN b3 (by decide) (Uc_m hu2 (by omega))
  have d1' : f154_dressAs N h b 0 c2 = some c3 := d1
  have d2' : f350_dresses N h b 0 r2 = some r3 := d2
  have hu3 := (d4.2 (W + 15100)).1 (Uc_m hu2 (by omega))
  obtain ⟨c4, r4, e1, e2, e3, e4, _⟩ := d_move (N := N) (h := h) (b := b) (W := W) (R := Y) (C := X) hN d3 hY hX (Uc_m hu3 (by omega))
  have f1 : UX (300 + 15060) c2 r2 c4 r4 := UX_t d4 e4
  have f2 : UX (17000 + 1250000 * Ln) c r c2 r2 := UX_t a4 b4
  have cc : c3 98 = c 98 := by rw [d4.1.1 98 (by decide) (by decide) (by decide) (by decide) (by decide), f2.1.1 98 (by decide) (by decide) (by decide) (by decide) (by decide)]
  have rr : ∀ i, 30 ≤ i → i ≤ 31 → r3 157 i = r 157 i := fun i h1 h2 => by rw [d4.1.2.2.2.2 i (by omega) (by omega) (by omega) (by omega), f2.1.2.2.2.2 i (by omega) (by omega) (by omega) (by omega)]
  have fX : UX 31000000 c r c4 r4 := UX_m (UX_t f2 f1) (by omega)
  have ec : j127_57 N h b q1 q2 q3 c = (if 6000 < (c4 97 5) then (j127_126 N h b q2 q3 c4) else (if (c4 97 5) ≤ q1 then (xw (xU c4 97 12 0) (fun a51 => some (a51 97 5, a51))) else (j127_126 N h b q2 q3 c4))) := by
    unfold j127_57
    rw [a1, b1_some, b1', Option.bind_some]
    dsimp only
    rw [d1', b1_some, cc, y1, x1, e1, b1_some]
  have er : j331_152 N h b r = j331_187 N h b ra2 := by
    unfold j331_152
    rw [a2, b1_some, b2', Option.bind_some]
  by_cases d : 6000 < ra2 157 49
  · refine ⟨c4, r4, ra2, ec, ?_, e3, fX, AC_d b5 (AC_q b5 b3.2.2) d (Uc_m hu2 (show W + (300 + 15060) ≤ _ by omega)) f1, RX_t (RX_U a4) b6⟩
    rw [er]
    unfold j331_187
    rw [if_pos d]
  · have := AC_l b5 d
    subst this
    refine ⟨c4, r4, r4, ec, ?_, e3, fX, Or.inl rfl, RX_U fX⟩
    rw [er]
    unfold j331_187
    rw [if_neg d, d2', b1_some, rr 30 (by decide) (by decide), rr 31 (by decide) (by decide), y2, x2, e2, b1_some]
/-- from the fresh start to the last motion -/
theorem d_46 (hN : 100000 ≤ N) (H : UV N h b e Ln Co c r) (ho : hO r) (hu : Uc (W + 31001000) c r) (hY : Y < Ln) (hX : X < Co) (y1 : c 98 6 = Int32.ofNat Y) (y2 : r 157 30 = Int32.ofNat Y) (x1 : c 98 7 = Int32.ofNat X) (x2 : r 157 31 = Int32.ofNat X) (h13 : c 97 13 = r 157 35) : ∃ c' r' ra', j127_46 N h b q1 q2 q3 c = (if 6000 < (c' 97 5) then (j127_126 N h b q2 q3 c') else (if (c' 97 5) ≤ q1 then (xw (xU c' 97 12 0) (fun a51 => some (a51 97 5, a51))) else (j127_126 N h b q2 q3 c'))) ∧ j331_141 N h b r = j331_214 N h b ra' ∧ UV N h b e Ln Co c' r' ∧ Uc W c' r' ∧ CY c c' ∧ RX r r' ∧ AC c' r' ra' ∧ RX r ra' ∧ c' 97 13 = 0 := by
  unfold j127_46 j331_141
  by_cases s : c 97 13 = 0
  · obtain ⟨c', r', ra', a1, a2, a3, a4, a5, a6⟩ := d_57 (N := N) (h := h) (b := b) (W := W) (q1 := q1) (q2 := q2) (q3 := q3) hN H ho (Uc_m hu (by omega)) hY hX y1 y2 x1 x2
    rw [if_pos s, if_pos (show r 157 35 = 0 by rw [← h13]; exact s)]
    exact ⟨c', r', ra', a1, a2, a3, (a4.2 W).1 (Uc_m hu (by omega)), CY_U a4, RX_U a4, a5, a6, by rw [a4.1.2.1 13 (by decide) (by decide) (by decide) (by decide)]; exact s⟩
  · obtain ⟨c1, r1, b1, b2, b3, b4, b5, b6, b7⟩ := d_anew (N := N) (h := h) (b := b) (W := W + 31000000) hN H (Uc_m hu (by omega))
    have hu1 := (b6 (W + 31000000)).1 (Uc_m hu (by omega))
    obtain ⟨c', r', ra', a1, a2, a3, a4, a5, a6⟩ := d_57 (N := N) (h := h) (b := b) (W := W) (q1 := q1) (q2 := q2) (q3 := q3) hN b3 (hO_R ho b5) hu1 hY hX (by rw [b4.1 98 (by decide) (by decide) (by decide) (by decide) (by decide)]; exact y1) (by rw [b5.2 30 (by decide) (by decide) (by decide) (by decide)]; exact y2) (by rw [b4.1 98 (by decide) (by decide) (by decide) (by decide) (by decide)]; exact x1) (by rw [b5.2 31 (by decide) (by decide) (by decide) (by decide)]; exact x2)
    rw [if_neg s, if_neg (show ¬ r 157 35 = 0 by rw [← h13]; exact s), b1, b1_some, b2, b1_some]
    exact ⟨c', r', ra', a1, a2, a3, (a4.2 W).1 hu1, CY_t b4 (CY_U a4), RX_t b5 (RX_U a4), a5, RX_t b5 a6, by rw [a4.1.2.1 13 (by decide) (by decide) (by decide) (by decide)]; exact b7⟩
end T
