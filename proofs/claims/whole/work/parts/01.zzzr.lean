/-! update: it begins anew; it takes aim. -/
def CY (c c' : xA) : Prop := (∀ p, ¬ (93 ≤ p ∧ p ≤ 97) → p ≠ 100 → p ≠ 101 → p ≠ 105 → p ≠ 114 → c' p = c p) ∧ (∀ i, i ≠ 5 → i ≠ 13 → i ≠ 14 → i ≠ 18 → c' 97 i = c 97 i) ∧ (∀ i, i ≠ 1 → i ≠ 4 → c' 93 i = c 93 i)
section T
variable {N h b : Nat} {c0 r0 c r c' r' c'' r'' ra ra' : xA} {x y z s v w w1 w2 w3 w4 w5 w6 w7 x' y' : Int32} {len p i f k m q a e K n n' row d th k0 A B t Ln Co V H o j W L a0 a1 m' y0 y1 x0 x1 S Y X R C kk D E F G M : Nat}
theorem CY_U (H : UX k c r c' r') : CY c c' := ⟨H.1.1, fun i h1 _ h3 h4 => H.1.2.1 i h1 h1 h3 h4, H.1.2.2.1⟩
theorem CY_r : CY c c := ⟨fun _ _ _ _ _ _ => rfl, fun _ _ _ _ _ => rfl, fun _ _ _ => rfl⟩
theorem CY_t (H : CY c c') (G : CY c' c'') : CY c c'' := ⟨fun p h1 h2 h3 h4 h5 => by rw [G.1 p h1 h2 h3 h4 h5, H.1 p h1 h2 h3 h4 h5], fun i h1 h2 h3 h4 => by rw [G.2.1 i h1 h2 h3 h4, H.2.1 i h1 h2 h3 h4], fun i h1 h2 => by rw [G.2.2 i h1 h2, H.2.2 i h1 h2]⟩
theorem e_43 (hN : 100000 ≤ N) : ∃ r', l335_43 N h b N 0 r = some (0, r') ∧ (∀ p, p ≠ 183 → r' p = r p) ∧ ∀ i, i < 1920 → r' 183 i = 32 := by
  obtain ⟨r', k1, k2, k3⟩ := lp_up (L := l335_43 N h b) (hi := 1920) (out := fun a => (0, a)) (P := fun j a' => (∀ p, p ≠ 183 → a' p = r p) ∧ ∀ i, i < j → a' 183 i = 32) (fun n j a' g1 g2 => by
    refine ⟨xU a' 183 j 32, ?_, fun p hp => by rw [xU_o hp, g1.1 p hp], fun i hi => ?_⟩
    · rw [l335_43, if_neg (show ¬ (1920 : Int32) ≤ Int32.ofNat j by rw [show (1920 : Int32) = Int32.ofNat 1920 from rfl, i_le (by decide) (by omega)]; omega), xg_pos (g_ix g2 (by omega)), i_cl (show j < 2 ^ 31 by omega), on_s]
      rfl
    · by_cases q : i = j
      · rw [q, xU_e]
      · rw [xU_s q]; exact g1.2 i (by omega)) (fun n a' g1 => by rw [l335_43, if_pos (show (1920 : Int32) ≤ Int32.ofNat 1920 by decide)]) 1920 0 N r (by omega) (by omega) ⟨fun _ _ => rfl, fun i hi => absurd hi (by omega)⟩
  exact ⟨r', k1, k2, k3⟩
theorem rc_lt (hR : R < Ln) (hV : V < Co) : R * Co + V < Ln * Co := by
  have : (R + 1) * Co ≤ Ln * Co := Nat.mul_le_mul_right Co hR
  rw [Nat.add_mul] at this
  omega
theorem d_anew (hN : 100000 ≤ N) (H : UV N h b e Ln Co c r) (hu : Uc (W + 240) c r) : ∃ c' r', f132_startAnew N h b c = some c' ∧ f335_begins N h b r = some r' ∧ UV N h b e Ln Co c' r' ∧ CY c c' ∧ RX r r' ∧ UM 240 c r c' r' ∧ c' 97 13 = 0 := by
  obtain ⟨c1, r1, a1, a2, a3, a4⟩ := d_send (N := N) (h := h) (b := b) (a := 30) (W := W + 180) (t := 1) (x := 0) (y := 0) hN H (by decide) (by decide) (by omega) (Uc_m hu (by omega))
  have hu1 := (a4.2 (W + 180)).1 (Uc_m hu (by omega))
  obtain ⟨c2, r2, b1, b2, b3, b4⟩ := d_send (N := N) (h := h) (b := b) (a := 25) (W := W + 120) (t := 1) (x := 0) (y := 0) hN a3 (by decide) (by decide) (by omega) (Uc_m hu1 (by omega))
  have hu2 := (b4.2 (W + 120)).1 (Uc_m hu1 (by omega))
  obtain ⟨c3, r3, d1, d2, d3, d4⟩ := d_send (N := N) (h := h) (b := b) (a := 23) (W := W + 60) (t := 1) (x := 0) (y := Int32.ofNat Ln - 1) hN b3 (by decide) (by decide) (by omega) (Uc_m hu2 (by omega))
  have hu3 := (d4.2 (W + 60)).1 (Uc_m hu2 (by omega))
  obtain ⟨c4, r4, e1, e2, e3, e4⟩ := d_send (N := N) (h := h) (b := b) (a := 7) (W := W) (t := 1) (x := 0) (y := 0) hN d3 (by decide) (by decide) (by omega) (Uc_m hu3 (by omega))
  have a1' : f130_send N h b 30 1 0 0 c = some c1 := a1
  have b1' : f130_send N h b 25 1 0 0 c1 = some c2 := b1
  have d1' : f130_send N h b 23 1 0 (Int32.ofNat Ln - 1) c2 = some c3 := d1
  have e1' : f130_send N h b 7 1 0 0 c3 = some c4 := e1
  have a2' : f332_typeAll N h b 30 0 0 1 r = some r1 := a2
  have b2' : f332_typeAll N h b 25 0 0 1 r1 = some r2 := b2
  have d2' : f332_typeAll N h b 23 0 (Int32.ofNat Ln - 1) 1 r2 = some r3 := d2
  have e2' : f332_typeAll N h b 7 0 0 1 r3 = some r4 := e2
  have y10 := b3.1.1.2.2.2.2.2.2.2.2.2.1
  have y11 := b3.1.1.2.2.2.2.2.2.2.2.2.2.1
  obtain ⟨hS, hku, hq⟩ := id e3
  obtain ⟨z1, z2, z3, z4, z5, z6, z7, z8, z9, z10, z11, z12, z13⟩ := id hS.1
  have eb := e_begin (N := N) (h := h) (b := b) (o := 100) (t := 0) (l := 0) (a := c4) (H := Ln) (B := Co) rfl rfl rfl (by omega) z3 (by omega) z5
  obtain ⟨r5, n1, n2, n3⟩ := e_43 (N := N) (h := h) (b := b) (r := r4) hN
  unfold f132_startAnew f335_begins
  rw [a1', b1_some, b1', b1_some, y10, d1', b1_some, e1', b1_some, z10, z12, eb, b1_some, a2', b1_some, b2', b1_some, y11, d2', b1_some, e2', b1_some, n1, Option.bind_some]
  dsimp only [xw]
  have oc : ∀ p, p ≠ 97 → p ≠ 100 → p ≠ 101 → (xU (xU (bgn c4 100 0 0 Ln Co) 97 14 1) 97 13 0) p = c4 p := fun p h1 h2 h3 => by rw [xU_o h1, xU_o h1]; simp [bgn, xU, xW, upd, h2, h3]
  have o7 : ∀ i, i ≠ 13 → i ≠ 14 → (xU (xU (bgn c4 100 0 0 Ln Co) 97 14 1) 97 13 0) 97 i = c4 97 i := fun i h1 h2 => by rw [xU_s h1, xU_s h2]; simp [bgn, xU, xW, upd]
  have o1 : (xU (xU (bgn c4 100 0 0 Ln Co) 97 14 1) 97 13 0) 100 = (bgn c4 100 0 0 Ln Co) 100 := by rw [xU_o (by decide), xU_o (by decide)]
  have o01 : (xU (xU (bgn c4 100 0 0 Ln Co) 97 14 1) 97 13 0) 101 = (bgn c4 100 0 0 Ln Co) 101 := by rw [xU_o (by decide), xU_o (by decide)]
  have w4 : (bgn c4 100 0 0 Ln Co) 100 4 = Int32.ofNat Ln := by simp [bgn, xU, xW, upd]
  have w5 : (bgn c4 100 0 0 Ln Co) 100 5 = Int32.ofNat Co := by simp [bgn, xU, xW, upd]
  have w6 : (bgn c4 100 0 0 Ln Co) 100 6 = 0 := by simp [bgn, xU, xW, upd]
  have w7 : (bgn c4 100 0 0 Ln Co) 100 7 = 0 := by simp [bgn, xU, xW, upd]
  have w8 : (bgn c4 100 0 0 Ln Co) 100 8 = 0 := by simp [bgn, xU, xW, upd]
  have wk : (bgn c4 100 0 0 Ln Co) 101 = am_fll (c4 101) 0 (Ln * Co) 32 := by simp [bgn, xU, xW, upd]
  have x14 : (xU (xU (bgn c4 100 0 0 Ln Co) 97 14 1) 97 13 0) 97 14 = 1 := by rw [xU_s (by decide), xU_e]
  have x13 : (xU (xU (bgn c4 100 0 0 Ln Co) 97 14 1) 97 13 0) 97 13 = 0 := xU_e
  have or' : ∀ p, p ≠ 157 → p ≠ 183 → (xU (xU (xU r5 157 51 0) 157 52 0) 157 53 0) p = r4 p := fun p h1 h2 => by rw [xU_o h1, xU_o h1, xU_o h1, n2 p h2]
  have r7 : ∀ i, i ≠ 51 → i ≠ 52 → i ≠ 53 → (xU (xU (xU r5 157 51 0) 157 52 0) 157 53 0) 157 i = r4 157 i := fun i h1 h2 h3 => by rw [xU_s h3, xU_s h2, xU_s h1, n2 157 (by decide)]
  have r51 : (xU (xU (xU r5 157 51 0) 157 52 0) 157 53 0) 157 51 = 0 := by rw [xU_s (by decide), xU_s (by decide), xU_e]
  have r52 : (xU (xU (xU r5 157 51 0) 157 52 0) 157 53 0) 157 52 = 0 := by rw [xU_s (by decide), xU_e]
  have r53 : (xU (xU (xU r5 157 51 0) 157 52 0) 157 53 0) 157 53 = 0 := xU_e
  have r183 : (xU (xU (xU r5 157 51 0) 157 52 0) 157 53 0) 183 = r5 183 := by rw [xU_o (by decide), xU_o (by decide), xU_o (by decide)]
  generalize (xU (xU (bgn c4 100 0 0 Ln Co) 97 14 1) 97 13 0) = c5 at *
  generalize (xU (xU (xU r5 157 51 0) 157 52 0) 157 53 0) = r6 at *
  refine ⟨c5, r6, rfl, rfl, ⟨St_of hS (fun p k1 k2 => oc p (by omega) (by omega) (by omega)) (fun p k1 k2 => or' p (by omega) (by omega)) (by rw [oc 0 (by decide) (by decide) (by decide)]) (fun i k1 k2 => o7 i (by omega) (by omega)) (r7 21 (by decide) (by decide) (by decide)) (r7 26 (by decide) (by decide) (by decide)) (r7 27 (by decide) (by decide) (by decide)) (r7 50 (by decide) (by decide) (by decide)) (oc 104 (by decide) (by decide) (by decide)) (or' 170 (by decide) (by decide)) (oc 106 (by decide) (by decide) (by decide)) (fun p k1 k2 => oc p (by omega) (by omega) (by omega)), ⟨by rw [o1, w8, r53], by rw [o1, w8]; decide, by rw [o1, w8]; decide, Or.inr ⟨x14, 0, 0, by omega, by omega, by rw [o1, w6]; rfl, by rw [r51]; rfl, by rw [o1, w7]; rfl, by rw [r52]; rfl⟩, fun y x k1 k2 => ?_, by rw [o1, w4], by rw [o1, w5]⟩, fun i => by rw [or' 168 (by decide) (by decide)]; exact hq i⟩, ?_, ?_, ?_, x13⟩
  · rw [o01, wk, r183, n3 _ (by omega)]
    unfold am_fll
    rw [if_pos ⟨Nat.zero_le _, rc_lt k1 k2⟩]
  · refine CY_t (CY_t (CY_t (CY_U (UX_X a4)) (CY_U (UX_X b4))) (CY_t (CY_U (UX_X d4)) (CY_U (UX_X e4)))) ⟨fun p h1 h2 h3 _ _ => oc p (by omega) h2 h3, fun i _ h2 h3 _ => o7 i h2 h3, fun i _ _ => by rw [oc 93 (by decide) (by decide) (by decide)]⟩
  · refine RX_t (RX_t (RX_t (RX_U (UX_X a4)) (RX_U (UX_X b4))) (RX_t (RX_U (UX_X d4)) (RX_U (UX_X e4)))) ⟨fun p h1 _ _ _ h5 => or' p h1 h5, fun i _ _ _ h4 => r7 i (by omega) (by omega) (by omega)⟩
  · exact UM_m (UM_t (UM_t (UM_t a4.2 b4.2) (UM_t d4.2 e4.2)) (UM_z (o7 5 (by decide) (by decide)) (oc 105 (by decide) (by decide) (by decide)) (r7 49 (by decide) (by decide) (by decide)) (or' 182 (by decide) (by decide)))) (by omega)
/-- a screen becomes as another -/
theorem e_bec {o x0 : Nat} (k1 : xk o = 10) (k2 : xk x0 = 10) (k3 : xk (o + 1) = 100) (l1 : xl h b (o + 1) = 1920) (l2 : xl h b (x0 + 1) = 1920) (n1 : x0 ≠ o) (n2 : x0 ≠ o + 1) (n3 : x0 + 1 ≠ o) (n4 : x0 + 1 ≠ o + 1) (h4 : c x0 4 = Int32.ofNat Ln) (h5 : c x0 5 = Int32.ofNat Co) (z2 : 1 ≤ Ln) (z3 : Ln ≤ 24) (z4 : 1 ≤ Co) (z5 : Co ≤ 80) : ∃ c', f128_become N h b o x0 c = some c' ∧ (∀ p, p ≠ o → p ≠ o + 1 → c' p = c p) ∧ (∀ i, 4 ≤ i → i ≤ 8 → c' o i = c x0 i) ∧ (∀ i, i < Ln * Co → c' (o + 1) i = c (x0 + 1) i) := by
  have eb := e_begin (N := N) (h := h) (b := b) (o := o) (t := c x0 2) (l := c x0 3) (a := c) (H := Ln) (B := Co) k1 k3 l1 z2 z3 z4 z5
  have hHB := hb_ub z3 z5
  unfold f128_become
  rw [xg_pos k1, xg_pos k2, h4, h5, eb, b1_some]
  dsimp only [xw]
  have oB : ∀ p, p ≠ o → p ≠ o + 1 → bgn c o (c x0 2) (c x0 3) Ln Co p = c p := fun p h1 h2 => by simp [bgn, xU, xW, upd, h1, h2]
  have w4 : bgn c o (c x0 2) (c x0 3) Ln Co o 4 = Int32.ofNat Ln := by simp [bgn, xU, xW, upd]
  have w5 : bgn c o (c x0 2) (c x0 3) Ln Co o 5 = Int32.ofNat Co := by simp [bgn, xU, xW, upd]
  generalize bgn c o (c x0 2) (c x0 3) Ln Co = C at *
  rw [xU_o n1, xU_o n1, xU_o n1, oB x0 n1 n2]
  have q4 : (xU (xU (xU C o 6 (c x0 6)) o 7 (c x0 7)) o 8 (c x0 8)) o 4 = Int32.ofNat Ln := by rw [xU_s (by decide), xU_s (by decide), xU_s (by decide), w4]
  have q5 : (xU (xU (xU C o 6 (c x0 6)) o 7 (c x0 7)) o 8 (c x0 8)) o 5 = Int32.ofNat Co := by rw [xU_s (by decide), xU_s (by decide), xU_s (by decide), w5]
  have q6 : (xU (xU (xU C o 6 (c x0 6)) o 7 (c x0 7)) o 8 (c x0 8)) o 6 = c x0 6 := by rw [xU_s (by decide), xU_s (by decide), xU_e]
  have q7 : (xU (xU (xU C o 6 (c x0 6)) o 7 (c x0 7)) o 8 (c x0 8)) o 7 = c x0 7 := by rw [xU_s (by decide), xU_e]
  have q8 : (xU (xU (xU C o 6 (c x0 6)) o 7 (c x0 7)) o 8 (c x0 8)) o 8 = c x0 8 := xU_e
  have qo : ∀ p, p ≠ o → p ≠ o + 1 → (xU (xU (xU C o 6 (c x0 6)) o 7 (c x0 7)) o 8 (c x0 8)) p = c p := fun p h1 h2 => by rw [xU_o h1, xU_o h1, xU_o h1, oB p h1 h2]
  generalize xU (xU (xU C o 6 (c x0 6)) o 7 (c x0 7)) o 8 (c x0 8) = D at *
  have eLC : Int32.ofNat Ln * Int32.ofNat Co = Int32.ofNat (Ln * Co) := by rw [← Int32.ofNat_mul]
  have gg : ¬ (0 : Int32) < 0 ∧ ¬ (0 : Int32) < 0 ∧ ¬ Int32.ofNat (Ln * Co) < 0 ∧ (0 : Int32).toNatClampNeg + (Int32.ofNat (Ln * Co)).toNatClampNeg ≤ xl h b (x0 + 1) ∧ (0 : Int32).toNatClampNeg + (Int32.ofNat (Ln * Co)).toNatClampNeg ≤ xl h b (o + 1) := by
    rw [i_cl (show Ln * Co < 2 ^ 31 by omega), l1, l2, show (0 : Int32).toNatClampNeg = 0 from rfl]
    refine ⟨by decide, by decide, ?_, by omega, by omega⟩
    rw [show (0 : Int32) = Int32.ofNat 0 from rfl, i_lt (by omega) (by decide)]
    omega
  rw [q4, q5, eLC, xg_pos gg, i_cl (show Ln * Co < 2 ^ 31 by omega), show (0 : Int32).toNatClampNeg = 0 from rfl]
  refine ⟨_, rfl, fun p h1 h2 => ?_, fun i h1 h2 => ?_, fun i hi => ?_⟩
  · rw [← qo p h1 h2]; simp [xW, upd, h2]
  · have e0 : xW D (o + 1) (va_cpy (D (x0 + 1)) (D (o + 1)) 0 0 (Ln * Co)) o i = D o i := by simp [xW, upd]
    rw [e0]
    obtain rfl | rfl | rfl | rfl | rfl : i = 4 ∨ i = 5 ∨ i = 6 ∨ i = 7 ∨ i = 8 := by omega
    · rw [q4, h4]
    · rw [q5, h5]
    · exact q6
    · exact q7
    · exact q8
  · have e0 : xW D (o + 1) (va_cpy (D (x0 + 1)) (D (o + 1)) 0 0 (Ln * Co)) (o + 1) = va_cpy (D (x0 + 1)) (D (o + 1)) 0 0 (Ln * Co) := by simp [xW, upd]
    rw [e0, ← qo (x0 + 1) n3 n4]
    simp [va_cpy, hi]
/-- aim is taken -/
theorem e_129 (hN : 100000 ≤ N) (z3 : Ln ≤ 24) (z5 : Co ≤ 80) (z10 : c 97 8 = Int32.ofNat Ln) (z12 : c 97 9 = Int32.ofNat Co) : ∃ c', f129_takeAim N h b c = some c' ∧ (∀ p, p ≠ 104 → c' p = c p) ∧ ∀ i, i < Ln * Co → c' 104 i = (c 99 i &&& 255) + 256 * ((c 99 i >>> ((8 : Int32) &&& 31)) &&& c 97 10) := by
  have hHB := hb_ub z3 z5
  have eLC : Int32.ofNat Ln * Int32.ofNat Co = Int32.ofNat (Ln * Co) := by rw [← Int32.ofNat_mul]
  obtain ⟨c', k1, k2, k3⟩ := lp_up (L := l129_2 N h b) (hi := Ln * Co) (out := fun a => (0, a)) (P := fun j a' => (∀ p, p ≠ 104 → a' p = c p) ∧ ∀ i, i < j → a' 104 i = (c 99 i &&& 255) + 256 * ((c 99 i >>> ((8 : Int32) &&& 31)) &&& c 97 10)) (fun n j a' g1 g2 => by
    refine ⟨xU a' 104 j ((c 99 j &&& 255) + 256 * ((c 99 j >>> ((8 : Int32) &&& 31)) &&& c 97 10)), ?_, fun p hp => by rw [xU_o hp, g1.1 p hp], fun i hi => ?_⟩
    · rw [l129_2, g1.1 97 (by decide), g1.1 99 (by decide), z10, z12, eLC, if_neg (show ¬ Int32.ofNat (Ln * Co) ≤ Int32.ofNat j by rw [i_le (by omega) (by omega)]; omega), xg_pos (g_ix (show j < 1920 by omega) (by omega)), i_cl (show j < 2 ^ 31 by omega), on_s]
      rfl
    · by_cases q : i = j
      · rw [q, xU_e]
      · rw [xU_s q]; exact g1.2 i (by omega)) (fun n a' g1 => by rw [l129_2, g1.1 97 (by decide), z10, z12, eLC, if_pos (Int32.le_refl _)]) (Ln * Co) 0 N c (by omega) (by omega) ⟨fun _ _ => rfl, fun i hi => absurd hi (by omega)⟩
  refine ⟨c', ?_, k2, k3⟩
  unfold f129_takeAim
  have k1' : l129_2 N h b N 0 c = some (0, c') := k1
  rw [k1', Option.bind_some]
/-- what the reference knows is copied -/
theorem e_76 (hN : 100000 ≤ N) : ∃ r', l331_76 N h b N 0 r = some (0, r') ∧ (∀ p, p ≠ 183 → r' p = r p) ∧ ∀ i, i < 1920 → r' 183 i = r 171 i := by
  obtain ⟨r', k1, k2, k3⟩ := lp_up (L := l331_76 N h b) (hi := 1920) (out := fun a => (0, a)) (P := fun j a' => (∀ p, p ≠ 183 → a' p = r p) ∧ ∀ i, i < j → a' 183 i = r 171 i) (fun n j a' g1 g2 => by
    refine ⟨xU a' 183 j (r 171 j), ?_, fun p hp => by rw [xU_o hp, g1.1 p hp], fun i hi => ?_⟩
    · rw [l331_76, g1.1 171 (by decide), if_neg (show ¬ (1920 : Int32) ≤ Int32.ofNat j by rw [show (1920 : Int32) = Int32.ofNat 1920 from rfl, i_le (by decide) (by omega)]; omega), xg_pos (g_ix g2 (by omega)), i_cl (show j < 2 ^ 31 by omega), on_s]
      rfl
    · by_cases q : i = j
      · rw [q, xU_e]
      · rw [xU_s q]; exact g1.2 i (by omega)) (fun n a' g1 => by rw [l331_76, if_pos (show (1920 : Int32) ≤ Int32.ofNat 1920 by decide)]) 1920 0 N r (by omega) (by omega) ⟨fun _ _ => rfl, fun i hi => absurd hi (by omega)⟩
  exact ⟨r', k1, k2, k3⟩
/-- the reference knows what is newly known -/
theorem e_253 (hN : 100000 ≤ N) : ∃ r', l331_253 N h b N 0 r = some (0, r') ∧ (∀ p, p ≠ 171 → r' p = r p) ∧ ∀ i, i < 1920 → r' 171 i = r 183 i := by
  obtain ⟨r', k1, k2, k3⟩ := lp_up (L := l331_253 N h b) (hi := 1920) (out := fun a => (0, a)) (P := fun j a' => (∀ p, p ≠ 171 → a' p = r p) ∧ ∀ i, i < j → a' 171 i = r 183 i) (fun n j a' g1 g2 => by
    refine ⟨xU a' 171 j (r 183 j), ?_, fun p hp => by rw [xU_o hp, g1.1 p hp], fun i hi => ?_⟩
    · rw [l331_253, g1.1 183 (by decide), if_neg (show ¬ (1920 : Int32) ≤ Int32.ofNat j by rw [show (1920 : Int32) = Int32.ofNat 1920 from rfl, i_le (by decide) (by omega)]; omega), xg_pos (g_ix g2 (by omega)), i_cl (show j < 2 ^ 31 by omega), on_s]
      rfl
    · by_cases q : i = j
      · rw [q, xU_e]
      · rw [xU_s q]; exact g1.2 i (by omega)) (fun n a' g1 => by rw [l331_253, if_pos (show (1920 : Int32) ≤ Int32.ofNat 1920 by decide)]) 1920 0 N r (by omega) (by omega) ⟨fun _ _ => rfl, fun i hi => absurd hi (by omega)⟩
  exact ⟨r', k1, k2, k3⟩
end T
