/-! update: tabs are sent, cells are copied. -/
def cpO (Co row x0 x1 : Nat) (c : xA) : Prop := ∀ v, x0 ≤ v → v < x1 → c 101 (row * Co + v) >>> ((8 : Int32) &&& 31) = c 100 8
noncomputable def lnC (Co row x0 x1 : Nat) (c : xA) : Int32 := @ite Int32 (cpO Co row x0 x1 c) (Classical.propDecidable _) (Int32.ofNat (x1 - x0)) 1000000
section T
variable {N h b : Nat} {c0 r0 c r c' r' c'' r'' : xA} {x y z s v w w1 w2 w4 w5 w6 w7 x' y' : Int32} {len p i f k m q l a e K n n' row d th k0 A B t Ln Co V H o j W L a0 a1 m' y0 y1 x0 x1 S : Nat}
theorem plP_X (hX : XF m c r c' r') (h1 : 14 ≤ a1) (h2 : a1 ≤ 19) : plP a0 a1 k c' = plP a0 a1 k c ∧ lnP a0 a1 k c' = lnP a0 a1 k c := by
  unfold plP lnP
  rw [hX.1.1 (108 + (a1 - 14)) (by omega) (by omega), hX.1.1 106 (by decide) (by decide)]
  exact ⟨rfl, rfl⟩
theorem CC_nf (H : CC m x y) (hv : x < 1000000) (hm : m ≤ 2000) : ∃ n : Nat, n ≤ 100 * m ∧ x = Int32.ofNat n ∧ y = Int32.ofNat n := by
  rcases H with ⟨h1, n, h2, h3, h4⟩ | g
  · rw [h4, show (1000000 : Int32) = Int32.ofNat 1000000 from rfl, i_lt (by omega) (by decide)] at hv
    omega
  · exact g
theorem d_tb1 (hN : 100000 ≤ N) (H : UV N h b e Ln Co c r) (h0 : x0 < 80) (h1 : x1 < 80) (hu : Uc (W + 9600) c r) (hv : lnT x0 x1 c < 1000000) : ∃ c' y r', RunC N h b x (plT x0 x1 c) c c' ∧ f347_tabbed N h b (Int32.ofNat x0) (Int32.ofNat x1) 1 r = some (y, r') ∧ UV N h b e Ln Co c' r' ∧ XF 9600 c r c' r' := by
  obtain ⟨S, s1, s2, s3, s4⟩ := e_t11 H
  unfold plT
  unfold lnT at hv
  rw [s2, i_cl (show S < 2 ^ 31 by omega)] at hv ⊢
  by_cases z : S = 0
  · rw [if_pos z] at hv
    exact absurd hv (by decide)
  rw [if_neg z] at hv
  by_cases z2 : x1 / S * S ≤ x0
  · rw [if_pos z2] at hv
    exact absurd hv (by decide)
  rw [if_neg z2] at hv
  obtain ⟨g21, e5⟩ := s3 (by omega)
  obtain ⟨⟨hz, hE, hT, hA, h9⟩, hk, hq⟩ := id H
  have he := hz.1
  have t21 := hz.2.2.2.2.2.2.1
  have h21 : f297_has N h b 21 r = some (c (9 + 7 * e + 3) 21, r) := e_hs' he (show 21 < 39 by decide) (hE 21 (by decide)) t21
  have nz : ¬ Int32.ofNat S = 0 := by rw [show (0 : Int32) = Int32.ofNat 0 from rfl, i_eq (by omega) (by decide)]; omega
  have hst : x1 / S * S ≤ x1 := Nat.div_mul_le_self x1 S
  have hst2 : x1 / S * S / S = x1 / S := Nat.mul_div_cancel _ (by omega)
  have hd : x0 / S ≤ x1 / S := Nat.div_le_div_right (by omega)
  have hdd : x1 / S - x0 / S ≤ 79 := Nat.le_trans (Nat.sub_le _ _) (by have := Nat.div_le_self x1 S; omega)
  unfold f347_tabbed
  rw [e5, b2_some, h21, b2_some, if_neg (by rw [g21]; decide), if_neg nz, (e_dvs h1 s1).2]
  rw [if_pos (show Int32.ofNat x0 < Int32.ofNat (x1 / S * S) by rw [i_lt (by omega) (by omega)]; omega), (e_dvs (x1 := x1 / S * S) (by omega) s1).1, (e_dvs h0 s1).1, hst2, ← Int32.ofNat_sub _ _ hd]
  by_cases z3 : x1 / S * S = x1
  · rw [if_pos (show Int32.ofNat (x1 / S * S) = Int32.ofNat x1 by rw [z3])]
    obtain ⟨ll, r2, g1, g2, g3, g4⟩ := d_len4 (N := N) (h := h) (b := b) (V := 0) hN H (show 21 < 39 by decide) (by decide)
    have g1' : f333_bytesOf N h b 21 0 0 r = some (ll, r2) := g1
    have hX := RF_X (c := c) g2
    obtain ⟨c', r', v1, v2, v3, v4⟩ := d_send (N := N) (h := h) (b := b) (W := W) (a := 21) (t := x1 / S - x0 / S) (x := 0) (y := 0) hN (UV_R H g2) (by decide) (by decide) (by omega) (Uc_m ((hX.2 (W + 9600)).1 hu) (by omega))
    have v1' : f130_send N h b 21 (Int32.ofNat (x1 / S - x0 / S)) 0 0 c = some c' := v1
    have v2' : f332_typeAll N h b 21 0 0 (Int32.ofNat (x1 / S - x0 / S)) r2 = some r' := v2
    unfold j347_75
    rw [if_neg (show ¬ (0 : Int32) = -1 by decide), g1', b2_some, if_neg (show ¬ (1 : Int32) = 0 by decide), v2', b1_some, if_pos (show Int32.ofNat (x1 / S * S) = Int32.ofNat x1 by rw [z3])]
    have el : plP 13 17 (x1 - x1 / S * S) c = [] := by unfold plP; rw [if_pos (by omega)]
    rw [el]
    exact ⟨c', _, _, RunC_1 (show ¬ (21 : Int32) = -1 by decide) v1' v4, rfl, v3, XF_m (XF_t hX v4) (by omega)⟩
  · obtain ⟨y0, r1, k1, k2, k3⟩ := d_pr0 (N := N) (h := h) (b := b) (a0 := 13) (a1 := 17) (k := x1 - x1 / S * S) hN H (by decide) (by decide) (by decide) (by decide) (by omega) (by omega)
    have k1' : f344_eitherOf N h b 13 17 (Int32.ofNat (x1 - x1 / S * S)) 0 r = some (y0, r1) := k1
    have H1 := UV_R H k2
    obtain ⟨ll, r2, g1, g2, g3, g4⟩ := d_len4 (N := N) (h := h) (b := b) (V := 0) hN H1 (show 21 < 39 by decide) (by decide)
    have g1' : f333_bytesOf N h b 21 0 0 r1 = some (ll, r2) := g1
    obtain ⟨L, L1, L2⟩ := g4 g21
    have eL : c 106 21 = Int32.ofNat L := by
      rcases g3 _ (hT.1 21 (by decide) (by decide)) with ⟨_, q⟩ | ⟨L', q1, q2, q3⟩
      · rw [q] at L2; exact absurd L2.symm (ofn_ne (by omega))
      · rw [q2, ← q3, L2]
    have hm : (x1 / S - x0 / S) * L ≤ 79 * 60 := Nat.mul_le_mul hdd L1
    have hv2 : lnP 13 17 (x1 - x1 / S * S) c < 1000000 := by
      rcases k3 with ⟨q1, n, q2, q3, q4⟩ | ⟨n, q2, q3, q4⟩
      · rw [eL, q4, ← Int32.ofNat_mul, ← Int32.ofNat_add, show (1000000 : Int32) = Int32.ofNat 1000000 from rfl, i_lt (by omega) (by decide)] at hv
        omega
      · rw [q3, show (1000000 : Int32) = Int32.ofNat 1000000 from rfl, i_lt (by omega) (by decide)]
        omega
    obtain ⟨n, n1, n2, n3⟩ := CC_nf k3 hv2 (by omega)
    have hX := RF_X (c := c) (RF_t k2 g2)
    have hu2 : Uc (W + 9600) c r2 := (hX.2 (W + 9600)).1 hu
    obtain ⟨c', r', v1, v2, v3, v4⟩ := d_send (N := N) (h := h) (b := b) (W := W + 4800) (a := 21) (t := x1 / S - x0 / S) (x := 0) (y := 0) hN (UV_R H1 g2) (by decide) (by decide) (by omega) (Uc_m hu2 (by omega))
    have v1' : f130_send N h b 21 (Int32.ofNat (x1 / S - x0 / S)) 0 0 c = some c' := v1
    have v2' : f332_typeAll N h b 21 0 0 (Int32.ofNat (x1 / S - x0 / S)) r2 = some r' := v2
    have v4' := XF_m (m := 4800) v4 (by omega)
    obtain ⟨p1, p2⟩ := plP_X (a0 := 13) (a1 := 17) (k := x1 - x1 / S * S) v4 (by decide) (by decide)
    obtain ⟨c2, y2, r3, m1, m2, m3, m4, _⟩ := d_pr1 (N := N) (h := h) (b := b) (a0 := 13) (a1 := 17) (k := x1 - x1 / S * S) (x := x) (W := W) hN v3 (by decide) (by decide) (by decide) (by decide) (by omega) (by omega) ((v4'.2 (W + 4800)).1 (by rw [show W + 4800 + 4800 = W + 9600 by omega]; exact hu2)) (by rw [p2]; exact hv2)
    have m2' : f344_eitherOf N h b 13 17 (Int32.ofNat (x1 - x1 / S * S)) 1 r' = some (y2, r3) := m2
    rw [p1] at m1
    rw [if_neg (show ¬ Int32.ofNat (x1 / S * S) = Int32.ofNat x1 by rw [i_eq (by omega) (by omega)]; exact z3), ← Int32.ofNat_sub _ _ hst, k1', b2_some]
    unfold j347_75
    rw [if_neg (by rw [n3]; exact ofn_ne (by omega)), g1', b2_some, if_neg (show ¬ (1 : Int32) = 0 by decide), v2', b1_some, if_neg (show ¬ Int32.ofNat (x1 / S * S) = Int32.ofNat x1 by rw [i_eq (by omega) (by omega)]; exact z3), ← Int32.ofNat_sub _ _ hst, m2', b2_some]
    refine ⟨c2, _, _, ⟨c', by rw [if_neg (show ¬ (21 : Int32) = -1 by decide)]; exact v1', v4.1.1 114 (by decide) (by decide), v4.1.2.1 18 (by decide), m1⟩, rfl, m3, XF_m (XF_t hX (XF_t v4' m4)) (by omega)⟩
theorem e_145 (hz : Pz e Ln Co c r) (hr : row < Ln) (hx1 : x1 ≤ Co) : ∀ (k v f : Nat), v + k = x1 → k < f → (cpO Co row v x1 c → l145_3 N h b (Int32.ofNat row) w2 (Int32.ofNat x1) f (Int32.ofNat v) c = some (1, c)) ∧ (¬ cpO Co row v x1 c → l145_3 N h b (Int32.ofNat row) w2 (Int32.ofNat x1) f (Int32.ofNat v) c = some (0, c)) := by
  obtain ⟨a1, a2, a3, a4, a5, a6, a7, a8, a9, b1, b2, b3, b4⟩ := hz
  have hHB := hb_ub a3 a5
  intro k
  induction k with
  | zero =>
    intro v f h1 h2
    obtain ⟨f, rfl⟩ : ∃ f', f = f' + 1 := ⟨f - 1, by omega⟩
    have : v = x1 := by omega
    subst this
    exact ⟨fun _ => by rw [l145_3, if_pos (Int32.le_refl _)], fun g => absurd (fun u h3 h4 => absurd h3 (by omega)) g⟩
  | succ k ih =>
    intro v f h1 h2
    obtain ⟨f, rfl⟩ : ∃ f', f = f' + 1 := ⟨f - 1, by omega⟩
    have hi : row * Co + v < 1920 := by
      have : (row + 1) * Co ≤ Ln * Co := Nat.mul_le_mul_right Co hr
      rw [Nat.add_mul] at this
      omega
    have ei : Int32.ofNat row * Int32.ofNat Co + Int32.ofNat v = Int32.ofNat (row * Co + v) := by rw [← Int32.ofNat_mul, ← Int32.ofNat_add]
    obtain ⟨i1, i2⟩ := ih (v + 1) f (by omega) (by omega)
    rw [l145_3, if_neg (by rw [i_le (by omega) (by omega)]; omega), b3, ei, xg_pos (g_ix hi (by omega)), i_cl (by omega), on_s]
    by_cases z : c 101 (row * Co + v) >>> ((8 : Int32) &&& 31) = c 100 8
    · rw [if_pos z]
      refine ⟨fun g => i1 (fun u h3 h4 => g u (by omega) h4), fun g => i2 (fun g2 => g (fun u h3 h4 => ?_))⟩
      by_cases q : u = v
      · subst q; exact z
      · exact g2 u (by omega) h4
    · rw [if_neg z]
      exact ⟨fun g => absurd (g v (by omega) (by omega)) z, fun _ => rfl⟩
theorem e_346 (H : UV N h b e Ln Co c r) (hr : row < Ln) (hx1 : x1 ≤ Co) : ∀ (k v f : Nat), v + k = x1 → k + 1 < f → (cpO Co row v x1 c → l346_58 N h b w1 (Int32.ofNat x1) (Int32.ofNat row) w4 w5 w6 w7 f 1 (Int32.ofNat v) r = some (0, 1, r)) ∧ (¬ cpO Co row v x1 c → l346_58 N h b w1 (Int32.ofNat x1) (Int32.ofNat row) w4 w5 w6 w7 f 1 (Int32.ofNat v) r = some (0, 0, r)) := by
  obtain ⟨a1, a2, a3, a4, a5, a6, a7, a8, a9, b1, b2, b3, b4⟩ := H.1.1
  obtain ⟨u1, u2, u3, u4, u5, _⟩ := H.2.1
  intro k
  induction k with
  | zero =>
    intro v f h1 h2
    obtain ⟨f, rfl⟩ : ∃ f', f = f' + 1 := ⟨f - 1, by omega⟩
    have : v = x1 := by omega
    subst this
    exact ⟨fun _ => by rw [l346_58, if_pos (Int32.le_refl _)], fun g => absurd (fun u h3 h4 => absurd h3 (by omega)) g⟩
  | succ k ih =>
    intro v f h1 h2
    obtain ⟨f, rfl⟩ : ∃ f', f = f' + 1 := ⟨f - 1, by omega⟩
    have ei : (80 : Int32) * Int32.ofNat row + Int32.ofNat v = Int32.ofNat (80 * row + v) := by rw [Int32.ofNat_add, Int32.ofNat_mul]; rfl
    obtain ⟨i1, i2⟩ := ih (v + 1) f (by omega) (by omega)
    rw [l346_58, if_neg (by rw [i_le (by omega) (by omega)]; omega), if_neg (show ¬ (1 : Int32) = 0 by decide), ei, xg_pos (g_ix (by omega) (by omega)), i_cl (by omega), on_s, ← u1, ← u5 row v hr (by omega)]
    by_cases z : c 101 (row * Co + v) >>> ((8 : Int32) &&& 31) = c 100 8
    · rw [if_pos z]
      refine ⟨fun g => i1 (fun u h3 h4 => g u (by omega) h4), fun g => i2 (fun g2 => g (fun u h3 h4 => ?_))⟩
      by_cases q : u = v
      · subst q; exact z
      · exact g2 u (by omega) h4
    · rw [if_neg z]
      refine ⟨fun g => absurd (g v (by omega) (by omega)) z, fun _ => ?_⟩
      obtain ⟨f, rfl⟩ : ∃ f', f = f' + 1 := ⟨f - 1, by omega⟩
      rw [l346_58]
      by_cases q : Int32.ofNat x1 ≤ Int32.ofNat (v + 1)
      · rw [if_pos q]
      · rw [if_neg q, if_pos rfl]
/-- known cells are typed again -/
theorem d_cpl (hN : 100000 ≤ N) (hr : row < Ln) (hx1 : x1 ≤ Co) : ∀ (k v f : Nat) (c r : xA), v + k = x1 → k < f → UV N h b e Ln Co c r → Uc (W + k) c r → ∃ c' r', l151_3 N h b (Int32.ofNat row) (Int32.ofNat x1) f (Int32.ofNat v) c = some (0, c') ∧ l346_165 N h b (Int32.ofNat x1) (Int32.ofNat row) 1 w7 f (Int32.ofNat v) r = some (0, r') ∧ UV N h b e Ln Co c' r' ∧ XF k c r c' r' := by
  intro k
  induction k with
  | zero =>
    intro v f c r h1 h2 H hu
    obtain ⟨f, rfl⟩ : ∃ f', f = f' + 1 := ⟨f - 1, by omega⟩
    have : v = x1 := by omega
    subst this
    exact ⟨c, r, by rw [l151_3, if_pos (Int32.le_refl _)], by rw [l346_165, if_pos (Int32.le_refl _)], H, XF_r⟩
  | succ k ih =>
    intro v f c r h1 h2 H hu
    obtain ⟨f, rfl⟩ : ∃ f', f = f' + 1 := ⟨f - 1, by omega⟩
    obtain ⟨a1, a2, a3, a4, a5, a6, a7, a8, a9, b1, b2, b3, b4⟩ := H.1.1
    have u5 := H.2.1.2.2.2.2.1
    have hHB := hb_ub a3 a5
    have hi : row * Co + v < 1920 := by
      have : (row + 1) * Co ≤ Ln * Co := Nat.mul_le_mul_right Co hr
      rw [Nat.add_mul] at this
      omega
    have ei : Int32.ofNat row * Int32.ofNat Co + Int32.ofNat v = Int32.ofNat (row * Co + v) := by rw [← Int32.ofNat_mul, ← Int32.ofNat_add]
    have ej : (80 : Int32) * Int32.ofNat row + Int32.ofNat v = Int32.ofNat (80 * row + v) := by rw [Int32.ofNat_add, Int32.ofNat_mul]; rfl
    obtain ⟨c1, r1, g1, g2, g3⟩ := d_tb (N := N) (h := h) (b := b) (W := W + k) (x := c 101 (row * Co + v) &&& 255) (y := r 183 (80 * row + v) &&& 255) hu (by rw [u5 row v hr (by omega)]; exact (byx _).symm)
    have hX : XF 1 c r c1 r1 := ⟨⟨fun p q1 q2 => g3.1.1 p (by omega) q2, g3.1.2.1, fun i _ _ => by rw [g3.1.1 93 (by decide) (by decide)], fun p q1 _ _ q2 => g3.1.2.2.1 p q1 q2, fun i _ _ q => g3.1.2.2.2 i q⟩, g3.2⟩
    have H1 := UV_X H hX (fun i => by rw [g3.1.2.2.1 168 (by decide) (by decide)]; exact H.2.2 i)
    obtain ⟨c2, r2, k1, k2, k3, k4⟩ := ih (v + 1) f c1 r1 (by omega) (by omega) H1 ((hX.2 (W + k)).1 hu)
    have nn : ¬ Int32.ofNat x1 ≤ Int32.ofNat v := by rw [i_le (by omega) (by omega)]; omega
    refine ⟨c2, r2, ?_, ?_, k3, by rw [show k + 1 = 1 + k by omega]; exact XF_t hX k4⟩
    · rw [l151_3, if_neg nn, b3, ei, xg_pos (g_ix hi (by omega)), i_cl (by omega), g1, b1_some, on_s]
      exact k1
    · rw [l346_165, if_neg nn, if_neg (show ¬ (1 : Int32) = 0 by decide), ej, xg_pos (g_ix (by omega) (by omega)), i_cl (by omega), g2, b1_some, on_s]
      exact k2
end T
