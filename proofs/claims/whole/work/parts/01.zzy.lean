/-! update: across. -/
noncomputable def lnX (Co row x0 x1 : Nat) (c : xA) : Int32 := if x0 < x1 then xmin (lnP 13 17 (x1 - x0) c) (xmin (lnT x0 x1 c) (lnC Co row x0 x1 c)) else lnP 12 16 (x0 - x1) c
noncomputable def plX (Co row x0 x1 : Nat) (c : xA) : List S4 := if x0 < x1 then (if lnT x0 x1 c < lnP 13 17 (x1 - x0) c ∨ lnC Co row x0 x1 c < lnP 13 17 (x1 - x0) c then (if lnC Co row x0 x1 c < lnT x0 x1 c then [(-1, 1, Int32.ofNat x0, Int32.ofNat x1)] else plT x0 x1 c) else plP 13 17 (x1 - x0) c) else plP 12 16 (x0 - x1) c
section T
variable {N h b : Nat} {c0 r0 c r c' r' c'' r'' : xA} {x y z s v w w1 w2 w4 w5 w6 w7 x' y' : Int32} {len p i f k m q l a e K n n' row d th k0 A B t Ln Co V H o j W L a0 a1 m' y0 y1 x0 x1 S : Nat}
theorem xmin_n (h1 : n < 2 ^ 31) (h2 : m < 2 ^ 31) : xmin (Int32.ofNat n) (Int32.ofNat m) = Int32.ofNat (min n m) := by
  unfold xmin
  by_cases z : m < n
  · rw [if_pos (by rw [i_lt h2 h1]; exact z), Nat.min_eq_right (by omega)]
  · rw [if_neg (by rw [i_lt h2 h1]; exact z), Nat.min_eq_left (by omega)]
theorem lnC_t (hc : cpO Co row x0 x1 c) : lnC Co row x0 x1 c = Int32.ofNat (x1 - x0) := if_pos hc
theorem lnC_f (hc : ¬ cpO Co row x0 x1 c) : lnC Co row x0 x1 c = 1000000 := if_neg hc
theorem e_acl (hN : 100000 ≤ N) (H : UV N h b e Ln Co c r) (h0 : x0 < Co) (h1 : x1 < Co) (hr : row < Ln) : f141_acrossLength N h b (Int32.ofNat x0) (Int32.ofNat x1) (Int32.ofNat row) c = some (lnX Co row x0 x1 c, c) := by
  have hT := H.1.2.2.1
  have hco := H.1.1.2.2.2.2.1
  unfold f141_acrossLength lnX
  by_cases z : x0 < x1
  · have := e_pln (N := N) (h := h) (b := b) (a0 := 13) (a1 := 17) (k := x1 - x0) hT (by decide) (by decide) (by decide) (by decide) (by omega)
    have t : f140_pairLength N h b 13 17 (Int32.ofNat (x1 - x0)) c = some (lnP 13 17 (x1 - x0) c, c) := this
    have tc : f145_copyLength N h b (Int32.ofNat row) (Int32.ofNat x0) (Int32.ofNat x1) c = some (lnC Co row x0 x1 c, c) := by
      unfold f145_copyLength
      obtain ⟨i1, i2⟩ := e_145 (N := N) (h := h) (b := b) (w2 := Int32.ofNat x0) (x1 := x1) H.1.1 hr (by omega) (x1 - x0) x0 N (by omega) (by omega)
      by_cases q : cpO Co row x0 x1 c
      · rw [i1 q, Option.bind_some, if_neg (show ¬ (1 : Nat) = 0 by decide), ← Int32.ofNat_sub _ _ (by omega), lnC_t q]
      · rw [i2 q, Option.bind_some, if_pos rfl, lnC_f q]
    rw [if_pos (by rw [i_lt (by omega) (by omega)]; exact z), if_pos z, ← Int32.ofNat_sub _ _ (by omega), t, b2_some, e_tln H (by omega) (by omega), b2_some, tc, b2_some]
  · have := e_pln (N := N) (h := h) (b := b) (a0 := 12) (a1 := 16) (k := x0 - x1) hT (by decide) (by decide) (by decide) (by decide) (by omega)
    have t : f140_pairLength N h b 12 16 (Int32.ofNat (x0 - x1)) c = some (lnP 12 16 (x0 - x1) c, c) := this
    rw [if_neg (by rw [i_lt (by omega) (by omega)]; exact z), if_neg z, ← Int32.ofNat_sub _ _ (by omega), t, b2_some]
/-- the three ways to the right, as numbers -/
theorem d_3w (hN : 100000 ≤ N) (H : UV N h b e Ln Co c r) (h0 : x0 < Co) (h1 : x1 < Co) (hr : row < Ln) (hx : x0 < x1) : ∃ (np nt nc : Nat) (yp yt yc : Int32) (r1 r2 : xA), f344_eitherOf N h b 13 17 (Int32.ofNat (x1 - x0)) 0 r = some (yp, r1) ∧ f347_tabbed N h b (Int32.ofNat x0) (Int32.ofNat x1) 0 r1 = some (yt, r2) ∧ RF r r2 ∧ lnP 13 17 (x1 - x0) c = Int32.ofNat np ∧ lnT x0 x1 c = Int32.ofNat nt ∧ lnC Co row x0 x1 c = Int32.ofNat nc ∧ CN np yp ∧ CN nt yt ∧ CN nc yc ∧ ∀ q4, (l346_58 N h b (Int32.ofNat x0) (Int32.ofNat x1) (Int32.ofNat row) q4 yp yt (-1) N 1 (Int32.ofNat x0) r2).bind (fun z19 => j346_104 N h b (Int32.ofNat x0) (Int32.ofNat x1) (Int32.ofNat row) q4 yp yt (-1) z19.2.1 z19.2.2) = j346_114 N h b (Int32.ofNat x0) (Int32.ofNat x1) (Int32.ofNat row) q4 yp yt yc r2 := by
  have hco := H.1.1.2.2.2.2.1
  obtain ⟨yp, r1, k1, k2, k3⟩ := d_pr0 (N := N) (h := h) (b := b) (a0 := 13) (a1 := 17) (k := x1 - x0) hN H (by decide) (by decide) (by decide) (by decide) (by omega) (by omega)
  have H1 := UV_R H k2
  obtain ⟨yt, r2, g1, g2, g3⟩ := d_tb0 (N := N) (h := h) (b := b) (x0 := x0) (x1 := x1) hN H1 (by omega) (by omega)
  have H2 := UV_R H1 g2
  obtain ⟨np, p1, p2⟩ := CC_N (CC_m (m' := 200) k3 (by omega))
  obtain ⟨nt, t1, t2⟩ := CC_N g3
  by_cases q : cpO Co row x0 x1 c
  · refine ⟨np, nt, x1 - x0, yp, yt, Int32.ofNat (x1 - x0), r1, r2, k1, g1, RF_t k2 g2, p1, t1, lnC_t q, p2, t2, Or.inr ⟨by omega, rfl⟩, fun q4 => ?_⟩
    obtain ⟨i1, i2⟩ := e_346 (N := N) (h := h) (b := b) (w1 := Int32.ofNat x0) (w4 := q4) (w5 := yp) (w6 := yt) (w7 := -1) (x1 := x1) H2 hr (by omega) (x1 - x0) x0 N (by omega) (by omega)
    rw [i1 q, Option.bind_some]
    unfold j346_104
    rw [if_neg (show ¬ (1 : Int32) = 0 by decide), ← Int32.ofNat_sub _ _ (by omega)]
  · refine ⟨np, nt, 1000000, yp, yt, -1, r1, r2, k1, g1, RF_t k2 g2, p1, t1, lnC_f q, p2, t2, Or.inl ⟨rfl, by omega, by omega⟩, fun q4 => ?_⟩
    obtain ⟨i1, i2⟩ := e_346 (N := N) (h := h) (b := b) (w1 := Int32.ofNat x0) (w4 := q4) (w5 := yp) (w6 := yt) (w7 := -1) (x1 := x1) H2 hr (by omega) (x1 - x0) x0 N (by omega) (by omega)
    rw [i2 q, Option.bind_some]
    unfold j346_104
    rw [if_pos (show (0 : Int32) = 0 from rfl)]
theorem d_ac0 (hN : 100000 ≤ N) (H : UV N h b e Ln Co c r) (h0 : x0 < Co) (h1 : x1 < Co) (hr : row < Ln) : ∃ y r', f346_across N h b (Int32.ofNat x0) (Int32.ofNat x1) (Int32.ofNat row) 0 r = some (y, r') ∧ RF r r' ∧ CC 200 (lnX Co row x0 x1 c) y := by
  have hco := H.1.1.2.2.2.2.1
  unfold f346_across lnX
  by_cases z0 : x0 = x1
  · subst z0
    rw [if_pos rfl, if_neg (Nat.lt_irrefl _), Nat.sub_self]
    refine ⟨_, _, rfl, RF_r H.2.2, Or.inr ⟨0, by omega, ?_, rfl⟩⟩
    unfold lnP
    rw [if_pos rfl]
    rfl
  rw [if_neg (show ¬ Int32.ofNat x0 = Int32.ofNat x1 by rw [i_eq (by omega) (by omega)]; exact z0)]
  by_cases z : x0 < x1
  · obtain ⟨np, nt, nc, yp, yt, yc, r1, r2, k1, k2, k3, k4, k5, k6, k7, k8, k9, k10⟩ := d_3w (N := N) (h := h) (b := b) hN H h0 h1 hr z
    rw [if_pos (show Int32.ofNat x0 ≤ Int32.ofNat x1 by rw [i_le (by omega) (by omega)]; omega), if_pos z, ← Int32.ofNat_sub _ _ (by omega), k1, b2_some, k2, b2_some, k10 0, k4, k5, k6, xmin_n (CN_lt k8) (CN_lt k9), xmin_n (CN_lt k7) (by have := CN_lt k8; omega)]
    have hb1 := best_n k7 k8
    have hb2 := best_n hb1 k9
    have e0 : l346_165 N h b (Int32.ofNat x1) (Int32.ofNat row) 0 yc N (Int32.ofNat x0) r2 = some (0, r2) := by
      obtain ⟨M, hM⟩ : ∃ n', N = n' + 1 := ⟨N - 1, by omega⟩
      rw [hM, l346_165]
      by_cases q : Int32.ofNat x1 ≤ Int32.ofNat x0
      · rw [if_pos q]
      · rw [if_neg q, if_pos rfl]
    unfold j346_114 j346_236
    rw [e_bet, b2_some, show (if bt yp yt = -1 then (-1 : Int32) else if bt yp yt = 0 then yp else yt) = best yp yt from rfl, e_bet, b2_some, e0, Option.bind_some]
    have eB : best (best yp yt) yc = if bt (best yp yt) yc = -1 then -1 else if bt (best yp yt) yc = 0 then best yp yt else yc := rfl
    have em : min np (min nt nc) = min (min np nt) nc := by omega
    rw [em]
    rcases bt_n hb1 k9 with ⟨q1, _⟩ | ⟨q1, _⟩ | ⟨q1, _⟩
    · rw [q1, if_pos rfl] at eB
      rw [q1, if_neg (by decide), if_pos rfl]
      rw [eB] at hb2
      exact ⟨_, _, rfl, k3, CN_C hb2⟩
    · rw [q1, if_neg (by decide), if_pos rfl] at eB
      rw [q1, if_neg (by decide), if_neg (by decide), if_pos rfl, if_pos rfl]
      rw [eB] at hb2
      exact ⟨_, _, rfl, k3, CN_C hb2⟩
    · rw [q1, if_neg (by decide), if_neg (by decide)] at eB
      rw [q1, if_pos rfl]
      rw [eB] at hb2
      exact ⟨_, _, rfl, k3, CN_C hb2⟩
  · obtain ⟨y, r', k1, k2, k3⟩ := d_pr0 (N := N) (h := h) (b := b) (a0 := 12) (a1 := 16) (k := x0 - x1) hN H (by decide) (by decide) (by decide) (by decide) (by omega) (by omega)
    have k1' : f344_eitherOf N h b 12 16 (Int32.ofNat (x0 - x1)) 0 r = some (y, r') := k1
    rw [if_neg (show ¬ Int32.ofNat x0 ≤ Int32.ofNat x1 by rw [i_le (by omega) (by omega)]; omega), if_neg z, ← Int32.ofNat_sub _ _ (by omega), k1', b2_some]
    exact ⟨_, _, rfl, k2, CC_m k3 (by omega)⟩
theorem d_ac1 (hN : 100000 ≤ N) (H : UV N h b e Ln Co c r) (h0 : x0 < Co) (h1 : x1 < Co) (hr : row < Ln) (hu : Uc (W + 9600) c r) (hv : lnX Co row x0 x1 c < 1000000) : ∃ c' y r', RunC N h b (Int32.ofNat row) (plX Co row x0 x1 c) c c' ∧ f346_across N h b (Int32.ofNat x0) (Int32.ofNat x1) (Int32.ofNat row) 1 r = some (y, r') ∧ UV N h b e Ln Co c' r' ∧ XF 9600 c r c' r' := by
  have hco := H.1.1.2.2.2.2.1
  unfold f346_across plX
  unfold lnX at hv
  by_cases z0 : x0 = x1
  · subst z0
    rw [if_pos rfl, if_neg (Nat.lt_irrefl _), Nat.sub_self]
    refine ⟨c, _, _, ?_, rfl, H, XF_m XF_r (by omega)⟩
    unfold plP
    rw [if_pos rfl]
    rfl
  rw [if_neg (show ¬ Int32.ofNat x0 = Int32.ofNat x1 by rw [i_eq (by omega) (by omega)]; exact z0)]
  by_cases z : x0 < x1
  · obtain ⟨np, nt, nc, yp, yt, yc, r1, r2, k1, k2, k3, k4, k5, k6, k7, k8, k9, k10⟩ := d_3w (N := N) (h := h) (b := b) hN H h0 h1 hr z
    have b7 := CN_lt k7
    have b8 := CN_lt k8
    have b9 := CN_lt k9
    rw [if_pos z, k4, k5, k6, xmin_n (CN_lt k8) (CN_lt k9), xmin_n (CN_lt k7) (by omega), show (1000000 : Int32) = Int32.ofNat 1000000 from rfl, i_lt (by omega) (by decide)] at hv
    have cT : (lnT x0 x1 c < lnP 13 17 (x1 - x0) c ∨ lnC Co row x0 x1 c < lnP 13 17 (x1 - x0) c) = (nt < np ∨ nc < np) := by rw [k4, k5, k6, i_lt b8 b7, i_lt b9 b7]
    have cC : (lnC Co row x0 x1 c < lnT x0 x1 c) = (nc < nt) := by rw [k5, k6, i_lt b9 b8]
    have H2 := UV_R H k3
    have hX := RF_X (c := c) k3
    have hu2 : Uc (W + 9600) c r2 := (hX.2 (W + 9600)).1 hu
    rw [if_pos (show Int32.ofNat x0 ≤ Int32.ofNat x1 by rw [i_le (by omega) (by omega)]; omega), if_pos z, ← Int32.ofNat_sub _ _ (by omega), k1, b2_some, k2, b2_some, k10 1]
    have hb1 := best_n k7 k8
    unfold j346_114 j346_236
    rw [e_bet, b2_some, show (if bt yp yt = -1 then (-1 : Int32) else if bt yp yt = 0 then yp else yt) = best yp yt from rfl, e_bet, b2_some]
    rcases bt_n hb1 k9 with ⟨q1, q2, q3⟩ | ⟨q1, q2, q3⟩ | ⟨q1, q2, q3⟩
    · omega
    · rw [q1, if_neg (show ¬ (0 : Int32) = 1 by decide), if_neg (show ¬ (0 : Int32) = -1 by decide), if_neg (show ¬ (1 : Int32) = 0 by decide), if_neg (show ¬ (1 : Int32) = 0 by decide)]
      rcases bt_n k7 k8 with ⟨s1, s2, s3⟩ | ⟨s1, s2, s3⟩ | ⟨s1, s2, s3⟩
      · omega
      · rw [s1, if_pos (show (0 : Int32) = 0 from rfl), if_neg (show ¬ (lnT x0 x1 c < lnP 13 17 (x1 - x0) c ∨ lnC Co row x0 x1 c < lnP 13 17 (x1 - x0) c) by rw [cT]; omega)]
        obtain ⟨c', y, r', m1, m2, m3, m4, _⟩ := d_pr1 (N := N) (h := h) (b := b) (a0 := 13) (a1 := 17) (k := x1 - x0) (x := Int32.ofNat row) (W := W) hN H2 (by decide) (by decide) (by decide) (by decide) (by omega) (by omega) (Uc_m hu2 (by omega)) (by rw [k4, show (1000000 : Int32) = Int32.ofNat 1000000 from rfl, i_lt b7 (by decide)]; exact s2)
        have m2' : f344_eitherOf N h b 13 17 (Int32.ofNat (x1 - x0)) 1 r2 = some (y, r') := m2
        rw [← Int32.ofNat_sub _ _ (by omega), m2', b2_some, if_neg (show ¬ (0 : Int32) = 1 by decide)]
        exact ⟨c', _, _, m1, rfl, m3, XF_m (XF_t hX m4) (by omega)⟩
      · rw [s1, if_neg (show ¬ (1 : Int32) = 0 by decide), if_pos (show (1 : Int32) = 1 from rfl), if_pos (show (lnT x0 x1 c < lnP 13 17 (x1 - x0) c ∨ lnC Co row x0 x1 c < lnP 13 17 (x1 - x0) c) by rw [cT]; omega), if_neg (show ¬ lnC Co row x0 x1 c < lnT x0 x1 c by rw [cC]; omega)]
        obtain ⟨c', y, r', m1, m2, m3, m4⟩ := d_tb1 (N := N) (h := h) (b := b) (x0 := x0) (x1 := x1) (x := Int32.ofNat row) (W := W) hN H2 (by omega) (by omega) hu2 (by rw [k5, show (1000000 : Int32) = Int32.ofNat 1000000 from rfl, i_lt b8 (by decide)]; exact s2)
        rw [m2, b2_some]
        exact ⟨c', _, _, m1, rfl, m3, XF_m (XF_t hX m4) (by omega)⟩
    · rw [q1, if_pos (show (1 : Int32) = 1 from rfl), if_pos (show (lnT x0 x1 c < lnP 13 17 (x1 - x0) c ∨ lnC Co row x0 x1 c < lnP 13 17 (x1 - x0) c) by rw [cT]; omega), if_pos (show lnC Co row x0 x1 c < lnT x0 x1 c by rw [cC]; omega)]
      obtain ⟨c', r', m1, m2, m3, m4⟩ := d_cpl (N := N) (h := h) (b := b) (w7 := yc) (W := W) hN hr (show x1 ≤ Co by omega) (x1 - x0) x0 N c r2 (by omega) (by omega) H2 (Uc_m hu2 (by omega))
      rw [m2, Option.bind_some]
      refine ⟨c', _, _, ⟨c', ?_, m4.1.1 114 (by decide) (by decide), m4.1.2.1 18 (by decide), rfl⟩, rfl, m3, XF_m (XF_t hX m4) (by omega)⟩
      rw [if_pos rfl]
      unfold f151_copyKnown
      dsimp only
      rw [m1, Option.bind_some]
  · rw [if_neg z] at hv
    obtain ⟨c', y, r', m1, m2, m3, m4, _⟩ := d_pr1 (N := N) (h := h) (b := b) (a0 := 12) (a1 := 16) (k := x0 - x1) (x := Int32.ofNat row) (W := W) hN H (by decide) (by decide) (by decide) (by decide) (by omega) (by omega) (Uc_m hu (by omega)) hv
    have m2' : f344_eitherOf N h b 12 16 (Int32.ofNat (x0 - x1)) 1 r = some (y, r') := m2
    rw [if_neg (show ¬ Int32.ofNat x0 ≤ Int32.ofNat x1 by rw [i_le (by omega) (by omega)]; omega), if_neg z, ← Int32.ofNat_sub _ _ (by omega), m2', b2_some]
    exact ⟨c', _, _, m1, rfl, m3, XF_m m4 (by omega)⟩
end T
