/-! show. -/
section W
variable {N h b : Nat} {c0 r0 c r : xA} {x y z u : Int32} {w T L H B Y X e Ln Co : Nat}
def SR (c0 r0 : xA) (Ln Co : Nat) (c r : xA) : Prop := (∀ p, p ≠ 99 → c p = c0 p) ∧ (∀ p, p ≠ 170 → r p = r0 p) ∧ ∀ y x, y < Ln → x < Co → c 99 (y * Co + x) = r 170 (80 * y + x)
theorem SR_u {yy xx : Nat} {v : Int32} (hS : SR c0 r0 Ln Co c r) (hy : yy < Ln) (hx : xx < Co) (hCo : Co ≤ 80) : SR c0 r0 Ln Co (xU c 99 (yy * Co + xx) v) (xU r 170 (80 * yy + xx) v) := by
  refine ⟨fun p hp => by rw [xU_o hp]; exact hS.1 p hp, fun p hp => by rw [xU_o hp]; exact hS.2.1 p hp, fun y x h1 h2 => ?_⟩
  rw [xU_eq, xU_eq]
  by_cases z : y = yy ∧ x = xx
  · obtain ⟨z1, z2⟩ := z
    subst z1; subst z2
    rw [if_pos ⟨rfl, rfl⟩, if_pos ⟨rfl, rfl⟩]
  · rw [if_neg (fun q => z (mul_inj h2 hx q.2)), if_neg (fun q => z (by omega))]
    exact hS.2.2 y x h1 h2
theorem SR_r {yy xx : Nat} (hS : SR c0 r0 Ln Co c r) (hy : yy < Ln) (hx : xx < Co) (hCo : Co ≤ 80) : SR c0 r0 Ln Co c (xU r 170 (80 * yy + xx) (r 170 (80 * yy + xx))) := by
  refine ⟨hS.1, fun p hp => by rw [xU_o hp]; exact hS.2.1 p hp, fun y x h1 h2 => ?_⟩
  rw [xU_eq]
  split
  · next q => rw [hS.2.2 y x h1 h2, q.2]
  · exact hS.2.2 y x h1 h2
theorem d_sh1 {yy : Nat} (hw : w < 8) (hd : Wd w T L H B Y X c0 r0) (hz : Co ≤ 80 ∧ Ln ≤ 24) (h5 : c0 98 5 = Int32.ofNat Co) (hT : T + H ≤ Ln) (hL : L + B ≤ Co) (hy : yy < H) : ∀ (k n : Nat) {s : Int32} {c r : xA}, SR c0 r0 Ln Co c r → k ≤ B → k < n → Q2 (l124_15 N h b (141 + 2 * w) 98 (Int32.ofNat yy) n s (Int32.ofNat (B - k)) c) (l326_32 N h b (Int32.ofNat w) (Int32.ofNat yy) n s (Int32.ofNat (B - k)) r) (fun p q => p.2.1 = q.2.1 ∧ SR c0 r0 Ln Co p.2.2 q.2.2)
  | 0, n, s, c, r, hS, h1, h2 => by
    obtain ⟨m, rfl⟩ : ∃ m, n = m + 1 := ⟨n - 1, by omega⟩
    unfold l124_15 l326_32
    have e1 : c (141 + 2 * w) = c0 (141 + 2 * w) := hS.1 _ (by omega)
    have e2 : r 176 = r0 176 := hS.2.1 _ (by decide)
    refine q_pl (by rw [e1, hd.1.2.2.2.2.2.2.2.2.1]; exact Int32.le_refl _) (q_hr (g_ix hw (by decide)) (q_pr (by rw [i_cl (by omega), e2, hd.1.2.2.2.2.2.2.2.2.2.1]; exact Int32.le_refl _) (q_some.mpr ⟨rfl, hS⟩)))
  | k + 1, n, s, c, r, hS, h1, h2 => by
    obtain ⟨m, rfl⟩ : ∃ m, n = m + 1 := ⟨n - 1, by omega⟩
    have hd' := hd
    obtain ⟨⟨a1, a2, a3, a4, a5, a6, a7, a8, a9, a10, a11, a12, a13, a14⟩, _, ⟨d1, d2, d3, d4, d5, d6⟩, e⟩ := hd'
    have hm := mul_ub (y := yy) (x := B - (k + 1)) (H := H) (B := B) hy (by omega)
    have hHB := hb_ub (H := H) (B := B) (by omega) (by omega)
    have hm2 := mul_ub (y := T + yy) (x := L + (B - (k + 1))) (H := Ln) (B := Co) (by omega) (by omega)
    have hLC := hb_ub (H := Ln) (B := Co) hz.2 hz.1
    unfold l124_15 l326_32 j124_85
    rw [hS.1 (141 + 2 * w) (by omega), hS.1 98 (by decide), hS.1 (141 + 2 * w + 1) (by omega), hS.2.1 176 (by decide), hS.2.1 173 (by decide), hS.2.1 174 (by decide), i_cl (by omega), a9, a10, a3, a4, a5, a6, h5]
    have eidx : (Int32.ofNat T + Int32.ofNat yy) * Int32.ofNat Co + Int32.ofNat L + Int32.ofNat (B - (k + 1)) = Int32.ofNat ((T + yy) * Co + (L + (B - (k + 1)))) := by
      rw [← Int32.ofNat_add, ← Int32.ofNat_mul, ← Int32.ofNat_add, ← Int32.ofNat_add, Nat.add_assoc]
    have eidx2 : (80 : Int32) * (Int32.ofNat T + Int32.ofNat yy) + Int32.ofNat L + Int32.ofNat (B - (k + 1)) = Int32.ofNat (80 * (T + yy) + (L + (B - (k + 1)))) := by
      rw [show (80 : Int32) = Int32.ofNat 80 from rfl, ← Int32.ofNat_add, ← Int32.ofNat_mul, ← Int32.ofNat_add, ← Int32.ofNat_add, Nat.add_assoc]
    rw [eidx, eidx2, xlg hw, show xl h b (98 + 1) = 1920 from rfl, ← Int32.ofNat_mul, ← Int32.ofNat_add, i_cl (by omega), i_cl (by omega), i_cl (by omega)]
    have gw := g_ix (j := w) (n := 8) hw (by decide)
    rw [i_cl (by omega)] at gw
    refine q_nl (by rw [i_le (by omega) (by omega)]; omega) (q_hr gw (q_nr (by rw [i_le (by omega) (by omega)]; omega) (q_r2 e_ca ?_)))
    have gA : ¬ (Int32.ofNat (yy * B + (B - (k + 1))) < 0 ∨ 1920 ≤ yy * B + (B - (k + 1))) := by
      have := g_ix (j := yy * B + (B - (k + 1))) (n := 1920) (by omega) (by decide)
      rwa [i_cl (by omega)] at this
    have gB : ¬ (Int32.ofNat ((T + yy) * Co + (L + (B - (k + 1)))) < 0 ∨ 1920 ≤ (T + yy) * Co + (L + (B - (k + 1)))) := by
      have := g_ix (j := (T + yy) * Co + (L + (B - (k + 1)))) (n := 1920) (by omega) (by decide)
      rwa [i_cl (by omega)] at this
    have gC : ¬ (Int32.ofNat (80 * (T + yy) + (L + (B - (k + 1)))) < 0 ∨ 1920 ≤ 80 * (T + yy) + (L + (B - (k + 1)))) := by
      have := g_ix (j := 80 * (T + yy) + (L + (B - (k + 1)))) (n := 1920) (by omega) (by decide)
      rwa [i_cl (by omega)] at this
    refine q_hl gA (q_hl gB (q_hr (g_ix (by omega) (by decide)) (q_hr gC (q_wr.mpr ?_))))
    rw [i_cl (by omega), hS.2.1 181 (by decide), e yy (B - (k + 1)) hy (by omega), on_s, show B - (k + 1) + 1 = B - k by omega]
    have hcell : c (98 + 1) ((T + yy) * Co + (L + (B - (k + 1)))) = r 170 (80 * (T + yy) + (L + (B - (k + 1)))) := hS.2.2 (T + yy) (L + (B - (k + 1))) (by omega) (by omega)
    rw [hcell]
    by_cases zz : r 170 (80 * (T + yy) + (L + (B - (k + 1)))) = r0 181 (1920 * w + 80 * yy + (B - (k + 1)))
    · refine q_pl zz ?_
      rw [if_pos zz, ← zz, Int32.add_zero]
      exact d_sh1 hw hd hz h5 hT hL hy k m (SR_r hS (by omega) (by omega) hz.1) (by omega) (by omega)
    · refine q_nl zz (q_wl.mpr ?_)
      rw [if_neg zz]
      exact d_sh1 hw hd hz h5 hT hL hy k m (SR_u hS (by omega) (by omega) hz.1) (by omega) (by omega)
theorem d_sh2 (hN : 100000 ≤ N) (hw : w < 8) (hd : Wd w T L H B Y X c0 r0) (hz : Co ≤ 80 ∧ Ln ≤ 24) (h5 : c0 98 5 = Int32.ofNat Co) (hT : T + H ≤ Ln) (hL : L + B ≤ Co) : ∀ (k n : Nat) {s : Int32} {c r : xA}, SR c0 r0 Ln Co c r → k ≤ H → k < n → Q2 (l124_4 N h b (141 + 2 * w) 98 n s (Int32.ofNat (H - k)) c) (l326_19 N h b (Int32.ofNat w) n s (Int32.ofNat (H - k)) r) (fun p q => p.2.1 = q.2.1 ∧ SR c0 r0 Ln Co p.2.2 q.2.2)
  | 0, n, s, c, r, hS, h1, h2 => by
    obtain ⟨m, rfl⟩ : ∃ m, n = m + 1 := ⟨n - 1, by omega⟩
    unfold l124_4 l326_19
    have e1 : c (141 + 2 * w) = c0 (141 + 2 * w) := hS.1 _ (by omega)
    have e2 : r 175 = r0 175 := hS.2.1 _ (by decide)
    refine q_pl (by rw [e1, hd.1.2.2.2.2.2.2.1]; exact Int32.le_refl _) (q_hr (g_ix hw (by decide)) (q_pr (by rw [i_cl (by omega), e2, hd.1.2.2.2.2.2.2.2.1]; exact Int32.le_refl _) (q_some.mpr ⟨rfl, hS⟩)))
  | k + 1, n, s, c, r, hS, h1, h2 => by
    obtain ⟨m, rfl⟩ : ∃ m, n = m + 1 := ⟨n - 1, by omega⟩
    have d3 := hd.2.2.1
    unfold l124_4 l326_19
    have e1 : c (141 + 2 * w) = c0 (141 + 2 * w) := hS.1 _ (by omega)
    have e2 : r 175 = r0 175 := hS.2.1 _ (by decide)
    refine q_nl (by rw [e1, hd.1.2.2.2.2.2.2.1, i_le (by omega) (by omega)]; omega) (q_hr (g_ix hw (by decide)) (q_nr (by rw [i_cl (by omega), e2, hd.1.2.2.2.2.2.2.2.1, i_le (by omega) (by omega)]; omega) ?_))
    have d1 := d_sh1 (N := N) (h := h) (b := b) (yy := H - (k + 1)) (s := s) hw hd hz h5 hT hL (by omega) B N hS (Nat.le_refl _) (by omega)
    rw [Nat.sub_self] at d1
    refine q_bb d1 (fun p q hh => ?_)
    rw [on_s, show H - (k + 1) + 1 = H - k by omega, ← hh.1]
    exact d_sh2 hN hw hd hz h5 hT hL k m hh.2 (by omega) (by omega)
theorem t_show (hN : 100000 ≤ N) (hW : RW c r) (hP : RP c r) : Q2 (f123_show N h b x c) (f326_show N h b x r) (fun p q => p.1 = q.1 ∧ ((p.2 = c ∧ q.2 = xU r 157 0 0) ∨ ∃ c1 r1 Ln Co Y X, SR c (xU r 157 0 0) Ln Co c1 r1 ∧ Y < Ln ∧ X < Co ∧ c 98 4 = Int32.ofNat Ln ∧ c 98 5 = Int32.ofNat Co ∧ Ln ≤ 24 ∧ Co ≤ 80 ∧ p.2 = xU (xU c1 98 6 (Int32.ofNat Y)) 98 7 (Int32.ofNat X) ∧ q.2 = xU (xU r1 157 30 (Int32.ofNat Y)) 157 31 (Int32.ofNat X))) := by
  unfold f123_show f326_show
  refine q_wr.mpr ?_
  rcases w_case2 hW x with ⟨q1, q2⟩ | ⟨w, T, L, H, B, Y, X, hw, rfl, hd, hty, hT, hL⟩
  · exact q_l2 (e_own q1) (q_pl rfl (q_r2 (e_isn q2) (q_pr rfl (q_some.mpr ⟨rfl, Or.inl ⟨rfl, rfl⟩⟩))))
  · rcases hP with q | ⟨e, Ln, Co, q1, q2, q3, q4, q5⟩
    · exact absurd q.1 hty
    obtain ⟨b1, b2, b3, b4, b5, b6⟩ := q1
    obtain ⟨m1, m2, m3, m4⟩ := q2
    rw [m1, i_cl (by omega)] at hT
    rw [m2, i_cl (by omega)] at hL
    have hd' := Wd_r (i := 0) (v := 0) hd
    have hd2 := hd'
    obtain ⟨⟨a1, a2, a3, a4, a5, a6, a7, a8, a9, a10, a11, a12, a13, a14⟩, _, ⟨d1, d2, d3, d4, d5, d6⟩, e⟩ := hd'
    refine q_l2 (e_ow hw a1) (q_nl (ow_ne hw) (q_r2 (e_is hw a2) (q_nr (by decide) ?_)))
    unfold f124_copyTo
    rw [i_cl (by omega), b2_g, b2_g, b2_b]
    refine q_hl (xkw hw) (q_hl (xkw hw) (q_hl rfl ?_))
    have d2 := d_sh2 (N := N) (h := h) (b := b) (s := 0) (c0 := c) (r0 := xU r 157 0 0) (Ln := Ln) (Co := Co) hN hw hd2 ⟨b5, b3⟩ m2 hT hL H N (c := c) (r := xU r 157 0 0) ⟨fun _ _ => rfl, fun _ _ => rfl, m4⟩ (Nat.le_refl _) (by omega)
    rw [Nat.sub_self] at d2
    refine q_bb d2 (fun p q hh => ?_)
    obtain ⟨t1, t2⟩ := hh
    rw [b2_w]
    refine q_wl.mpr ?_
    rw [b2_w]
    refine q_wl.mpr (q_hr (g_ix hw (by decide)) (q_wr.mpr (q_wr.mpr ?_)))
    rw [b2_some, i_cl (by omega), t2.1 (141 + 2 * w) (by omega), t2.2.1 173 (by decide), t2.2.1 177 (by decide), a3, a4, a11, a12, xU_o (show 141 + 2 * w ≠ 98 by omega), t2.1 (141 + 2 * w) (by omega), xU_o (show (174 : Nat) ≠ 157 by decide), xU_o (show (178 : Nat) ≠ 157 by decide), t2.2.1 174 (by decide), t2.2.1 178 (by decide), a5, a6, a13, a14, ← Int32.ofNat_add, ← Int32.ofNat_add, t1]
    exact q_some.mpr ⟨rfl, Or.inr ⟨p.2.2, q.2.2, Ln, Co, T + Y, L + X, t2, by omega, by omega, m1, m2, b3, b5, rfl, rfl⟩⟩
end W
