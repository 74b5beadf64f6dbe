/-! box. -/
section W
variable {N h b : Nat} {c0 r0 c r : xA} {x y z : Int32} {w T L H B Y X : Nat}
def bE (H B y x : Nat) : Prop := y = 0 ∨ y + 1 = H ∨ x = 0 ∨ x + 1 = B
def bS (H B y x : Nat) : Int32 := if ¬ (x = 0 ∨ x + 1 = B) then 45 else if ¬ (y = 0 ∨ y + 1 = H) then 124 else 43
theorem z_eq {j : Nat} (hj : j < 2 ^ 31) : (Int32.ofNat j = 0) = (j = 0) := by
  rw [show (0 : Int32) = Int32.ofNat 0 from rfl, i_eq hj (by decide)]
theorem l_eq {j k : Nat} (hj : j < 2 ^ 31) (hk : k < 2 ^ 31) (h1 : 1 ≤ k) : (Int32.ofNat j = Int32.ofNat k - 1) = (j + 1 = k) := by
  rw [on_p h1, i_eq hj (by omega)]
  exact propext ⟨fun q => by omega, fun q => by omega⟩
theorem o10 {p : Prop} {d : Decidable p} : ((@ite Int32 p d (1 : Int32) (0 : Int32)) = 0) = ¬ p := by rw [zi10, zb_0]
theorem e_bx1 {yy xx n : Nat} (hw : w < 8) (hd : Wd w T L H B Y X c r) (hy : yy < H) (hx : xx < B) : l118_12 N h b (141 + 2 * w) (Int32.ofNat yy) (n + 1) (Int32.ofNat xx) c = l118_12 N h b (141 + 2 * w) (Int32.ofNat yy) n (Int32.ofNat (xx + 1)) (@ite xA (bE H B yy xx) (Classical.propDecidable _) (xU c (141 + 2 * w + 1) (yy * B + xx) (bS H B yy xx + 256 * c (141 + 2 * w) 8)) c) := by
  obtain ⟨⟨a1, a2, a3, a4, a5, a6, a7, a8, a9, a10, a11, a12, a13, a14⟩, _, ⟨d1, d2, d3, d4, d5, d6⟩, e⟩ := hd
  have hm := mul_ub hy hx
  have hHB := hb_ub (H := H) (B := B) (by omega) (by omega)
  have gi := g_ix (j := yy * B + xx) (n := 1920) (by omega) (by decide)
  rw [i_cl (by omega)] at gi
  rw [l118_12]
  unfold j118_34 j118_39 j118_54 j118_59 j118_70 j118_117 xw
  simp only [a7, a9, z_eq (show yy < 2 ^ 31 by omega), z_eq (show xx < 2 ^ 31 by omega), l_eq (show yy < 2 ^ 31 by omega) (show H < 2 ^ 31 by omega) d1, l_eq (show xx < 2 ^ 31 by omega) (show B < 2 ^ 31 by omega) d3, o10, xlg hw, ← Int32.ofNat_mul, ← Int32.ofNat_add, xg_d gi, i_cl (show yy * B + xx < 2 ^ 31 by omega), on_s]
  rw [if_neg (by rw [i_le (by omega) (by omega)]; omega)]
  unfold bS
  by_cases y0 : yy = 0 <;> by_cases y1 : yy + 1 = H <;> by_cases x0 : xx = 0 <;> by_cases x1 : xx + 1 = B
  all_goals (have hE : bE H B yy xx ∨ ¬ bE H B yy xx := Classical.em _; rcases hE with hE | hE <;> (have hE' := hE; unfold bE at hE'; simp [hE, y0, y1, x0, x1] at hE' ⊢))
  all_goals first | rw [if_pos hE] | rw [if_neg hE]
theorem e_bx2 {yy xx n : Nat} (hw : w < 8) (hd : Wd w T L H B Y X c r) (hy : yy < H) (hx : xx < B) : l323_48 N h b (Int32.ofNat w) (Int32.ofNat H - 1) (Int32.ofNat B - 1) (Int32.ofNat yy) (n + 1) (Int32.ofNat xx) r = l323_48 N h b (Int32.ofNat w) (Int32.ofNat H - 1) (Int32.ofNat B - 1) (Int32.ofNat yy) n (Int32.ofNat (xx + 1)) (@ite xA (bE H B yy xx) (Classical.propDecidable _) (xU r 181 (1920 * w + 80 * yy + xx) (bS H B yy xx + 256 * r 179 w)) r) := by
  obtain ⟨⟨a1, a2, a3, a4, a5, a6, a7, a8, a9, a10, a11, a12, a13, a14⟩, _, ⟨d1, d2, d3, d4, d5, d6⟩, e⟩ := hd
  have gi := g_ix (j := 1920 * w + 80 * yy + xx) (n := 15360) (by omega) (by decide)
  have gw := g_ix (j := w) (n := 8) hw (by decide)
  rw [i_cl (by omega)] at gi gw
  rw [l323_48]
  unfold j323_66 j323_71 j323_85 j323_90 j323_102 j323_130 j323_154
  simp only [e_ca, b2_some, xw, z_eq (show yy < 2 ^ 31 by omega), z_eq (show xx < 2 ^ 31 by omega), l_eq (show yy < 2 ^ 31 by omega) (show H < 2 ^ 31 by omega) d1, l_eq (show xx < 2 ^ 31 by omega) (show B < 2 ^ 31 by omega) d3, o10, xg_d gi, xg_d gw, i_cl (show 1920 * w + 80 * yy + xx < 2 ^ 31 by omega), i_cl (show w < 2 ^ 31 by omega), on_s]
  rw [if_neg (by rw [on_p d3, i_lt (by omega) (by omega)]; omega)]
  unfold bS
  by_cases y0 : yy = 0 <;> by_cases y1 : yy + 1 = H <;> by_cases x0 : xx = 0 <;> by_cases x1 : xx + 1 = B
  all_goals (have hE : bE H B yy xx ∨ ¬ bE H B yy xx := Classical.em _; rcases hE with hE | hE <;> (have hE' := hE; unfold bE at hE'; simp [hE, y0, y1, x0, x1] at hE' ⊢))
  all_goals first | rw [if_pos hE] | rw [if_neg hE]
theorem d_bx1 {yy : Nat} (hy : yy < H) : ∀ (k n : Nat) {c r : xA}, WD w T L H B c0 r0 c r → k ≤ B → k < n → Q2 (l118_12 N h b (141 + 2 * w) (Int32.ofNat yy) n (Int32.ofNat (B - k)) c) (l323_48 N h b (Int32.ofNat w) (Int32.ofNat H - 1) (Int32.ofNat B - 1) (Int32.ofNat yy) n (Int32.ofNat (B - k)) r) (fun p q => WD w T L H B c0 r0 p.2 q.2)
  | 0, n, c, r, hD, h1, h2 => by
    obtain ⟨m, rfl⟩ : ∃ m, n = m + 1 := ⟨n - 1, by omega⟩
    have hD' := hD
    obtain ⟨hw, hf, Y, X, hd⟩ := hD'
    unfold l118_12 l323_48
    refine q_pl (by rw [hd.1.2.2.2.2.2.2.2.2.1]; exact Int32.le_refl _) (q_pr (by rw [on_p hd.2.2.1.2.2.1, i_lt (by have := hd.2.2.1; omega) (by have := hd.2.2.1; omega)]; have := hd.2.2.1; omega) (q_some.mpr hD))
  | k + 1, n, c, r, hD, h1, h2 => by
    obtain ⟨m, rfl⟩ : ∃ m, n = m + 1 := ⟨n - 1, by omega⟩
    obtain ⟨hw, hf, Y, X, hd⟩ := hD
    rw [e_bx1 hw hd hy (by omega), e_bx2 hw hd hy (by omega), show B - (k + 1) + 1 = B - k by omega, ← hd.2.1.1]
    refine d_bx1 hy k m ?_ (by omega) (by omega)
    by_cases z : bE H B yy (B - (k + 1))
    · rw [if_pos z, if_pos z]
      have := hd.2.2.1
      exact ⟨hw, Wf_u hf (by omega) (by omega), Y, X, Wd_c hw hd hy (by omega)⟩
    · rw [if_neg z, if_neg z]
      exact ⟨hw, hf, Y, X, hd⟩
theorem d_bx2 (hN : 100000 ≤ N) : ∀ (k n : Nat) {c r : xA}, WD w T L H B c0 r0 c r → k ≤ H → k < n → Q2 (l118_2 N h b (141 + 2 * w) n (Int32.ofNat (H - k)) c) (l323_39 N h b (Int32.ofNat w) (Int32.ofNat H - 1) (Int32.ofNat B - 1) n (Int32.ofNat (H - k)) r) (fun p q => WD w T L H B c0 r0 p.2 q.2)
  | 0, n, c, r, hD, h1, h2 => by
    obtain ⟨m, rfl⟩ : ∃ m, n = m + 1 := ⟨n - 1, by omega⟩
    have hD' := hD
    obtain ⟨hw, hf, Y, X, hd⟩ := hD'
    unfold l118_2 l323_39
    refine q_pl (by rw [hd.1.2.2.2.2.2.2.1]; exact Int32.le_refl _) (q_pr (by rw [on_p hd.2.2.1.1, i_lt (by have := hd.2.2.1; omega) (by have := hd.2.2.1; omega)]; have := hd.2.2.1; omega) (q_some.mpr hD))
  | k + 1, n, c, r, hD, h1, h2 => by
    obtain ⟨m, rfl⟩ : ∃ m, n = m + 1 := ⟨n - 1, by omega⟩
    have hD' := hD
    obtain ⟨hw, hf, Y, X, hd⟩ := hD'
    have hd3 := hd.2.2.1
    unfold l118_2 l323_39
    refine q_nl (by rw [hd.1.2.2.2.2.2.2.1, i_le (by omega) (by omega)]; omega) (q_nr (by rw [on_p hd.2.2.1.1, i_lt (by omega) (by omega)]; omega) ?_)
    have d1 := d_bx1 (N := N) (h := h) (b := b) (yy := H - (k + 1)) (by omega) B N hD (Nat.le_refl _) (by omega)
    rw [Nat.sub_self] at d1
    refine q_bb d1 (fun p q hh => ?_)
    rw [on_s, show H - (k + 1) + 1 = H - k by omega]
    exact d_bx2 hN k m hh (by omega) (by omega)
theorem t_box (hN : 100000 ≤ N) (hW : RW c r) (hb : ¬ c 0 14 = -1 → c 97 12 = r 157 36) : Q2 (f117_box N h b x c) (f323_box N h b x r) (fun p q => p.1 = q.1 ∧ Wp c r p.2 q.2) := by
  unfold f117_box f323_box
  refine q_wr.mpr ?_
  rcases w_case hW x with ⟨q1, q2⟩ | ⟨w, T, L, H, B, Y, X, hw, rfl, hd, hty, hB⟩
  · exact q_l2 (e_own q1) (q_pl rfl (q_r2 (e_isn q2) (q_pr rfl (q_some.mpr ⟨rfl, Or.inl ⟨rfl, rfl⟩⟩))))
  · have hf : Wf w c (xU r 157 0 0) c (xU r 157 0 0) := Wf_rfl (hb hty)
    have hd' := Wd_r (i := 0) (v := 0) hd
    have hd2 := hd'
    obtain ⟨⟨a1, a2, a3, a4, a5, a6, a7, a8, a9, a10, a11, a12, a13, a14⟩, _, ⟨d1, d2, d3, d4, d5, d6⟩, e⟩ := hd'
    refine q_l2 (e_ow hw a1) (q_nl (ow_ne hw) (q_r2 (e_is hw a2) (q_nr (by decide) ?_)))
    unfold f118_drawEdge
    rw [i_cl (by omega), b1_g, b1_b]
    refine q_hl (xkw hw) (q_hl (xkw hw) (q_hr (g_ix hw (by decide)) ?_))
    rw [i_cl (by omega), a8, a10]
    have d2 := d_bx2 (N := N) (h := h) (b := b) (w := w) (T := T) (L := L) (H := H) (B := B) hN H N ⟨hw, hf, Y, X, hd2⟩ (Nat.le_refl _) (by omega)
    rw [Nat.sub_self] at d2
    exact q_bb d2 (fun p q hh => q_some.mpr ⟨rfl, Or.inr ⟨w, T, L, H, B, hB, hh⟩⟩)
end W
