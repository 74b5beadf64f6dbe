/-! say, erase, look, where, close, at, dress, scrolls. -/
section W
variable {N h b : Nat} {c0 r0 c r : xA} {x y z : Int32} {w T L H B Y X : Nat}
theorem Wf_c0 {p i : Nat} {v : Int32} (hf : Wf w c0 r0 c r) (hw : w < 8) (hp : p = 0) : Wf w (xU c0 p i v) r0 (xU c p i v) r := by
  obtain ⟨f1, f2, f3, f4, f5, f6, f7⟩ := hf
  subst hp
  refine ⟨fun p1 h1 h2 h3 => ?_, fun i1 h1 => ?_, f3, f4, f5, f6, ?_⟩
  · funext j
    rw [xU_eq, xU_eq, f1 p1 h1 h2 h3]
  · rw [xU_o (by decide), xU_o (by decide)]; exact f2 i1 h1
  · rw [xU_o (by decide)]; exact f7
theorem Wd_c0 {p i : Nat} {v : Int32} (hd : Wd w T L H B Y X c r) (hp : p = 0) : Wd w T L H B Y X (xU c p i v) r := by
  subst hp
  unfold Wd at *
  have e1 : xU c 0 i v (141 + 2 * w) = c (141 + 2 * w) := xU_o (by omega)
  have e2 : xU c 0 i v (141 + 2 * w + 1) = c (141 + 2 * w + 1) := xU_o (by omega)
  rw [e1, e2]
  exact hd
theorem t_say (hN : 100000 ≤ N) (ht : Rt c r) (hW : RW c r) (hb : ¬ c 0 14 = -1 → c 97 12 = r 157 36) : Q2 (f103_say N h b x c) (f312_say N h b x r) (fun p q => p.1 = q.1 ∧ ((p.2 = xU c 0 1 0 ∧ q.2 = xU (xU r 157 0 0) 157 2 0) ∨ ∃ w T L H B, WB T L H B c ∧ WD w T L H B (xU c 0 1 0) (xU (xU r 157 0 0) 157 2 0) p.2 q.2)) := by
  unfold f103_say f312_say j103_19
  obtain ⟨k1, k2, k3, k4⟩ := ht
  refine q_wr.mpr (q_wr.mpr ?_)
  rcases w_case hW x with ⟨q1, q2⟩ | ⟨w, T, L, H, B, Y, X, hw, rfl, hd, hty, hB⟩
  · exact q_l2 (e_own q1) (q_pl rfl (q_r2 (e_isn q2) (q_pr rfl (q_wl.mpr (q_some.mpr ⟨rfl, Or.inl ⟨rfl, rfl⟩⟩)))))
  · have hd' : Wd w T L H B Y X c (xU (xU r 157 0 0) 157 2 0) := hd
    have hd2 := hd'
    obtain ⟨⟨a1, a2, a3, a4, a5, a6, a7, a8, a9, a10, a11, a12, a13, a14⟩, _, ⟨d1, d2, d3, d4, d5, d6⟩, e⟩ := hd'
    have hf : Wf w c (xU (xU r 157 0 0) 157 2 0) c (xU (xU r 157 0 0) 157 2 0) := Wf_rfl (hb hty)
    refine q_l2 (e_ow hw a1) (q_nl (ow_ne hw) ?_)
    unfold f104_sayTape
    rw [i_cl (by omega), b2_g, b2_b]
    refine q_hl (xkw hw) (q_r2 (e_is hw a2) (q_nr (by decide) ?_))
    obtain ⟨M, hM, eM, fM⟩ := i_nat k2
    have lM := cl_le (n := 3000) k3 rfl
    have e2 : xU r 157 0 0 157 2 = Int32.ofNat M := by rw [xU_s (by decide), ← k1, eM]
    rw [e2]
    have ds := d_say (N := N) (h := h) (b := b) (w := w) (T := T) (L := L) (H := H) (B := B) (c0 := c) (r0 := xU (xU r 157 0 0) 157 2 0) (M := M) hN (by omega) eM k4 M N (c := c) ⟨hw, hf, Y, X, hd2⟩ (Nat.le_refl _) (by omega)
    rw [Nat.sub_self] at ds
    refine q_bb ds (fun p q hh => ?_)
    obtain ⟨t1, t2, t3⟩ := hh
    obtain ⟨_, hf3, Y3, X3, hd3⟩ := t3
    have fin : ∀ v : Int32, Q2 (xb2 (some (v, p.2.2)) (fun r13 a14 => xw (xU a14 0 1 0) (fun a7 => some (r13, a7)))) (some (v, q.2.2)) (fun p q => p.1 = q.1 ∧ ((p.2 = xU c 0 1 0 ∧ q.2 = xU (xU r 157 0 0) 157 2 0) ∨ ∃ w T L H B, WB T L H B c ∧ WD w T L H B (xU c 0 1 0) (xU (xU r 157 0 0) 157 2 0) p.2 q.2)) := by
      intro v
      exact q_l2 rfl (q_wl.mpr (q_some.mpr ⟨rfl, Or.inr ⟨w, T, L, H, B, hB, hw, Wf_c0 hf3 hw rfl, Y3, X3, Wd_c0 hd3 rfl⟩⟩))
    have e0 : p.2.2 0 = c 0 := hf3.1 0 (by omega) (by omega) (by decide)
    rw [← t1, ← t2, e0, eM, b2_i, b2_i]
    exact q_il.mpr ⟨fun z => q_pr z (fin _), fun z => q_nr z (q_il.mpr ⟨fun z => q_pr z (fin _), fun z => q_nr z (fin _)⟩)⟩
theorem t_close (hW : RW c r) : Q2 (f97_close N h b x c) (f307_close N h b x r) (fun p q => p.1 = q.1 ∧ ((p.2 = c ∧ q.2 = xU r 157 0 0) ∨ ∃ w, w < 8 ∧ p.2 = xU c (141 + 2 * w) 1 0 ∧ q.2 = xU (xU r 157 0 0) 172 w 0)) := by
  unfold f97_close f307_close
  refine q_wr.mpr ?_
  rcases w_case hW x with ⟨q1, q2⟩ | ⟨w, T, L, H, B, Y, X, hw, rfl, hd, hty, hB⟩
  · exact q_l2 (e_own q1) (q_pl rfl (q_r2 (e_isn q2) (q_pr rfl (q_some.mpr ⟨rfl, Or.inl ⟨rfl, rfl⟩⟩))))
  · refine q_l2 (e_ow hw hd.1.1) (q_nl (ow_ne hw) (q_r2 (e_is hw hd.1.2.1) (q_nr (by decide) ?_)))
    rw [i_cl (by omega)]
    refine q_hl (xkw hw) (q_hr (g_ix hw (by decide)) (q_wl.mpr (q_wr.mpr ?_)))
    rw [i_cl (by omega)]
    exact q_some.mpr ⟨rfl, Or.inr ⟨w, hw, rfl, rfl⟩⟩
theorem e_hc {o : Nat} {a : xA} (hk : xk o = 10) : f100_hasCell N h b o x y a = some (zb (0 ≤ x ∧ x < a o 4 ∧ 0 ≤ y ∧ y < a o 5), a) := by
  unfold f100_hasCell
  simp only [zi10, zi01, zg]
  rw [xg_pos hk]
  by_cases z1 : x < 0
  · rw [if_pos z1, zb_f (fun q => absurd z1 (Int32.not_lt.mpr q.1))]
  · rw [if_neg z1]
    by_cases z2 : a o 4 ≤ x
    · rw [if_pos z2, zb_f (fun q => absurd z2 (Int32.not_le.mpr q.2.1))]
    · rw [if_neg z2]
      by_cases z3 : y < 0
      · rw [if_pos z3, zb_f (fun q => absurd z3 (Int32.not_lt.mpr q.2.2.1))]
      · rw [if_neg z3]
        have e : (¬ a o 5 ≤ y) = (0 ≤ x ∧ x < a o 4 ∧ 0 ≤ y ∧ y < a o 5) := propext ⟨fun q => ⟨Int32.not_lt.mp z1, Int32.not_le.mp z2, Int32.not_lt.mp z3, Int32.not_le.mp q⟩, fun q => Int32.not_le.mpr q.2.2.2⟩
        rw [e]
theorem t_at (hW : RW c r) (hb : ¬ c 0 14 = -1 → c 97 12 = r 157 36) : Q2 (f99_at N h b x y z c) (f309_at N h b x y z r) (fun p q => p.1 = q.1 ∧ Wp c r p.2 q.2) := by
  unfold f99_at f309_at
  refine q_wr.mpr ?_
  rcases w_case hW x with ⟨q1, q2⟩ | ⟨w, T, L, H, B, Y, X, hw, rfl, hd, hty, hB⟩
  · exact q_l2 (e_own q1) (q_pl rfl (q_r2 (e_isn q2) (q_pr rfl (q_some.mpr ⟨rfl, Or.inl ⟨rfl, rfl⟩⟩))))
  · have hd' := Wd_r (i := 0) (v := 0) hd
    have hd2 := hd'
    obtain ⟨⟨a1, a2, a3, a4, a5, a6, a7, a8, a9, a10, a11, a12, a13, a14⟩, _, ⟨d1, d2, d3, d4, d5, d6⟩, e⟩ := hd'
    have hf : Wf w c (xU r 157 0 0) c (xU r 157 0 0) := Wf_rfl (hb hty)
    refine q_l2 (e_ow hw a1) (q_nl (ow_ne hw) (q_r2 (e_is hw a2) (q_nr (by decide) ?_)))
    rw [i_cl (by omega)]
    refine q_hl (xkw hw) (q_l2 (e_hc (xkw hw)) ?_)
    rw [a7, a9]
    have no : Q2 (some ((0 : Int32), c)) (some ((0 : Int32), xU r 157 0 0)) (fun p q => p.1 = q.1 ∧ Wp c r p.2 q.2) := q_some.mpr ⟨rfl, Or.inl ⟨rfl, rfl⟩⟩
    by_cases q1 : y < 0
    · exact q_pr q1 (q_pl (zb_f (fun q => absurd q1 (Int32.not_lt.mpr q.1))) no)
    · refine q_nr q1 ?_
      by_cases q2 : z < 0
      · exact q_pr q2 (q_pl (zb_f (fun q => absurd q2 (Int32.not_lt.mpr q.2.2.1))) no)
      · refine q_nr q2 (q_hr (g_ix hw (by decide)) ?_)
        rw [i_cl (by omega), a8, a10]
        by_cases q3 : Int32.ofNat H ≤ y
        · exact q_pr q3 (q_pl (zb_f (fun q => absurd q3 (Int32.not_le.mpr q.2.1))) no)
        · refine q_nr q3 ?_
          by_cases q4 : z < Int32.ofNat B
          · refine q_pr q4 (q_nl (by rw [zb_0]; exact fun q => q ⟨Int32.not_lt.mp q1, Int32.not_le.mp q3, Int32.not_lt.mp q2, q4⟩) (q_wl.mpr (q_wl.mpr (q_wr.mpr (q_wr.mpr ?_)))))
            have ly := cl_ltn (n := H) (Int32.not_lt.mp q1) (Int32.not_le.mp q3) (i_cl (by omega))
            have lz := cl_ltn (n := B) (Int32.not_lt.mp q2) q4 (i_cl (by omega))
            rw [← i_ofn (Int32.not_lt.mp q1), ← i_ofn (Int32.not_lt.mp q2)]
            exact q_some.mpr ⟨rfl, Or.inr ⟨w, T, L, H, B, hB, hw, Wf_u (Wf_u hf (by omega) (by omega)) (by omega) (by omega), _, _, Wd_X (Wd_Y hd2 ly) lz⟩⟩
          · exact q_nr q4 (q_pl (zb_f (fun q => q4 q.2.2.2)) no)
theorem Wd_8 {v : Int32} (hd : Wd w T L H B Y X c r) : Wd w T L H B Y X (xU c (141 + 2 * w) 8 v) (xU r 179 w v) := by
  obtain ⟨⟨a1, a2, a3, a4, a5, a6, a7, a8, a9, a10, a11, a12, a13, a14⟩, ⟨b1, b2, b3⟩, d, e⟩ := hd
  unfold Wd
  simp only [xU_eq]
  refine ⟨⟨?_, ?_, ?_, ?_, ?_, ?_, ?_, ?_, ?_, ?_, ?_, ?_, ?_, ?_⟩, ⟨?_, ?_, ?_⟩, d, ?_⟩
  all_goals simp <;> assumption
theorem Wd_9 {v : Int32} (hd : Wd w T L H B Y X c r) (hv : v = 0 ∨ v = 1) : Wd w T L H B Y X (xU c (141 + 2 * w) 9 v) (xU r 180 w v) := by
  obtain ⟨⟨a1, a2, a3, a4, a5, a6, a7, a8, a9, a10, a11, a12, a13, a14⟩, ⟨b1, b2, b3⟩, d, e⟩ := hd
  unfold Wd
  simp only [xU_eq]
  refine ⟨⟨?_, ?_, ?_, ?_, ?_, ?_, ?_, ?_, ?_, ?_, ?_, ?_, ?_, ?_⟩, ⟨?_, ?_, ?_⟩, d, ?_⟩
  all_goals simp <;> assumption
theorem t_dress (hW : RW c r) (hb : ¬ c 0 14 = -1 → c 97 12 = r 157 36) : Q2 (f101_dress N h b x y c) (f310_dress N h b x y r) (fun p q => p.1 = q.1 ∧ Wp c r p.2 q.2) := by
  unfold f101_dress f310_dress
  refine q_wr.mpr ?_
  rcases w_case hW x with ⟨q1, q2⟩ | ⟨w, T, L, H, B, Y, X, hw, rfl, hd, hty, hB⟩
  · exact q_l2 (e_own q1) (q_pl rfl (q_r2 (e_isn q2) (q_pr rfl (q_some.mpr ⟨rfl, Or.inl ⟨rfl, rfl⟩⟩))))
  · have hf : Wf w c (xU r 157 0 0) c (xU r 157 0 0) := Wf_rfl (hb hty)
    refine q_l2 (e_ow hw hd.1.1) (q_nl (ow_ne hw) (q_r2 (e_is hw hd.1.2.1) (q_nr (by decide) ?_)))
    rw [i_cl (by omega)]
    refine q_il.mpr ⟨fun z => q_pr z (q_some.mpr ⟨rfl, Or.inl ⟨rfl, rfl⟩⟩), fun z => q_nr z ?_⟩
    refine q_il.mpr ⟨fun z => q_pr z ?_, fun z => q_nr z (q_some.mpr ⟨rfl, Or.inl ⟨rfl, rfl⟩⟩)⟩
    refine q_hl (xkw hw) (q_hr (g_ix hw (by decide)) (q_wl.mpr (q_wr.mpr ?_)))
    rw [i_cl (by omega)]
    exact q_some.mpr ⟨rfl, Or.inr ⟨w, T, L, H, B, hB, hw, Wf_u hf (by omega) (by omega), Y, X, Wd_8 (Wd_r hd)⟩⟩
theorem narz {v : Int32} (hv : v = 0 ∨ v = 1) : vp_nar .boolean v = v := by rcases hv with q | q <;> (rw [q]; rfl)
theorem t_scrolls (hW : RW c r) (hb : ¬ c 0 14 = -1 → c 97 12 = r 157 36) (hy : y = 0 ∨ y = 1) : Q2 (f102_scrolls N h b x y c) (f311_scrolls N h b x y r) (fun p q => p.1 = q.1 ∧ Wp c r p.2 q.2) := by
  unfold f102_scrolls f311_scrolls
  refine q_wr.mpr ?_
  rcases w_case hW x with ⟨q1, q2⟩ | ⟨w, T, L, H, B, Y, X, hw, rfl, hd, hty, hB⟩
  · exact q_l2 (e_own q1) (q_pl rfl (q_r2 (e_isn q2) (q_pr rfl (q_some.mpr ⟨rfl, Or.inl ⟨rfl, rfl⟩⟩))))
  · have hf : Wf w c (xU r 157 0 0) c (xU r 157 0 0) := Wf_rfl (hb hty)
    refine q_l2 (e_ow hw hd.1.1) (q_nl (ow_ne hw) (q_r2 (e_is hw hd.1.2.1) (q_nr (by decide) ?_)))
    rw [i_cl (by omega), narz hy]
    refine q_hl (xkw hw) (q_hl hy (q_hr (g_ix hw (by decide)) (q_wl.mpr (q_wr.mpr ?_))))
    rw [i_cl (by omega)]
    exact q_some.mpr ⟨rfl, Or.inr ⟨w, T, L, H, B, hB, hw, Wf_u hf (by omega) (by omega), Y, X, Wd_9 (Wd_r hd) hy⟩⟩
theorem t_where (hW : RW c r) : Q2 (f121_where N h b x y c) (f325_where N h b x y r) (fun p q => p.1 = q.1 ∧ p.2 = c ∧ q.2 = xU r 157 0 0) := by
  unfold f121_where f325_where
  refine q_wr.mpr ?_
  rcases w_case hW x with ⟨q1, q2⟩ | ⟨w, T, L, H, B, Y, X, hw, rfl, hd, hty, hB⟩
  · exact q_l2 (e_own q1) (q_pl rfl (q_r2 (e_isn q2) (q_pr rfl (q_some.mpr ⟨rfl, rfl, rfl⟩))))
  · have hd' := Wd_r (i := 0) (v := 0) hd
    obtain ⟨⟨a1, a2, a3, a4, a5, a6, a7, a8, a9, a10, a11, a12, a13, a14⟩, ⟨b1, b2, b3⟩, _, e⟩ := hd'
    refine q_l2 (e_ow hw a1) (q_nl (ow_ne hw) (q_r2 (e_is hw a2) (q_nr (by decide) ?_)))
    rw [i_cl (by omega)]
    refine q_hl (xkw hw) ?_
    unfold f122_tell
    have gx := g_ix (j := w) (n := 8) hw (by decide)
    rw [b2_g]
    refine q_hl (xkw hw) ?_
    rw [xg_pos gx, xg_pos gx, xg_pos gx, xg_pos gx, xg_pos gx, xg_pos gx, xg_pos gx, xg_pos gx, i_cl (by omega), a3, a4, a5, a6, a7, a8, a9, a10, a11, a12, a13, a14, b1, b2]
    simp only [b2_i, b2_some]
    refine q_il.mpr ⟨fun z => q_pr z (q_some.mpr ⟨rfl, rfl, rfl⟩), fun z => q_nr z ?_⟩
    refine q_il.mpr ⟨fun z => q_pr z (q_some.mpr ⟨rfl, rfl, rfl⟩), fun z => q_nr z ?_⟩
    refine q_il.mpr ⟨fun z => q_pr z (q_some.mpr ⟨rfl, rfl, rfl⟩), fun z => q_nr z ?_⟩
    refine q_il.mpr ⟨fun z => q_pr z (q_some.mpr ⟨rfl, rfl, rfl⟩), fun z => q_nr z ?_⟩
    refine q_il.mpr ⟨fun z => q_pr z (q_some.mpr ⟨rfl, rfl, rfl⟩), fun z => q_nr z ?_⟩
    refine q_il.mpr ⟨fun z => q_pr z (q_some.mpr ⟨rfl, rfl, rfl⟩), fun z => q_nr z ?_⟩
    refine q_il.mpr ⟨fun z => q_pr z (q_some.mpr ⟨rfl, rfl, rfl⟩), fun z => q_nr z ?_⟩
    exact q_il.mpr ⟨fun z => q_pr z (q_some.mpr ⟨rfl, rfl, rfl⟩), fun z => q_nr z (q_some.mpr ⟨rfl, rfl, rfl⟩)⟩
theorem t_look (hW : RW c r) : Q2 (f119_look N h b x y z c) (f324_look N h b x y z r) (fun p q => p.1 = q.1 ∧ p.2 = c ∧ q.2 = xU r 157 0 0) := by
  unfold f119_look f324_look j324_41
  refine q_wr.mpr ?_
  rcases w_case hW x with ⟨q1, q2⟩ | ⟨w, T, L, H, B, Y, X, hw, rfl, hd, hty, hB⟩
  · exact q_l2 (e_own q1) (q_pl rfl (q_r2 (e_isn q2) (q_pr rfl (q_some.mpr ⟨rfl, rfl, rfl⟩))))
  · have hd' := Wd_r (i := 0) (v := 0) hd
    obtain ⟨⟨a1, a2, a3, a4, a5, a6, a7, a8, a9, a10, a11, a12, a13, a14⟩, _, ⟨d1, d2, d3, d4, d5, d6⟩, e⟩ := hd'
    refine q_l2 (e_ow hw a1) (q_nl (ow_ne hw) (q_r2 (e_is hw a2) (q_nr (by decide) ?_)))
    rw [i_cl (by omega)]
    unfold f120_cell
    rw [b2_g, b2_2]
    refine q_hl (xkw hw) (q_hl (xkw hw) (q_l2 (e_hc (xkw hw)) ?_))
    rw [a7, a9, b2_i, b2_some, xlg hw, b2_g, b2_some]
    have no : Q2 (some ((-1 : Int32), c)) (some ((-1 : Int32), xU r 157 0 0)) (fun p q => p.1 = q.1 ∧ p.2 = c ∧ q.2 = xU r 157 0 0) := q_some.mpr ⟨rfl, rfl, rfl⟩
    by_cases q1 : y < 0
    · exact q_pr q1 (q_pl (zb_f (fun q => absurd q1 (Int32.not_lt.mpr q.1))) no)
    · refine q_nr q1 ?_
      by_cases q2 : z < 0
      · exact q_pr q2 (q_pl (zb_f (fun q => absurd q2 (Int32.not_lt.mpr q.2.2.1))) no)
      · refine q_nr q2 (q_hr (g_ix hw (by decide)) ?_)
        rw [i_cl (by omega), a8, a10]
        by_cases q3 : Int32.ofNat H ≤ y
        · exact q_pr q3 (q_pl (zb_f (fun q => absurd q3 (Int32.not_le.mpr q.2.1))) no)
        · refine q_nr q3 ?_
          by_cases q4 : z < Int32.ofNat B
          · refine q_pr q4 (q_nl (by rw [zb_0]; exact fun q => q ⟨Int32.not_lt.mp q1, Int32.not_le.mp q3, Int32.not_lt.mp q2, q4⟩) ?_)
            have ly := cl_ltn (n := H) (Int32.not_lt.mp q1) (Int32.not_le.mp q3) (i_cl (by omega))
            have lz := cl_ltn (n := B) (Int32.not_lt.mp q2) q4 (i_cl (by omega))
            have hm := mul_ub ly lz
            have hHB := hb_ub (H := H) (B := B) (by omega) (by omega)
            have ee := e _ _ ly lz
            rw [← i_ofn (Int32.not_lt.mp q1), ← i_ofn (Int32.not_lt.mp q2), ← Int32.ofNat_mul, ← Int32.ofNat_add]
            refine q_hl (g_ix (by omega) (by decide)) (q_r2 e_ca (q_hr (g_ix (by omega) (by decide)) ?_))
            rw [i_cl (by omega), i_cl (by omega)]
            exact q_some.mpr ⟨ee, rfl, rfl⟩
          · exact q_nr q4 (q_pl (zb_f (fun q => q4 q.2.2.2)) no)
end W
