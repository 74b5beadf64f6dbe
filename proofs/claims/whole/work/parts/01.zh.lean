/-! One tick. -/
section T
variable {α β : Type} {N h b : Nat} {c0 r0 c r c' r' : xA} {x y z s v w t t1 t2 u1 u2 : Int32} {j : Nat}
theorem RD_send (hR : RD c0 r0 c r) (hp : 0 < c 117 2) : ∃ H, f172_takeFirst N h b 117 c = some (r 184 (r 157 55).toNatClampNeg &&& 255, xU (xU c 117 1 H) 117 2 (c 117 2 - 1)) ∧ (r 157 55 + 1) - (r 157 55 + 1) / 8000 * 8000 = H ∧ RD c0 r0 (xU (xU c 117 1 H) 117 2 (c 117 2 - 1)) (xU (xU r 157 55 H) 157 56 (r 157 56 - 1)) ∧ ¬ (r 157 55 < 0 ∨ 8000 ≤ (r 157 55).toNatClampNeg) := by
  obtain ⟨f1, s1, ⟨d1, d2, d3, d4, d5, d6, d7⟩, e1, r1⟩ := hR
  obtain ⟨n, hn, en, fn⟩ := i_nat d3
  have hn2 : n < 8000 := by rw [en, show (8000 : Int32) = Int32.ofNat 8000 from rfl, i_lt hn (by decide)] at d4; exact d4
  have hm := Nat.mod_lt (n + 1) (show 0 < 8000 by decide)
  have hB : RB c 117 8000 (fun i => c 118 (((c 117 1).toNatClampNeg + i) % 8000)) := by
    refine ⟨d3, by rw [fn]; exact hn2, d5, cl_le d6 rfl, fun i hi => rfl⟩
  have e55 : r 157 55 = Int32.ofNat n := by rw [← d1]; exact en
  refine ⟨Int32.ofNat ((n + 1) % 8000), ?_, ?_, ⟨Df_u (Df_u f1 (by decide) (by decide)) (by decide) (by decide), Ds_of s1 rfl (fun i h1 h2 => by rw [xU_s (by omega), xU_s (by omega)]), ?_, De_of e1 rfl rfl (by rw [xU_s (by decide), xU_s (by decide)]) rfl, Dr_of r1 rfl rfl (by rw [xU_s (by decide), xU_s (by decide)]) rfl⟩, by rw [e55]; exact g_ix (by omega) (by decide)⟩
  · rw [e_tf (cap := 8000) rfl rfl (by decide) (by decide) hB hp, fn]
    have : c 118 ((n + 0) % 8000) = r 184 (r 157 55).toNatClampNeg &&& 255 := by
      rw [Nat.add_zero, Nat.mod_eq_of_lt hn2, e55, i_cl (by omega)]
      exact d7 n
    rw [this]
  · rw [e55, on_s, show (8000 : Int32) = Int32.ofNat 8000 from rfl, i_modn (by omega) (by decide)]
  · refine ⟨by simp [xU_eq], by simp [xU_eq, d2], ?_, ?_, ?_, ?_, fun i => d7 i⟩
    · simp only [xU_eq]; exact zf (by omega)
    · simp only [xU_eq]
      show Int32.ofNat ((n + 1) % 8000) < Int32.ofNat 8000
      rw [i_lt (by omega) (by decide)]; exact hm
    · simp [xU_eq]; grind
    · simp [xU_eq]; grind
variable {Q : α → β → Prop}
theorem d_s5 {K : xA → Option β} {rc : Int32 → xA → Option (Nat × Int32 × xA)} {Q : (Nat × Int32 × xA) → β → Prop} (H : LI h b t t c0 r0 c r) (ht : t = r 157 71) (hK : ∀ c' r', LI h b t t c0 r0 c' r' → r' 157 71 = r 157 71 → Q2 (rc v c') (K r') Q) : Q2 (j177_165 N h b rc w v c) (xb1 (j366_221 N h b r) K) Q := by
  obtain ⟨rd, _, _, w1, w2, tm, lf⟩ := id H
  unfold j177_165 j177_198 j366_221
  simp only [b1_i, b1_w, b1_g, b1_some]
  refine q_l2 (e_fre rfl) ?_
  by_cases z : c 127 0 = -1
  · have e74 : r 157 74 = -1 := by
      rcases w1.1 with q | q
      · exact q.2
      · exact absurd z q.1
    refine q_nl (by rw [zb_t z]; decide) (q_pr e74 ?_)
    unfold f247_nextToSend
    simp only [b2_id]
    have e4 : c 116 4 = r 157 62 := rd.2.1.2.1
    have d2 : c 117 2 = r 157 56 := rd.2.2.1.2.1
    rw [e4, ← d2]
    by_cases z1 : r 157 62 = 0
    · rw [if_pos z1]
      refine q_pr z1 ?_
      by_cases z2 : 0 < c 117 2
      · obtain ⟨G, k1, k2, k3, k4⟩ := RD_send (N := N) (h := h) (b := b) rd z2
        refine q_l2 k1 (q_nr (Int32.not_le.mpr z2) (q_hr k4 ?_))
        have hb := byx (r 184 (r 157 55).toNatClampNeg)
        have hn : ¬ r 184 (r 157 55).toNatClampNeg &&& 255 = -1 := fun e => by have := (by_le hb).1; rw [e] at this; exact absurd this (by decide)
        refine q_l1 (e_cry rfl hn) ?_
        have H1 := LI_D H k3
        obtain ⟨m1, m2, m3, m4, m5, m6⟩ := H1.2.2.2.2.2.1
        have ey : (xU (xU c 117 1 G) 117 2 (c 117 2 - 1)) 0 15 + (xU (xU c 117 1 G) 117 2 (c 117 2 - 1)) 0 13 = r 157 71 + r 157 70 := by
          rw [m1, m4]; simp [xU_eq]
        have hy : t < r 157 71 + r 157 70 := by
          simp [xU_eq] at m1 m2 m3 m4 m5 m6
          rw [← m1, ← m4, ht, ← m1]
          grind
        rw [ey]
        have wn := W1_cry (c := xU (xU c 117 1 G) 117 2 (c 117 2 - 1)) (r := xU (xU r 157 55 G) 157 56 (r 157 56 - 1)) (o := 127) (p := 74) (q := 76) (z := 72) hn hb hy H1.2.2.2.1.2.1 (by decide) (by decide) (by decide)
        have H2 := LI_w (u1 := t) (u2 := t) H1 (c' := xU (xU (xU (xU (xU (xU c 117 1 G) 117 2 (c 117 2 - 1)) 127 0 (r 184 (r 157 55).toNatClampNeg &&& 255)) 127 1 (r 157 71 + r 157 70)) 127 2 0) 127 3 ((xU (xU c 117 1 G) 117 2 (c 117 2 - 1)) 127 3 + 1)) (r' := xU (xU (xU (xU (xU r 157 55 G) 157 56 (r 157 56 - 1)) 157 74 (r 184 (r 157 55).toNatClampNeg &&& 255)) 157 76 (r 157 71 + r 157 70)) 157 72 ((xU (xU r 157 55 G) 157 56 (r 157 56 - 1)) 157 72 + 1)) (fun p h1 h2 => by rw [xU_o h1, xU_o h1, xU_o h1, xU_o h1]) (fun p h1 => by rw [xU_o h1, xU_o h1, xU_o h1]) (fun i h1 => by rw [xU_s (by omega), xU_s (by omega), xU_s (by omega)]) wn (W1_of H1.2.2.2.2.1 rfl (by simp [xU_eq]) (by simp [xU_eq]) (by simp [xU_eq]))
        have fin := hK _ _ H2 (by simp [xU_eq])
        have go : ∀ a, a = xU (xU (xU (xU (xU r 157 55 G) 157 56 (r 157 56 - 1)) 157 74 (r 184 (r 157 55).toNatClampNeg &&& 255)) 157 76 (r 157 71 + r 157 70)) 157 72 ((xU (xU r 157 55 G) 157 56 (r 157 56 - 1)) 157 72 + 1) → Q2 (rc v (xU (xU (xU (xU (xU (xU c 117 1 G) 117 2 (c 117 2 - 1)) 127 0 (r 184 (r 157 55).toNatClampNeg &&& 255)) 127 1 (r 157 71 + r 157 70)) 127 2 0) 127 3 ((xU (xU c 117 1 G) 117 2 (c 117 2 - 1)) 127 3 + 1))) (K a) Q := fun a e => by rw [e]; exact fin
        refine go _ ?_
        apply xA_ext
        intro p i
        simp only [xU_eq]
        simp [k2]
        grind
      · refine q_l2 (e_tfn (cap := 8000) (f := fun i => c 118 (((c 117 1).toNatClampNeg + i) % 8000)) rfl rfl (by decide) (by decide) ?_ z2) (q_pr (Int32.not_lt.mp z2) (q_l1 (e_cry0 rfl) (hK c r H rfl)))
        obtain ⟨d1, d2, d3, d4, d5, d6, d7⟩ := rd.2.2.1
        exact ⟨d3, cl_ltn d3 d4 rfl, d5, cl_le d6 rfl, fun i hi => rfl⟩
    · rw [if_neg z1]
      exact q_nr z1 (q_l2 rfl (q_l1 (e_cry0 rfl) (hK c r H rfl)))
  · have e74 : ¬ r 157 74 = -1 := by
      rcases w1.1 with q | q
      · exact absurd q.1 z
      · rw [q.2.2.1]
        split
        · exact z
        · decide
    exact q_pl (zb_f z) (q_nr e74 (hK c r H rfl))
theorem d_s4 {K : xA → Option β} {rc : Int32 → xA → Option (Nat × Int32 × xA)} {Q : (Nat × Int32 × xA) → β → Prop} (hN : 100000 ≤ N) (H : LI h b t t c0 r0 c r) (ht : t = r 157 71) (hK : ∀ c' r', LI h b t t c0 r0 c' r' → r' 157 71 = r 157 71 → Q2 (rc v c') (K r') Q) : Q2 (xb2 (f244_isFree N h b 128 c) (fun r38 a39 => if r38 = 0 then (j177_165 N h b (rc) w v a39) else (xb2 (f245_nextToSend N h b a39) (fun r61 a62 => xb1 (f246_carry N h b 128 r61 ((a62 0 15) + (a62 0 13)) a62) (fun a66 => j177_165 N h b (rc) w v a66))))) (xb1 (j366_209 N h b r) K) Q := by
  obtain ⟨rd, rt, _, w1, w2, tm, lf⟩ := id H
  unfold j366_209
  simp only [b1_i, b1_1]
  refine q_l2 (e_fre rfl) ?_
  by_cases z : c 128 0 = -1
  · have e75 : r 157 75 = -1 := by
      rcases w2.1 with q | q
      · exact q.2
      · exact absurd z q.1
    refine q_nl (by rw [zb_t z]; decide) (q_pr e75 ?_)
    obtain ⟨v1, c1, r1, k1, k2, k3, k4⟩ := d_nts hN rt
    rw [k3]
    refine q_l2 k1 ?_
    have H1 := LI_T H k2
    obtain ⟨m1, m2, m3, m4, m5, m6⟩ := H1.2.2.2.2.2.1
    have e71 : r1 157 71 = r 157 71 := k2.1.2.2 71 (by unfold tI; omega)
    unfold j410_135
    rcases k4 with e | ⟨hb, hn⟩
    · subst e
      rw [if_pos rfl, b1_some]
      exact q_l1 (e_cry0 rfl) (d_s5 H1 (by rw [ht, e71]) (fun c' r' g1 g2 => hK c' r' g1 (g2.trans e71)))
    · rw [if_neg hn]
      simp only [b1_w, b1_some]
      refine q_l1 (e_cry rfl hn) ?_
      rw [m1, m4]
      have hy : t < r1 157 71 + r1 157 70 := by
        rw [ht, ← e71, ← m1, ← m4]
        grind
      have wn := W1_cry (c := c1) (r := r1) (o := 128) (p := 75) (q := 77) (z := 73) hn hb hy H1.2.2.2.2.1.2.1 (by decide) (by decide) (by decide)
      have H2 := LI_w (u1 := t) (u2 := t) H1 (c' := xU (xU (xU (xU c1 128 0 v1) 128 1 (r1 157 71 + r1 157 70)) 128 2 0) 128 3 (c1 128 3 + 1)) (r' := xU (xU (xU r1 157 75 v1) 157 77 (r1 157 71 + r1 157 70)) 157 73 (r1 157 73 + 1)) (fun p h1 h2 => by rw [xU_o h2, xU_o h2, xU_o h2, xU_o h2]) (fun p h1 => by rw [xU_o h1, xU_o h1, xU_o h1]) (fun i h1 => by rw [xU_s (by omega), xU_s (by omega), xU_s (by omega)]) (W1_of H1.2.2.2.1 rfl (by simp [xU_eq]) (by simp [xU_eq]) (by simp [xU_eq])) wn
      have go : ∀ a, a = xU (xU (xU r1 157 75 v1) 157 77 (r1 157 71 + r1 157 70)) 157 73 (r1 157 73 + 1) → Q2 (j177_165 N h b rc w v (xU (xU (xU (xU c1 128 0 v1) 128 1 (r1 157 71 + r1 157 70)) 128 2 0) 128 3 (c1 128 3 + 1))) (xb1 (j366_221 N h b a) K) Q := fun a e => by
        rw [e]
        exact d_s5 H2 (by simp [xU_eq]; rw [ht, e71]) (fun c' r' g1 g2 => hK c' r' g1 (g2.trans (by simp [xU_eq]; exact e71)))
      refine go _ ?_
      apply xA_ext
      intro p i
      simp only [xU_eq]
      grind
  · have e75 : ¬ r 157 75 = -1 := by
      rcases w2.1 with q | q
      · exact absurd q.1 z
      · rw [q.2.2.1]
        split
        · exact z
        · decide
    exact q_pl (zb_f z) (q_nr e75 (d_s5 H ht hK))
end T
