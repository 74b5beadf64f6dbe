/-! Ticks. -/
section T
variable {β : Type} {N h b : Nat} {c0 r0 c r c' r' : xA} {x y z s v w t u : Int32} {j : Nat}
theorem LI_71 (H : LI h b t u c0 r0 c r) : c 0 15 = r 157 71 := H.2.2.2.2.2.1.1
theorem LI_tr {c1 r1 : xA} (H : LI h b t u c r c' r') (h1 : LF c0 r0 c r) : LI h b t u c0 r0 c' r' := by
  obtain ⟨a1, a2, a3, a4, a5, a6, a7, a8, a9, b1⟩ := H
  exact ⟨a1, a2, a3, a4, a5, a6, fun p h2 h3 => (a7 p h2 h3).trans (h1.1 p h2 h3), fun i hi => (a8 i hi).trans (h1.2.1 i hi), fun p h2 h3 => (a9 p h2 h3).trans (h1.2.2.1 p h2 h3), fun i hi => (b1 i hi).trans (h1.2.2.2 i hi)⟩
section S
variable {K : xA → Option β} {rc : Int32 → xA → Option (Nat × Int32 × xA)} {Q : (Nat × Int32 × xA) → β → Prop}
theorem d_s3a (hd : Dim N h b) (H : LI h b t t c0 r0 c r) (ht : t = r 157 71) (hK : ∀ c' r', LI h b t t c0 r0 c' r' → r' 157 71 = t → Q2 (rc v c') (K r') Q) : Q2 (j177_125 N h b rc w v c) (xb1 (j366_98 N h b r) K) Q := by
  unfold j177_125
  refine d_act hd H.2.1 (fun c1 r1 h1 => ?_)
  have e71 : r1 157 71 = r 157 71 := h1.1.2.2 71 (by unfold tI; omega)
  exact d_s4 hd.1 (LI_T H h1) (by rw [ht, e71]) (fun c2 r2 h2 h3 => hK c2 r2 h2 (by rw [h3, e71, ht]))
theorem d_s3 (hd : Dim N h b) (H : LI h b t t c0 r0 c r) (ht : t = r 157 71) (hK : ∀ c' r', LI h b t t c0 r0 c' r' → r' 157 71 = t → Q2 (rc v c') (K r') Q) : Q2 (j177_101 N h b rc w v c) (xb1 (j366_85 N h b r) K) Q := by
  unfold j177_101 j366_85
  simp only [b1_i, b1_1]
  rw [LI_71 H]
  by_cases z : r 157 71 - r 157 71 / 4 * 4 = 0
  · refine q_pl z (q_pr z (q_b11 (d_scan hd.1 rfl (LI_sc H)) (fun c1 r1 h1 => ?_)))
    have e71 : r1 157 71 = r 157 71 := h1.2.2.2.2 71 (by unfold tI; omega) (by decide) (by decide)
    exact d_s3a hd (LI_K H h1) (by rw [ht, e71]) hK
  · exact q_nl z (q_nr z (d_s3a hd H ht hK))
theorem d_s2 (hd : Dim N h b) (H : LI h b u t c0 r0 c r) (hu : u = r 157 71) (ht : u = t + 1) (t0 : 0 ≤ t) (t1 : t < 1000000000) (hK : ∀ c' r', LI h b u u c0 r0 c' r' → r' 157 71 = u → Q2 (rc v c') (K r') Q) : Q2 (j177_69 N h b rc w v c) (xb1 (j366_44 N h b r) K) Q := by
  unfold j177_69 j366_44
  simp only [b1_i, b1_w, b1_1]
  rw [LI_71 H, ← hu]
  have w1 := H.2.2.2.1
  rcases d_arv (N := N) (h := h) (b := b) rfl H.2.2.2.2.1 ht t0 t1 with ⟨k1, k2, k3⟩ | ⟨k1, k2, k3, k4, k5⟩ | ⟨k1, k2, k3, k4⟩
  · have H1 := LI_w (u1 := u) (u2 := u) H (fun p _ _ => rfl) (fun p _ => rfl) (fun i _ => rfl) w1 k3
    exact q_l2 k2 (q_pl rfl (q_pr k1 (d_s3 hd H1 hu hK)))
  · have H1 := LI_w (u1 := u) (u2 := u) H (c' := xU c 128 0 (-1)) (r' := xU r 157 75 (-1)) (fun p h1 h2 => xU_o h2) (fun p h1 => xU_o h1) (fun i h1 => xU_s (by omega)) (W1_of w1 (xU_o (by decide)) (xU_s (by decide)) (xU_s (by decide)) (xU_s (by decide))) (k5 (by decide))
    have hu1 : u = xU r 157 75 (-1) 157 71 := by rw [xU_s (by decide)]; exact hu
    refine q_l2 k3 (q_nl k1 (q_nr k1 (q_pr k2 (q_wr.mpr ?_))))
    by_cases z : r 157 75 = 256
    · exact q_pl z (q_pr z (d_s3 hd H1 hu1 hK))
    · have hb : By (r 157 75) := k4.resolve_right z
      refine q_nl z (q_nr z (q_b11 (d_comes hd.1 H1.1 hb) (fun c1 r1 h1 => ?_)))
      have e71 : r1 157 71 = xU r 157 75 (-1) 157 71 := h1.1.2.2 71 (by omega)
      exact d_s3 hd (LI_D H1 h1) (by rw [e71]; exact hu1) hK
  · have H1 := LI_w (u1 := u) (u2 := u) H (fun p _ _ => rfl) (fun p _ => rfl) (fun i _ => rfl) w1 k4
    exact q_l2 k3 (q_pl rfl (q_nr k1 (q_nr k2 (d_s3 hd H1 hu hK))))
theorem d_tick (hd : Dim N h b) (H : LI h b t t c0 r0 c r) (ht : t = r 157 71) (t1 : t < 1000000000) (hK : ∀ c' r', LI h b (t + 1) (t + 1) c0 r0 c' r' → r' 157 71 = t + 1 → Q2 (rc (v + 1) c') (K r') Q) : Q2 (xw (xU c 0 15 ((c 0 15) + 1)) (fun a7 => xb2 (f178_arriving N h b 127 (a7 0 15) a7) (fun r13 a14 => if r13 = (-1) then (j177_69 N h b rc w (v + 1) a14) else (xb1 (f179_receive N h b r13 a14) (fun a76 => j177_69 N h b rc w (v + 1) a76))))) (xb1 (f366_tick N h b r) K) Q := by
  have e15 := LI_71 H
  obtain ⟨m1, m2, m3, m4, m5, m6⟩ := H.2.2.2.2.2.1
  have t0 : 0 ≤ t := by rw [ht, ← m1]; exact m2
  unfold f366_tick
  simp only [b1_i, b1_w, b1_1]
  refine q_wl.mpr (q_wr.mpr ?_)
  rw [e15, ← ht]
  have H1 := LI_t (v := t + 1) H (by grind) (by grind)
  have hu : t + 1 = xU r 157 71 (t + 1) 157 71 := by rw [xU_e]
  generalize xU c 0 15 (t + 1) = c1 at H1 ⊢
  generalize xU r 157 71 (t + 1) = r1 at H1 hu ⊢
  rw [LI_71 H1, ← hu]
  have w2 := H1.2.2.2.2.1
  rcases d_arv (N := N) (h := h) (b := b) rfl H1.2.2.2.1 (show t + 1 = t + 1 from rfl) t0 t1 with ⟨k1, k2, k3⟩ | ⟨k1, k2, k3, k4, k5⟩ | ⟨k1, k2, k3, k4⟩
  · have H2 := LI_w (u1 := t + 1) (u2 := t) H1 (fun p _ _ => rfl) (fun p _ => rfl) (fun i _ => rfl) k3 w2
    exact q_l2 k2 (q_pl rfl (q_pr k1 (d_s2 hd H2 hu rfl t0 t1 hK)))
  · have H2 := LI_w (u1 := t + 1) (u2 := t) H1 (c' := xU c1 127 0 (-1)) (r' := xU r1 157 74 (-1)) (fun p h1 h2 => xU_o h1) (fun p h1 => xU_o h1) (fun i h1 => xU_s (by omega)) (k5 (by decide)) (W1_of w2 (xU_o (by decide)) (xU_s (by decide)) (xU_s (by decide)) (xU_s (by decide)))
    have hu1 : t + 1 = xU r1 157 74 (-1) 157 71 := by rw [xU_s (by decide)]; exact hu
    refine q_l2 k3 (q_nl k1 (q_nr k1 (q_pr k2 (q_wr.mpr ?_))))
    refine q_b11 (d_arr H2.2.1 k4) (fun c2 r2 h1 => ?_)
    have e71 : r2 157 71 = xU r1 157 74 (-1) 157 71 := h1.1.2.2 71 (by unfold tI; omega)
    exact d_s2 hd (LI_T H2 h1) (by rw [e71]; exact hu1) rfl t0 t1 hK
  · have H2 := LI_w (u1 := t + 1) (u2 := t) H1 (fun p _ _ => rfl) (fun p _ => rfl) (fun i _ => rfl) k4 w2
    exact q_l2 k3 (q_pl rfl (q_nr k1 (q_nr k2 (d_s2 hd H2 hu rfl t0 t1 hK))))
end S
theorem d_tl (hd : Dim N h b) : ∀ (k j n : Nat) (t : Int32) (c r : xA), k < n → j + k = w.toNatClampNeg → w.toNatClampNeg ≤ 2000 → 0 ≤ w → LI h b t t c0 r0 c r → t = r 157 71 → Q2 (l177_16 N h b w n (Int32.ofNat j) c) (l365_21 N h b w n (Int32.ofNat j) r) (fun p q => p.2.1 = q.2.1 ∧ LI h b (q.2.2 157 71) (q.2.2 157 71) c0 r0 p.2.2 q.2.2)
  | 0, j, n, t, c, r, h1, h2, h3, h4, H, ht => by
    obtain ⟨m, rfl⟩ : ∃ m, n = m + 1 := ⟨n - 1, by omega⟩
    have e : w ≤ Int32.ofNat j := by
      rw [← i_ofn h4, i_le (by omega) (by omega)]; omega
    rw [l177_16, l365_21, if_pos e, if_pos e]
    exact ⟨_, _, rfl, rfl, rfl, by dsimp only; rw [← ht]; exact H⟩
  | k + 1, j, n, t, c, r, h1, h2, h3, h4, H, ht => by
    obtain ⟨m, rfl⟩ : ∃ m, n = m + 1 := ⟨n - 1, by omega⟩
    have e : ¬ w ≤ Int32.ofNat j := by
      rw [← i_ofn h4, i_le (by omega) (by omega)]; omega
    rw [l177_16, l365_21]
    refine q_nl e (q_nr e ?_)
    rw [LI_71 H]
    by_cases z : 1000000000 ≤ r 157 71
    · exact q_pl z (q_pr z ⟨_, _, rfl, rfl, rfl, by dsimp only; rw [← ht]; exact H⟩)
    · refine q_nl z (q_nr z ?_)
      rw [← LI_71 H]
      refine d_tick hd H ht (by rw [ht]; grind) (fun c1 r1 H1 e1 => ?_)
      rw [on_s]
      exact d_tl hd k (j + 1) m (t + 1) c1 r1 (by omega) (by omega) h3 h4 H1 e1.symm
theorem t_ticks (hd : Dim N h b) (H : LI h b (r 157 71) (r 157 71) c r c r) : Q2 (f177_ticks N h b x c) (f365_ticks N h b x r) (fun p q => p.1 = q.1 ∧ LI h b (q.2 157 71) (q.2 157 71) c (xU r 157 0 0) p.2 q.2) := by
  have H1 : LI h b (r 157 71) (r 157 71) c (xU r 157 0 0) c (xU r 157 0 0) := by
    obtain ⟨a1, a2, a3, a4, a5, a6, a7⟩ := H
    have f2 : ∀ p, p ≠ 157 → xU r 157 0 0 p = r p := fun p hp => xU_o hp
    have f3 : ∀ i, i ≠ 0 → xU r 157 0 0 157 i = r 157 i := fun i hi => xU_s hi
    exact ⟨RD_o a1 (fun _ _ _ => rfl) (fun p h1 h2 => f2 p (by omega)) (fun i h1 h2 => f3 i (by omega)), RT_o a2 (fun _ _ _ => rfl) (fun p h1 h2 _ => f2 p (by omega)) (fun i hi => f3 i (by unfold tI at hi; omega)), KB_of a3 rfl rfl rfl (f2 _ (by decide)) (f2 _ (by decide)) (f3 _ (by decide)) (f3 _ (by decide)), W1_of a4 rfl (f3 _ (by decide)) (f3 _ (by decide)) (f3 _ (by decide)), W1_of a5 rfl (f3 _ (by decide)) (f3 _ (by decide)) (f3 _ (by decide)), TM_of a6 rfl rfl (f3 _ (by decide)) (f3 _ (by decide)), fun _ _ _ => rfl, fun _ _ => rfl, fun _ _ _ => rfl, fun _ _ => rfl⟩
  unfold f177_ticks f365_ticks
  refine q_wr.mpr ?_
  have e71 : r 157 71 = xU r 157 0 0 157 71 := by rw [xU_s (by decide)]
  have no : LI h b ((xU r 157 0 0) 157 71) ((xU r 157 0 0) 157 71) c (xU r 157 0 0) c (xU r 157 0 0) := by rw [← e71]; exact H1
  by_cases z1 : x < 1
  · exact q_pl z1 (q_pr z1 ⟨_, _, rfl, rfl, rfl, no⟩)
  refine q_nl z1 (q_nr z1 ?_)
  by_cases z2 : x ≤ 2000
  · refine q_pl z2 (q_pr z2 (q_bb (d_tl (w := x) hd x.toNatClampNeg 0 N _ c (xU r 157 0 0) ?_ (by omega) (cl_le z2 rfl) (by grind) H1 e71) (fun p q h1 => ⟨_, _, rfl, rfl, h1⟩)))
    have := cl_le z2 (n := 2000) rfl
    have := hd.1
    omega
  · exact q_nl z2 (q_nr z2 ⟨_, _, rfl, rfl, rfl, no⟩)
end T
