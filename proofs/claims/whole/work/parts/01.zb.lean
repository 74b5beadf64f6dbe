/-! The keyboard: a stroke. -/
section T
variable {N h b : Nat} {c0 r0 c r c' r' : xA} {x y z s v w : Int32}
theorem Tff_rfl : Tff c r c r := ⟨fun _ _ => rfl, fun _ _ _ => rfl, fun _ _ => rfl⟩
theorem RT_rfl (hT : RT h b c0 r0 c r) : RT h b c r c r := ⟨Tff_rfl, hT.2⟩
theorem RT_o (hT : RT h b c0 r0 c r) (h1 : ∀ p, 129 ≤ p → p ≤ 140 → c' p = c p) (h2 : ∀ p, 187 ≤ p → p ≤ 193 → p ≠ 189 → r' p = r p) (h3 : ∀ i, tI i ∨ i = 68 ∨ i = 69 → r' 157 i = r 157 i) : RT h b c' r' c' r' := by
  obtain ⟨t1, t2, t3, t4, t5, t6⟩ := hT
  exact ⟨Tff_rfl, RG_same t2 (fun q h4 h5 => h1 q (by omega) (by omega)) (fun q h4 h5 => h2 q (by omega) (by omega) (by omega)) (fun i hi => h3 i (by unfold gI at hi; unfold tI; omega)), Tq_of t3 (h1 _ (by decide) (by decide)) (h1 _ (by decide) (by decide)) (h3 _ (by unfold tI; omega)) (h2 _ (by decide) (by decide) (by decide)), Ta_of t4 (h1 _ (by decide) (by decide)) (h1 _ (by decide) (by decide)) (h3 _ (by unfold tI; omega)) (h2 _ (by decide) (by decide) (by decide)) (h3 _ (by unfold tI; omega)), Ts_of t5 (fun i _ _ => by rw [h1 129 (by decide) (by decide)]) (fun i hi => h3 i (by unfold tI; omega)) (by rw [h1 130 (by decide) (by decide)]), Tn_of t6 (h1 _ (by decide) (by decide)) (fun i hi => h3 i (by unfold tI; omega)) (h1 _ (by decide) (by decide)) (h2 _ (by decide) (by decide) (by decide))⟩
theorem RT_s {i j : Nat} (hT : RT h b c0 r0 c r) (hi : 4 ≤ i ∧ i ≤ 8) (hj : 80 ≤ j ∧ j ≤ 85 ∧ j ≠ 81) (hs : Ts (xU c 129 i v) (xU r 157 j w)) : RT h b c0 r0 (xU c 129 i v) (xU r 157 j w) := by
  obtain ⟨t1, t2, t3, t4, t5, t6⟩ := hT
  have ec : ∀ q, q ≠ 129 → xU c 129 i v q = c q := fun q hq => xU_o hq
  have er : ∀ q, q ≠ 157 → xU r 157 j w q = r q := fun q hq => xU_o hq
  have ej : ∀ q, ¬ (80 ≤ q ∧ q ≤ 85 ∧ q ≠ 81) → xU r 157 j w 157 q = r 157 q := fun q hq => xU_s (fun e => hq (by omega))
  have ei : ∀ q, ¬ (4 ≤ q ∧ q ≤ 8) → xU c 129 i v 129 q = c 129 q := fun q hq => xU_s (fun e => hq (by omega))
  refine ⟨Tff_u t1 (by decide) (Or.inr ⟨rfl, by unfold tI; omega⟩), RG_same t2 (fun q h4 h5 => ec q (by omega)) (fun q h4 h5 => er q (by omega)) (fun i hi => ej i (by unfold gI at hi; omega)), Tq_of t3 (ec _ (by decide)) (ec _ (by decide)) (ej _ (by decide)) (er _ (by decide)), Ta_of t4 (ec _ (by decide)) (ec _ (by decide)) (ej _ (by decide)) (er _ (by decide)) (ej _ (by decide)), hs, ?_⟩
  unfold Tn at t6 ⊢
  rw [ei 9 (by decide), ei 10 (by decide), ei 12 (by decide), ei 13 (by decide), ei 14 (by decide), ej 102 (by decide), ej 115 (by decide), ej 116 (by decide), ej 117 (by decide), ec 135 (by decide), er 193 (by decide)]
  exact t6
theorem RT_5 (hT : RT h b c0 r0 c r) (hv : v = 0 ∨ v = 1) : RT h b c0 r0 (xU c 129 5 v) (xU r 157 84 v) := by
  refine RT_s hT (by decide) (by decide) ?_
  obtain ⟨s1, s2, s3, s4, s5, s6, s7, s8, s9, s10⟩ := hT.2.2.2.2.1
  unfold Ts
  simp only [xU_eq]
  exact ⟨s1, s2, rfl, hv, s5, s6, s7, s8, s9, s10⟩
theorem RT_6 (hT : RT h b c0 r0 c r) (hv : v = 0 ∨ v = 1) : RT h b c0 r0 (xU c 129 6 v) (xU r 157 85 v) := by
  refine RT_s hT (by decide) (by decide) ?_
  obtain ⟨s1, s2, s3, s4, s5, s6, s7, s8, s9, s10⟩ := hT.2.2.2.2.1
  unfold Ts
  simp only [xU_eq]
  exact ⟨s1, s2, s3, s4, rfl, hv, s7, s8, s9, s10⟩
theorem RT_4 (hT : RT h b c0 r0 c r) (hv : v = 0 ∨ v = 1) (hv2 : 48 ≤ c 130 2 → v = 1) : RT h b c0 r0 (xU c 129 4 v) (xU r 157 83 v) := by
  refine RT_s hT (by decide) (by decide) ?_
  obtain ⟨s1, s2, s3, s4, s5, s6, s7, s8, s9, s10⟩ := hT.2.2.2.2.1
  unfold Ts
  simp only [xU_eq]
  exact ⟨rfl, hv, s3, s4, s5, s6, s7, s8, s9, hv2⟩
theorem RT_8 (hT : RT h b c0 r0 c r) : RT h b c0 r0 (xU c 129 8 (c 129 8 + 1)) (xU r 157 80 (r 157 80 + 1)) := by
  refine RT_s hT (by decide) (by decide) ?_
  obtain ⟨s1, s2, s3, s4, s5, s6, s7, s8, s9, s10⟩ := hT.2.2.2.2.1
  unfold Ts
  simp only [xU_eq]
  exact ⟨s1, s2, s3, s4, s5, s6, s7, by rw [s8], s9, s10⟩
theorem RT_7 (hT : RT h b c0 r0 c r) (hv : (v = 1 ∧ w = 19) ∨ (v = 0 ∧ ¬ w = 19)) : RT h b c0 r0 (xU c 129 7 v) (xU r 157 82 w) := by
  refine RT_s hT (by decide) (by decide) ?_
  obtain ⟨s1, s2, s3, s4, s5, s6, s7, s8, s9, s10⟩ := hT.2.2.2.2.1
  unfold Ts
  simp only [xU_eq]
  exact ⟨s1, s2, s3, s4, s5, s6, hv, s8, s9, s10⟩
theorem RT_ak {a a' : xA} {L : List Int32} (hT : RT h b c0 r0 c r) (hC : Cp 126 c a L) (hR : Rp r a' L) : RTa h b a a' := by
  obtain ⟨t1, t2, t3, t4, t5, t6⟩ := hT
  have cc : ∀ q, q ≠ 126 → a q = c q := hC.1
  have r1 := hR.1
  have r2 := hR.2.1
  obtain ⟨k1, k2, k3, k4⟩ := Ta_of' (c' := a) (r' := a') t4 (cc _ (by decide)) (cc _ (by decide)) (r2 _ (by decide)) (r1 _ (by decide) (by decide))
  exact ⟨RG_same t2 (fun q h1 h2 => cc q (by omega)) (fun q h1 h2 => r1 q (by omega) (by omega)) (fun i hi => r2 i (fun n => by unfold gI at hi; omega)), Tq_of t3 (cc _ (by decide)) (cc _ (by decide)) (r2 _ (by decide)) (r1 _ (by decide) (by decide)), ⟨k1, k2, k4⟩, Ts_of t5 (fun i _ _ => by rw [cc 129 (by decide)]) (fun i hi => r2 i (by omega)) (by rw [cc 130 (by decide)]), Tn_of t6 (cc _ (by decide)) (fun i hi => r2 i (by omega)) (cc _ (by decide)) (r1 _ (by decide) (by decide))⟩
theorem aw0 (hN : 100000 ≤ N) (h0 : 0 ≤ c 132 2) (h1 : c 132 2 ≤ 32) : f201_addWhole N h b 132 126 0 c = some (1, c) := by
  obtain ⟨n, rfl⟩ : ∃ n, N = n + 1 := ⟨N - 1, by omega⟩
  unfold f201_addWhole
  rw [xg_pos (show xk 132 = 1 from rfl), xg_pos (show xk 126 = 100 from rfl), if_neg, show xl h b 126 = 3 from rfl, if_pos (by decide), l201_24, if_pos (by decide)]
  · show some ((1 : Int32), xU c 132 2 (c 132 2 + 0)) = _
    rw [show c 132 2 + 0 = c 132 2 by grind, xU_self]
  · show ¬ (32 : Int32) - c 132 2 < 0
    grind
def KS (c r p q : xA) : Prop := (∀ i, i ≠ 126 → ¬ (129 ≤ i ∧ i ≤ 140) → p i = c i) ∧ (∀ i, i ≠ 157 → ¬ (187 ≤ i ∧ i ≤ 193) → q i = r i) ∧ (∀ i, ¬ tI i → q 157 i = r 157 i)
theorem d_strike (hN : 100000 ≤ N) (hT : RT h b c r c r) (h28 : c 124 28 = r 194 28) (hx0 : 0 ≤ x) (hx1 : x ≤ 126) (hx2 : x ≤ 28 ∨ 32 ≤ x) : Q2 (f195_strike N h b x c) (f379_struck N h b x r) (fun p q => RT h b p q p q ∧ KS c r p q) := by
  have h10 : c 136 10 = r 157 98 := hT.2.1.2.2.1.2.2.1
  by_cases z : x = 27
  · subst z
    have e2 : f379_struck N h b 27 r = xg ((if (r 157 84) = 0 then (1 : Int32) else (0 : Int32)) = 0 ∨ (if (r 157 84) = 0 then (1 : Int32) else (0 : Int32)) = 1) (j379_407 N h b (xU r 157 84 (if (r 157 84) = 0 then (1 : Int32) else (0 : Int32)))) := by
      unfold f379_struck
      rw [e_md, b2_some, if_pos (by decide), if_pos (by decide), if_neg (by decide)]
      unfold j379_222
      rw [if_neg (by decide), if_neg (by decide), if_pos (by decide), if_pos rfl]
      rfl
    rw [e2]
    unfold f195_strike
    have e5 : c 129 5 = r 157 84 := hT.2.2.2.2.1.2.2.1
    have g : (if r 157 84 = 0 then (1 : Int32) else (0 : Int32)) = 0 ∨ (if r 157 84 = 0 then (1 : Int32) else (0 : Int32)) = 1 := by split <;> decide
    rw [e5]
    refine q_pl rfl (q_hl g (q_hr g (q_wl.mpr ?_)))
    have hT' := RT_5 hT g
    have hq := d_ans (N := N) (p := 126) (m := 0) hN (RT_ak hT' Cp_nil (Rp_nil (RT_89 hT'))) rfl (by decide) (show 0 ≤ 3 by decide) (show 3 < 2 ^ 31 by decide) (RT_89 hT') (by decide) (fun i hi => absurd hi (by omega))
    have h32 : xU c 129 5 (if r 157 84 = 0 then (1 : Int32) else 0) 132 2 ≤ 32 := by
      have hb := hT'.2.2.2.1.2.1
      rw [cl_lel (by decide)]
      exact hb.2.2.2.1
    rw [show (Int32.ofNat 0) = 0 from rfl, aw0 hN hT'.2.2.2.1.2.1.2.2.1 h32] at hq
    obtain ⟨p, q, k1, k2, k3, k4⟩ := hq
    cases k1
    unfold j379_407
    rw [k2, b2_some]
    have k3' : 1 = q.1 := k3
    refine q_nr (by rw [← k3']; decide) (q_ok1 ⟨RT_rfl k4, fun i h1 h2 => xU_o (by omega), fun i h1 h2 => ?_, fun i hi => ?_⟩)
    · rw [k4.1.2.1 i h1 h2, xU_o h1]
    · rw [k4.1.2.2 i hi, xU_s (fun e => hi (by unfold tI; omega))]
  · obtain ⟨L, a', r', k1, k2, k3, k4, k5, k6⟩ := k_bytes (N := N) (h := h) (b := b) h10 h28 (RT_89 hT) hx0 hx1 hx2 z
    unfold f195_strike
    rw [k3]
    refine q_nl z (q_l2 k1 ?_)
    unfold j379_407
    have hf : ∀ {p q : xA}, Tff a' r' p q → KS c r p q := by
      intro p q hk
      refine ⟨fun i h1 h2 => ?_, fun i h1 h2 => ?_, fun i hi => ?_⟩
      · rw [hk.1 i h2, k2.1 i h1]
      · rw [hk.2.1 i h1 h2, k4.1 i h1 (by omega)]
      · rw [hk.2.2 i hi, k4.2.1 i (fun e => hi (by unfold tI; omega))]
    refine q_bs (d_ans (p := 126) hN (RT_ak hT k2 k4) rfl (by decide) (show _ ≤ 3 from k5) (show 3 < 2 ^ 31 by decide) k4.2.2.1 (by omega) (fun i hi => ?_)) (fun v c1 r1 h1 => ?_)
    · rw [k2.2 i hi, k4.2.2.2 i hi]
      exact ⟨rfl, by_all k6 hi⟩
    · by_cases y : v = 0
      · have hT2 := RT_g h1 (RG_15 (RT_G h1))
        exact q_pl y (q_pr y (q_ok1 ⟨RT_rfl hT2, hf hT2.1⟩))
      · exact q_nl y (q_nr y (q_ok1 ⟨RT_rfl h1, hf h1.1⟩))
end T
