/-! The terminal: bytes come in, are taken; answers go out. -/
section T
variable {N h b : Nat} {c0 r0 c r c' r' : xA} {x y z s v w t t1 t2 u1 u2 : Int32} {j : Nat}
/-- the silo changes on both sides -/
theorem RT_q (hT : RT h b c0 r0 c r) (h1 : ∀ p, p ≠ 130 → p ≠ 131 → c' p = c p) (h2 : ∀ p, p ≠ 157 → p ≠ 187 → r' p = r p) (h3 : ∀ i, i ≠ 79 → r' 157 i = r 157 i) (hq : Tq c' r') (hf : 48 ≤ c' 130 2 → c 129 4 = 1) : RT h b c0 r0 c' r' := by
  obtain ⟨⟨f1, f2, f3⟩, t2, t3, t4, t5, t6⟩ := hT
  refine ⟨⟨fun p hp => ?_, fun p hp hp2 => ?_, fun i hi => ?_⟩, RG_same t2 (fun q h4 h5 => h1 q (by omega) (by omega)) (fun q h4 h5 => h2 q (by omega) (by omega)) (fun i hi => h3 i (by unfold gI at hi; omega)), hq, Ta_of t4 (h1 _ (by decide) (by decide)) (h1 _ (by decide) (by decide)) (h3 _ (by decide)) (h2 _ (by decide) (by decide)) (h3 _ (by decide)), ?_, Tn_of t6 (h1 _ (by decide) (by decide)) (fun i hi => h3 i (by omega)) (h1 _ (by decide) (by decide)) (h2 _ (by decide) (by decide))⟩
  · rw [h1 p (by omega) (by omega)]; exact f1 p hp
  · rw [h2 p hp (by omega)]; exact f2 p hp hp2
  · unfold tI at hi
    rw [h3 i (by omega)]; exact f3 i hi
  · obtain ⟨s1, s2, s3, s4, s5, s6, s7, s8, s9, s10⟩ := t5
    unfold Ts
    rw [h1 129 (by decide) (by decide), h3 83 (by decide), h3 84 (by decide), h3 85 (by decide), h3 82 (by decide), h3 80 (by decide), h3 101 (by decide)]
    exact ⟨s1, s2, s3, s4, s5, s6, s7, s8, s9, hf⟩
theorem d_full (hT : RT h b c0 r0 c r) : Q2 (j179_51 N h b c) (some r) (fun p q => RT h b c0 r0 p q) := by
  unfold j179_51
  refine q_l2 (e_size rfl) ?_
  by_cases z : c 130 2 < 48
  · exact q_pl z (q_ok1 hT)
  · refine q_nl z (q_ok1 ?_)
    have e := hT.2.2.2.2.1.2.2.2.2.2.2.2.2.2 (Int32.not_lt.mp z)
    rw [← e, xU_self]
    exact hT
theorem d_arr (hT : RT h b c0 r0 c r) (hx : By x ∨ x = 256) : Q2 (f179_receive N h b x c) (f367_arrives N h b x r) (fun p q => RT h b c0 r0 p q) := by
  have hold : Q2 (j179_12 N h b x c) (j367_12 N h b x r) (fun p q => RT h b c0 r0 p q) := by
    unfold j179_12 j367_12
    have g : (if x = 19 then (1 : Int32) else (0 : Int32)) = 0 ∨ (if x = 19 then (1 : Int32) else (0 : Int32)) = 1 := by split <;> decide
    refine q_hl g (q_hr g (q_wl.mpr (q_wr.mpr ?_)))
    exact d_full (RT_6 hT g)
  unfold f179_receive f367_arrives
  by_cases z1 : x = 19
  · exact q_pl z1 (q_pr z1 hold)
  refine q_nl z1 (q_nr z1 ?_)
  by_cases z2 : x = 17
  · exact q_pl z2 (q_pr z2 hold)
  refine q_nl z2 (q_nr z2 ?_)
  obtain ⟨q1, q2, q3⟩ := hT.2.2.1
  obtain ⟨k1, k2, k3, k4, k5⟩ := id q2
  rw [e_add (cap := 64) rfl rfl (by decide) (by decide) k1 k2 k3 k4, ← q1]
  obtain ⟨n, hn, en, fn⟩ := i_nat k3
  have hn2 : n ≤ 64 := by rw [← fn]; exact k4
  by_cases z3 : c 130 2 < Int32.ofNat 64
  · rw [if_pos z3, b2_some]
    have hn3 : n < 64 := by rw [en, i_lt hn (by decide)] at z3; exact z3
    refine q_nl (by decide) (q_nr (by rw [en, show (64 : Int32) = Int32.ofNat 64 from rfl, i_eq hn (by decide)]; omega) (q_hr (by rw [en]; exact g_ix (by omega) (by decide)) (q_wr.mpr (q_wr.mpr ?_))))
    obtain ⟨b1, b2⟩ := RB_add (x := x) (by decide) q2 z3
    have e79 : (xU r 187 ((c 130 2).toNatClampNeg) x) 157 79 = c 130 2 := by rw [xU_o (by decide)]; exact q1.symm
    rw [e79]
    have hq : Tq (xU (xU c 131 (((c 130 1).toNatClampNeg + (c 130 2).toNatClampNeg) % 64) x) 130 2 (c 130 2 + 1)) (xU (xU r 187 ((c 130 2).toNatClampNeg) x) 157 79 (c 130 2 + 1)) := by
      refine ⟨by rw [xU_e, xU_e], ?_, fun i => ?_⟩
      · unfold RB at b1 ⊢
        refine ⟨b1.1, b1.2.1, b1.2.2.1, b1.2.2.2.1, fun i hi => ?_⟩
        rw [b1.2.2.2.2 i hi, xU_o (show (187 : Nat) ≠ 157 by decide), xU_eq]
        dsimp only
        by_cases e : i = (c 130 2).toNatClampNeg
        · rw [if_pos e, if_pos ⟨rfl, e⟩]
        · rw [if_neg e, if_neg (fun q => e q.2)]
      · rw [xU_o (by decide), xU_eq]
        split
        · exact hx
        · exact q3 i
    have fin : ∀ u, (u = 0 ∨ u = 1) → (48 ≤ c 130 2 + 1 → u = 1) → RT h b c0 r0 (xU (xU (xU c 131 (((c 130 1).toNatClampNeg + (c 130 2).toNatClampNeg) % 64) x) 130 2 (c 130 2 + 1)) 129 4 u) (xU (xU (xU r 187 ((c 130 2).toNatClampNeg) x) 157 79 (c 130 2 + 1)) 157 83 u) := by
      intro u hu hu2
      have h4 := RT_4 (v := 1) hT (Or.inr rfl) (fun _ => rfl)
      have h5 := RT_q (c' := xU (xU (xU c 129 4 1) 131 (((c 130 1).toNatClampNeg + (c 130 2).toNatClampNeg) % 64) x) 130 2 (c 130 2 + 1)) (r' := xU (xU (xU r 157 83 1) 187 ((c 130 2).toNatClampNeg) x) 157 79 (c 130 2 + 1)) h4 (fun p h1 h2 => by rw [xU_o h1, xU_o h2]) (fun p h1 h2 => by rw [xU_o h1, xU_o h2]) (fun i hi => by rw [xU_s hi, xU_o (by decide)]) (Tq_of hq (by funext i; simp [xU_eq]) (by funext i; simp [xU_eq]) (by simp [xU_eq]) (by funext i; simp [xU_eq])) (fun _ => xU_e)
      have h6 := RT_4 (v := u) h5 hu (by rw [xU_e]; exact hu2)
      have e1 : xU (xU (xU (xU c 129 4 1) 131 (((c 130 1).toNatClampNeg + (c 130 2).toNatClampNeg) % 64) x) 130 2 (c 130 2 + 1)) 129 4 u = xU (xU (xU c 131 (((c 130 1).toNatClampNeg + (c 130 2).toNatClampNeg) % 64) x) 130 2 (c 130 2 + 1)) 129 4 u := by
        apply xA_ext
        intro p i
        simp only [xU_eq]
        grind
      have e2 : xU (xU (xU (xU r 157 83 1) 187 ((c 130 2).toNatClampNeg) x) 157 79 (c 130 2 + 1)) 157 83 u = xU (xU (xU r 187 ((c 130 2).toNatClampNeg) x) 157 79 (c 130 2 + 1)) 157 83 u := by
        apply xA_ext
        intro p i
        simp only [xU_eq]
        grind
      rw [e1, e2] at h6
      exact h6
    have e4 : c 129 4 = r 157 83 := hT.2.2.2.2.1.1
    have e4b : c 129 4 = 0 ∨ c 129 4 = 1 := hT.2.2.2.2.1.2.1
    unfold j179_51 j367_85 j367_90
    refine q_l2 (e_size rfl) ?_
    rw [xU_e, xU_e, xU_s (show (83 : Nat) ≠ 79 by decide), xU_o (show (157 : Nat) ≠ 187 by decide), ← e4]
    have cu : (xU (xU c 131 (((c 130 1).toNatClampNeg + (c 130 2).toNatClampNeg) % 64) x) 130 2 (c 130 2 + 1)) 129 4 = c 129 4 := by simp [xU_eq]
    have same : xU (xU (xU c 131 (((c 130 1).toNatClampNeg + (c 130 2).toNatClampNeg) % 64) x) 130 2 (c 130 2 + 1)) 129 4 (c 129 4) = xU (xU c 131 (((c 130 1).toNatClampNeg + (c 130 2).toNatClampNeg) % 64) x) 130 2 (c 130 2 + 1) := by
      conv => lhs; rw [← cu]
      rw [xU_self]
    by_cases z4 : c 130 2 + 1 < 48
    · refine q_pl z4 ?_
      rw [if_pos z4]
      have k := fin (c 129 4) e4b (fun q => by grind)
      rw [same] at k
      by_cases z5 : c 129 4 = 0
      · rw [z5] at k
        exact q_pr z5 (q_hr (Or.inl rfl) (q_ok1 k))
      · have e1 : c 129 4 = 1 := by grind
        rw [e1] at k
        exact q_nr z5 (q_hr (Or.inr rfl) (q_ok1 k))
    · refine q_nl z4 ?_
      rw [if_neg z4]
      have k := fin 1 (Or.inr rfl) (fun _ => rfl)
      by_cases z5 : c 129 4 = 0
      · exact q_pr z5 (q_hr (Or.inr rfl) (q_ok1 k))
      · exact q_nr z5 (q_hr (Or.inr rfl) (q_ok1 k))
  · rw [if_neg z3, b2_some]
    have hn3 : n = 64 := by rw [en, i_lt hn (by decide)] at z3; omega
    refine q_pl rfl (q_pr (by rw [en, hn3]; rfl) ?_)
    exact d_full (RT_8 hT)
/-- the reference's rows move up -/
theorem e_mv7 {w1 : Int32} {L : Nat} (hL : L ≤ 63) : ∀ (k j n : Nat) {a : xA}, j + k = L → k < n → a 157 79 = Int32.ofNat L → ∃ a', l366_151 N h b w1 n (Int32.ofNat j) a = some (0, a') ∧ (∀ p, p ≠ 187 → a' p = a p) ∧ (∀ i, j ≤ i → i < L → a' 187 i = a 187 (i + 1)) ∧ (∀ i, i < j ∨ L ≤ i → a' 187 i = a 187 i)
  | 0, j, n, a, h1, h2, h3 => by
    obtain ⟨m, rfl⟩ : ∃ m, n = m + 1 := ⟨n - 1, by omega⟩
    refine ⟨a, ?_, fun _ _ => rfl, fun i _ _ => by omega, fun _ _ => rfl⟩
    rw [l366_151, h3, if_pos (by rw [i_le (by omega) (by omega)]; omega)]
  | k + 1, j, n, a, h1, h2, h3 => by
    obtain ⟨m, rfl⟩ : ∃ m, n = m + 1 := ⟨n - 1, by omega⟩
    obtain ⟨a', e1, e2, e3, e4⟩ := e_mv7 hL k (j + 1) m (a := xU a 187 j (a 187 (j + 1))) (by omega) (by omega) (by rw [xU_o (by decide)]; exact h3)
    refine ⟨a', ?_, fun p hp => by rw [e2 p hp, xU_o hp], fun i hi hi2 => ?_, fun i hi => ?_⟩
    · rw [l366_151, h3, if_neg (by rw [i_le (by omega) (by omega)]; omega), on_s, xg_pos (g_ix (by omega) (by omega)), xg_pos (g_ix (by omega) (by omega)), i_cl (by omega), i_cl (by omega)]
      exact e1
    · by_cases e : i = j
      · subst e
        rw [e4 i (by omega), xU_e]
      · rw [e3 i (by omega) hi2, xU_s (by omega)]
    · rw [e4 i (by omega), xU_s (by omega)]
theorem e_mv8 {w1 : Int32} {L : Nat} (hL : L ≤ 31) : ∀ (k j n : Nat) {a : xA}, j + k = L → k < n → a 157 87 = Int32.ofNat L → ∃ a', l410_107 N h b w1 n (Int32.ofNat j) a = some (0, a') ∧ (∀ p, p ≠ 188 → a' p = a p) ∧ (∀ i, j ≤ i → i < L → a' 188 i = vp_nar .byte (a 188 (i + 1))) ∧ (∀ i, i < j ∨ L ≤ i → a' 188 i = a 188 i)
  | 0, j, n, a, h1, h2, h3 => by
    obtain ⟨m, rfl⟩ : ∃ m, n = m + 1 := ⟨n - 1, by omega⟩
    refine ⟨a, ?_, fun _ _ => rfl, fun i _ _ => by omega, fun _ _ => rfl⟩
    rw [l410_107, h3, if_pos (by rw [i_le (by omega) (by omega)]; omega)]
  | k + 1, j, n, a, h1, h2, h3 => by
    obtain ⟨m, rfl⟩ : ∃ m, n = m + 1 := ⟨n - 1, by omega⟩
    obtain ⟨a', e1, e2, e3, e4⟩ := e_mv8 hL k (j + 1) m (a := xU a 188 j (vp_nar .byte (a 188 (j + 1)))) (by omega) (by omega) (by rw [xU_o (by decide)]; exact h3)
    refine ⟨a', ?_, fun p hp => by rw [e2 p hp, xU_o hp], fun i hi hi2 => ?_, fun i hi => ?_⟩
    · rw [l410_107, h3, if_neg (by rw [i_le (by omega) (by omega)]; omega), on_s, xg_pos (g_ix (by omega) (by omega)), xg_pos (g_ix (by omega) (by omega)), i_cl (by omega), i_cl (by omega)]
      exact e1
    · by_cases e : i = j
      · subst e
        rw [e4 i (by omega), xU_e]
      · rw [e3 i (by omega) hi2, xU_s (by omega)]
    · rw [e4 i (by omega), xU_s (by omega)]
end T
